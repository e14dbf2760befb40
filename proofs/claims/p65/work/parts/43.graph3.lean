/-! what a graph is asked: clashes, open colors -/
/-- an arc clashes with these colors at its ends -/
def qcl (G : q_G) (c : Nat → Int) (a : Nat) : Bool := decide (c (qF G a) ≠ -1 ∧ c (qT G a) ≠ -1 ∧ c (qT G a) = (qsh (qM G) (c (qF G a)).toNat (qA G a) : Int))
/-- an arc at a vertex -/
def qat (G : q_G) (v a : Nat) : Bool := decide (qF G a = v ∨ qT G a = v)
/-- the colors with one at a vertex -/
def qwith (c : Nat → Int) (v : Nat) (x : Int) : Nat → Int := fun u => if u = v then x else c u
/-- an arc clashes at the vertex v if that has the color x -/
def qhit (G : q_G) (c : Nat → Int) (v : Nat) (x : Int) (a : Nat) : Bool := qat G v a && qcl G (qwith c v x) a
theorem qsh_le {m c b : Nat} (hm : 1 ≤ m) (hb : b < m) : qsh m c b ≤ c + m := by
  unfold qsh
  split
  · omega
  · have h1 : (c - 1) % m < m := Nat.mod_lt _ (by omega)
    have := qpl_lt h1 hb
    omega
theorem qbits_congr {f g : Nat → Bool} {n : Nat} (h : ∀ i, i < n → f i = g i) : qbits f n = qbits g n := by
  induction n with
  | zero => rfl
  | succ n ih =>
    unfold qbits
    rw [ih (fun i hi => h i (by omega)), h n (by omega)]
theorem qbits_or (f : Nat → Bool) (i : Nat) : qbits f i ||| 2 ^ i = qbits f i + 2 ^ i := by
  refine Nat.eq_of_testBit_eq fun j => ?_
  rw [Nat.testBit_or, Nat.testBit_two_pow, Nat.add_comm]
  have hl := qbits_lt f i
  by_cases e : i = j
  · subst e
    rw [Nat.testBit_two_pow_add_eq, Nat.testBit_lt_two_pow hl]
    simp
  · by_cases hj : j < i
    · rw [Nat.testBit_two_pow_add_gt hj]
      simp [e]
    · rw [Nat.testBit_lt_two_pow (Nat.lt_of_lt_of_le hl (Nat.pow_le_pow_right (by decide) (by omega))), Nat.testBit_lt_two_pow (Nat.lt_of_lt_of_le (show 2 ^ i + qbits f i < 2 ^ (i + 1) by rw [Nat.pow_succ]; omega) (Nat.pow_le_pow_right (by decide) (show i + 1 ≤ j by omega)))]
      simp [e]
theorem il_cqA (a b : Int) : -2147483648 ≤ il_cq a b := by have := il_cmp3 a b; omega
theorem il_cqB (a b : Int) : il_cq a b ≤ 2147483647 := by have := il_cmp3 a b; omega
theorem inz {n : Nat} : ((n : Nat) : Int) = 0 ↔ n = 0 := by omega
theorem ico {n : Nat} : ((no_index (OfNat.ofNat n) : Nat) : Int) = (OfNat.ofNat n : Int) := rfl
theorem qpl_inv {m r s a : Nat} (hr : r < m) (hs : s < m) (ha : a < m) : qpl m r a = s ↔ qpl m s (qmi m 0 a) = r := by
  unfold qpl qmi
  split <;> split <;> split <;> omega
theorem qsh_0 (m a : Nat) : qsh m 0 a = 0 := if_pos rfl
theorem qsh_s {m x a : Nat} (hx : 1 ≤ x) (hm : 1 ≤ m) (ha : a < m) : 1 ≤ qsh m x a ∧ (qsh m x a - 1) / m = (x - 1) / m ∧ (qsh m x a - 1) % m = qpl m ((x - 1) % m) a := by
  unfold qsh
  rw [if_neg (by omega)]
  have h1 : (x - 1) % m < m := Nat.mod_lt _ (by omega)
  have h2 := qpl_lt h1 ha
  have h3 := Nat.div_add_mod (x - 1) m
  generalize (x - 1) / m = q at *
  generalize (x - 1) % m = r at *
  have h5 : x - r + qpl m r a - 1 = qpl m r a + m * q := by omega
  refine ⟨by omega, ?_, ?_⟩
  · rw [h5, Nat.add_mul_div_left _ _ (by omega), Nat.div_eq_of_lt h2]
    omega
  · rw [h5, Nat.add_mul_mod_self_left, Nat.mod_eq_of_lt h2]
theorem qsh_ml {m l x b : Nat} (hm : 1 ≤ m) (hx : x ≤ m * l) (hb : b < m) : qsh m x b ≤ m * l := by
  by_cases h0 : x = 0
  · subst h0
    rw [qsh_0]
    exact Nat.zero_le _
  · have h1 := qsh_s (m := m) (x := x) (a := b) (by omega) hm hb
    have h2 : (x - 1) / m < l := by
      rw [Nat.div_lt_iff_lt_mul (by omega), Nat.mul_comm]
      omega
    rw [← h1.2.1, Nat.div_lt_iff_lt_mul (by omega), Nat.mul_comm] at h2
    omega
theorem qsh_iff {m x y a : Nat} (hm : 1 ≤ m) (ha : a < m) : y = qsh m x a ↔ (x = 0 ∧ y = 0) ∨ (1 ≤ x ∧ 1 ≤ y ∧ (x - 1) / m = (y - 1) / m ∧ qpl m ((x - 1) % m) a = (y - 1) % m) := by
  by_cases hx : x = 0
  · subst hx
    rw [qsh_0]
    constructor
    · intro h
      exact Or.inl ⟨rfl, h⟩
    · rintro (⟨_, h⟩ | ⟨h, _⟩)
      · exact h
      · omega
  · have h := qsh_s (x := x) (by omega) hm ha
    constructor
    · rintro rfl
      exact Or.inr ⟨by omega, h.1, h.2.1.symm, h.2.2.symm⟩
    · rintro (⟨h1, _⟩ | ⟨h1, h2, h3, h4⟩)
      · omega
      · have e1 := Nat.div_add_mod (y - 1) m
        have e2 := Nat.div_add_mod (qsh m x a - 1) m
        rw [h.2.1, h.2.2, h3, h4] at e2
        omega
theorem qsh_inv {m x y a : Nat} (hm : 1 ≤ m) (ha : a < m) : y = qsh m x a ↔ x = qsh m y (qmi m 0 a) := by
  have hr : (x - 1) % m < m := Nat.mod_lt _ (by omega)
  have hs : (y - 1) % m < m := Nat.mod_lt _ (by omega)
  rw [qsh_iff hm ha, qsh_iff hm (qmi_lt (by omega) ha), qpl_inv hr hs ha]
  constructor
  · rintro (⟨h1, h2⟩ | ⟨h1, h2, h3, h4⟩)
    · exact Or.inl ⟨h2, h1⟩
    · exact Or.inr ⟨h2, h1, h3.symm, h4⟩
  · rintro (⟨h1, h2⟩ | ⟨h1, h2, h3, h4⟩)
    · exact Or.inl ⟨h2, h1⟩
    · exact Or.inr ⟨h2, h1, h3.symm, h4⟩
theorem lb_orA (B : BitVec 64) : il_or B.toInt (-1) = (BitVec.allOnes 64).toInt := by
  have e1 : (-1 : Int) = (BitVec.allOnes 64).toInt := by decide +kernel
  rw [e1, lb_or, BitVec.or_allOnes]
theorem lb_orP (B : BitVec 64) {s : Nat} (h : s ≤ 62) : il_or B.toInt ((2 ^ s : Nat) : Int) = (B ||| BitVec.ofNat 64 (2 ^ s)).toInt := by
  have h3 : 2 ^ s ≤ 2 ^ 62 := Nat.pow_le_pow_right (by decide) h
  rw [← lb_n (x := 2 ^ s) (by omega), lb_or]
theorem lb_or1 (B : BitVec 64) : il_or B.toInt 1 = (B ||| BitVec.ofNat 64 (2 ^ 0)).toInt := lb_orP B (s := 0) (by decide)
theorem lb_P (B : BitVec 64) {s x : Nat} (hx : x < 64) : (B ||| BitVec.ofNat 64 (2 ^ s)).getLsbD x = (B.getLsbD x || decide (s = x)) := by
  rw [BitVec.getLsbD_or, BitVec.getLsbD_ofNat, Nat.testBit_two_pow]
  simp [hx]
theorem qfst_bits {f : Nat → Bool} {n m : Nat} (h : n ≤ m) : qfst (qbits f n).testBit m = qfst f n := by
  have e : ∀ k, n ≤ n + k ∧ qfst (qbits f n).testBit (n + k) = qfst f n := by
    intro k
    induction k with
    | zero => exact ⟨Nat.le_refl _, qfst_congr fun i hi => by rw [qbits_bit]; simp [show i < n from hi]⟩
    | succ k ih =>
      refine ⟨by omega, ?_⟩
      rw [show n + (k + 1) = (n + k) + 1 from rfl, qfst, ih.2, qbits_bit, decide_eq_false (by omega : ¬ n + k < n)]
      split
      · rename_i h2
        rw [h2]
        rfl
      · rfl
  have := (e (m - n)).2
  rwa [show n + (m - n) = m by omega] at this
theorem qsh_z {m x : Nat} (hm : 1 ≤ m) : qsh m x 0 = x := by
  unfold qsh
  split
  · omega
  · have h1 : (x - 1) % m < m := Nat.mod_lt _ (by omega)
    have h2 : (x - 1) % m ≤ x - 1 := Nat.mod_le _ _
    unfold qpl
    split <;> omega
theorem qsh_ne {m x a : Nat} (hm : 1 ≤ m) (ha : a < m) (h0 : a ≠ 0) : x = qsh m x a ↔ x = 0 := by
  constructor
  · intro h
    refine Decidable.byContradiction fun hx => ?_
    have h1 := qsh_s (x := x) (by omega) hm ha
    rw [← h] at h1
    have h2 : (x - 1) % m < m := Nat.mod_lt _ (by omega)
    have h3 := h1.2.2
    unfold qpl at h3
    split at h3 <;> omega
  · rintro rfl
    rw [qsh_0]
theorem qhit_n {G : q_G} {c : Nat → Int} {v : Nat} {x : Int} {a : Nat} (h1 : qF G a ≠ v) (h2 : qT G a ≠ v) : qhit G c v x a = false := by
  unfold qhit qat
  rw [decide_eq_false (fun h => h.elim h1 h2)]
  rfl
theorem qhit_l {G : q_G} {c : Nat → Int} {v x a : Nat} (h1 : qF G a = v) (h2 : qT G a = v) : qhit G c v (x : Int) a = decide (x = qsh (qM G) x (qA G a)) := by
  unfold qhit qat qcl qwith
  rw [if_pos h1, if_pos h2, decide_eq_true (Or.inl h1), Bool.true_and, Int.toNat_natCast]
  refine decide_eq_decide.2 ?_
  omega
theorem qhit_f {G : q_G} {c : Nat → Int} {v x a : Nat} (hm : 1 ≤ qM G) (hA : qA G a < qM G) (h1 : qF G a = v) (h2 : qT G a ≠ v) (hc : -1 ≤ c (qT G a)) : qhit G c v (x : Int) a = decide (c (qT G a) ≠ -1 ∧ x = qsh (qM G) (c (qT G a)).toNat (qmi (qM G) 0 (qA G a))) := by
  unfold qhit qat qcl qwith
  rw [if_pos h1, if_neg h2, decide_eq_true (Or.inl h1), Bool.true_and, Int.toNat_natCast]
  refine decide_eq_decide.2 ?_
  rw [← qsh_inv hm hA]
  omega
theorem qhit_f2 {G : q_G} {c : Nat → Int} {v x a : Nat} (h1 : qF G a = v) (h2 : qT G a ≠ v) : qhit G c v (x : Int) a = decide (c (qT G a) ≠ -1 ∧ c (qT G a) = (qsh (qM G) x (qA G a) : Int)) := by
  unfold qhit qat qcl qwith
  rw [if_pos h1, if_neg h2, decide_eq_true (Or.inl h1), Bool.true_and, Int.toNat_natCast]
  refine decide_eq_decide.2 ?_
  omega
theorem qhit_t {G : q_G} {c : Nat → Int} {v x a : Nat} (h1 : qF G a ≠ v) (h2 : qT G a = v) : qhit G c v (x : Int) a = decide (c (qF G a) ≠ -1 ∧ x = qsh (qM G) (c (qF G a)).toNat (qA G a)) := by
  unfold qhit qat qcl qwith
  rw [if_neg h1, if_pos h2, decide_eq_true (Or.inr h2), Bool.true_and]
  refine decide_eq_decide.2 ?_
  omega
section SG
variable {N : Nat} {xs : Nat → Int32} {d : Nat} {M : gg_M} {cc cs : Nat} {Q : gg_O → Prop} {g : Nat} {G : q_G}
theorem wp_painted (hg : gs_G g) (hG : q_ok G) (h : q_C M g G) :
    wp N xs d 24 0 [gr g, (3, 0), (3, 0)] [] (gk_R, M, 142, cc, cs) Q ↔ Q ((1, (0, (qcnt (fun v => decide (qP G v ≠ -1)) (qN G) : Int))), (gk_R, M, 142, cc, cs)) := by
  refine wp_det ?_
  obtain ⟨⟨h1, h2, h3, h4, h5⟩, hF, hT, hA, hW, hP, hO⟩ := id h
  obtain ⟨⟨k1, k2, k3, k4, k5, k6, k7, k8⟩, hk, hp, hp2⟩ := id hG
  simp (contextual := true) (disch := first | assumption | omega | exact il_cqA _ _ | exact il_cqB _ _) only [wi_24_0, wi_24_1, wi_24_2, wi_24_3, wi_24_5, wi_24_6, wi_24_9, wi_24_12, wi_24_13, wi_24_14, wi_24_17, wi_24_18, wi_24_19, wi_24_20, wi_24_23, wi_24_24, wi_24_27, wi_24_28, wi_24_29, wi_24_30, wi_24_33, wi_24_36, wi_24_37, io_add_o, io_sub_o, io_mul_o, io_neg_o, io_and_r, io_or_r, io_xor_r, io_nd_r, io_shr_r, io_shl1, io_i2b_r, io_i2l_o, io_l2i_o, il_add_o, il_sub_o, il_mul_o, il_neg_o, ib_bit, Int.toNat_natCast, true_implies, false_implies, implies_true, and_true, true_and, and_self, not_true_eq_false, not_false_eq_true, wa_0, wa_1, il_cmp_o, il_cmp0, il_cmp1, il_cmp2, io_bit1, ibt0, ibt1, ibt00, ibt11, ibt10, ibt01, Int.ofNat_lt, Int.ofNat_le, Int.ofNat_inj, Nat.lt_irrefl, Int.lt_irrefl, Int.toNat_one, Int.toNat_zero, Bool.false_eq_true, reduceIte, reduceCtorEq, Nat.reduceAdd, Nat.reduceMul, Nat.reduceSub, Nat.reduceLT, Nat.reduceLeDiff, Nat.reduceEqDiff, Int.reduceNeg, Int.reduceAdd, Int.reduceMul, Int.reduceSub, Int.reduceLT, Int.reduceLE, Int.reduceEq, Int.reduceToNat, Int.reduceNatCast]
  refine wl_for (P := fun i => wp N xs d 24 4 [gr g, (0, (qcnt (fun v => decide (qP G v ≠ -1)) i : Int)), (0, (i : Int))] [] (gk_R, M, 142, cc, cs) _) (qN G) (fun i hi ih => ?_) ?_
  · have := hp i (by omega)
    have := hP i (by omega)
    have hl := qcnt_le (fun v => decide (qP G v ≠ -1)) i
    have hb : ((qM G * qL G : Nat) : Int) ≤ 1000 := by
      have := Nat.mul_le_mul k4 k8
      omega
    rw [wi_24_4]
    rw [qcnt] at ih
    by_cases hc : qP G i = -1
    all_goals
      simp (contextual := true) (disch := first | assumption | omega | exact il_cqA _ _ | exact il_cqB _ _) only [wi_24_0, wi_24_1, wi_24_2, wi_24_3, wi_24_5, wi_24_6, wi_24_9, wi_24_12, wi_24_13, wi_24_14, wi_24_17, wi_24_18, wi_24_19, wi_24_20, wi_24_23, wi_24_24, wi_24_27, wi_24_28, wi_24_29, wi_24_30, wi_24_33, wi_24_36, wi_24_37, io_add_o, io_sub_o, io_mul_o, io_neg_o, io_and_r, io_or_r, io_xor_r, io_nd_r, io_shr_r, io_shl1, io_i2b_r, io_i2l_o, io_l2i_o, il_add_o, il_sub_o, il_mul_o, il_neg_o, ib_bit, Int.toNat_natCast, true_implies, false_implies, implies_true, and_true, true_and, and_self, not_true_eq_false, not_false_eq_true, wa_0, wa_1, il_cmp_o, il_cmp0, il_cmp1, il_cmp2, io_bit1, ibt0, ibt1, ibt00, ibt11, ibt10, ibt01, Int.ofNat_lt, Int.ofNat_le, Int.ofNat_inj, Nat.lt_irrefl, Int.lt_irrefl, Int.toNat_one, Int.toNat_zero, Bool.false_eq_true, reduceIte, reduceCtorEq, Nat.reduceAdd, Nat.reduceMul, Nat.reduceSub, Nat.reduceLT, Nat.reduceLeDiff, Nat.reduceEqDiff, Int.reduceNeg, Int.reduceAdd, Int.reduceMul, Int.reduceSub, Int.reduceLT, Int.reduceLE, Int.reduceEq, Int.reduceToNat, Int.reduceNatCast, h1, hP, hi, hc]
      simpa [hc] using ih
  · rw [wi_24_4]
    simp (contextual := true) (disch := first | assumption | omega | exact il_cqA _ _ | exact il_cqB _ _) only [wi_24_0, wi_24_1, wi_24_2, wi_24_3, wi_24_5, wi_24_6, wi_24_9, wi_24_12, wi_24_13, wi_24_14, wi_24_17, wi_24_18, wi_24_19, wi_24_20, wi_24_23, wi_24_24, wi_24_27, wi_24_28, wi_24_29, wi_24_30, wi_24_33, wi_24_36, wi_24_37, io_add_o, io_sub_o, io_mul_o, io_neg_o, io_and_r, io_or_r, io_xor_r, io_nd_r, io_shr_r, io_shl1, io_i2b_r, io_i2l_o, io_l2i_o, il_add_o, il_sub_o, il_mul_o, il_neg_o, ib_bit, Int.toNat_natCast, true_implies, false_implies, implies_true, and_true, true_and, and_self, not_true_eq_false, not_false_eq_true, wa_0, wa_1, il_cmp_o, il_cmp0, il_cmp1, il_cmp2, io_bit1, ibt0, ibt1, ibt00, ibt11, ibt10, ibt01, Int.ofNat_lt, Int.ofNat_le, Int.ofNat_inj, Nat.lt_irrefl, Int.lt_irrefl, Int.toNat_one, Int.toNat_zero, Bool.false_eq_true, reduceIte, reduceCtorEq, Nat.reduceAdd, Nat.reduceMul, Nat.reduceSub, Nat.reduceLT, Nat.reduceLeDiff, Nat.reduceEqDiff, Int.reduceNeg, Int.reduceAdd, Int.reduceMul, Int.reduceSub, Int.reduceLT, Int.reduceLE, Int.reduceEq, Int.reduceToNat, Int.reduceNatCast, h1]
theorem wp_clashesAmong (hg : gs_G g) (hG : q_ok G) (h : q_C M g G) {ca : Nat} {c : Nat → Int} (hca : gs_a ca 1 8) (hc : ∀ v, v < qN G → M ca v = c v) (hcr : ∀ v, v < qN G → -1 ≤ c v ∧ c v ≤ 60) :
    wp N xs (d + 3) 22 0 [gr g, gr ca, (3, 0), (3, 0), (3, 0), (3, 0)] [] (gk_R, M, 142, cc, cs) Q ↔ Q ((1, (0, (qcnt (qcl G c) (qK G) : Int))), (gk_R, M, 142, cc, cs)) := by
  refine wp_det ?_
  obtain ⟨⟨h1, h2, h3, h4, h5⟩, hF, hT, hA, hW, hP, hO⟩ := id h
  obtain ⟨⟨k1, k2, k3, k4, k5, k6, k7, k8⟩, hk, hp, hp2⟩ := id hG
  simp (contextual := true) (disch := first | assumption | omega | exact il_cqA _ _ | exact il_cqB _ _) only [wi_22_0, wi_22_1, wi_22_2, wi_22_3, wi_22_5, wi_22_6, wi_22_9, wi_22_12, wi_22_13, wi_22_14, wi_22_17, wi_22_18, wi_22_19, wi_22_20, wi_22_22, wi_22_23, wi_22_24, wi_22_27, wi_22_28, wi_22_29, wi_22_30, wi_22_32, wi_22_34, wi_22_35, wi_22_38, wi_22_40, wi_22_41, wi_22_44, wi_22_45, wi_22_46, wi_22_48, wi_22_50, wi_22_53, wi_22_56, wi_22_59, wi_22_62, wi_22_65, wi_22_66, io_add_o, io_sub_o, io_mul_o, io_neg_o, io_and_r, io_or_r, io_xor_r, io_nd_r, io_shr_r, io_shl1, io_i2b_r, io_i2l_o, io_l2i_o, il_add_o, il_sub_o, il_mul_o, il_neg_o, ib_bit, Int.toNat_natCast, true_implies, false_implies, implies_true, and_true, true_and, and_self, not_true_eq_false, not_false_eq_true, wa_0, wa_1, il_cmp_o, il_cmp0, il_cmp1, il_cmp2, io_bit1, ibt0, ibt1, ibt00, ibt11, ibt10, ibt01, Int.ofNat_lt, Int.ofNat_le, Int.ofNat_inj, Nat.lt_irrefl, Int.lt_irrefl, Int.toNat_one, Int.toNat_zero, Bool.false_eq_true, reduceIte, reduceCtorEq, Nat.reduceAdd, Nat.reduceMul, Nat.reduceSub, Nat.reduceLT, Nat.reduceLeDiff, Nat.reduceEqDiff, Int.reduceNeg, Int.reduceAdd, Int.reduceMul, Int.reduceSub, Int.reduceLT, Int.reduceLE, Int.reduceEq, Int.reduceToNat, Int.reduceNatCast]
  refine wl_for (P := fun i => ∀ l4 l5 : gg_V, wp N xs (d + 3) 22 4 [gr g, gr ca, (0, (qcnt (qcl G c) i : Int)), (0, (i : Int)), l4, l5] [] (gk_R, M, 142, cc, cs) _) (qK G) (fun i hi ih l4 l5 => ?_) (fun l4 l5 => ?_) _ _
  · have := hk i hi
    have := hcr (qF G i) (by omega)
    have := hcr (qT G i) (by omega)
    have := hc (qF G i) (by omega)
    have := hc (qT G i) (by omega)
    have := hA i hi
    have hl := qcnt_le (qcl G c) i
    have := qsh_le (c := (c (qF G i)).toNat) k3 (show qA G i < qM G by omega)
    rw [wi_22_4]
    rw [qcnt] at ih
    simp (contextual := true) (disch := first | assumption | omega | exact il_cqA _ _ | exact il_cqB _ _) only [wi_22_0, wi_22_1, wi_22_2, wi_22_3, wi_22_5, wi_22_6, wi_22_9, wi_22_12, wi_22_13, wi_22_14, wi_22_17, wi_22_18, wi_22_19, wi_22_20, wi_22_22, wi_22_23, wi_22_24, wi_22_27, wi_22_28, wi_22_29, wi_22_30, wi_22_32, wi_22_34, wi_22_35, wi_22_38, wi_22_40, wi_22_41, wi_22_44, wi_22_45, wi_22_46, wi_22_48, wi_22_50, wi_22_53, wi_22_56, wi_22_59, wi_22_62, wi_22_65, wi_22_66, wi_19_0, wi_19_1, wi_19_2, wi_19_3, wi_19_4, wi_19_7, wi_19_8, wi_19_9, wi_19_12, wi_19_15, wi_19_16, wi_19_19, wi_19_20, io_add_o, io_sub_o, io_mul_o, io_neg_o, io_and_r, io_or_r, io_xor_r, io_nd_r, io_shr_r, io_shl1, io_i2b_r, io_i2l_o, io_l2i_o, il_add_o, il_sub_o, il_mul_o, il_neg_o, ib_bit, Int.toNat_natCast, true_implies, false_implies, implies_true, and_true, true_and, and_self, not_true_eq_false, not_false_eq_true, wa_0, wa_1, il_cmp_o, il_cmp0, il_cmp1, il_cmp2, io_bit1, ibt0, ibt1, ibt00, ibt11, ibt10, ibt01, Int.ofNat_lt, Int.ofNat_le, Int.ofNat_inj, Nat.lt_irrefl, Int.lt_irrefl, Int.toNat_one, Int.toNat_zero, Bool.false_eq_true, reduceIte, reduceCtorEq, Nat.reduceAdd, Nat.reduceMul, Nat.reduceSub, Nat.reduceLT, Nat.reduceLeDiff, Nat.reduceEqDiff, Int.reduceNeg, Int.reduceAdd, Int.reduceMul, Int.reduceSub, Int.reduceLT, Int.reduceLE, Int.reduceEq, Int.reduceToNat, Int.reduceNatCast, h3, hF, hT, hA, hi, hc, wp_shifted hg h2 k3 k4]
    grind [qcl]
  · rw [wi_22_4]
    simp (contextual := true) (disch := first | assumption | omega | exact il_cqA _ _ | exact il_cqB _ _) only [wi_22_0, wi_22_1, wi_22_2, wi_22_3, wi_22_5, wi_22_6, wi_22_9, wi_22_12, wi_22_13, wi_22_14, wi_22_17, wi_22_18, wi_22_19, wi_22_20, wi_22_22, wi_22_23, wi_22_24, wi_22_27, wi_22_28, wi_22_29, wi_22_30, wi_22_32, wi_22_34, wi_22_35, wi_22_38, wi_22_40, wi_22_41, wi_22_44, wi_22_45, wi_22_46, wi_22_48, wi_22_50, wi_22_53, wi_22_56, wi_22_59, wi_22_62, wi_22_65, wi_22_66, io_add_o, io_sub_o, io_mul_o, io_neg_o, io_and_r, io_or_r, io_xor_r, io_nd_r, io_shr_r, io_shl1, io_i2b_r, io_i2l_o, io_l2i_o, il_add_o, il_sub_o, il_mul_o, il_neg_o, ib_bit, Int.toNat_natCast, true_implies, false_implies, implies_true, and_true, true_and, and_self, not_true_eq_false, not_false_eq_true, wa_0, wa_1, il_cmp_o, il_cmp0, il_cmp1, il_cmp2, io_bit1, ibt0, ibt1, ibt00, ibt11, ibt10, ibt01, Int.ofNat_lt, Int.ofNat_le, Int.ofNat_inj, Nat.lt_irrefl, Int.lt_irrefl, Int.toNat_one, Int.toNat_zero, Bool.false_eq_true, reduceIte, reduceCtorEq, Nat.reduceAdd, Nat.reduceMul, Nat.reduceSub, Nat.reduceLT, Nat.reduceLeDiff, Nat.reduceEqDiff, Int.reduceNeg, Int.reduceAdd, Int.reduceMul, Int.reduceSub, Int.reduceLT, Int.reduceLE, Int.reduceEq, Int.reduceToNat, Int.reduceNatCast, h3]
theorem wp_lowestBit {x : Nat} (hx : x < 9223372036854775808) :
    wp N xs d 26 0 [(1, (x : Int)), (3, 0), (3, 0)] [] (gk_R, M, 142, cc, cs) Q ↔ Q ((1, (0, qfst x.testBit 61)), (gk_R, M, 142, cc, cs)) := by
  refine wp_det ?_
  simp (contextual := true) (disch := first | assumption | omega | exact il_cqA _ _ | exact il_cqB _ _) only [wi_26_0, wi_26_1, wi_26_3, wi_26_5, wi_26_8, wi_26_9, wi_26_10, wi_26_11, wi_26_12, wi_26_13, wi_26_14, wi_26_15, wi_26_18, wi_26_19, wi_26_20, wi_26_23, wi_26_26, wi_26_27, io_add_o, io_sub_o, io_mul_o, io_neg_o, io_and_r, io_or_r, io_xor_r, io_nd_r, io_shr_r, io_shl1, io_i2b_r, io_i2l_o, io_l2i_o, il_add_o, il_sub_o, il_mul_o, il_neg_o, ib_bit, Int.toNat_natCast, true_implies, false_implies, implies_true, and_true, true_and, and_self, not_true_eq_false, not_false_eq_true, wa_0, wa_1, il_cmp_o, il_cmp0, il_cmp1, il_cmp2, io_bit1, ibt0, ibt1, ibt00, ibt11, ibt10, ibt01, Int.ofNat_lt, Int.ofNat_le, Int.ofNat_inj, Nat.lt_irrefl, Int.lt_irrefl, Int.toNat_one, Int.toNat_zero, Bool.false_eq_true, reduceIte, reduceCtorEq, Nat.reduceAdd, Nat.reduceMul, Nat.reduceSub, Nat.reduceLT, Nat.reduceLeDiff, Nat.reduceEqDiff, Int.reduceNeg, Int.reduceAdd, Int.reduceMul, Int.reduceSub, Int.reduceLT, Int.reduceLE, Int.reduceEq, Int.reduceToNat, Int.reduceNatCast]
  refine wl_for (P := fun i => (∀ j, j < i → x.testBit j = false) → wp N xs d 26 2 [(1, (x : Int)), (3, 0), (0, (i : Int))] [] (gk_R, M, 142, cc, cs) _) 61 (fun i hi ih hb => ?_) (fun hb => ?_) (fun j hj => absurd hj (Nat.not_lt_zero j))
  · rw [wi_26_2]
    cases ht : x.testBit i
    · have := ih (fun j hj => by
        by_cases e : j = i
        · subst e; exact ht
        · exact hb j (by omega))
      simp (contextual := true) (disch := first | assumption | omega | exact il_cqA _ _ | exact il_cqB _ _) only [wi_26_0, wi_26_1, wi_26_3, wi_26_5, wi_26_8, wi_26_9, wi_26_10, wi_26_11, wi_26_12, wi_26_13, wi_26_14, wi_26_15, wi_26_18, wi_26_19, wi_26_20, wi_26_23, wi_26_26, wi_26_27, io_add_o, io_sub_o, io_mul_o, io_neg_o, io_and_r, io_or_r, io_xor_r, io_nd_r, io_shr_r, io_shl1, io_i2b_r, io_i2l_o, io_l2i_o, il_add_o, il_sub_o, il_mul_o, il_neg_o, ib_bit, Int.toNat_natCast, true_implies, false_implies, implies_true, and_true, true_and, and_self, not_true_eq_false, not_false_eq_true, wa_0, wa_1, il_cmp_o, il_cmp0, il_cmp1, il_cmp2, io_bit1, ibt0, ibt1, ibt00, ibt11, ibt10, ibt01, Int.ofNat_lt, Int.ofNat_le, Int.ofNat_inj, Nat.lt_irrefl, Int.lt_irrefl, Int.toNat_one, Int.toNat_zero, Bool.false_eq_true, reduceIte, reduceCtorEq, Nat.reduceAdd, Nat.reduceMul, Nat.reduceSub, Nat.reduceLT, Nat.reduceLeDiff, Nat.reduceEqDiff, Int.reduceNeg, Int.reduceAdd, Int.reduceMul, Int.reduceSub, Int.reduceLT, Int.reduceLE, Int.reduceEq, Int.reduceToNat, Int.reduceNatCast, il_shr_n, il_bit, ht, hi]
      simpa [show (i : Int) < 61 by omega] using this
    · rw [qfst_hit hi ht hb]
      simp (contextual := true) (disch := first | assumption | omega | exact il_cqA _ _ | exact il_cqB _ _) only [wi_26_0, wi_26_1, wi_26_3, wi_26_5, wi_26_8, wi_26_9, wi_26_10, wi_26_11, wi_26_12, wi_26_13, wi_26_14, wi_26_15, wi_26_18, wi_26_19, wi_26_20, wi_26_23, wi_26_26, wi_26_27, io_add_o, io_sub_o, io_mul_o, io_neg_o, io_and_r, io_or_r, io_xor_r, io_nd_r, io_shr_r, io_shl1, io_i2b_r, io_i2l_o, io_l2i_o, il_add_o, il_sub_o, il_mul_o, il_neg_o, ib_bit, Int.toNat_natCast, true_implies, false_implies, implies_true, and_true, true_and, and_self, not_true_eq_false, not_false_eq_true, wa_0, wa_1, il_cmp_o, il_cmp0, il_cmp1, il_cmp2, io_bit1, ibt0, ibt1, ibt00, ibt11, ibt10, ibt01, Int.ofNat_lt, Int.ofNat_le, Int.ofNat_inj, Nat.lt_irrefl, Int.lt_irrefl, Int.toNat_one, Int.toNat_zero, Bool.false_eq_true, reduceIte, reduceCtorEq, Nat.reduceAdd, Nat.reduceMul, Nat.reduceSub, Nat.reduceLT, Nat.reduceLeDiff, Nat.reduceEqDiff, Int.reduceNeg, Int.reduceAdd, Int.reduceMul, Int.reduceSub, Int.reduceLT, Int.reduceLE, Int.reduceEq, Int.reduceToNat, Int.reduceNatCast, il_shr_n, il_bit, ht, hi]
      omega
  · rw [wi_26_2, qfst_none.2 hb]
    simp (contextual := true) (disch := first | assumption | omega | exact il_cqA _ _ | exact il_cqB _ _) only [wi_26_0, wi_26_1, wi_26_3, wi_26_5, wi_26_8, wi_26_9, wi_26_10, wi_26_11, wi_26_12, wi_26_13, wi_26_14, wi_26_15, wi_26_18, wi_26_19, wi_26_20, wi_26_23, wi_26_26, wi_26_27, io_add_o, io_sub_o, io_mul_o, io_neg_o, io_and_r, io_or_r, io_xor_r, io_nd_r, io_shr_r, io_shl1, io_i2b_r, io_i2l_o, io_l2i_o, il_add_o, il_sub_o, il_mul_o, il_neg_o, ib_bit, Int.toNat_natCast, true_implies, false_implies, implies_true, and_true, true_and, and_self, not_true_eq_false, not_false_eq_true, wa_0, wa_1, il_cmp_o, il_cmp0, il_cmp1, il_cmp2, io_bit1, ibt0, ibt1, ibt00, ibt11, ibt10, ibt01, Int.ofNat_lt, Int.ofNat_le, Int.ofNat_inj, Nat.lt_irrefl, Int.lt_irrefl, Int.toNat_one, Int.toNat_zero, Bool.false_eq_true, reduceIte, reduceCtorEq, Nat.reduceAdd, Nat.reduceMul, Nat.reduceSub, Nat.reduceLT, Nat.reduceLeDiff, Nat.reduceEqDiff, Int.reduceNeg, Int.reduceAdd, Int.reduceMul, Int.reduceSub, Int.reduceLT, Int.reduceLE, Int.reduceEq, Int.reduceToNat, Int.reduceNatCast, ico]
theorem wp_lowestClash (hg : gs_G g) (hG : q_ok G) (h : q_C M g G) (v x : Nat) (hv : v < 8) (hx : x ≤ 60) :
    wp N xs (d + 3) 21 0 [gr g, (0, (v : Int)), (0, (x : Int)), (3, 0), (3, 0), (3, 0)] [] (gk_R, M, 142, cc, cs) Q ↔ Q ((1, (0, qfst (qhit G (qP G) v x) (qK G))), (gk_R, M, 142, cc, cs)) := by
  refine wp_det ?_
  obtain ⟨⟨h1, h2, h3, h4, h5⟩, hF, hT, hA, hW, hP, hO⟩ := id h
  obtain ⟨⟨k1, k2, k3, k4, k5, k6, k7, k8⟩, hk, hp, hp2⟩ := id hG
  simp (contextual := true) (disch := first | assumption | omega | exact il_cqA _ _ | exact il_cqB _ _) only [wi_21_0, wi_21_1, wi_21_3, wi_21_4, wi_21_7, wi_21_10, wi_21_11, wi_21_12, wi_21_13, wi_21_16, wi_21_19, wi_21_20, wi_21_23, wi_21_24, wi_21_25, wi_21_26, wi_21_29, wi_21_30, wi_21_33, wi_21_34, wi_21_37, wi_21_38, wi_21_41, wi_21_42, wi_21_43, wi_21_44, wi_21_46, wi_21_47, wi_21_50, wi_21_51, wi_21_52, wi_21_53, wi_21_56, wi_21_57, wi_21_60, wi_21_61, wi_21_64, wi_21_65, wi_21_68, wi_21_69, wi_21_70, wi_21_71, wi_21_73, wi_21_75, wi_21_76, wi_21_79, wi_21_81, wi_21_82, wi_21_85, wi_21_86, wi_21_87, wi_21_89, wi_21_91, wi_21_94, wi_21_97, wi_21_98, wi_21_99, wi_21_102, wi_21_105, wi_21_106, io_add_o, io_sub_o, io_mul_o, io_neg_o, io_and_r, io_or_r, io_xor_r, io_nd_r, io_shr_r, io_shl1, io_i2b_r, io_i2l_o, io_l2i_o, il_add_o, il_sub_o, il_mul_o, il_neg_o, ib_bit, Int.toNat_natCast, true_implies, false_implies, implies_true, and_true, true_and, and_self, not_true_eq_false, not_false_eq_true, wa_0, wa_1, il_cmp_o, il_cmp0, il_cmp1, il_cmp2, io_bit1, ibt0, ibt1, ibt00, ibt11, ibt10, ibt01, Int.ofNat_lt, Int.ofNat_le, Int.ofNat_inj, Nat.lt_irrefl, Int.lt_irrefl, Int.toNat_one, Int.toNat_zero, Bool.false_eq_true, reduceIte, reduceCtorEq, Nat.reduceAdd, Nat.reduceMul, Nat.reduceSub, Nat.reduceLT, Nat.reduceLeDiff, Nat.reduceEqDiff, Int.reduceNeg, Int.reduceAdd, Int.reduceMul, Int.reduceSub, Int.reduceLT, Int.reduceLE, Int.reduceEq, Int.reduceToNat, Int.reduceNatCast]
  refine wl_for (P := fun i => (∀ j, j < i → qhit G (qP G) v x j = false) → ∀ l4 l5 : gg_V, wp N xs (d + 3) 21 2 [gr g, (0, (v : Int)), (0, (x : Int)), (0, (i : Int)), l4, l5] [] (gk_R, M, 142, cc, cs) _) (qK G) (fun i hi ih hb l4 l5 => ?_) (fun hb l4 l5 => ?_) (fun j hj => absurd hj (Nat.not_lt_zero j)) _ _
  · have := hk i hi
    have := hp (qF G i) (by omega)
    have := hp (qT G i) (by omega)
    have hpF := hP (qF G i) (by omega)
    have hpT := hP (qT G i) (by omega)
    have := hA i hi
    have hb5 : ((qM G * qL G : Nat) : Int) ≤ 60 := by
      have := Nat.mul_le_mul k4 k8
      omega
    have := qsh_le (c := x) k3 (show qA G i < qM G by omega)
    have := qsh_le (c := (qP G (qF G i)).toNat) k3 (show qA G i < qM G by omega)
    rw [wi_21_2]
    by_cases eat : qF G i = v ∨ qT G i = v
    rotate_left
    · have := ih (fun j hj => by
        by_cases e : j = i
        · subst e; exact qhit_n (fun h => eat (Or.inl h)) (fun h => eat (Or.inr h))
        · exact hb j (by omega))
      have eF : ¬ qF G i = v := fun h => eat (Or.inl h)
      have eT : ¬ qT G i = v := fun h => eat (Or.inr h)
      simp (contextual := true) (disch := first | assumption | omega | exact il_cqA _ _ | exact il_cqB _ _) only [wi_21_0, wi_21_1, wi_21_3, wi_21_4, wi_21_7, wi_21_10, wi_21_11, wi_21_12, wi_21_13, wi_21_16, wi_21_19, wi_21_20, wi_21_23, wi_21_24, wi_21_25, wi_21_26, wi_21_29, wi_21_30, wi_21_33, wi_21_34, wi_21_37, wi_21_38, wi_21_41, wi_21_42, wi_21_43, wi_21_44, wi_21_46, wi_21_47, wi_21_50, wi_21_51, wi_21_52, wi_21_53, wi_21_56, wi_21_57, wi_21_60, wi_21_61, wi_21_64, wi_21_65, wi_21_68, wi_21_69, wi_21_70, wi_21_71, wi_21_73, wi_21_75, wi_21_76, wi_21_79, wi_21_81, wi_21_82, wi_21_85, wi_21_86, wi_21_87, wi_21_89, wi_21_91, wi_21_94, wi_21_97, wi_21_98, wi_21_99, wi_21_102, wi_21_105, wi_21_106, wi_5_0, wi_5_1, wi_5_4, wi_5_5, wi_5_6, wi_5_7, wi_5_10, wi_5_11, wi_5_14, wi_5_15, wi_5_16, wi_5_17, wi_5_20, wi_5_21, wi_5_24, wi_5_25, io_add_o, io_sub_o, io_mul_o, io_neg_o, io_and_r, io_or_r, io_xor_r, io_nd_r, io_shr_r, io_shl1, io_i2b_r, io_i2l_o, io_l2i_o, il_add_o, il_sub_o, il_mul_o, il_neg_o, ib_bit, Int.toNat_natCast, true_implies, false_implies, implies_true, and_true, true_and, and_self, not_true_eq_false, not_false_eq_true, wa_0, wa_1, il_cmp_o, il_cmp0, il_cmp1, il_cmp2, io_bit1, ibt0, ibt1, ibt00, ibt11, ibt10, ibt01, Int.ofNat_lt, Int.ofNat_le, Int.ofNat_inj, Nat.lt_irrefl, Int.lt_irrefl, Int.toNat_one, Int.toNat_zero, Bool.false_eq_true, reduceIte, reduceCtorEq, Nat.reduceAdd, Nat.reduceMul, Nat.reduceSub, Nat.reduceLT, Nat.reduceLeDiff, Nat.reduceEqDiff, Int.reduceNeg, Int.reduceAdd, Int.reduceMul, Int.reduceSub, Int.reduceLT, Int.reduceLE, Int.reduceEq, Int.reduceToNat, Int.reduceNatCast, h3, hF, hT, hi, eF, eT]
      exact this _ _
    have ihn : qhit G (qP G) v x i = false → ∀ l4 l5 : gg_V, wp N xs (d + 3) 21 2 [gr g, (0, (v : Int)), (0, (x : Int)), (0, (i : Int) + 1), l4, l5] [] (gk_R, M, 142, cc, cs) _ := fun ht => ih (fun j hj => by
        by_cases e : j = i
        · subst e; exact ht
        · exact hb j (by omega))
    by_cases eF : qF G i = v
    · by_cases eT : qT G i = v
      · by_cases e : x = qsh (qM G) x (qA G i)
        · have ht : qhit G (qP G) v x i = true := by rw [qhit_l eF eT]; exact decide_eq_true e
          rw [qfst_hit hi ht hb]
          simp (disch := first | assumption | omega | exact il_cqA _ _ | exact il_cqB _ _) only [wi_21_0, wi_21_1, wi_21_3, wi_21_4, wi_21_7, wi_21_10, wi_21_11, wi_21_12, wi_21_13, wi_21_16, wi_21_19, wi_21_20, wi_21_23, wi_21_24, wi_21_25, wi_21_26, wi_21_29, wi_21_30, wi_21_33, wi_21_34, wi_21_37, wi_21_38, wi_21_41, wi_21_42, wi_21_43, wi_21_44, wi_21_46, wi_21_47, wi_21_50, wi_21_51, wi_21_52, wi_21_53, wi_21_56, wi_21_57, wi_21_60, wi_21_61, wi_21_64, wi_21_65, wi_21_68, wi_21_69, wi_21_70, wi_21_71, wi_21_73, wi_21_75, wi_21_76, wi_21_79, wi_21_81, wi_21_82, wi_21_85, wi_21_86, wi_21_87, wi_21_89, wi_21_91, wi_21_94, wi_21_97, wi_21_98, wi_21_99, wi_21_102, wi_21_105, wi_21_106, wi_5_0, wi_5_1, wi_5_4, wi_5_5, wi_5_6, wi_5_7, wi_5_10, wi_5_11, wi_5_14, wi_5_15, wi_5_16, wi_5_17, wi_5_20, wi_5_21, wi_5_24, wi_5_25, wi_19_0, wi_19_1, wi_19_2, wi_19_3, wi_19_4, wi_19_7, wi_19_8, wi_19_9, wi_19_12, wi_19_15, wi_19_16, wi_19_19, wi_19_20, io_add_o, io_sub_o, io_mul_o, io_neg_o, io_and_r, io_or_r, io_xor_r, io_nd_r, io_shr_r, io_shl1, io_i2b_r, io_i2l_o, io_l2i_o, il_add_o, il_sub_o, il_mul_o, il_neg_o, ib_bit, Int.toNat_natCast, true_implies, false_implies, implies_true, and_true, true_and, and_self, not_true_eq_false, not_false_eq_true, wa_0, wa_1, il_cmp_o, il_cmp0, il_cmp1, il_cmp2, io_bit1, ibt0, ibt1, ibt00, ibt11, ibt10, ibt01, Int.ofNat_lt, Int.ofNat_le, Int.ofNat_inj, Nat.lt_irrefl, Int.lt_irrefl, Int.toNat_one, Int.toNat_zero, Bool.false_eq_true, reduceIte, reduceCtorEq, Nat.reduceAdd, Nat.reduceMul, Nat.reduceSub, Nat.reduceLT, Nat.reduceLeDiff, Nat.reduceEqDiff, Int.reduceNeg, Int.reduceAdd, Int.reduceMul, Int.reduceSub, Int.reduceLT, Int.reduceLE, Int.reduceEq, Int.reduceToNat, Int.reduceNatCast, h3, hF, hT, hA, hi, hpF, hpT, wp_shifted hg h2 k3 k4, eF, eT, eq_true e]
        · have ht : qhit G (qP G) v x i = false := by rw [qhit_l eF eT]; exact decide_eq_false e
          have := ihn ht
          simp (disch := first | assumption | omega | exact il_cqA _ _ | exact il_cqB _ _) only [wi_21_0, wi_21_1, wi_21_3, wi_21_4, wi_21_7, wi_21_10, wi_21_11, wi_21_12, wi_21_13, wi_21_16, wi_21_19, wi_21_20, wi_21_23, wi_21_24, wi_21_25, wi_21_26, wi_21_29, wi_21_30, wi_21_33, wi_21_34, wi_21_37, wi_21_38, wi_21_41, wi_21_42, wi_21_43, wi_21_44, wi_21_46, wi_21_47, wi_21_50, wi_21_51, wi_21_52, wi_21_53, wi_21_56, wi_21_57, wi_21_60, wi_21_61, wi_21_64, wi_21_65, wi_21_68, wi_21_69, wi_21_70, wi_21_71, wi_21_73, wi_21_75, wi_21_76, wi_21_79, wi_21_81, wi_21_82, wi_21_85, wi_21_86, wi_21_87, wi_21_89, wi_21_91, wi_21_94, wi_21_97, wi_21_98, wi_21_99, wi_21_102, wi_21_105, wi_21_106, wi_5_0, wi_5_1, wi_5_4, wi_5_5, wi_5_6, wi_5_7, wi_5_10, wi_5_11, wi_5_14, wi_5_15, wi_5_16, wi_5_17, wi_5_20, wi_5_21, wi_5_24, wi_5_25, wi_19_0, wi_19_1, wi_19_2, wi_19_3, wi_19_4, wi_19_7, wi_19_8, wi_19_9, wi_19_12, wi_19_15, wi_19_16, wi_19_19, wi_19_20, io_add_o, io_sub_o, io_mul_o, io_neg_o, io_and_r, io_or_r, io_xor_r, io_nd_r, io_shr_r, io_shl1, io_i2b_r, io_i2l_o, io_l2i_o, il_add_o, il_sub_o, il_mul_o, il_neg_o, ib_bit, Int.toNat_natCast, true_implies, false_implies, implies_true, and_true, true_and, and_self, not_true_eq_false, not_false_eq_true, wa_0, wa_1, il_cmp_o, il_cmp0, il_cmp1, il_cmp2, io_bit1, ibt0, ibt1, ibt00, ibt11, ibt10, ibt01, Int.ofNat_lt, Int.ofNat_le, Int.ofNat_inj, Nat.lt_irrefl, Int.lt_irrefl, Int.toNat_one, Int.toNat_zero, Bool.false_eq_true, reduceIte, reduceCtorEq, Nat.reduceAdd, Nat.reduceMul, Nat.reduceSub, Nat.reduceLT, Nat.reduceLeDiff, Nat.reduceEqDiff, Int.reduceNeg, Int.reduceAdd, Int.reduceMul, Int.reduceSub, Int.reduceLT, Int.reduceLE, Int.reduceEq, Int.reduceToNat, Int.reduceNatCast, h3, hF, hT, hA, hi, hpF, hpT, wp_shifted hg h2 k3 k4, eF, eT, eq_false e]
          exact this _ _
      · by_cases eC : qP G (qT G i) = -1
        · have ht : qhit G (qP G) v x i = false := by rw [qhit_f2 eF eT]; exact decide_eq_false (fun h => h.1 eC)
          have := ihn ht
          simp (disch := first | assumption | omega | exact il_cqA _ _ | exact il_cqB _ _) only [wi_21_0, wi_21_1, wi_21_3, wi_21_4, wi_21_7, wi_21_10, wi_21_11, wi_21_12, wi_21_13, wi_21_16, wi_21_19, wi_21_20, wi_21_23, wi_21_24, wi_21_25, wi_21_26, wi_21_29, wi_21_30, wi_21_33, wi_21_34, wi_21_37, wi_21_38, wi_21_41, wi_21_42, wi_21_43, wi_21_44, wi_21_46, wi_21_47, wi_21_50, wi_21_51, wi_21_52, wi_21_53, wi_21_56, wi_21_57, wi_21_60, wi_21_61, wi_21_64, wi_21_65, wi_21_68, wi_21_69, wi_21_70, wi_21_71, wi_21_73, wi_21_75, wi_21_76, wi_21_79, wi_21_81, wi_21_82, wi_21_85, wi_21_86, wi_21_87, wi_21_89, wi_21_91, wi_21_94, wi_21_97, wi_21_98, wi_21_99, wi_21_102, wi_21_105, wi_21_106, wi_5_0, wi_5_1, wi_5_4, wi_5_5, wi_5_6, wi_5_7, wi_5_10, wi_5_11, wi_5_14, wi_5_15, wi_5_16, wi_5_17, wi_5_20, wi_5_21, wi_5_24, wi_5_25, wi_19_0, wi_19_1, wi_19_2, wi_19_3, wi_19_4, wi_19_7, wi_19_8, wi_19_9, wi_19_12, wi_19_15, wi_19_16, wi_19_19, wi_19_20, io_add_o, io_sub_o, io_mul_o, io_neg_o, io_and_r, io_or_r, io_xor_r, io_nd_r, io_shr_r, io_shl1, io_i2b_r, io_i2l_o, io_l2i_o, il_add_o, il_sub_o, il_mul_o, il_neg_o, ib_bit, Int.toNat_natCast, true_implies, false_implies, implies_true, and_true, true_and, and_self, not_true_eq_false, not_false_eq_true, wa_0, wa_1, il_cmp_o, il_cmp0, il_cmp1, il_cmp2, io_bit1, ibt0, ibt1, ibt00, ibt11, ibt10, ibt01, Int.ofNat_lt, Int.ofNat_le, Int.ofNat_inj, Nat.lt_irrefl, Int.lt_irrefl, Int.toNat_one, Int.toNat_zero, Bool.false_eq_true, reduceIte, reduceCtorEq, Nat.reduceAdd, Nat.reduceMul, Nat.reduceSub, Nat.reduceLT, Nat.reduceLeDiff, Nat.reduceEqDiff, Int.reduceNeg, Int.reduceAdd, Int.reduceMul, Int.reduceSub, Int.reduceLT, Int.reduceLE, Int.reduceEq, Int.reduceToNat, Int.reduceNatCast, h3, hF, hT, hA, hi, hpF, hpT, wp_shifted hg h2 k3 k4, eF, eT, eC]
          exact this _ _
        · by_cases e : qP G (qT G i) = (qsh (qM G) x (qA G i) : Int)
          · have ht : qhit G (qP G) v x i = true := by rw [qhit_f2 eF eT]; exact decide_eq_true ⟨eC, e⟩
            rw [qfst_hit hi ht hb]
            simp (disch := first | assumption | omega | exact il_cqA _ _ | exact il_cqB _ _) only [wi_21_0, wi_21_1, wi_21_3, wi_21_4, wi_21_7, wi_21_10, wi_21_11, wi_21_12, wi_21_13, wi_21_16, wi_21_19, wi_21_20, wi_21_23, wi_21_24, wi_21_25, wi_21_26, wi_21_29, wi_21_30, wi_21_33, wi_21_34, wi_21_37, wi_21_38, wi_21_41, wi_21_42, wi_21_43, wi_21_44, wi_21_46, wi_21_47, wi_21_50, wi_21_51, wi_21_52, wi_21_53, wi_21_56, wi_21_57, wi_21_60, wi_21_61, wi_21_64, wi_21_65, wi_21_68, wi_21_69, wi_21_70, wi_21_71, wi_21_73, wi_21_75, wi_21_76, wi_21_79, wi_21_81, wi_21_82, wi_21_85, wi_21_86, wi_21_87, wi_21_89, wi_21_91, wi_21_94, wi_21_97, wi_21_98, wi_21_99, wi_21_102, wi_21_105, wi_21_106, wi_5_0, wi_5_1, wi_5_4, wi_5_5, wi_5_6, wi_5_7, wi_5_10, wi_5_11, wi_5_14, wi_5_15, wi_5_16, wi_5_17, wi_5_20, wi_5_21, wi_5_24, wi_5_25, wi_19_0, wi_19_1, wi_19_2, wi_19_3, wi_19_4, wi_19_7, wi_19_8, wi_19_9, wi_19_12, wi_19_15, wi_19_16, wi_19_19, wi_19_20, io_add_o, io_sub_o, io_mul_o, io_neg_o, io_and_r, io_or_r, io_xor_r, io_nd_r, io_shr_r, io_shl1, io_i2b_r, io_i2l_o, io_l2i_o, il_add_o, il_sub_o, il_mul_o, il_neg_o, ib_bit, Int.toNat_natCast, true_implies, false_implies, implies_true, and_true, true_and, and_self, not_true_eq_false, not_false_eq_true, wa_0, wa_1, il_cmp_o, il_cmp0, il_cmp1, il_cmp2, io_bit1, ibt0, ibt1, ibt00, ibt11, ibt10, ibt01, Int.ofNat_lt, Int.ofNat_le, Int.ofNat_inj, Nat.lt_irrefl, Int.lt_irrefl, Int.toNat_one, Int.toNat_zero, Bool.false_eq_true, reduceIte, reduceCtorEq, Nat.reduceAdd, Nat.reduceMul, Nat.reduceSub, Nat.reduceLT, Nat.reduceLeDiff, Nat.reduceEqDiff, Int.reduceNeg, Int.reduceAdd, Int.reduceMul, Int.reduceSub, Int.reduceLT, Int.reduceLE, Int.reduceEq, Int.reduceToNat, Int.reduceNatCast, h3, hF, hT, hA, hi, hpF, hpT, wp_shifted hg h2 k3 k4, eF, eT, eC, eq_true e]
          · have ht : qhit G (qP G) v x i = false := by rw [qhit_f2 eF eT]; exact decide_eq_false (fun h => e h.2)
            have := ihn ht
            simp (disch := first | assumption | omega | exact il_cqA _ _ | exact il_cqB _ _) only [wi_21_0, wi_21_1, wi_21_3, wi_21_4, wi_21_7, wi_21_10, wi_21_11, wi_21_12, wi_21_13, wi_21_16, wi_21_19, wi_21_20, wi_21_23, wi_21_24, wi_21_25, wi_21_26, wi_21_29, wi_21_30, wi_21_33, wi_21_34, wi_21_37, wi_21_38, wi_21_41, wi_21_42, wi_21_43, wi_21_44, wi_21_46, wi_21_47, wi_21_50, wi_21_51, wi_21_52, wi_21_53, wi_21_56, wi_21_57, wi_21_60, wi_21_61, wi_21_64, wi_21_65, wi_21_68, wi_21_69, wi_21_70, wi_21_71, wi_21_73, wi_21_75, wi_21_76, wi_21_79, wi_21_81, wi_21_82, wi_21_85, wi_21_86, wi_21_87, wi_21_89, wi_21_91, wi_21_94, wi_21_97, wi_21_98, wi_21_99, wi_21_102, wi_21_105, wi_21_106, wi_5_0, wi_5_1, wi_5_4, wi_5_5, wi_5_6, wi_5_7, wi_5_10, wi_5_11, wi_5_14, wi_5_15, wi_5_16, wi_5_17, wi_5_20, wi_5_21, wi_5_24, wi_5_25, wi_19_0, wi_19_1, wi_19_2, wi_19_3, wi_19_4, wi_19_7, wi_19_8, wi_19_9, wi_19_12, wi_19_15, wi_19_16, wi_19_19, wi_19_20, io_add_o, io_sub_o, io_mul_o, io_neg_o, io_and_r, io_or_r, io_xor_r, io_nd_r, io_shr_r, io_shl1, io_i2b_r, io_i2l_o, io_l2i_o, il_add_o, il_sub_o, il_mul_o, il_neg_o, ib_bit, Int.toNat_natCast, true_implies, false_implies, implies_true, and_true, true_and, and_self, not_true_eq_false, not_false_eq_true, wa_0, wa_1, il_cmp_o, il_cmp0, il_cmp1, il_cmp2, io_bit1, ibt0, ibt1, ibt00, ibt11, ibt10, ibt01, Int.ofNat_lt, Int.ofNat_le, Int.ofNat_inj, Nat.lt_irrefl, Int.lt_irrefl, Int.toNat_one, Int.toNat_zero, Bool.false_eq_true, reduceIte, reduceCtorEq, Nat.reduceAdd, Nat.reduceMul, Nat.reduceSub, Nat.reduceLT, Nat.reduceLeDiff, Nat.reduceEqDiff, Int.reduceNeg, Int.reduceAdd, Int.reduceMul, Int.reduceSub, Int.reduceLT, Int.reduceLE, Int.reduceEq, Int.reduceToNat, Int.reduceNatCast, h3, hF, hT, hA, hi, hpF, hpT, wp_shifted hg h2 k3 k4, eF, eT, eC, eq_false e]
            exact this _ _
    · have eT : qT G i = v := eat.resolve_left eF
      by_cases eC : qP G (qF G i) = -1
      · have ht : qhit G (qP G) v x i = false := by rw [qhit_t eF eT]; exact decide_eq_false (fun h => h.1 eC)
        have := ihn ht
        simp (disch := first | assumption | omega | exact il_cqA _ _ | exact il_cqB _ _) only [wi_21_0, wi_21_1, wi_21_3, wi_21_4, wi_21_7, wi_21_10, wi_21_11, wi_21_12, wi_21_13, wi_21_16, wi_21_19, wi_21_20, wi_21_23, wi_21_24, wi_21_25, wi_21_26, wi_21_29, wi_21_30, wi_21_33, wi_21_34, wi_21_37, wi_21_38, wi_21_41, wi_21_42, wi_21_43, wi_21_44, wi_21_46, wi_21_47, wi_21_50, wi_21_51, wi_21_52, wi_21_53, wi_21_56, wi_21_57, wi_21_60, wi_21_61, wi_21_64, wi_21_65, wi_21_68, wi_21_69, wi_21_70, wi_21_71, wi_21_73, wi_21_75, wi_21_76, wi_21_79, wi_21_81, wi_21_82, wi_21_85, wi_21_86, wi_21_87, wi_21_89, wi_21_91, wi_21_94, wi_21_97, wi_21_98, wi_21_99, wi_21_102, wi_21_105, wi_21_106, wi_5_0, wi_5_1, wi_5_4, wi_5_5, wi_5_6, wi_5_7, wi_5_10, wi_5_11, wi_5_14, wi_5_15, wi_5_16, wi_5_17, wi_5_20, wi_5_21, wi_5_24, wi_5_25, wi_19_0, wi_19_1, wi_19_2, wi_19_3, wi_19_4, wi_19_7, wi_19_8, wi_19_9, wi_19_12, wi_19_15, wi_19_16, wi_19_19, wi_19_20, io_add_o, io_sub_o, io_mul_o, io_neg_o, io_and_r, io_or_r, io_xor_r, io_nd_r, io_shr_r, io_shl1, io_i2b_r, io_i2l_o, io_l2i_o, il_add_o, il_sub_o, il_mul_o, il_neg_o, ib_bit, Int.toNat_natCast, true_implies, false_implies, implies_true, and_true, true_and, and_self, not_true_eq_false, not_false_eq_true, wa_0, wa_1, il_cmp_o, il_cmp0, il_cmp1, il_cmp2, io_bit1, ibt0, ibt1, ibt00, ibt11, ibt10, ibt01, Int.ofNat_lt, Int.ofNat_le, Int.ofNat_inj, Nat.lt_irrefl, Int.lt_irrefl, Int.toNat_one, Int.toNat_zero, Bool.false_eq_true, reduceIte, reduceCtorEq, Nat.reduceAdd, Nat.reduceMul, Nat.reduceSub, Nat.reduceLT, Nat.reduceLeDiff, Nat.reduceEqDiff, Int.reduceNeg, Int.reduceAdd, Int.reduceMul, Int.reduceSub, Int.reduceLT, Int.reduceLE, Int.reduceEq, Int.reduceToNat, Int.reduceNatCast, h3, hF, hT, hA, hi, hpF, hpT, wp_shifted hg h2 k3 k4, eF, eT, eC]
        exact this _ _
      · by_cases e : x = qsh (qM G) (qP G (qF G i)).toNat (qA G i)
        · have ht : qhit G (qP G) v x i = true := by rw [qhit_t eF eT]; exact decide_eq_true ⟨eC, e⟩
          rw [qfst_hit hi ht hb]
          simp (disch := first | assumption | omega | exact il_cqA _ _ | exact il_cqB _ _) only [wi_21_0, wi_21_1, wi_21_3, wi_21_4, wi_21_7, wi_21_10, wi_21_11, wi_21_12, wi_21_13, wi_21_16, wi_21_19, wi_21_20, wi_21_23, wi_21_24, wi_21_25, wi_21_26, wi_21_29, wi_21_30, wi_21_33, wi_21_34, wi_21_37, wi_21_38, wi_21_41, wi_21_42, wi_21_43, wi_21_44, wi_21_46, wi_21_47, wi_21_50, wi_21_51, wi_21_52, wi_21_53, wi_21_56, wi_21_57, wi_21_60, wi_21_61, wi_21_64, wi_21_65, wi_21_68, wi_21_69, wi_21_70, wi_21_71, wi_21_73, wi_21_75, wi_21_76, wi_21_79, wi_21_81, wi_21_82, wi_21_85, wi_21_86, wi_21_87, wi_21_89, wi_21_91, wi_21_94, wi_21_97, wi_21_98, wi_21_99, wi_21_102, wi_21_105, wi_21_106, wi_5_0, wi_5_1, wi_5_4, wi_5_5, wi_5_6, wi_5_7, wi_5_10, wi_5_11, wi_5_14, wi_5_15, wi_5_16, wi_5_17, wi_5_20, wi_5_21, wi_5_24, wi_5_25, wi_19_0, wi_19_1, wi_19_2, wi_19_3, wi_19_4, wi_19_7, wi_19_8, wi_19_9, wi_19_12, wi_19_15, wi_19_16, wi_19_19, wi_19_20, io_add_o, io_sub_o, io_mul_o, io_neg_o, io_and_r, io_or_r, io_xor_r, io_nd_r, io_shr_r, io_shl1, io_i2b_r, io_i2l_o, io_l2i_o, il_add_o, il_sub_o, il_mul_o, il_neg_o, ib_bit, Int.toNat_natCast, true_implies, false_implies, implies_true, and_true, true_and, and_self, not_true_eq_false, not_false_eq_true, wa_0, wa_1, il_cmp_o, il_cmp0, il_cmp1, il_cmp2, io_bit1, ibt0, ibt1, ibt00, ibt11, ibt10, ibt01, Int.ofNat_lt, Int.ofNat_le, Int.ofNat_inj, Nat.lt_irrefl, Int.lt_irrefl, Int.toNat_one, Int.toNat_zero, Bool.false_eq_true, reduceIte, reduceCtorEq, Nat.reduceAdd, Nat.reduceMul, Nat.reduceSub, Nat.reduceLT, Nat.reduceLeDiff, Nat.reduceEqDiff, Int.reduceNeg, Int.reduceAdd, Int.reduceMul, Int.reduceSub, Int.reduceLT, Int.reduceLE, Int.reduceEq, Int.reduceToNat, Int.reduceNatCast, h3, hF, hT, hA, hi, hpF, hpT, wp_shifted hg h2 k3 k4, eF, eT, eC, eq_true e]
        · have ht : qhit G (qP G) v x i = false := by rw [qhit_t eF eT]; exact decide_eq_false (fun h => e h.2)
          have := ihn ht
          simp (disch := first | assumption | omega | exact il_cqA _ _ | exact il_cqB _ _) only [wi_21_0, wi_21_1, wi_21_3, wi_21_4, wi_21_7, wi_21_10, wi_21_11, wi_21_12, wi_21_13, wi_21_16, wi_21_19, wi_21_20, wi_21_23, wi_21_24, wi_21_25, wi_21_26, wi_21_29, wi_21_30, wi_21_33, wi_21_34, wi_21_37, wi_21_38, wi_21_41, wi_21_42, wi_21_43, wi_21_44, wi_21_46, wi_21_47, wi_21_50, wi_21_51, wi_21_52, wi_21_53, wi_21_56, wi_21_57, wi_21_60, wi_21_61, wi_21_64, wi_21_65, wi_21_68, wi_21_69, wi_21_70, wi_21_71, wi_21_73, wi_21_75, wi_21_76, wi_21_79, wi_21_81, wi_21_82, wi_21_85, wi_21_86, wi_21_87, wi_21_89, wi_21_91, wi_21_94, wi_21_97, wi_21_98, wi_21_99, wi_21_102, wi_21_105, wi_21_106, wi_5_0, wi_5_1, wi_5_4, wi_5_5, wi_5_6, wi_5_7, wi_5_10, wi_5_11, wi_5_14, wi_5_15, wi_5_16, wi_5_17, wi_5_20, wi_5_21, wi_5_24, wi_5_25, wi_19_0, wi_19_1, wi_19_2, wi_19_3, wi_19_4, wi_19_7, wi_19_8, wi_19_9, wi_19_12, wi_19_15, wi_19_16, wi_19_19, wi_19_20, io_add_o, io_sub_o, io_mul_o, io_neg_o, io_and_r, io_or_r, io_xor_r, io_nd_r, io_shr_r, io_shl1, io_i2b_r, io_i2l_o, io_l2i_o, il_add_o, il_sub_o, il_mul_o, il_neg_o, ib_bit, Int.toNat_natCast, true_implies, false_implies, implies_true, and_true, true_and, and_self, not_true_eq_false, not_false_eq_true, wa_0, wa_1, il_cmp_o, il_cmp0, il_cmp1, il_cmp2, io_bit1, ibt0, ibt1, ibt00, ibt11, ibt10, ibt01, Int.ofNat_lt, Int.ofNat_le, Int.ofNat_inj, Nat.lt_irrefl, Int.lt_irrefl, Int.toNat_one, Int.toNat_zero, Bool.false_eq_true, reduceIte, reduceCtorEq, Nat.reduceAdd, Nat.reduceMul, Nat.reduceSub, Nat.reduceLT, Nat.reduceLeDiff, Nat.reduceEqDiff, Int.reduceNeg, Int.reduceAdd, Int.reduceMul, Int.reduceSub, Int.reduceLT, Int.reduceLE, Int.reduceEq, Int.reduceToNat, Int.reduceNatCast, h3, hF, hT, hA, hi, hpF, hpT, wp_shifted hg h2 k3 k4, eF, eT, eC, eq_false e]
          exact this _ _
  · rw [wi_21_2, qfst_none.2 hb]
    simp (contextual := true) (disch := first | assumption | omega | exact il_cqA _ _ | exact il_cqB _ _) only [wi_21_0, wi_21_1, wi_21_3, wi_21_4, wi_21_7, wi_21_10, wi_21_11, wi_21_12, wi_21_13, wi_21_16, wi_21_19, wi_21_20, wi_21_23, wi_21_24, wi_21_25, wi_21_26, wi_21_29, wi_21_30, wi_21_33, wi_21_34, wi_21_37, wi_21_38, wi_21_41, wi_21_42, wi_21_43, wi_21_44, wi_21_46, wi_21_47, wi_21_50, wi_21_51, wi_21_52, wi_21_53, wi_21_56, wi_21_57, wi_21_60, wi_21_61, wi_21_64, wi_21_65, wi_21_68, wi_21_69, wi_21_70, wi_21_71, wi_21_73, wi_21_75, wi_21_76, wi_21_79, wi_21_81, wi_21_82, wi_21_85, wi_21_86, wi_21_87, wi_21_89, wi_21_91, wi_21_94, wi_21_97, wi_21_98, wi_21_99, wi_21_102, wi_21_105, wi_21_106, io_add_o, io_sub_o, io_mul_o, io_neg_o, io_and_r, io_or_r, io_xor_r, io_nd_r, io_shr_r, io_shl1, io_i2b_r, io_i2l_o, io_l2i_o, il_add_o, il_sub_o, il_mul_o, il_neg_o, ib_bit, Int.toNat_natCast, true_implies, false_implies, implies_true, and_true, true_and, and_self, not_true_eq_false, not_false_eq_true, wa_0, wa_1, il_cmp_o, il_cmp0, il_cmp1, il_cmp2, io_bit1, ibt0, ibt1, ibt00, ibt11, ibt10, ibt01, Int.ofNat_lt, Int.ofNat_le, Int.ofNat_inj, Nat.lt_irrefl, Int.lt_irrefl, Int.toNat_one, Int.toNat_zero, Bool.false_eq_true, reduceIte, reduceCtorEq, Nat.reduceAdd, Nat.reduceMul, Nat.reduceSub, Nat.reduceLT, Nat.reduceLeDiff, Nat.reduceEqDiff, Int.reduceNeg, Int.reduceAdd, Int.reduceMul, Int.reduceSub, Int.reduceLT, Int.reduceLE, Int.reduceEq, Int.reduceToNat, Int.reduceNatCast, h3]
theorem wp_openColors (hg : gs_G g) (hG : q_ok G) (h : q_C M g G) {ca : Nat} {c : Nat → Int} (hca : gs_a ca 1 8) (hc : ∀ v, v < qN G → M ca v = c v) {l : Nat} (hl : l ≤ 5) (hcr : ∀ v, v < qN G → -1 ≤ c v ∧ c v ≤ ((qM G * l : Nat) : Int)) (v n : Nat) (hv : v < qN G) (hn : n ≤ 61) :
    wp N xs (d + 2) 20 0 [gr g, gr ca, (0, (v : Int)), (0, (n : Int)), (3, 0), (3, 0), (3, 0), (3, 0), (3, 0)] [] (gk_R, M, 142, cc, cs) Q ↔ Q ((1, (1, (qbits (fun x => !qany (qhit G c v x) (qK G)) n : Int))), (gk_R, M, 142, cc, cs)) := by
  refine wp_det ?_
  obtain ⟨⟨h1, h2, h3, h4, h5⟩, hF, hT, hA, hW, hP, hO⟩ := id h
  obtain ⟨⟨k1, k2, k3, k4, k5, k6, k7, k8⟩, hk, hp, hp2⟩ := id hG
  simp (contextual := true) (disch := first | assumption | omega | exact il_cqA _ _ | exact il_cqB _ _) only [wi_20_0, wi_20_1, wi_20_3, wi_20_4, wi_20_8, wi_20_9, wi_20_12, wi_20_15, wi_20_16, wi_20_18, wi_20_19, wi_20_22, wi_20_24, wi_20_26, wi_20_27, wi_20_30, wi_20_32, wi_20_33, wi_20_36, wi_20_38, wi_20_39, wi_20_42, wi_20_45, wi_20_48, wi_20_49, wi_20_50, wi_20_52, wi_20_55, wi_20_57, wi_20_58, wi_20_61, wi_20_62, wi_20_64, wi_20_65, wi_20_66, wi_20_69, wi_20_70, wi_20_73, wi_20_75, wi_20_76, wi_20_77, wi_20_80, wi_20_81, wi_20_84, wi_20_86, wi_20_87, wi_20_90, wi_20_91, wi_20_92, wi_20_93, wi_20_96, wi_20_98, wi_20_99, wi_20_102, wi_20_104, wi_20_106, wi_20_107, wi_20_108, wi_20_109, wi_20_111, wi_20_112, wi_20_114, wi_20_117, wi_20_118, wi_20_119, wi_20_121, wi_20_124, wi_20_127, wi_20_129, wi_20_132, wi_20_133, wi_20_134, wi_20_135, wi_20_136, wi_20_137, wi_20_138, wi_20_139, io_add_o, io_sub_o, io_mul_o, io_neg_o, io_and_r, io_or_r, io_xor_r, io_nd_r, io_shr_r, io_shl1, io_i2b_r, io_i2l_o, io_l2i_o, il_add_o, il_sub_o, il_mul_o, il_neg_o, ib_bit, Int.toNat_natCast, true_implies, false_implies, implies_true, and_true, true_and, and_self, not_true_eq_false, not_false_eq_true, wa_0, wa_1, il_cmp_o, il_cmp0, il_cmp1, il_cmp2, io_bit1, ibt0, ibt1, ibt00, ibt11, ibt10, ibt01, Int.ofNat_lt, Int.ofNat_le, Int.ofNat_inj, Nat.lt_irrefl, Int.lt_irrefl, Int.toNat_one, Int.toNat_zero, Bool.false_eq_true, reduceIte, reduceCtorEq, Nat.reduceAdd, Nat.reduceMul, Nat.reduceSub, Nat.reduceLT, Nat.reduceLeDiff, Nat.reduceEqDiff, Int.reduceNeg, Int.reduceAdd, Int.reduceMul, Int.reduceSub, Int.reduceLT, Int.reduceLE, Int.reduceEq, Int.reduceToNat, Int.reduceNatCast]
  refine wl_for (P := fun i => ∀ B : BitVec 64, (∀ x, x < 61 → B.getLsbD x = qany (qhit G c v (x : Nat)) i) → ∀ l7 l8 : gg_V, wp N xs (d + 2) 20 6 [gr g, gr ca, (0, (v : Int)), (0, (n : Int)), (1, B.toInt), (3, 0), (0, (i : Int)), l7, l8] [] (gk_R, M, 142, cc, cs) _) (qK G) (fun i hi ih B hB l7 l8 => ?_) (fun B hB l7 l8 => ?_) 0#64 (fun x hx => by rw [BitVec.getLsbD_zero]; rfl) _ _
  · have := hk i hi
    have := hcr (qF G i) (by omega)
    have := hcr (qT G i) (by omega)
    have hcF := hc (qF G i) (by omega)
    have hcT := hc (qT G i) (by omega)
    have := hA i hi
    have hm0 := qmi_lt (m := qM G) (a := 0) (b := qA G i) (by omega) (by omega)
    have := Nat.mul_le_mul k4 hl
    have := qsh_ml (l := l) (x := (c (qF G i)).toNat) k3 (by omega) (show qA G i < qM G by omega)
    have := qsh_ml (l := l) (x := (c (qT G i)).toNat) k3 (by omega) hm0
    have e64 : ∀ x, x < 61 → x < 64 := fun x hx => by omega
    have ih' : ∀ B' : BitVec 64, (∀ x, x < 61 → B'.getLsbD x = (B.getLsbD x || qhit G c v (x : Nat) i)) → ∀ l7 l8 : gg_V, wp N xs (d + 2) 20 6 [gr g, gr ca, (0, (v : Int)), (0, (n : Int)), (1, B'.toInt), (3, 0), (0, (i : Int) + 1), l7, l8] [] (gk_R, M, 142, cc, cs) _ := fun B' hB' => ih B' fun x hx => by
      rw [hB' x hx, hB x hx]
      rfl
    rw [wi_20_6]
    by_cases eF : qF G i = v
    · by_cases eT : qT G i = v
      · by_cases eA : qA G i = 0
        · simp (contextual := true) (disch := first | assumption | omega | exact il_cqA _ _ | exact il_cqB _ _) only [wi_20_0, wi_20_1, wi_20_3, wi_20_4, wi_20_8, wi_20_9, wi_20_12, wi_20_15, wi_20_16, wi_20_18, wi_20_19, wi_20_22, wi_20_24, wi_20_26, wi_20_27, wi_20_30, wi_20_32, wi_20_33, wi_20_36, wi_20_38, wi_20_39, wi_20_42, wi_20_45, wi_20_48, wi_20_49, wi_20_50, wi_20_52, wi_20_55, wi_20_57, wi_20_58, wi_20_61, wi_20_62, wi_20_64, wi_20_65, wi_20_66, wi_20_69, wi_20_70, wi_20_73, wi_20_75, wi_20_76, wi_20_77, wi_20_80, wi_20_81, wi_20_84, wi_20_86, wi_20_87, wi_20_90, wi_20_91, wi_20_92, wi_20_93, wi_20_96, wi_20_98, wi_20_99, wi_20_102, wi_20_104, wi_20_106, wi_20_107, wi_20_108, wi_20_109, wi_20_111, wi_20_112, wi_20_114, wi_20_117, wi_20_118, wi_20_119, wi_20_121, wi_20_124, wi_20_127, wi_20_129, wi_20_132, wi_20_133, wi_20_134, wi_20_135, wi_20_136, wi_20_137, wi_20_138, wi_20_139, wi_6_0, wi_6_1, wi_6_4, wi_6_5, wi_6_6, wi_6_7, wi_6_10, wi_6_11, wi_6_14, wi_6_15, wi_6_16, wi_6_17, wi_6_18, wi_6_21, wi_6_22, wi_6_23, wi_6_24, wi_6_27, wi_6_28, wi_6_31, wi_6_32, wi_6_33, wi_6_36, wi_6_37, io_add_o, io_sub_o, io_mul_o, io_neg_o, io_and_r, io_or_r, io_xor_r, io_nd_r, io_shr_r, io_shl1, io_i2b_r, io_i2l_o, io_l2i_o, il_add_o, il_sub_o, il_mul_o, il_neg_o, ib_bit, Int.toNat_natCast, true_implies, false_implies, implies_true, and_true, true_and, and_self, not_true_eq_false, not_false_eq_true, wa_0, wa_1, il_cmp_o, il_cmp0, il_cmp1, il_cmp2, io_bit1, ibt0, ibt1, ibt00, ibt11, ibt10, ibt01, Int.ofNat_lt, Int.ofNat_le, Int.ofNat_inj, Nat.lt_irrefl, Int.lt_irrefl, Int.toNat_one, Int.toNat_zero, Bool.false_eq_true, reduceIte, reduceCtorEq, Nat.reduceAdd, Nat.reduceMul, Nat.reduceSub, Nat.reduceLT, Nat.reduceLeDiff, Nat.reduceEqDiff, Int.reduceNeg, Int.reduceAdd, Int.reduceMul, Int.reduceSub, Int.reduceLT, Int.reduceLE, Int.reduceEq, Int.reduceToNat, Int.reduceNatCast, h3, hF, hT, hA, hi, eF, eT, eA, lb_orA, ico]
          refine ih' _ (fun x hx => ?_) _ _
          rw [qhit_l eF eT, eA, qsh_z k3, BitVec.getLsbD_allOnes]
          simp [e64 x hx]
        · simp (contextual := true) (disch := first | assumption | omega | exact il_cqA _ _ | exact il_cqB _ _) only [wi_20_0, wi_20_1, wi_20_3, wi_20_4, wi_20_8, wi_20_9, wi_20_12, wi_20_15, wi_20_16, wi_20_18, wi_20_19, wi_20_22, wi_20_24, wi_20_26, wi_20_27, wi_20_30, wi_20_32, wi_20_33, wi_20_36, wi_20_38, wi_20_39, wi_20_42, wi_20_45, wi_20_48, wi_20_49, wi_20_50, wi_20_52, wi_20_55, wi_20_57, wi_20_58, wi_20_61, wi_20_62, wi_20_64, wi_20_65, wi_20_66, wi_20_69, wi_20_70, wi_20_73, wi_20_75, wi_20_76, wi_20_77, wi_20_80, wi_20_81, wi_20_84, wi_20_86, wi_20_87, wi_20_90, wi_20_91, wi_20_92, wi_20_93, wi_20_96, wi_20_98, wi_20_99, wi_20_102, wi_20_104, wi_20_106, wi_20_107, wi_20_108, wi_20_109, wi_20_111, wi_20_112, wi_20_114, wi_20_117, wi_20_118, wi_20_119, wi_20_121, wi_20_124, wi_20_127, wi_20_129, wi_20_132, wi_20_133, wi_20_134, wi_20_135, wi_20_136, wi_20_137, wi_20_138, wi_20_139, wi_6_0, wi_6_1, wi_6_4, wi_6_5, wi_6_6, wi_6_7, wi_6_10, wi_6_11, wi_6_14, wi_6_15, wi_6_16, wi_6_17, wi_6_18, wi_6_21, wi_6_22, wi_6_23, wi_6_24, wi_6_27, wi_6_28, wi_6_31, wi_6_32, wi_6_33, wi_6_36, wi_6_37, io_add_o, io_sub_o, io_mul_o, io_neg_o, io_and_r, io_or_r, io_xor_r, io_nd_r, io_shr_r, io_shl1, io_i2b_r, io_i2l_o, io_l2i_o, il_add_o, il_sub_o, il_mul_o, il_neg_o, ib_bit, Int.toNat_natCast, true_implies, false_implies, implies_true, and_true, true_and, and_self, not_true_eq_false, not_false_eq_true, wa_0, wa_1, il_cmp_o, il_cmp0, il_cmp1, il_cmp2, io_bit1, ibt0, ibt1, ibt00, ibt11, ibt10, ibt01, Int.ofNat_lt, Int.ofNat_le, Int.ofNat_inj, Nat.lt_irrefl, Int.lt_irrefl, Int.toNat_one, Int.toNat_zero, Bool.false_eq_true, reduceIte, reduceCtorEq, Nat.reduceAdd, Nat.reduceMul, Nat.reduceSub, Nat.reduceLT, Nat.reduceLeDiff, Nat.reduceEqDiff, Int.reduceNeg, Int.reduceAdd, Int.reduceMul, Int.reduceSub, Int.reduceLT, Int.reduceLE, Int.reduceEq, Int.reduceToNat, Int.reduceNatCast, h3, hF, hT, hA, hi, eF, eT, eA, lb_or1, inz]
          refine ih' _ (fun x hx => ?_) _ _
          have h9 := qsh_ne (x := x) k3 (show qA G i < qM G by omega) eA
          rw [qhit_l eF eT, lb_P _ (e64 x hx), show decide (x = qsh (qM G) x (qA G i)) = decide (0 = x) from decide_eq_decide.2 (h9.trans eq_comm)]
      · by_cases eC : c (qT G i) = -1
        · simp (contextual := true) (disch := first | assumption | omega | exact il_cqA _ _ | exact il_cqB _ _) only [wi_20_0, wi_20_1, wi_20_3, wi_20_4, wi_20_8, wi_20_9, wi_20_12, wi_20_15, wi_20_16, wi_20_18, wi_20_19, wi_20_22, wi_20_24, wi_20_26, wi_20_27, wi_20_30, wi_20_32, wi_20_33, wi_20_36, wi_20_38, wi_20_39, wi_20_42, wi_20_45, wi_20_48, wi_20_49, wi_20_50, wi_20_52, wi_20_55, wi_20_57, wi_20_58, wi_20_61, wi_20_62, wi_20_64, wi_20_65, wi_20_66, wi_20_69, wi_20_70, wi_20_73, wi_20_75, wi_20_76, wi_20_77, wi_20_80, wi_20_81, wi_20_84, wi_20_86, wi_20_87, wi_20_90, wi_20_91, wi_20_92, wi_20_93, wi_20_96, wi_20_98, wi_20_99, wi_20_102, wi_20_104, wi_20_106, wi_20_107, wi_20_108, wi_20_109, wi_20_111, wi_20_112, wi_20_114, wi_20_117, wi_20_118, wi_20_119, wi_20_121, wi_20_124, wi_20_127, wi_20_129, wi_20_132, wi_20_133, wi_20_134, wi_20_135, wi_20_136, wi_20_137, wi_20_138, wi_20_139, wi_6_0, wi_6_1, wi_6_4, wi_6_5, wi_6_6, wi_6_7, wi_6_10, wi_6_11, wi_6_14, wi_6_15, wi_6_16, wi_6_17, wi_6_18, wi_6_21, wi_6_22, wi_6_23, wi_6_24, wi_6_27, wi_6_28, wi_6_31, wi_6_32, wi_6_33, wi_6_36, wi_6_37, io_add_o, io_sub_o, io_mul_o, io_neg_o, io_and_r, io_or_r, io_xor_r, io_nd_r, io_shr_r, io_shl1, io_i2b_r, io_i2l_o, io_l2i_o, il_add_o, il_sub_o, il_mul_o, il_neg_o, ib_bit, Int.toNat_natCast, true_implies, false_implies, implies_true, and_true, true_and, and_self, not_true_eq_false, not_false_eq_true, wa_0, wa_1, il_cmp_o, il_cmp0, il_cmp1, il_cmp2, io_bit1, ibt0, ibt1, ibt00, ibt11, ibt10, ibt01, Int.ofNat_lt, Int.ofNat_le, Int.ofNat_inj, Nat.lt_irrefl, Int.lt_irrefl, Int.toNat_one, Int.toNat_zero, Bool.false_eq_true, reduceIte, reduceCtorEq, Nat.reduceAdd, Nat.reduceMul, Nat.reduceSub, Nat.reduceLT, Nat.reduceLeDiff, Nat.reduceEqDiff, Int.reduceNeg, Int.reduceAdd, Int.reduceMul, Int.reduceSub, Int.reduceLT, Int.reduceLE, Int.reduceEq, Int.reduceToNat, Int.reduceNatCast, h3, hF, hT, hA, hi, eF, eT, hcT, eC]
          refine ih' _ (fun x hx => ?_) _ _
          rw [qhit_f k3 (by omega) eF eT (by omega), eC]
          simp
        · simp (contextual := true) (disch := first | assumption | omega | exact il_cqA _ _ | exact il_cqB _ _) only [wi_20_0, wi_20_1, wi_20_3, wi_20_4, wi_20_8, wi_20_9, wi_20_12, wi_20_15, wi_20_16, wi_20_18, wi_20_19, wi_20_22, wi_20_24, wi_20_26, wi_20_27, wi_20_30, wi_20_32, wi_20_33, wi_20_36, wi_20_38, wi_20_39, wi_20_42, wi_20_45, wi_20_48, wi_20_49, wi_20_50, wi_20_52, wi_20_55, wi_20_57, wi_20_58, wi_20_61, wi_20_62, wi_20_64, wi_20_65, wi_20_66, wi_20_69, wi_20_70, wi_20_73, wi_20_75, wi_20_76, wi_20_77, wi_20_80, wi_20_81, wi_20_84, wi_20_86, wi_20_87, wi_20_90, wi_20_91, wi_20_92, wi_20_93, wi_20_96, wi_20_98, wi_20_99, wi_20_102, wi_20_104, wi_20_106, wi_20_107, wi_20_108, wi_20_109, wi_20_111, wi_20_112, wi_20_114, wi_20_117, wi_20_118, wi_20_119, wi_20_121, wi_20_124, wi_20_127, wi_20_129, wi_20_132, wi_20_133, wi_20_134, wi_20_135, wi_20_136, wi_20_137, wi_20_138, wi_20_139, wi_6_0, wi_6_1, wi_6_4, wi_6_5, wi_6_6, wi_6_7, wi_6_10, wi_6_11, wi_6_14, wi_6_15, wi_6_16, wi_6_17, wi_6_18, wi_6_21, wi_6_22, wi_6_23, wi_6_24, wi_6_27, wi_6_28, wi_6_31, wi_6_32, wi_6_33, wi_6_36, wi_6_37, io_add_o, io_sub_o, io_mul_o, io_neg_o, io_and_r, io_or_r, io_xor_r, io_nd_r, io_shr_r, io_shl1, io_i2b_r, io_i2l_o, io_l2i_o, il_add_o, il_sub_o, il_mul_o, il_neg_o, ib_bit, Int.toNat_natCast, true_implies, false_implies, implies_true, and_true, true_and, and_self, not_true_eq_false, not_false_eq_true, wa_0, wa_1, il_cmp_o, il_cmp0, il_cmp1, il_cmp2, io_bit1, ibt0, ibt1, ibt00, ibt11, ibt10, ibt01, Int.ofNat_lt, Int.ofNat_le, Int.ofNat_inj, Nat.lt_irrefl, Int.lt_irrefl, Int.toNat_one, Int.toNat_zero, Bool.false_eq_true, reduceIte, reduceCtorEq, Nat.reduceAdd, Nat.reduceMul, Nat.reduceSub, Nat.reduceLT, Nat.reduceLeDiff, Nat.reduceEqDiff, Int.reduceNeg, Int.reduceAdd, Int.reduceMul, Int.reduceSub, Int.reduceLT, Int.reduceLE, Int.reduceEq, Int.reduceToNat, Int.reduceNatCast, h3, hF, hT, hA, hi, eF, eT, hcT, eC, wp_shifted hg h2 k3 k4, wp_minus hg h2 k4, il_shl1, lb_orP]
          refine ih' _ (fun x hx => ?_) _ _
          rw [qhit_f k3 (by omega) eF eT (by omega), lb_P _ (e64 x hx)]
          simp [eC, eq_comm]
    · by_cases eT : qT G i = v
      · by_cases eC : c (qF G i) = -1
        · simp (contextual := true) (disch := first | assumption | omega | exact il_cqA _ _ | exact il_cqB _ _) only [wi_20_0, wi_20_1, wi_20_3, wi_20_4, wi_20_8, wi_20_9, wi_20_12, wi_20_15, wi_20_16, wi_20_18, wi_20_19, wi_20_22, wi_20_24, wi_20_26, wi_20_27, wi_20_30, wi_20_32, wi_20_33, wi_20_36, wi_20_38, wi_20_39, wi_20_42, wi_20_45, wi_20_48, wi_20_49, wi_20_50, wi_20_52, wi_20_55, wi_20_57, wi_20_58, wi_20_61, wi_20_62, wi_20_64, wi_20_65, wi_20_66, wi_20_69, wi_20_70, wi_20_73, wi_20_75, wi_20_76, wi_20_77, wi_20_80, wi_20_81, wi_20_84, wi_20_86, wi_20_87, wi_20_90, wi_20_91, wi_20_92, wi_20_93, wi_20_96, wi_20_98, wi_20_99, wi_20_102, wi_20_104, wi_20_106, wi_20_107, wi_20_108, wi_20_109, wi_20_111, wi_20_112, wi_20_114, wi_20_117, wi_20_118, wi_20_119, wi_20_121, wi_20_124, wi_20_127, wi_20_129, wi_20_132, wi_20_133, wi_20_134, wi_20_135, wi_20_136, wi_20_137, wi_20_138, wi_20_139, wi_6_0, wi_6_1, wi_6_4, wi_6_5, wi_6_6, wi_6_7, wi_6_10, wi_6_11, wi_6_14, wi_6_15, wi_6_16, wi_6_17, wi_6_18, wi_6_21, wi_6_22, wi_6_23, wi_6_24, wi_6_27, wi_6_28, wi_6_31, wi_6_32, wi_6_33, wi_6_36, wi_6_37, io_add_o, io_sub_o, io_mul_o, io_neg_o, io_and_r, io_or_r, io_xor_r, io_nd_r, io_shr_r, io_shl1, io_i2b_r, io_i2l_o, io_l2i_o, il_add_o, il_sub_o, il_mul_o, il_neg_o, ib_bit, Int.toNat_natCast, true_implies, false_implies, implies_true, and_true, true_and, and_self, not_true_eq_false, not_false_eq_true, wa_0, wa_1, il_cmp_o, il_cmp0, il_cmp1, il_cmp2, io_bit1, ibt0, ibt1, ibt00, ibt11, ibt10, ibt01, Int.ofNat_lt, Int.ofNat_le, Int.ofNat_inj, Nat.lt_irrefl, Int.lt_irrefl, Int.toNat_one, Int.toNat_zero, Bool.false_eq_true, reduceIte, reduceCtorEq, Nat.reduceAdd, Nat.reduceMul, Nat.reduceSub, Nat.reduceLT, Nat.reduceLeDiff, Nat.reduceEqDiff, Int.reduceNeg, Int.reduceAdd, Int.reduceMul, Int.reduceSub, Int.reduceLT, Int.reduceLE, Int.reduceEq, Int.reduceToNat, Int.reduceNatCast, h3, hF, hT, hA, hi, eF, eT, hcF, eC]
          refine ih' _ (fun x hx => ?_) _ _
          rw [qhit_t eF eT, eC]
          simp
        · simp (contextual := true) (disch := first | assumption | omega | exact il_cqA _ _ | exact il_cqB _ _) only [wi_20_0, wi_20_1, wi_20_3, wi_20_4, wi_20_8, wi_20_9, wi_20_12, wi_20_15, wi_20_16, wi_20_18, wi_20_19, wi_20_22, wi_20_24, wi_20_26, wi_20_27, wi_20_30, wi_20_32, wi_20_33, wi_20_36, wi_20_38, wi_20_39, wi_20_42, wi_20_45, wi_20_48, wi_20_49, wi_20_50, wi_20_52, wi_20_55, wi_20_57, wi_20_58, wi_20_61, wi_20_62, wi_20_64, wi_20_65, wi_20_66, wi_20_69, wi_20_70, wi_20_73, wi_20_75, wi_20_76, wi_20_77, wi_20_80, wi_20_81, wi_20_84, wi_20_86, wi_20_87, wi_20_90, wi_20_91, wi_20_92, wi_20_93, wi_20_96, wi_20_98, wi_20_99, wi_20_102, wi_20_104, wi_20_106, wi_20_107, wi_20_108, wi_20_109, wi_20_111, wi_20_112, wi_20_114, wi_20_117, wi_20_118, wi_20_119, wi_20_121, wi_20_124, wi_20_127, wi_20_129, wi_20_132, wi_20_133, wi_20_134, wi_20_135, wi_20_136, wi_20_137, wi_20_138, wi_20_139, wi_6_0, wi_6_1, wi_6_4, wi_6_5, wi_6_6, wi_6_7, wi_6_10, wi_6_11, wi_6_14, wi_6_15, wi_6_16, wi_6_17, wi_6_18, wi_6_21, wi_6_22, wi_6_23, wi_6_24, wi_6_27, wi_6_28, wi_6_31, wi_6_32, wi_6_33, wi_6_36, wi_6_37, io_add_o, io_sub_o, io_mul_o, io_neg_o, io_and_r, io_or_r, io_xor_r, io_nd_r, io_shr_r, io_shl1, io_i2b_r, io_i2l_o, io_l2i_o, il_add_o, il_sub_o, il_mul_o, il_neg_o, ib_bit, Int.toNat_natCast, true_implies, false_implies, implies_true, and_true, true_and, and_self, not_true_eq_false, not_false_eq_true, wa_0, wa_1, il_cmp_o, il_cmp0, il_cmp1, il_cmp2, io_bit1, ibt0, ibt1, ibt00, ibt11, ibt10, ibt01, Int.ofNat_lt, Int.ofNat_le, Int.ofNat_inj, Nat.lt_irrefl, Int.lt_irrefl, Int.toNat_one, Int.toNat_zero, Bool.false_eq_true, reduceIte, reduceCtorEq, Nat.reduceAdd, Nat.reduceMul, Nat.reduceSub, Nat.reduceLT, Nat.reduceLeDiff, Nat.reduceEqDiff, Int.reduceNeg, Int.reduceAdd, Int.reduceMul, Int.reduceSub, Int.reduceLT, Int.reduceLE, Int.reduceEq, Int.reduceToNat, Int.reduceNatCast, h3, hF, hT, hA, hi, eF, eT, hcF, eC, wp_shifted hg h2 k3 k4, il_shl1, lb_orP]
          refine ih' _ (fun x hx => ?_) _ _
          rw [qhit_t eF eT, lb_P _ (e64 x hx)]
          simp [eC, eq_comm]
      · simp (contextual := true) (disch := first | assumption | omega | exact il_cqA _ _ | exact il_cqB _ _) only [wi_20_0, wi_20_1, wi_20_3, wi_20_4, wi_20_8, wi_20_9, wi_20_12, wi_20_15, wi_20_16, wi_20_18, wi_20_19, wi_20_22, wi_20_24, wi_20_26, wi_20_27, wi_20_30, wi_20_32, wi_20_33, wi_20_36, wi_20_38, wi_20_39, wi_20_42, wi_20_45, wi_20_48, wi_20_49, wi_20_50, wi_20_52, wi_20_55, wi_20_57, wi_20_58, wi_20_61, wi_20_62, wi_20_64, wi_20_65, wi_20_66, wi_20_69, wi_20_70, wi_20_73, wi_20_75, wi_20_76, wi_20_77, wi_20_80, wi_20_81, wi_20_84, wi_20_86, wi_20_87, wi_20_90, wi_20_91, wi_20_92, wi_20_93, wi_20_96, wi_20_98, wi_20_99, wi_20_102, wi_20_104, wi_20_106, wi_20_107, wi_20_108, wi_20_109, wi_20_111, wi_20_112, wi_20_114, wi_20_117, wi_20_118, wi_20_119, wi_20_121, wi_20_124, wi_20_127, wi_20_129, wi_20_132, wi_20_133, wi_20_134, wi_20_135, wi_20_136, wi_20_137, wi_20_138, wi_20_139, wi_6_0, wi_6_1, wi_6_4, wi_6_5, wi_6_6, wi_6_7, wi_6_10, wi_6_11, wi_6_14, wi_6_15, wi_6_16, wi_6_17, wi_6_18, wi_6_21, wi_6_22, wi_6_23, wi_6_24, wi_6_27, wi_6_28, wi_6_31, wi_6_32, wi_6_33, wi_6_36, wi_6_37, io_add_o, io_sub_o, io_mul_o, io_neg_o, io_and_r, io_or_r, io_xor_r, io_nd_r, io_shr_r, io_shl1, io_i2b_r, io_i2l_o, io_l2i_o, il_add_o, il_sub_o, il_mul_o, il_neg_o, ib_bit, Int.toNat_natCast, true_implies, false_implies, implies_true, and_true, true_and, and_self, not_true_eq_false, not_false_eq_true, wa_0, wa_1, il_cmp_o, il_cmp0, il_cmp1, il_cmp2, io_bit1, ibt0, ibt1, ibt00, ibt11, ibt10, ibt01, Int.ofNat_lt, Int.ofNat_le, Int.ofNat_inj, Nat.lt_irrefl, Int.lt_irrefl, Int.toNat_one, Int.toNat_zero, Bool.false_eq_true, reduceIte, reduceCtorEq, Nat.reduceAdd, Nat.reduceMul, Nat.reduceSub, Nat.reduceLT, Nat.reduceLeDiff, Nat.reduceEqDiff, Int.reduceNeg, Int.reduceAdd, Int.reduceMul, Int.reduceSub, Int.reduceLT, Int.reduceLE, Int.reduceEq, Int.reduceToNat, Int.reduceNatCast, h3, hF, hT, hA, hi, eF, eT]
        refine ih' _ (fun x hx => ?_) _ _
        rw [qhit_n eF eT, Bool.or_false]
  · rw [wi_20_6]
    simp (contextual := true) (disch := first | assumption | omega | exact il_cqA _ _ | exact il_cqB _ _) only [wi_20_0, wi_20_1, wi_20_3, wi_20_4, wi_20_8, wi_20_9, wi_20_12, wi_20_15, wi_20_16, wi_20_18, wi_20_19, wi_20_22, wi_20_24, wi_20_26, wi_20_27, wi_20_30, wi_20_32, wi_20_33, wi_20_36, wi_20_38, wi_20_39, wi_20_42, wi_20_45, wi_20_48, wi_20_49, wi_20_50, wi_20_52, wi_20_55, wi_20_57, wi_20_58, wi_20_61, wi_20_62, wi_20_64, wi_20_65, wi_20_66, wi_20_69, wi_20_70, wi_20_73, wi_20_75, wi_20_76, wi_20_77, wi_20_80, wi_20_81, wi_20_84, wi_20_86, wi_20_87, wi_20_90, wi_20_91, wi_20_92, wi_20_93, wi_20_96, wi_20_98, wi_20_99, wi_20_102, wi_20_104, wi_20_106, wi_20_107, wi_20_108, wi_20_109, wi_20_111, wi_20_112, wi_20_114, wi_20_117, wi_20_118, wi_20_119, wi_20_121, wi_20_124, wi_20_127, wi_20_129, wi_20_132, wi_20_133, wi_20_134, wi_20_135, wi_20_136, wi_20_137, wi_20_138, wi_20_139, io_add_o, io_sub_o, io_mul_o, io_neg_o, io_and_r, io_or_r, io_xor_r, io_nd_r, io_shr_r, io_shl1, io_i2b_r, io_i2l_o, io_l2i_o, il_add_o, il_sub_o, il_mul_o, il_neg_o, ib_bit, Int.toNat_natCast, true_implies, false_implies, implies_true, and_true, true_and, and_self, not_true_eq_false, not_false_eq_true, wa_0, wa_1, il_cmp_o, il_cmp0, il_cmp1, il_cmp2, io_bit1, ibt0, ibt1, ibt00, ibt11, ibt10, ibt01, Int.ofNat_lt, Int.ofNat_le, Int.ofNat_inj, Nat.lt_irrefl, Int.lt_irrefl, Int.toNat_one, Int.toNat_zero, Bool.false_eq_true, reduceIte, reduceCtorEq, Nat.reduceAdd, Nat.reduceMul, Nat.reduceSub, Nat.reduceLT, Nat.reduceLeDiff, Nat.reduceEqDiff, Int.reduceNeg, Int.reduceAdd, Int.reduceMul, Int.reduceSub, Int.reduceLT, Int.reduceLE, Int.reduceEq, Int.reduceToNat, Int.reduceNatCast, h3, lb_open]
    have e : qbits (fun x => !B.getLsbD x) n = qbits (fun x => !qany (qhit G c v x) (qK G)) n := qbits_congr fun x hx => by rw [hB x (by omega)]
    rw [e]
end SG
