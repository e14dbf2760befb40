/-! counting, searching, gains, colors -/
def qcnt (f : Nat → Bool) : Nat → Nat
  | 0 => 0
  | n + 1 => qcnt f n + (f n).toNat
def qany (f : Nat → Bool) : Nat → Bool
  | 0 => false
  | n + 1 => qany f n || f n
def qbits (f : Nat → Bool) : Nat → Nat
  | 0 => 0
  | n + 1 => qbits f n + if f n then 2 ^ n else 0
def qfst (f : Nat → Bool) : Nat → Int
  | 0 => -1
  | n + 1 => if qfst f n = -1 then (if f n then (n : Int) else -1) else qfst f n
theorem qcnt_le (f : Nat → Bool) (n : Nat) : qcnt f n ≤ n := by
  induction n with
  | zero => exact Nat.le_refl _
  | succ n ih =>
    have : (f n).toNat ≤ 1 := Bool.toNat_le _
    unfold qcnt
    omega
theorem qcnt_congr {f g : Nat → Bool} {n : Nat} (h : ∀ i, i < n → f i = g i) : qcnt f n = qcnt g n := by
  induction n with
  | zero => rfl
  | succ n ih =>
    unfold qcnt
    rw [ih (fun i hi => h i (by omega)), h n (by omega)]
theorem qbits_lt (f : Nat → Bool) (n : Nat) : qbits f n < 2 ^ n := by
  induction n with
  | zero => exact Nat.one_pos
  | succ n ih =>
    unfold qbits
    rw [Nat.pow_succ]
    split <;> omega
theorem qbits_bit (f : Nat → Bool) (n i : Nat) : (qbits f n).testBit i = (decide (i < n) && f i) := by
  induction n with
  | zero => simp [qbits]
  | succ n ih =>
    unfold qbits
    have hlt := qbits_lt f n
    split
    · rename_i hf
      rw [Nat.add_comm]
      by_cases e : i = n
      · subst e
        rw [Nat.testBit_two_pow_add_eq, ih]
        simp [hf]
      · by_cases hi : i < n
        · rw [Nat.testBit_two_pow_add_gt hi, ih]
          simp [hi, show i < n + 1 by omega]
        · rw [Nat.testBit_lt_two_pow (Nat.lt_of_lt_of_le (show 2 ^ n + qbits f n < 2 ^ (n + 1) by rw [Nat.pow_succ]; omega) (Nat.pow_le_pow_right (by decide) (show n + 1 ≤ i by omega)))]
          simp [show ¬ i < n + 1 by omega]
    · rename_i hf
      rw [Nat.add_zero, ih]
      by_cases e : i = n
      · subst e
        simp [hf]
      · have : (i < n) ↔ (i < n + 1) := by omega
        simp [this]
theorem qbits_eq {f : Nat → Bool} {n x : Nat} (h : ∀ i, x.testBit i = (decide (i < n) && f i)) : x = qbits f n := Nat.eq_of_testBit_eq fun i => by rw [h, qbits_bit]
theorem qfst_none {f : Nat → Bool} {n : Nat} : qfst f n = -1 ↔ ∀ i, i < n → f i = false := by
  induction n with
  | zero => exact ⟨fun _ i hi => absurd hi (Nat.not_lt_zero i), fun _ => rfl⟩
  | succ n ih =>
    unfold qfst
    constructor
    · intro h i hi
      split at h
      · rename_i h1
        split at h
        · exact absurd h (by omega)
        · rename_i h2
          by_cases e : i = n
          · subst e; simpa using h2
          · exact ih.1 h1 i (by omega)
      · rename_i h1
        exact absurd h h1
    · intro h
      rw [if_pos (ih.2 fun i hi => h i (by omega)), if_neg (by rw [h n (by omega)]; decide)]
theorem qfst_hit {f : Nat → Bool} {n i : Nat} (hi : i < n) (hf : f i = true) (hb : ∀ j, j < i → f j = false) : qfst f n = (i : Int) := by
  induction n with
  | zero => exact absurd hi (Nat.not_lt_zero i)
  | succ n ih =>
    unfold qfst
    by_cases e : i = n
    · subst e
      rw [if_pos (qfst_none.2 hb), if_pos hf]
    · rw [ih (by omega), if_neg (by omega)]
theorem qfst_congr {f g : Nat → Bool} {n : Nat} (h : ∀ i, i < n → f i = g i) : qfst f n = qfst g n := by
  induction n with
  | zero => rfl
  | succ n ih =>
    unfold qfst
    rw [ih (fun i hi => h i (by omega)), h n (by omega)]
theorem qfst_rg (f : Nat → Bool) (n : Nat) : -1 ≤ qfst f n ∧ qfst f n < n := by
  induction n with
  | zero => exact ⟨Int.le_refl (-1), (by show (-1 : Int) < 0; decide)⟩
  | succ n ih =>
    unfold qfst
    split
    · split <;> omega
    · omega
/-- gains added and taken away -/
def qpl (m a b : Nat) : Nat := if m ≤ a + b then a + b - m else a + b
def qmi (m a b : Nat) : Nat := if a < b then a + m - b else a - b
/-- a color along a gain -/
def qsh (m c b : Nat) : Nat := if c = 0 then 0 else c - (c - 1) % m + qpl m ((c - 1) % m) b
theorem qpl_lt {m a b : Nat} (ha : a < m) (hb : b < m) : qpl m a b < m := by
  unfold qpl
  split <;> omega
theorem qmi_lt {m a b : Nat} (ha : a < m) (hb : b < m) : qmi m a b < m := by
  unfold qmi
  split <;> omega
/-- all arcs -/
def qU (G : q_G) : Nat := 2 ^ qK G - 1
theorem qU_le {G : q_G} (h : q_ok G) : qU G ≤ 4095 := by
  have : 2 ^ qK G ≤ 2 ^ 12 := Nat.pow_le_pow_right (by decide) h.1.2.2.2.2.1
  unfold qU
  omega
section SG
variable {N : Nat} {xs : Nat → Int32} {d : Nat} {M : gg_M} {cc cs : Nat} {Q : gg_O → Prop} {g : Nat} {G : q_G}
theorem wp_plus {m : Nat} {x y : Int} (hg : gs_G g) (hm : M g 1 = (m : Int)) (hm2 : m ≤ 12) (hx : 0 ≤ x) (hx2 : x ≤ 1000) (hy : 0 ≤ y) (hy2 : y ≤ 1000) :
    wp N xs d 9 0 [gr g, (0, x), (0, y), (3, 0)] [] (gk_R, M, 142, cc, cs) Q ↔ Q ((1, (0, (qpl m x.toNat y.toNat : Int))), (gk_R, M, 142, cc, cs)) := by
  refine wp_det ?_
  obtain ⟨a, rfl⟩ := Int.eq_ofNat_of_zero_le hx
  obtain ⟨b, rfl⟩ := Int.eq_ofNat_of_zero_le hy
  by_cases h : m ≤ a + b
  · simp (contextual := true) (disch := first | assumption | omega) only [wi_9_0, wi_9_1, wi_9_2, wi_9_3, wi_9_4, wi_9_5, wi_9_6, wi_9_9, wi_9_12, wi_9_13, wi_9_14, wi_9_17, wi_9_18, wi_9_21, wi_9_22, io_add_o, io_sub_o, io_mul_o, io_neg_o, io_and_r, io_or_r, io_xor_r, io_nd_r, io_shr_r, io_shl1, io_i2b_r, io_i2l_o, io_l2i_o, il_add_o, il_sub_o, il_mul_o, il_neg_o, ib_bit, Int.toNat_natCast, true_implies, false_implies, implies_true, and_true, true_and, and_self, not_true_eq_false, not_false_eq_true, wa_0, wa_1, il_cmp_o, il_cmp0, il_cmp1, il_cmp2, io_bit1, ibt0, ibt1, ibt00, ibt11, ibt10, ibt01, Int.ofNat_lt, Int.ofNat_le, Int.ofNat_inj, Nat.lt_irrefl, Int.lt_irrefl, Int.toNat_one, Int.toNat_zero, Bool.false_eq_true, reduceIte, reduceCtorEq, Nat.reduceAdd, Nat.reduceMul, Nat.reduceSub, Nat.reduceLT, Nat.reduceLeDiff, Nat.reduceEqDiff, Int.reduceNeg, Int.reduceAdd, Int.reduceMul, Int.reduceSub, Int.reduceLT, Int.reduceLE, Int.reduceEq, Int.reduceToNat, Int.reduceNatCast, hm]
    unfold qpl
    rw [if_pos h]
    refine ⟨fun _ => by omega, fun _ => ?_⟩
    rw [show ((a + b - m : Nat) : Int) = (a : Int) + b - m by omega]
  · simp (contextual := true) (disch := first | assumption | omega) only [wi_9_0, wi_9_1, wi_9_2, wi_9_3, wi_9_4, wi_9_5, wi_9_6, wi_9_9, wi_9_12, wi_9_13, wi_9_14, wi_9_17, wi_9_18, wi_9_21, wi_9_22, io_add_o, io_sub_o, io_mul_o, io_neg_o, io_and_r, io_or_r, io_xor_r, io_nd_r, io_shr_r, io_shl1, io_i2b_r, io_i2l_o, io_l2i_o, il_add_o, il_sub_o, il_mul_o, il_neg_o, ib_bit, Int.toNat_natCast, true_implies, false_implies, implies_true, and_true, true_and, and_self, not_true_eq_false, not_false_eq_true, wa_0, wa_1, il_cmp_o, il_cmp0, il_cmp1, il_cmp2, io_bit1, ibt0, ibt1, ibt00, ibt11, ibt10, ibt01, Int.ofNat_lt, Int.ofNat_le, Int.ofNat_inj, Nat.lt_irrefl, Int.lt_irrefl, Int.toNat_one, Int.toNat_zero, Bool.false_eq_true, reduceIte, reduceCtorEq, Nat.reduceAdd, Nat.reduceMul, Nat.reduceSub, Nat.reduceLT, Nat.reduceLeDiff, Nat.reduceEqDiff, Int.reduceNeg, Int.reduceAdd, Int.reduceMul, Int.reduceSub, Int.reduceLT, Int.reduceLE, Int.reduceEq, Int.reduceToNat, Int.reduceNatCast, hm]
    unfold qpl
    rw [if_neg h]
    refine ⟨fun _ => ?_, fun _ => by omega⟩
    rw [show ((a + b : Nat) : Int) = (a : Int) + b by omega]
theorem wp_minus {m : Nat} {x y : Int} (hg : gs_G g) (hm : M g 1 = (m : Int)) (hm2 : m ≤ 12) (hx : 0 ≤ x) (hx2 : x ≤ 1000) (hy : 0 ≤ y) (hy2 : y ≤ m) :
    wp N xs d 10 0 [gr g, (0, x), (0, y), (3, 0)] [] (gk_R, M, 142, cc, cs) Q ↔ Q ((1, (0, (qmi m x.toNat y.toNat : Int))), (gk_R, M, 142, cc, cs)) := by
  refine wp_det ?_
  obtain ⟨a, rfl⟩ := Int.eq_ofNat_of_zero_le hx
  obtain ⟨b, rfl⟩ := Int.eq_ofNat_of_zero_le hy
  by_cases h : a < b
  · simp (contextual := true) (disch := first | assumption | omega) only [wi_10_0, wi_10_1, wi_10_2, wi_10_3, wi_10_4, wi_10_5, wi_10_8, wi_10_9, wi_10_10, wi_10_13, wi_10_14, wi_10_17, wi_10_18, io_add_o, io_sub_o, io_mul_o, io_neg_o, io_and_r, io_or_r, io_xor_r, io_nd_r, io_shr_r, io_shl1, io_i2b_r, io_i2l_o, io_l2i_o, il_add_o, il_sub_o, il_mul_o, il_neg_o, ib_bit, Int.toNat_natCast, true_implies, false_implies, implies_true, and_true, true_and, and_self, not_true_eq_false, not_false_eq_true, wa_0, wa_1, il_cmp_o, il_cmp0, il_cmp1, il_cmp2, io_bit1, ibt0, ibt1, ibt00, ibt11, ibt10, ibt01, Int.ofNat_lt, Int.ofNat_le, Int.ofNat_inj, Nat.lt_irrefl, Int.lt_irrefl, Int.toNat_one, Int.toNat_zero, Bool.false_eq_true, reduceIte, reduceCtorEq, Nat.reduceAdd, Nat.reduceMul, Nat.reduceSub, Nat.reduceLT, Nat.reduceLeDiff, Nat.reduceEqDiff, Int.reduceNeg, Int.reduceAdd, Int.reduceMul, Int.reduceSub, Int.reduceLT, Int.reduceLE, Int.reduceEq, Int.reduceToNat, Int.reduceNatCast, hm]
    unfold qmi
    rw [if_pos h]
    refine ⟨fun _ => ?_, fun _ => by omega⟩
    rw [show ((a + m - b : Nat) : Int) = (a : Int) - b + m by omega]
  · simp (contextual := true) (disch := first | assumption | omega) only [wi_10_0, wi_10_1, wi_10_2, wi_10_3, wi_10_4, wi_10_5, wi_10_8, wi_10_9, wi_10_10, wi_10_13, wi_10_14, wi_10_17, wi_10_18, io_add_o, io_sub_o, io_mul_o, io_neg_o, io_and_r, io_or_r, io_xor_r, io_nd_r, io_shr_r, io_shl1, io_i2b_r, io_i2l_o, io_l2i_o, il_add_o, il_sub_o, il_mul_o, il_neg_o, ib_bit, Int.toNat_natCast, true_implies, false_implies, implies_true, and_true, true_and, and_self, not_true_eq_false, not_false_eq_true, wa_0, wa_1, il_cmp_o, il_cmp0, il_cmp1, il_cmp2, io_bit1, ibt0, ibt1, ibt00, ibt11, ibt10, ibt01, Int.ofNat_lt, Int.ofNat_le, Int.ofNat_inj, Nat.lt_irrefl, Int.lt_irrefl, Int.toNat_one, Int.toNat_zero, Bool.false_eq_true, reduceIte, reduceCtorEq, Nat.reduceAdd, Nat.reduceMul, Nat.reduceSub, Nat.reduceLT, Nat.reduceLeDiff, Nat.reduceEqDiff, Int.reduceNeg, Int.reduceAdd, Int.reduceMul, Int.reduceSub, Int.reduceLT, Int.reduceLE, Int.reduceEq, Int.reduceToNat, Int.reduceNatCast, hm]
    unfold qmi
    rw [if_neg h]
    refine ⟨fun _ => by omega, fun _ => ?_⟩
    rw [show ((a - b : Nat) : Int) = (a : Int) - b by omega]
theorem wp_allArcs (hG : q_ok G) (hg : gs_G g) (h3 : M g 2 = (qK G : Int)) : wp N xs d 3 0 [gr g] [] (gk_R, M, 142, cc, cs) Q ↔ Q ((1, (0, (qU G : Int))), (gk_R, M, 142, cc, cs)) := by
  refine wp_det ?_
  have k5 := hG.1.2.2.2.2.1
  have e : 2 ^ qK G ≤ 2 ^ 12 := Nat.pow_le_pow_right (by decide) k5
  have e2 : 1 ≤ 2 ^ qK G := Nat.one_le_two_pow
  simp (contextual := true) (disch := first | assumption | omega) only [wi_3_0, wi_3_1, wi_3_2, wi_3_5, wi_3_6, wi_3_7, wi_3_8, io_add_o, io_sub_o, io_mul_o, io_neg_o, io_and_r, io_or_r, io_xor_r, io_nd_r, io_shr_r, io_shl1, io_i2b_r, io_i2l_o, io_l2i_o, il_add_o, il_sub_o, il_mul_o, il_neg_o, ib_bit, Int.toNat_natCast, true_implies, false_implies, implies_true, and_true, true_and, and_self, not_true_eq_false, not_false_eq_true, wa_0, wa_1, il_cmp_o, il_cmp0, il_cmp1, il_cmp2, io_bit1, ibt0, ibt1, ibt00, ibt11, ibt10, ibt01, Int.ofNat_lt, Int.ofNat_le, Int.ofNat_inj, Nat.lt_irrefl, Int.lt_irrefl, Int.toNat_one, Int.toNat_zero, Bool.false_eq_true, reduceIte, reduceCtorEq, Nat.reduceAdd, Nat.reduceMul, Nat.reduceSub, Nat.reduceLT, Nat.reduceLeDiff, Nat.reduceEqDiff, Int.reduceNeg, Int.reduceAdd, Int.reduceMul, Int.reduceSub, Int.reduceLT, Int.reduceLE, Int.reduceEq, Int.reduceToNat, Int.reduceNatCast, h3]
  unfold qU
  rw [show ((2 ^ qK G - 1 : Nat) : Int) = ((2 ^ qK G : Nat) : Int) - 1 by omega]
theorem tmod_n (a b : Nat) : ((a : Int)).tmod (b : Int) = ((a % b : Nat) : Int) := rfl
theorem wp_shifted {m : Nat} {x y : Int} (hg : gs_G g) (hm : M g 1 = (m : Int)) (hm1 : 1 ≤ m) (hm2 : m ≤ 12) (hx : 0 ≤ x) (hx2 : x ≤ 1000) (hy : 0 ≤ y) (hy2 : y < m) :
    wp N xs (d + 1) 18 0 [gr g, (0, x), (0, y), (3, 0)] [] (gk_R, M, 142, cc, cs) Q ↔ Q ((1, (0, (qsh m x.toNat y.toNat : Int))), (gk_R, M, 142, cc, cs)) := by
  refine wp_det ?_
  obtain ⟨a, rfl⟩ := Int.eq_ofNat_of_zero_le hx
  obtain ⟨b, rfl⟩ := Int.eq_ofNat_of_zero_le hy
  unfold qsh
  by_cases h : a = 0
  · subst h
    simp (contextual := true) (disch := first | assumption | omega) only [wi_18_0, wi_18_1, wi_18_2, wi_18_5, wi_18_6, wi_18_9, wi_18_10, wi_18_13, wi_18_14, wi_18_15, wi_18_16, wi_18_17, wi_18_18, wi_18_19, wi_18_22, wi_18_23, wi_18_24, wi_18_25, wi_18_26, wi_18_27, wi_18_28, wi_18_29, wi_18_30, wi_18_33, wi_18_34, io_add_o, io_sub_o, io_mul_o, io_neg_o, io_and_r, io_or_r, io_xor_r, io_nd_r, io_shr_r, io_shl1, io_i2b_r, io_i2l_o, io_l2i_o, il_add_o, il_sub_o, il_mul_o, il_neg_o, ib_bit, Int.toNat_natCast, true_implies, false_implies, implies_true, and_true, true_and, and_self, not_true_eq_false, not_false_eq_true, wa_0, wa_1, il_cmp_o, il_cmp0, il_cmp1, il_cmp2, io_bit1, ibt0, ibt1, ibt00, ibt11, ibt10, ibt01, Int.ofNat_lt, Int.ofNat_le, Int.ofNat_inj, Nat.lt_irrefl, Int.lt_irrefl, Int.toNat_one, Int.toNat_zero, Bool.false_eq_true, reduceIte, reduceCtorEq, Nat.reduceAdd, Nat.reduceMul, Nat.reduceSub, Nat.reduceLT, Nat.reduceLeDiff, Nat.reduceEqDiff, Int.reduceNeg, Int.reduceAdd, Int.reduceMul, Int.reduceSub, Int.reduceLT, Int.reduceLE, Int.reduceEq, Int.reduceToNat, Int.reduceNatCast, hm]
    exact fun h => absurd (show ((0 : Nat) : Int) < 1 by omega) h
  · have e : (a : Int) - 1 = ((a - 1 : Nat) : Int) := by omega
    have h5 : (a - 1) % m < m := Nat.mod_lt _ (by omega)
    have h6 : (a - 1) % m ≤ a - 1 := Nat.mod_le _ _
    have h7 := qpl_lt h5 (show b < m by omega)
    have f1 : ¬ (a : Int) < 1 := by omega
    have f2 : ¬ (m : Int) < 1 := by omega
    simp (contextual := true) (disch := first | assumption | omega) only [wi_18_0, wi_18_1, wi_18_2, wi_18_5, wi_18_6, wi_18_9, wi_18_10, wi_18_13, wi_18_14, wi_18_15, wi_18_16, wi_18_17, wi_18_18, wi_18_19, wi_18_22, wi_18_23, wi_18_24, wi_18_25, wi_18_26, wi_18_27, wi_18_28, wi_18_29, wi_18_30, wi_18_33, wi_18_34, io_add_o, io_sub_o, io_mul_o, io_neg_o, io_and_r, io_or_r, io_xor_r, io_nd_r, io_shr_r, io_shl1, io_i2b_r, io_i2l_o, io_l2i_o, il_add_o, il_sub_o, il_mul_o, il_neg_o, ib_bit, Int.toNat_natCast, true_implies, false_implies, implies_true, and_true, true_and, and_self, not_true_eq_false, not_false_eq_true, wa_0, wa_1, il_cmp_o, il_cmp0, il_cmp1, il_cmp2, io_bit1, ibt0, ibt1, ibt00, ibt11, ibt10, ibt01, Int.ofNat_lt, Int.ofNat_le, Int.ofNat_inj, Nat.lt_irrefl, Int.lt_irrefl, Int.toNat_one, Int.toNat_zero, Bool.false_eq_true, reduceIte, reduceCtorEq, Nat.reduceAdd, Nat.reduceMul, Nat.reduceSub, Nat.reduceLT, Nat.reduceLeDiff, Nat.reduceEqDiff, Int.reduceNeg, Int.reduceAdd, Int.reduceMul, Int.reduceSub, Int.reduceLT, Int.reduceLE, Int.reduceEq, Int.reduceToNat, Int.reduceNatCast, hm, e, tmod_n, f1, f2, wp_plus hg hm hm2, if_neg h]
    rw [show ((a - (a - 1) % m + qpl m ((a - 1) % m) b : Nat) : Int) = (a : Int) - ((a - 1) % m : Nat) + (qpl m ((a - 1) % m) b : Nat) by omega]
end SG
