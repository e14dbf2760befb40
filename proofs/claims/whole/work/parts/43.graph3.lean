/-! what a graph is asked: clashes, open colors -/
/-- an arc clashes with these colors at its ends -/
def qcl (G : q_G) (c : Nat → Int) (a : Nat) : Bool := decide (c (qF G a) ≠ -1 ∧ c (qT G a) ≠ -1 ∧ c (qT G a) = (qsh (qM G) (c (qF G a)).toNat (qA G a) : Int))
/-- an arc at a vertex -/
def qat (G : q_G) (v a : Nat) : Bool := decide (qF G a = v ∨ qT G a = v)
/-- the colors with one at a vertex -/
def qwith (c : Nat → Int) (v : Nat) (x : Int) : Nat → Int := fun u => if u = v then x else c u
/-- an arc clashes at the vertex v if that has the color x -/
def qhit (G : q_G) (c : Nat → Int) (v : Nat) (x : Int) (a : Nat) : Bool := qat G v a && qcl G (qwith c v x) a
theorem qsh_le {m c b : Nat} (hm : 1 ≤ m) (hb : b < m) : qsh m c b ≤ c + m := by
  unfold qsh
  split
  · omega
  · have h1 : (c - 1) % m < m := Nat.mod_lt _ (by omega)
    have := qpl_lt h1 hb
    omega
theorem qbits_or (f : Nat → Bool) (i : Nat) : qbits f i ||| 2 ^ i = qbits f i + 2 ^ i := by
  refine Nat.eq_of_testBit_eq fun j => ?_
  rw [Nat.testBit_or, Nat.testBit_two_pow, Nat.add_comm]
  have hl := qbits_lt f i
  by_cases e : i = j
  · subst e
    rw [Nat.testBit_two_pow_add_eq, Nat.testBit_lt_two_pow hl]
    simp
  · by_cases hj : j < i
    · rw [Nat.testBit_two_pow_add_gt hj]
      simp [e]
    · rw [Nat.testBit_lt_two_pow (Nat.lt_of_lt_of_le hl (Nat.pow_le_pow_right (by decide) (by omega))), Nat.testBit_lt_two_pow (Nat.lt_of_lt_of_le (show 2 ^ i + qbits f i < 2 ^ (i + 1) by rw [Nat.pow_succ]; omega) (Nat.pow_le_pow_right (by decide) (show i + 1 ≤ j by omega)))]
      simp [e]
section SG
variable {N : Nat} {xs : Nat → Int32} {d : Nat} {M : gg_M} {cc cs : Nat} {Q : gg_O → Prop} {g : Nat} {G : q_G}
theorem wp_between (hg : gs_G g) (hG : q_ok G) (h : q_C M g G) (v w : Nat) (hv : v < 8) (hw : w < 8) :
    wp N xs d 7 0 [gr g, (0, (v : Int)), (0, (w : Int)), (3, 0), (3, 0)] [] (gk_R, M, 158, cc, cs) Q ↔ Q ((1, (0, (qbits (fun a => decide ((qF G a = v ∧ qT G a = w) ∨ (qF G a = w ∧ qT G a = v))) (qK G) : Int))), (gk_R, M, 158, cc, cs)) := by
  refine wp_det ?_
  obtain ⟨⟨h1, h2, h3, h4, h5⟩, hF, hT, hA, hW, hP, hO⟩ := id h
  obtain ⟨⟨k1, k2, k3, k4, k5, k6, k7, k8⟩, hk, hp, hp2⟩ := id hG
  simp (contextual := true) (disch := first | assumption | omega) only [wi_7_0, wi_7_1, wi_7_2, wi_7_3, wi_7_7, wi_7_8, wi_7_11, wi_7_14, wi_7_15, wi_7_18, wi_7_20, wi_7_21, wi_7_22, wi_7_25, wi_7_26, wi_7_29, wi_7_31, wi_7_32, wi_7_33, wi_7_36, wi_7_37, wi_7_40, wi_7_42, wi_7_43, wi_7_44, wi_7_47, wi_7_48, wi_7_51, wi_7_53, wi_7_54, wi_7_55, wi_7_58, wi_7_59, wi_7_60, wi_7_62, wi_7_63, wi_7_64, wi_7_65, wi_7_68, wi_7_71, wi_7_72, io_add_o, io_sub_o, io_mul_o, io_neg_o, io_and_r, io_or_r, io_xor_r, io_nd_r, io_shr_r, io_shl1, io_i2b_r, io_i2l_o, io_l2i_o, il_add_o, il_sub_o, il_mul_o, il_neg_o, ib_bit, Int.toNat_natCast, true_implies, false_implies, implies_true, and_true, true_and, and_self, not_true_eq_false, not_false_eq_true, wa_0, wa_1, il_cmp_o, il_cmp0, il_cmp1, il_cmp2, io_bit1, ibt0, ibt1, ibt00, ibt11, ibt10, ibt01, Int.ofNat_lt, Int.ofNat_le, Int.ofNat_inj, Nat.lt_irrefl, Int.lt_irrefl, Int.toNat_one, Int.toNat_zero, Bool.false_eq_true, reduceIte, reduceCtorEq, Nat.reduceAdd, Nat.reduceMul, Nat.reduceSub, Nat.reduceLT, Nat.reduceLeDiff, Nat.reduceEqDiff, Int.reduceNeg, Int.reduceAdd, Int.reduceMul, Int.reduceSub, Int.reduceLT, Int.reduceLE, Int.reduceEq, Int.reduceToNat, Int.reduceNatCast]
  refine wl_for (P := fun i => wp N xs d 7 5 [gr g, (0, (v : Int)), (0, (w : Int)), (0, (qbits (fun a => decide ((qF G a = v ∧ qT G a = w) ∨ (qF G a = w ∧ qT G a = v))) i : Int)), (0, (i : Int))] [] (gk_R, M, 158, cc, cs) _) (qK G) (fun i hi ih => ?_) ?_
  · have := hk i hi
    have := hF i hi
    have hl := qbits_lt (fun a => decide ((qF G a = v ∧ qT G a = w) ∨ (qF G a = w ∧ qT G a = v))) i
    have h2 : 2 ^ i ≤ 2 ^ 12 := Nat.pow_le_pow_right (by decide) (by omega)
    rw [wi_7_5]
    simp (contextual := true) (disch := first | assumption | omega) only [wi_7_0, wi_7_1, wi_7_2, wi_7_3, wi_7_7, wi_7_8, wi_7_11, wi_7_14, wi_7_15, wi_7_18, wi_7_20, wi_7_21, wi_7_22, wi_7_25, wi_7_26, wi_7_29, wi_7_31, wi_7_32, wi_7_33, wi_7_36, wi_7_37, wi_7_40, wi_7_42, wi_7_43, wi_7_44, wi_7_47, wi_7_48, wi_7_51, wi_7_53, wi_7_54, wi_7_55, wi_7_58, wi_7_59, wi_7_60, wi_7_62, wi_7_63, wi_7_64, wi_7_65, wi_7_68, wi_7_71, wi_7_72, io_add_o, io_sub_o, io_mul_o, io_neg_o, io_and_r, io_or_r, io_xor_r, io_nd_r, io_shr_r, io_shl1, io_i2b_r, io_i2l_o, io_l2i_o, il_add_o, il_sub_o, il_mul_o, il_neg_o, ib_bit, Int.toNat_natCast, true_implies, false_implies, implies_true, and_true, true_and, and_self, not_true_eq_false, not_false_eq_true, wa_0, wa_1, il_cmp_o, il_cmp0, il_cmp1, il_cmp2, io_bit1, ibt0, ibt1, ibt00, ibt11, ibt10, ibt01, Int.ofNat_lt, Int.ofNat_le, Int.ofNat_inj, Nat.lt_irrefl, Int.lt_irrefl, Int.toNat_one, Int.toNat_zero, Bool.false_eq_true, reduceIte, reduceCtorEq, Nat.reduceAdd, Nat.reduceMul, Nat.reduceSub, Nat.reduceLT, Nat.reduceLeDiff, Nat.reduceEqDiff, Int.reduceNeg, Int.reduceAdd, Int.reduceMul, Int.reduceSub, Int.reduceLT, Int.reduceLE, Int.reduceEq, Int.reduceToNat, Int.reduceNatCast, h3, hF, hT, hi, qbits_or]
    rw [qbits] at ih
    grind
  · rw [wi_7_5]
    simp (contextual := true) (disch := first | assumption | omega) only [wi_7_0, wi_7_1, wi_7_2, wi_7_3, wi_7_7, wi_7_8, wi_7_11, wi_7_14, wi_7_15, wi_7_18, wi_7_20, wi_7_21, wi_7_22, wi_7_25, wi_7_26, wi_7_29, wi_7_31, wi_7_32, wi_7_33, wi_7_36, wi_7_37, wi_7_40, wi_7_42, wi_7_43, wi_7_44, wi_7_47, wi_7_48, wi_7_51, wi_7_53, wi_7_54, wi_7_55, wi_7_58, wi_7_59, wi_7_60, wi_7_62, wi_7_63, wi_7_64, wi_7_65, wi_7_68, wi_7_71, wi_7_72, io_add_o, io_sub_o, io_mul_o, io_neg_o, io_and_r, io_or_r, io_xor_r, io_nd_r, io_shr_r, io_shl1, io_i2b_r, io_i2l_o, io_l2i_o, il_add_o, il_sub_o, il_mul_o, il_neg_o, ib_bit, Int.toNat_natCast, true_implies, false_implies, implies_true, and_true, true_and, and_self, not_true_eq_false, not_false_eq_true, wa_0, wa_1, il_cmp_o, il_cmp0, il_cmp1, il_cmp2, io_bit1, ibt0, ibt1, ibt00, ibt11, ibt10, ibt01, Int.ofNat_lt, Int.ofNat_le, Int.ofNat_inj, Nat.lt_irrefl, Int.lt_irrefl, Int.toNat_one, Int.toNat_zero, Bool.false_eq_true, reduceIte, reduceCtorEq, Nat.reduceAdd, Nat.reduceMul, Nat.reduceSub, Nat.reduceLT, Nat.reduceLeDiff, Nat.reduceEqDiff, Int.reduceNeg, Int.reduceAdd, Int.reduceMul, Int.reduceSub, Int.reduceLT, Int.reduceLE, Int.reduceEq, Int.reduceToNat, Int.reduceNatCast, h3]
theorem wp_painted (hg : gs_G g) (hG : q_ok G) (h : q_C M g G) :
    wp N xs d 24 0 [gr g, (3, 0), (3, 0)] [] (gk_R, M, 158, cc, cs) Q ↔ Q ((1, (0, (qcnt (fun v => decide (qP G v ≠ -1)) (qN G) : Int))), (gk_R, M, 158, cc, cs)) := by
  refine wp_det ?_
  obtain ⟨⟨h1, h2, h3, h4, h5⟩, hF, hT, hA, hW, hP, hO⟩ := id h
  obtain ⟨⟨k1, k2, k3, k4, k5, k6, k7, k8⟩, hk, hp, hp2⟩ := id hG
  simp (contextual := true) (disch := first | assumption | omega) only [wi_24_0, wi_24_1, wi_24_2, wi_24_3, wi_24_5, wi_24_6, wi_24_9, wi_24_12, wi_24_13, wi_24_14, wi_24_17, wi_24_18, wi_24_19, wi_24_20, wi_24_23, wi_24_24, wi_24_27, wi_24_28, wi_24_29, wi_24_30, wi_24_33, wi_24_36, wi_24_37, io_add_o, io_sub_o, io_mul_o, io_neg_o, io_and_r, io_or_r, io_xor_r, io_nd_r, io_shr_r, io_shl1, io_i2b_r, io_i2l_o, io_l2i_o, il_add_o, il_sub_o, il_mul_o, il_neg_o, ib_bit, Int.toNat_natCast, true_implies, false_implies, implies_true, and_true, true_and, and_self, not_true_eq_false, not_false_eq_true, wa_0, wa_1, il_cmp_o, il_cmp0, il_cmp1, il_cmp2, io_bit1, ibt0, ibt1, ibt00, ibt11, ibt10, ibt01, Int.ofNat_lt, Int.ofNat_le, Int.ofNat_inj, Nat.lt_irrefl, Int.lt_irrefl, Int.toNat_one, Int.toNat_zero, Bool.false_eq_true, reduceIte, reduceCtorEq, Nat.reduceAdd, Nat.reduceMul, Nat.reduceSub, Nat.reduceLT, Nat.reduceLeDiff, Nat.reduceEqDiff, Int.reduceNeg, Int.reduceAdd, Int.reduceMul, Int.reduceSub, Int.reduceLT, Int.reduceLE, Int.reduceEq, Int.reduceToNat, Int.reduceNatCast]
  refine wl_for (P := fun i => wp N xs d 24 4 [gr g, (0, (qcnt (fun v => decide (qP G v ≠ -1)) i : Int)), (0, (i : Int))] [] (gk_R, M, 158, cc, cs) _) (qN G) (fun i hi ih => ?_) ?_
  · have := hp i (by omega)
    have := hP i (by omega)
    have hl := qcnt_le (fun v => decide (qP G v ≠ -1)) i
    have hb : ((qM G * qL G : Nat) : Int) ≤ 1000 := by
      have := Nat.mul_le_mul k4 k8
      omega
    rw [wi_24_4]
    rw [qcnt] at ih
    by_cases hc : qP G i = -1
    all_goals
      simp (contextual := true) (disch := first | assumption | omega) only [wi_24_0, wi_24_1, wi_24_2, wi_24_3, wi_24_5, wi_24_6, wi_24_9, wi_24_12, wi_24_13, wi_24_14, wi_24_17, wi_24_18, wi_24_19, wi_24_20, wi_24_23, wi_24_24, wi_24_27, wi_24_28, wi_24_29, wi_24_30, wi_24_33, wi_24_36, wi_24_37, io_add_o, io_sub_o, io_mul_o, io_neg_o, io_and_r, io_or_r, io_xor_r, io_nd_r, io_shr_r, io_shl1, io_i2b_r, io_i2l_o, io_l2i_o, il_add_o, il_sub_o, il_mul_o, il_neg_o, ib_bit, Int.toNat_natCast, true_implies, false_implies, implies_true, and_true, true_and, and_self, not_true_eq_false, not_false_eq_true, wa_0, wa_1, il_cmp_o, il_cmp0, il_cmp1, il_cmp2, io_bit1, ibt0, ibt1, ibt00, ibt11, ibt10, ibt01, Int.ofNat_lt, Int.ofNat_le, Int.ofNat_inj, Nat.lt_irrefl, Int.lt_irrefl, Int.toNat_one, Int.toNat_zero, Bool.false_eq_true, reduceIte, reduceCtorEq, Nat.reduceAdd, Nat.reduceMul, Nat.reduceSub, Nat.reduceLT, Nat.reduceLeDiff, Nat.reduceEqDiff, Int.reduceNeg, Int.reduceAdd, Int.reduceMul, Int.reduceSub, Int.reduceLT, Int.reduceLE, Int.reduceEq, Int.reduceToNat, Int.reduceNatCast, h1, hP, hi, hc]
      simpa [hc] using ih
  · rw [wi_24_4]
    simp (contextual := true) (disch := first | assumption | omega) only [wi_24_0, wi_24_1, wi_24_2, wi_24_3, wi_24_5, wi_24_6, wi_24_9, wi_24_12, wi_24_13, wi_24_14, wi_24_17, wi_24_18, wi_24_19, wi_24_20, wi_24_23, wi_24_24, wi_24_27, wi_24_28, wi_24_29, wi_24_30, wi_24_33, wi_24_36, wi_24_37, io_add_o, io_sub_o, io_mul_o, io_neg_o, io_and_r, io_or_r, io_xor_r, io_nd_r, io_shr_r, io_shl1, io_i2b_r, io_i2l_o, io_l2i_o, il_add_o, il_sub_o, il_mul_o, il_neg_o, ib_bit, Int.toNat_natCast, true_implies, false_implies, implies_true, and_true, true_and, and_self, not_true_eq_false, not_false_eq_true, wa_0, wa_1, il_cmp_o, il_cmp0, il_cmp1, il_cmp2, io_bit1, ibt0, ibt1, ibt00, ibt11, ibt10, ibt01, Int.ofNat_lt, Int.ofNat_le, Int.ofNat_inj, Nat.lt_irrefl, Int.lt_irrefl, Int.toNat_one, Int.toNat_zero, Bool.false_eq_true, reduceIte, reduceCtorEq, Nat.reduceAdd, Nat.reduceMul, Nat.reduceSub, Nat.reduceLT, Nat.reduceLeDiff, Nat.reduceEqDiff, Int.reduceNeg, Int.reduceAdd, Int.reduceMul, Int.reduceSub, Int.reduceLT, Int.reduceLE, Int.reduceEq, Int.reduceToNat, Int.reduceNatCast, h1]
theorem wp_clashesAmong (hg : gs_G g) (hG : q_ok G) (h : q_C M g G) {ca : Nat} {c : Nat → Int} (hca : gs_a ca 1 8) (hc : ∀ v, v < qN G → M ca v = c v) (hcr : ∀ v, v < qN G → -1 ≤ c v ∧ c v ≤ 60) :
    wp N xs (d + 3) 22 0 [gr g, gr ca, (3, 0), (3, 0), (3, 0), (3, 0)] [] (gk_R, M, 158, cc, cs) Q ↔ Q ((1, (0, (qcnt (qcl G c) (qK G) : Int))), (gk_R, M, 158, cc, cs)) := by
  refine wp_det ?_
  obtain ⟨⟨h1, h2, h3, h4, h5⟩, hF, hT, hA, hW, hP, hO⟩ := id h
  obtain ⟨⟨k1, k2, k3, k4, k5, k6, k7, k8⟩, hk, hp, hp2⟩ := id hG
  simp (contextual := true) (disch := first | assumption | omega) only [wi_22_0, wi_22_1, wi_22_2, wi_22_3, wi_22_5, wi_22_6, wi_22_9, wi_22_12, wi_22_13, wi_22_14, wi_22_17, wi_22_18, wi_22_19, wi_22_20, wi_22_22, wi_22_23, wi_22_24, wi_22_27, wi_22_28, wi_22_29, wi_22_30, wi_22_32, wi_22_34, wi_22_35, wi_22_38, wi_22_40, wi_22_41, wi_22_44, wi_22_45, wi_22_46, wi_22_48, wi_22_50, wi_22_53, wi_22_56, wi_22_59, wi_22_62, wi_22_65, wi_22_66, io_add_o, io_sub_o, io_mul_o, io_neg_o, io_and_r, io_or_r, io_xor_r, io_nd_r, io_shr_r, io_shl1, io_i2b_r, io_i2l_o, io_l2i_o, il_add_o, il_sub_o, il_mul_o, il_neg_o, ib_bit, Int.toNat_natCast, true_implies, false_implies, implies_true, and_true, true_and, and_self, not_true_eq_false, not_false_eq_true, wa_0, wa_1, il_cmp_o, il_cmp0, il_cmp1, il_cmp2, io_bit1, ibt0, ibt1, ibt00, ibt11, ibt10, ibt01, Int.ofNat_lt, Int.ofNat_le, Int.ofNat_inj, Nat.lt_irrefl, Int.lt_irrefl, Int.toNat_one, Int.toNat_zero, Bool.false_eq_true, reduceIte, reduceCtorEq, Nat.reduceAdd, Nat.reduceMul, Nat.reduceSub, Nat.reduceLT, Nat.reduceLeDiff, Nat.reduceEqDiff, Int.reduceNeg, Int.reduceAdd, Int.reduceMul, Int.reduceSub, Int.reduceLT, Int.reduceLE, Int.reduceEq, Int.reduceToNat, Int.reduceNatCast]
  refine wl_for (P := fun i => ∀ l4 l5 : gg_V, wp N xs (d + 3) 22 4 [gr g, gr ca, (0, (qcnt (qcl G c) i : Int)), (0, (i : Int)), l4, l5] [] (gk_R, M, 158, cc, cs) _) (qK G) (fun i hi ih l4 l5 => ?_) (fun l4 l5 => ?_) _ _
  · have := hk i hi
    have := hcr (qF G i) (by omega)
    have := hcr (qT G i) (by omega)
    have := hc (qF G i) (by omega)
    have := hc (qT G i) (by omega)
    have := hA i hi
    have hl := qcnt_le (qcl G c) i
    have := qsh_le (c := (c (qF G i)).toNat) k3 (show qA G i < qM G by omega)
    rw [wi_22_4]
    rw [qcnt] at ih
    simp (contextual := true) (disch := first | assumption | omega) only [wi_22_0, wi_22_1, wi_22_2, wi_22_3, wi_22_5, wi_22_6, wi_22_9, wi_22_12, wi_22_13, wi_22_14, wi_22_17, wi_22_18, wi_22_19, wi_22_20, wi_22_22, wi_22_23, wi_22_24, wi_22_27, wi_22_28, wi_22_29, wi_22_30, wi_22_32, wi_22_34, wi_22_35, wi_22_38, wi_22_40, wi_22_41, wi_22_44, wi_22_45, wi_22_46, wi_22_48, wi_22_50, wi_22_53, wi_22_56, wi_22_59, wi_22_62, wi_22_65, wi_22_66, wi_19_0, wi_19_1, wi_19_2, wi_19_3, wi_19_4, wi_19_7, wi_19_8, wi_19_9, wi_19_12, wi_19_15, wi_19_16, wi_19_19, wi_19_20, io_add_o, io_sub_o, io_mul_o, io_neg_o, io_and_r, io_or_r, io_xor_r, io_nd_r, io_shr_r, io_shl1, io_i2b_r, io_i2l_o, io_l2i_o, il_add_o, il_sub_o, il_mul_o, il_neg_o, ib_bit, Int.toNat_natCast, true_implies, false_implies, implies_true, and_true, true_and, and_self, not_true_eq_false, not_false_eq_true, wa_0, wa_1, il_cmp_o, il_cmp0, il_cmp1, il_cmp2, io_bit1, ibt0, ibt1, ibt00, ibt11, ibt10, ibt01, Int.ofNat_lt, Int.ofNat_le, Int.ofNat_inj, Nat.lt_irrefl, Int.lt_irrefl, Int.toNat_one, Int.toNat_zero, Bool.false_eq_true, reduceIte, reduceCtorEq, Nat.reduceAdd, Nat.reduceMul, Nat.reduceSub, Nat.reduceLT, Nat.reduceLeDiff, Nat.reduceEqDiff, Int.reduceNeg, Int.reduceAdd, Int.reduceMul, Int.reduceSub, Int.reduceLT, Int.reduceLE, Int.reduceEq, Int.reduceToNat, Int.reduceNatCast, h3, hF, hT, hA, hi, hc, wp_shifted hg h2 k3 k4]
    grind [qcl]
  · rw [wi_22_4]
    simp (contextual := true) (disch := first | assumption | omega) only [wi_22_0, wi_22_1, wi_22_2, wi_22_3, wi_22_5, wi_22_6, wi_22_9, wi_22_12, wi_22_13, wi_22_14, wi_22_17, wi_22_18, wi_22_19, wi_22_20, wi_22_22, wi_22_23, wi_22_24, wi_22_27, wi_22_28, wi_22_29, wi_22_30, wi_22_32, wi_22_34, wi_22_35, wi_22_38, wi_22_40, wi_22_41, wi_22_44, wi_22_45, wi_22_46, wi_22_48, wi_22_50, wi_22_53, wi_22_56, wi_22_59, wi_22_62, wi_22_65, wi_22_66, io_add_o, io_sub_o, io_mul_o, io_neg_o, io_and_r, io_or_r, io_xor_r, io_nd_r, io_shr_r, io_shl1, io_i2b_r, io_i2l_o, io_l2i_o, il_add_o, il_sub_o, il_mul_o, il_neg_o, ib_bit, Int.toNat_natCast, true_implies, false_implies, implies_true, and_true, true_and, and_self, not_true_eq_false, not_false_eq_true, wa_0, wa_1, il_cmp_o, il_cmp0, il_cmp1, il_cmp2, io_bit1, ibt0, ibt1, ibt00, ibt11, ibt10, ibt01, Int.ofNat_lt, Int.ofNat_le, Int.ofNat_inj, Nat.lt_irrefl, Int.lt_irrefl, Int.toNat_one, Int.toNat_zero, Bool.false_eq_true, reduceIte, reduceCtorEq, Nat.reduceAdd, Nat.reduceMul, Nat.reduceSub, Nat.reduceLT, Nat.reduceLeDiff, Nat.reduceEqDiff, Int.reduceNeg, Int.reduceAdd, Int.reduceMul, Int.reduceSub, Int.reduceLT, Int.reduceLE, Int.reduceEq, Int.reduceToNat, Int.reduceNatCast, h3]
theorem wp_lowestBit {x : Nat} (hx : x < 9223372036854775808) :
    wp N xs d 26 0 [(1, (x : Int)), (3, 0), (3, 0)] [] (gk_R, M, 158, cc, cs) Q ↔ Q ((1, (0, qfst x.testBit 61)), (gk_R, M, 158, cc, cs)) := by
  refine wp_det ?_
  simp (contextual := true) (disch := first | assumption | omega) only [wi_26_0, wi_26_1, wi_26_3, wi_26_5, wi_26_8, wi_26_9, wi_26_10, wi_26_11, wi_26_12, wi_26_13, wi_26_14, wi_26_15, wi_26_18, wi_26_19, wi_26_20, wi_26_23, wi_26_26, wi_26_27, io_add_o, io_sub_o, io_mul_o, io_neg_o, io_and_r, io_or_r, io_xor_r, io_nd_r, io_shr_r, io_shl1, io_i2b_r, io_i2l_o, io_l2i_o, il_add_o, il_sub_o, il_mul_o, il_neg_o, ib_bit, Int.toNat_natCast, true_implies, false_implies, implies_true, and_true, true_and, and_self, not_true_eq_false, not_false_eq_true, wa_0, wa_1, il_cmp_o, il_cmp0, il_cmp1, il_cmp2, io_bit1, ibt0, ibt1, ibt00, ibt11, ibt10, ibt01, Int.ofNat_lt, Int.ofNat_le, Int.ofNat_inj, Nat.lt_irrefl, Int.lt_irrefl, Int.toNat_one, Int.toNat_zero, Bool.false_eq_true, reduceIte, reduceCtorEq, Nat.reduceAdd, Nat.reduceMul, Nat.reduceSub, Nat.reduceLT, Nat.reduceLeDiff, Nat.reduceEqDiff, Int.reduceNeg, Int.reduceAdd, Int.reduceMul, Int.reduceSub, Int.reduceLT, Int.reduceLE, Int.reduceEq, Int.reduceToNat, Int.reduceNatCast]
  refine wl_for (P := fun i => (∀ j, j < i → x.testBit j = false) → wp N xs d 26 2 [(1, (x : Int)), (3, 0), (0, (i : Int))] [] (gk_R, M, 158, cc, cs) _) 61 (fun i hi ih hb => ?_) (fun hb => ?_) (fun j hj => absurd hj (Nat.not_lt_zero j))
  · rw [wi_26_2]
    cases ht : x.testBit i
    · simp (contextual := true) (disch := first | assumption | omega) only [wi_26_0, wi_26_1, wi_26_3, wi_26_5, wi_26_8, wi_26_9, wi_26_10, wi_26_11, wi_26_12, wi_26_13, wi_26_14, wi_26_15, wi_26_18, wi_26_19, wi_26_20, wi_26_23, wi_26_26, wi_26_27, io_add_o, io_sub_o, io_mul_o, io_neg_o, io_and_r, io_or_r, io_xor_r, io_nd_r, io_shr_r, io_shl1, io_i2b_r, io_i2l_o, io_l2i_o, il_add_o, il_sub_o, il_mul_o, il_neg_o, ib_bit, Int.toNat_natCast, true_implies, false_implies, implies_true, and_true, true_and, and_self, not_true_eq_false, not_false_eq_true, wa_0, wa_1, il_cmp_o, il_cmp0, il_cmp1, il_cmp2, io_bit1, ibt0, ibt1, ibt00, ibt11, ibt10, ibt01, Int.ofNat_lt, Int.ofNat_le, Int.ofNat_inj, Nat.lt_irrefl, Int.lt_irrefl, Int.toNat_one, Int.toNat_zero, Bool.false_eq_true, reduceIte, reduceCtorEq, Nat.reduceAdd, Nat.reduceMul, Nat.reduceSub, Nat.reduceLT, Nat.reduceLeDiff, Nat.reduceEqDiff, Int.reduceNeg, Int.reduceAdd, Int.reduceMul, Int.reduceSub, Int.reduceLT, Int.reduceLE, Int.reduceEq, Int.reduceToNat, Int.reduceNatCast, il_shr_n, il_bit, ht, hi]
      have := ih (fun j hj => by
        by_cases e : j = i
        · subst e; exact ht
        · exact hb j (by omega))
      simpa [show (i : Int) < 61 by omega] using this
    · rw [qfst_hit hi ht hb]
      simp (contextual := true) (disch := first | assumption | omega) only [wi_26_0, wi_26_1, wi_26_3, wi_26_5, wi_26_8, wi_26_9, wi_26_10, wi_26_11, wi_26_12, wi_26_13, wi_26_14, wi_26_15, wi_26_18, wi_26_19, wi_26_20, wi_26_23, wi_26_26, wi_26_27, io_add_o, io_sub_o, io_mul_o, io_neg_o, io_and_r, io_or_r, io_xor_r, io_nd_r, io_shr_r, io_shl1, io_i2b_r, io_i2l_o, io_l2i_o, il_add_o, il_sub_o, il_mul_o, il_neg_o, ib_bit, Int.toNat_natCast, true_implies, false_implies, implies_true, and_true, true_and, and_self, not_true_eq_false, not_false_eq_true, wa_0, wa_1, il_cmp_o, il_cmp0, il_cmp1, il_cmp2, io_bit1, ibt0, ibt1, ibt00, ibt11, ibt10, ibt01, Int.ofNat_lt, Int.ofNat_le, Int.ofNat_inj, Nat.lt_irrefl, Int.lt_irrefl, Int.toNat_one, Int.toNat_zero, Bool.false_eq_true, reduceIte, reduceCtorEq, Nat.reduceAdd, Nat.reduceMul, Nat.reduceSub, Nat.reduceLT, Nat.reduceLeDiff, Nat.reduceEqDiff, Int.reduceNeg, Int.reduceAdd, Int.reduceMul, Int.reduceSub, Int.reduceLT, Int.reduceLE, Int.reduceEq, Int.reduceToNat, Int.reduceNatCast, il_shr_n, il_bit, ht, hi]
      omega
  · rw [wi_26_2, qfst_none.2 hb]
    simp (contextual := true) (disch := first | assumption | omega) only [wi_26_0, wi_26_1, wi_26_3, wi_26_5, wi_26_8, wi_26_9, wi_26_10, wi_26_11, wi_26_12, wi_26_13, wi_26_14, wi_26_15, wi_26_18, wi_26_19, wi_26_20, wi_26_23, wi_26_26, wi_26_27, io_add_o, io_sub_o, io_mul_o, io_neg_o, io_and_r, io_or_r, io_xor_r, io_nd_r, io_shr_r, io_shl1, io_i2b_r, io_i2l_o, io_l2i_o, il_add_o, il_sub_o, il_mul_o, il_neg_o, ib_bit, Int.toNat_natCast, true_implies, false_implies, implies_true, and_true, true_and, and_self, not_true_eq_false, not_false_eq_true, wa_0, wa_1, il_cmp_o, il_cmp0, il_cmp1, il_cmp2, io_bit1, ibt0, ibt1, ibt00, ibt11, ibt10, ibt01, Int.ofNat_lt, Int.ofNat_le, Int.ofNat_inj, Nat.lt_irrefl, Int.lt_irrefl, Int.toNat_one, Int.toNat_zero, Bool.false_eq_true, reduceIte, reduceCtorEq, Nat.reduceAdd, Nat.reduceMul, Nat.reduceSub, Nat.reduceLT, Nat.reduceLeDiff, Nat.reduceEqDiff, Int.reduceNeg, Int.reduceAdd, Int.reduceMul, Int.reduceSub, Int.reduceLT, Int.reduceLE, Int.reduceEq, Int.reduceToNat, Int.reduceNatCast]
end SG
