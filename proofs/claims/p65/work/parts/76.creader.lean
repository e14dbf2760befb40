/-! the class reads -/
def qt_C (M : gg_M) (X : Nat → Nat) (B : Nat) : Prop := M 76 1 = (B : Int) ∧ B ≤ 400 ∧ (∀ i, X i ≤ 255) ∧ ∀ i, i < B → M 77 i = (X i : Int)
theorem qt_C_u {M : gg_M} {X : Nat → Nat} {B f : Nat} {x : Int} (h : qt_C M X B) (hf : f ≠ 1) : qt_C (gg_up M 76 f x) X B :=
  ⟨by rw [gu_s (Ne.symm hf)]; exact h.1, h.2.1, h.2.2.1, fun i hi => by rw [gu_n (by decide)]; exact h.2.2.2 i hi⟩
theorem qt_C_e {M M' : gg_M} {X : Nat → Nat} {B : Nat} (h : qt_C M X B) (h1 : M' 76 1 = M 76 1) (h2 : M' 77 = M 77) : qt_C M' X B :=
  ⟨by rw [h1]; exact h.1, h.2.1, h.2.2.1, fun i hi => by rw [h2]; exact h.2.2.2 i hi⟩
theorem qws_rg {X : Nat → Nat} {B p : Nat} (hp : p ≤ B) : p ≤ qws X B p ∧ qws X B p ≤ B := ⟨(qend_rg hp).1, (qend_rg hp).2.1⟩
theorem qwe_rg {X : Nat → Nat} {B p : Nat} (hp : p ≤ B) : qws X B p ≤ qwe X B p ∧ qwe X B p ≤ B := ⟨(qend_rg (qws_rg hp).2).1, (qend_rg (qws_rg hp).2).2.1⟩
theorem qval_min (X : Nat → Nat) (q n : Nat) (c : Nat) (hd : 48 ≤ X (q + n)) (hc : 10 ≤ c) : min (min (qval X q n) c * 10 + (X (q + n) - 48)) c = min (qval X q (n + 1)) c := by
  rw [qval]
  omega
section SG
variable {N : Nat} {xs : Nat → Int32} {d : Nat} {cc cs : Nat} {Q : gg_O → Prop} {X : Nat → Nat} {B : Nat}
theorem wp_isAtEnd (k : Nat) : ∀ (p : Nat) (M : gg_M) (Q : gg_O → Prop), qt_C M X B → p ≤ B → k = B - p → M 76 5 = (p : Int) →
    (wp N xs d 47 0 [gr 76] [] (gk_R, M, 142, cc, cs) Q ↔ Q ((1, (0, ((decide (B ≤ qws X B p)).toNat : Int))), (gk_R, gg_up M 76 5 (qws X B p : Int), 142, cc, cs))) := by
  induction k with
  | zero =>
    intro p M Q hC hp hk hat
    have e : p = B := by omega
    have e2 : qws X B p = p := qend_B (by omega)
    obtain ⟨c1, c2, c3, c4⟩ := id hC
    rw [e2, gu_id hat, decide_eq_true (show B ≤ p by omega)]
    subst e
    rw [wi_47_0]
    simp (disch := first | assumption | omega | exact il_cqA _ _ | exact il_cqB _ _) only [wi_47_1, wi_47_4, wi_47_5, wi_47_8, wi_47_11, wi_47_12, wi_47_15, wi_47_16, wi_47_19, wi_47_20, wi_47_22, wi_47_25, wi_47_26, wi_47_27, wi_47_30, wi_47_31, wi_47_32, wi_47_35, wi_47_38, wi_47_39, wi_47_42, wi_47_43, wi_47_46, wi_47_49, wi_47_50, wi_47_53, wi_47_54, io_add_o, io_sub_o, io_mul_o, io_neg_o, io_and_r, io_or_r, io_xor_r, io_nd_r, io_shr_r, io_shl1, io_i2b_r, io_i2l_o, io_l2i_o, il_add_o, il_sub_o, il_mul_o, il_neg_o, ib_bit, Int.toNat_natCast, true_implies, false_implies, implies_true, and_true, true_and, and_self, not_true_eq_false, not_false_eq_true, wa_0, wa_1, il_cmp_o, il_cmp0, il_cmp1, il_cmp2, io_bit1, ibt0, ibt1, ibt00, ibt11, ibt10, ibt01, Int.ofNat_lt, Int.ofNat_le, Int.ofNat_inj, Nat.lt_irrefl, Int.lt_irrefl, Int.toNat_one, Int.toNat_zero, Bool.false_eq_true, reduceIte, reduceCtorEq, Nat.reduceAdd, Nat.reduceMul, Nat.reduceSub, Nat.reduceLT, Nat.reduceLeDiff, Nat.reduceEqDiff, Int.reduceNeg, Int.reduceAdd, Int.reduceMul, Int.reduceSub, Int.reduceLT, Int.reduceLE, Int.reduceEq, Int.reduceToNat, Int.reduceNatCast, icl, ico, inz, Nat.not_lt_zero, hat, c1]
  | succ k ih =>
    intro p M Q hC hp hk hat
    obtain ⟨c1, c2, c3, c4⟩ := id hC
    have hx := c4 p (by omega)
    have hx2 := c3 p
    have hlt : p < B := by omega
    by_cases e : X p = 32
    · have e2 : qws X B p = qws X B (p + 1) := qend_s hlt (decide_eq_true e)
      have e3 : (X p : Int) = 32 := by omega
      have hi := ih (p + 1) (gg_up M 76 5 ((p : Int) + 1)) Q (qt_C_u hC (by decide)) (by omega) (by omega) gu_e
      rw [gu_gu] at hi
      rw [wi_47_0, e2, ← hi]
      simp (disch := first | assumption | omega | exact il_cqA _ _ | exact il_cqB _ _) only [wi_47_1, wi_47_4, wi_47_5, wi_47_8, wi_47_11, wi_47_12, wi_47_15, wi_47_16, wi_47_19, wi_47_20, wi_47_22, wi_47_25, wi_47_26, wi_47_27, wi_47_30, wi_47_31, wi_47_32, wi_47_35, wi_47_38, wi_47_39, wi_47_42, wi_47_43, wi_47_46, wi_47_49, wi_47_50, wi_47_53, wi_47_54, io_add_o, io_sub_o, io_mul_o, io_neg_o, io_and_r, io_or_r, io_xor_r, io_nd_r, io_shr_r, io_shl1, io_i2b_r, io_i2l_o, io_l2i_o, il_add_o, il_sub_o, il_mul_o, il_neg_o, ib_bit, Int.toNat_natCast, true_implies, false_implies, implies_true, and_true, true_and, and_self, not_true_eq_false, not_false_eq_true, wa_0, wa_1, il_cmp_o, il_cmp0, il_cmp1, il_cmp2, io_bit1, ibt0, ibt1, ibt00, ibt11, ibt10, ibt01, Int.ofNat_lt, Int.ofNat_le, Int.ofNat_inj, Nat.lt_irrefl, Int.lt_irrefl, Int.toNat_one, Int.toNat_zero, Bool.false_eq_true, reduceIte, reduceCtorEq, Nat.reduceAdd, Nat.reduceMul, Nat.reduceSub, Nat.reduceLT, Nat.reduceLeDiff, Nat.reduceEqDiff, Int.reduceNeg, Int.reduceAdd, Int.reduceMul, Int.reduceSub, Int.reduceLT, Int.reduceLE, Int.reduceEq, Int.reduceToNat, Int.reduceNatCast, icl, ico, inz, Nat.not_lt_zero, hat, c1, hlt, hx, e3]
    · have e2 : qws X B p = p := qend_f (decide_eq_false e)
      have e3 : ¬ (X p : Int) = 32 := by omega
      rw [e2, gu_id hat, decide_eq_false (show ¬ B ≤ p by omega)]
      rw [wi_47_0]
      simp (disch := first | assumption | omega | exact il_cqA _ _ | exact il_cqB _ _) only [wi_47_1, wi_47_4, wi_47_5, wi_47_8, wi_47_11, wi_47_12, wi_47_15, wi_47_16, wi_47_19, wi_47_20, wi_47_22, wi_47_25, wi_47_26, wi_47_27, wi_47_30, wi_47_31, wi_47_32, wi_47_35, wi_47_38, wi_47_39, wi_47_42, wi_47_43, wi_47_46, wi_47_49, wi_47_50, wi_47_53, wi_47_54, io_add_o, io_sub_o, io_mul_o, io_neg_o, io_and_r, io_or_r, io_xor_r, io_nd_r, io_shr_r, io_shl1, io_i2b_r, io_i2l_o, io_l2i_o, il_add_o, il_sub_o, il_mul_o, il_neg_o, ib_bit, Int.toNat_natCast, true_implies, false_implies, implies_true, and_true, true_and, and_self, not_true_eq_false, not_false_eq_true, wa_0, wa_1, il_cmp_o, il_cmp0, il_cmp1, il_cmp2, io_bit1, ibt0, ibt1, ibt00, ibt11, ibt10, ibt01, Int.ofNat_lt, Int.ofNat_le, Int.ofNat_inj, Nat.lt_irrefl, Int.lt_irrefl, Int.toNat_one, Int.toNat_zero, Bool.false_eq_true, reduceIte, reduceCtorEq, Nat.reduceAdd, Nat.reduceMul, Nat.reduceSub, Nat.reduceLT, Nat.reduceLeDiff, Nat.reduceEqDiff, Int.reduceNeg, Int.reduceAdd, Int.reduceMul, Int.reduceSub, Int.reduceLT, Int.reduceLE, Int.reduceEq, Int.reduceToNat, Int.reduceNatCast, icl, ico, inz, Nat.not_lt_zero, hat, c1, hlt, hx, e3]
theorem wp_isDigit {M : gg_M} {p : Nat} (hC : qt_C M X B) (hp : p < B) :
    wp N xs d 50 0 [gr 76, (0, (p : Int))] [] (gk_R, M, 142, cc, cs) Q ↔ Q ((1, (0, ((qdi X p).toNat : Int))), (gk_R, M, 142, cc, cs)) := by
  obtain ⟨c1, c2, c3, c4⟩ := id hC
  have hx := c4 p hp
  have hx2 := c3 p
  unfold qdi
  by_cases e1 : 48 ≤ X p
  · by_cases e2 : X p ≤ 57
    · have f1 : ¬ (X p : Int) < 48 := by omega
      have f2 : ¬ (57 : Int) < (X p : Int) := by omega
      rw [decide_eq_true e1, decide_eq_true e2]
      simp (disch := first | assumption | omega | exact il_cqA _ _ | exact il_cqB _ _) only [wi_50_0, wi_50_1, wi_50_4, wi_50_5, wi_50_6, wi_50_8, wi_50_11, wi_50_12, wi_50_15, wi_50_16, wi_50_17, wi_50_19, wi_50_22, wi_50_23, wi_50_26, wi_50_27, io_add_o, io_sub_o, io_mul_o, io_neg_o, io_and_r, io_or_r, io_xor_r, io_nd_r, io_shr_r, io_shl1, io_i2b_r, io_i2l_o, io_l2i_o, il_add_o, il_sub_o, il_mul_o, il_neg_o, ib_bit, Int.toNat_natCast, true_implies, false_implies, implies_true, and_true, true_and, and_self, not_true_eq_false, not_false_eq_true, wa_0, wa_1, il_cmp_o, il_cmp0, il_cmp1, il_cmp2, io_bit1, ibt0, ibt1, ibt00, ibt11, ibt10, ibt01, Int.ofNat_lt, Int.ofNat_le, Int.ofNat_inj, Nat.lt_irrefl, Int.lt_irrefl, Int.toNat_one, Int.toNat_zero, Bool.false_eq_true, reduceIte, reduceCtorEq, Nat.reduceAdd, Nat.reduceMul, Nat.reduceSub, Nat.reduceLT, Nat.reduceLeDiff, Nat.reduceEqDiff, Int.reduceNeg, Int.reduceAdd, Int.reduceMul, Int.reduceSub, Int.reduceLT, Int.reduceLE, Int.reduceEq, Int.reduceToNat, Int.reduceNatCast, icl, ico, inz, Nat.not_lt_zero, hx, f1, f2, Bool.and_self]
    · have f1 : ¬ (X p : Int) < 48 := by omega
      have f2 : (57 : Int) < (X p : Int) := by omega
      rw [decide_eq_true e1, decide_eq_false e2]
      simp (disch := first | assumption | omega | exact il_cqA _ _ | exact il_cqB _ _) only [wi_50_0, wi_50_1, wi_50_4, wi_50_5, wi_50_6, wi_50_8, wi_50_11, wi_50_12, wi_50_15, wi_50_16, wi_50_17, wi_50_19, wi_50_22, wi_50_23, wi_50_26, wi_50_27, io_add_o, io_sub_o, io_mul_o, io_neg_o, io_and_r, io_or_r, io_xor_r, io_nd_r, io_shr_r, io_shl1, io_i2b_r, io_i2l_o, io_l2i_o, il_add_o, il_sub_o, il_mul_o, il_neg_o, ib_bit, Int.toNat_natCast, true_implies, false_implies, implies_true, and_true, true_and, and_self, not_true_eq_false, not_false_eq_true, wa_0, wa_1, il_cmp_o, il_cmp0, il_cmp1, il_cmp2, io_bit1, ibt0, ibt1, ibt00, ibt11, ibt10, ibt01, Int.ofNat_lt, Int.ofNat_le, Int.ofNat_inj, Nat.lt_irrefl, Int.lt_irrefl, Int.toNat_one, Int.toNat_zero, Bool.false_eq_true, reduceIte, reduceCtorEq, Nat.reduceAdd, Nat.reduceMul, Nat.reduceSub, Nat.reduceLT, Nat.reduceLeDiff, Nat.reduceEqDiff, Int.reduceNeg, Int.reduceAdd, Int.reduceMul, Int.reduceSub, Int.reduceLT, Int.reduceLE, Int.reduceEq, Int.reduceToNat, Int.reduceNatCast, icl, ico, inz, Nat.not_lt_zero, hx, f1, f2, Bool.and_false]
  · have f1 : (X p : Int) < 48 := by omega
    rw [decide_eq_false e1]
    simp (disch := first | assumption | omega | exact il_cqA _ _ | exact il_cqB _ _) only [wi_50_0, wi_50_1, wi_50_4, wi_50_5, wi_50_6, wi_50_8, wi_50_11, wi_50_12, wi_50_15, wi_50_16, wi_50_17, wi_50_19, wi_50_22, wi_50_23, wi_50_26, wi_50_27, io_add_o, io_sub_o, io_mul_o, io_neg_o, io_and_r, io_or_r, io_xor_r, io_nd_r, io_shr_r, io_shl1, io_i2b_r, io_i2l_o, io_l2i_o, il_add_o, il_sub_o, il_mul_o, il_neg_o, ib_bit, Int.toNat_natCast, true_implies, false_implies, implies_true, and_true, true_and, and_self, not_true_eq_false, not_false_eq_true, wa_0, wa_1, il_cmp_o, il_cmp0, il_cmp1, il_cmp2, io_bit1, ibt0, ibt1, ibt00, ibt11, ibt10, ibt01, Int.ofNat_lt, Int.ofNat_le, Int.ofNat_inj, Nat.lt_irrefl, Int.lt_irrefl, Int.toNat_one, Int.toNat_zero, Bool.false_eq_true, reduceIte, reduceCtorEq, Nat.reduceAdd, Nat.reduceMul, Nat.reduceSub, Nat.reduceLT, Nat.reduceLeDiff, Nat.reduceEqDiff, Int.reduceNeg, Int.reduceAdd, Int.reduceMul, Int.reduceSub, Int.reduceLT, Int.reduceLE, Int.reduceEq, Int.reduceToNat, Int.reduceNatCast, icl, ico, inz, Nat.not_lt_zero, hx, f1, Bool.false_and]
theorem wp_isLetter {M : gg_M} {p : Nat} (hC : qt_C M X B) (hp : p < B) :
    wp N xs d 49 0 [gr 76, (0, (p : Int))] [] (gk_R, M, 142, cc, cs) Q ↔ Q ((1, (0, ((qle X p).toNat : Int))), (gk_R, M, 142, cc, cs)) := by
  obtain ⟨c1, c2, c3, c4⟩ := id hC
  have hx := c4 p hp
  have hx2 := c3 p
  unfold qle
  by_cases e1 : 97 ≤ X p
  · by_cases e2 : X p ≤ 122
    · have f1 : ¬ (X p : Int) < 97 := by omega
      have f2 : ¬ (122 : Int) < (X p : Int) := by omega
      rw [decide_eq_true e1, decide_eq_true e2]
      simp (disch := first | assumption | omega | exact il_cqA _ _ | exact il_cqB _ _) only [wi_49_0, wi_49_1, wi_49_4, wi_49_5, wi_49_6, wi_49_8, wi_49_11, wi_49_12, wi_49_15, wi_49_16, wi_49_17, wi_49_19, wi_49_22, wi_49_23, wi_49_26, wi_49_27, io_add_o, io_sub_o, io_mul_o, io_neg_o, io_and_r, io_or_r, io_xor_r, io_nd_r, io_shr_r, io_shl1, io_i2b_r, io_i2l_o, io_l2i_o, il_add_o, il_sub_o, il_mul_o, il_neg_o, ib_bit, Int.toNat_natCast, true_implies, false_implies, implies_true, and_true, true_and, and_self, not_true_eq_false, not_false_eq_true, wa_0, wa_1, il_cmp_o, il_cmp0, il_cmp1, il_cmp2, io_bit1, ibt0, ibt1, ibt00, ibt11, ibt10, ibt01, Int.ofNat_lt, Int.ofNat_le, Int.ofNat_inj, Nat.lt_irrefl, Int.lt_irrefl, Int.toNat_one, Int.toNat_zero, Bool.false_eq_true, reduceIte, reduceCtorEq, Nat.reduceAdd, Nat.reduceMul, Nat.reduceSub, Nat.reduceLT, Nat.reduceLeDiff, Nat.reduceEqDiff, Int.reduceNeg, Int.reduceAdd, Int.reduceMul, Int.reduceSub, Int.reduceLT, Int.reduceLE, Int.reduceEq, Int.reduceToNat, Int.reduceNatCast, icl, ico, inz, Nat.not_lt_zero, hx, f1, f2, Bool.and_self]
    · have f1 : ¬ (X p : Int) < 97 := by omega
      have f2 : (122 : Int) < (X p : Int) := by omega
      rw [decide_eq_true e1, decide_eq_false e2]
      simp (disch := first | assumption | omega | exact il_cqA _ _ | exact il_cqB _ _) only [wi_49_0, wi_49_1, wi_49_4, wi_49_5, wi_49_6, wi_49_8, wi_49_11, wi_49_12, wi_49_15, wi_49_16, wi_49_17, wi_49_19, wi_49_22, wi_49_23, wi_49_26, wi_49_27, io_add_o, io_sub_o, io_mul_o, io_neg_o, io_and_r, io_or_r, io_xor_r, io_nd_r, io_shr_r, io_shl1, io_i2b_r, io_i2l_o, io_l2i_o, il_add_o, il_sub_o, il_mul_o, il_neg_o, ib_bit, Int.toNat_natCast, true_implies, false_implies, implies_true, and_true, true_and, and_self, not_true_eq_false, not_false_eq_true, wa_0, wa_1, il_cmp_o, il_cmp0, il_cmp1, il_cmp2, io_bit1, ibt0, ibt1, ibt00, ibt11, ibt10, ibt01, Int.ofNat_lt, Int.ofNat_le, Int.ofNat_inj, Nat.lt_irrefl, Int.lt_irrefl, Int.toNat_one, Int.toNat_zero, Bool.false_eq_true, reduceIte, reduceCtorEq, Nat.reduceAdd, Nat.reduceMul, Nat.reduceSub, Nat.reduceLT, Nat.reduceLeDiff, Nat.reduceEqDiff, Int.reduceNeg, Int.reduceAdd, Int.reduceMul, Int.reduceSub, Int.reduceLT, Int.reduceLE, Int.reduceEq, Int.reduceToNat, Int.reduceNatCast, icl, ico, inz, Nat.not_lt_zero, hx, f1, f2, Bool.and_false]
  · have f1 : (X p : Int) < 97 := by omega
    rw [decide_eq_false e1]
    simp (disch := first | assumption | omega | exact il_cqA _ _ | exact il_cqB _ _) only [wi_49_0, wi_49_1, wi_49_4, wi_49_5, wi_49_6, wi_49_8, wi_49_11, wi_49_12, wi_49_15, wi_49_16, wi_49_17, wi_49_19, wi_49_22, wi_49_23, wi_49_26, wi_49_27, io_add_o, io_sub_o, io_mul_o, io_neg_o, io_and_r, io_or_r, io_xor_r, io_nd_r, io_shr_r, io_shl1, io_i2b_r, io_i2l_o, io_l2i_o, il_add_o, il_sub_o, il_mul_o, il_neg_o, ib_bit, Int.toNat_natCast, true_implies, false_implies, implies_true, and_true, true_and, and_self, not_true_eq_false, not_false_eq_true, wa_0, wa_1, il_cmp_o, il_cmp0, il_cmp1, il_cmp2, io_bit1, ibt0, ibt1, ibt00, ibt11, ibt10, ibt01, Int.ofNat_lt, Int.ofNat_le, Int.ofNat_inj, Nat.lt_irrefl, Int.lt_irrefl, Int.toNat_one, Int.toNat_zero, Bool.false_eq_true, reduceIte, reduceCtorEq, Nat.reduceAdd, Nat.reduceMul, Nat.reduceSub, Nat.reduceLT, Nat.reduceLeDiff, Nat.reduceEqDiff, Int.reduceNeg, Int.reduceAdd, Int.reduceMul, Int.reduceSub, Int.reduceLT, Int.reduceLE, Int.reduceEq, Int.reduceToNat, Int.reduceNatCast, icl, ico, inz, Nat.not_lt_zero, hx, f1, Bool.false_and]
theorem wp_isAtDigit {M : gg_M} {p : Nat} (hC : qt_C M X B) (hp : p ≤ B) (hat : M 76 5 = (p : Int)) :
    wp N xs (d + 1) 48 0 [gr 76] [] (gk_R, M, 142, cc, cs) Q ↔ Q ((1, (0, ((decide (qws X B p < B) && qdi X (qws X B p)).toNat : Int))), (gk_R, gg_up M 76 5 (qws X B p : Int), 142, cc, cs)) := by
  have hC' := qt_C_u (x := (qws X B p : Int)) hC (show 5 ≠ 1 by decide)
  have hr := (qws_rg (X := X) hp).2
  have hB := hC.2.1
  by_cases e : B ≤ qws X B p
  · rw [decide_eq_false (show ¬ qws X B p < B by omega)]
    have e1 : decide (B ≤ qws X B p) = true := decide_eq_true e
    simp (disch := first | assumption | omega | exact il_cqA _ _ | exact il_cqB _ _) only [wi_48_0, wi_48_1, wi_48_4, wi_48_7, wi_48_8, wi_48_9, wi_48_12, wi_48_15, wi_48_18, wi_48_19, wi_48_22, wi_48_23, io_add_o, io_sub_o, io_mul_o, io_neg_o, io_and_r, io_or_r, io_xor_r, io_nd_r, io_shr_r, io_shl1, io_i2b_r, io_i2l_o, io_l2i_o, il_add_o, il_sub_o, il_mul_o, il_neg_o, ib_bit, Int.toNat_natCast, true_implies, false_implies, implies_true, and_true, true_and, and_self, not_true_eq_false, not_false_eq_true, wa_0, wa_1, il_cmp_o, il_cmp0, il_cmp1, il_cmp2, io_bit1, ibt0, ibt1, ibt00, ibt11, ibt10, ibt01, Int.ofNat_lt, Int.ofNat_le, Int.ofNat_inj, Nat.lt_irrefl, Int.lt_irrefl, Int.toNat_one, Int.toNat_zero, Bool.false_eq_true, reduceIte, reduceCtorEq, Nat.reduceAdd, Nat.reduceMul, Nat.reduceSub, Nat.reduceLT, Nat.reduceLeDiff, Nat.reduceEqDiff, Int.reduceNeg, Int.reduceAdd, Int.reduceMul, Int.reduceSub, Int.reduceLT, Int.reduceLE, Int.reduceEq, Int.reduceToNat, Int.reduceNatCast, icl, ico, inz, Nat.not_lt_zero, wp_isAtEnd _ p M _ hC hp rfl hat, e1, Bool.false_and]
  · have e0 : qws X B p < B := by omega
    rw [decide_eq_true e0]
    have e1 : decide (B ≤ qws X B p) = false := decide_eq_false e
    cases hd : qdi X (qws X B p)
    · simp (disch := first | assumption | omega | exact il_cqA _ _ | exact il_cqB _ _) only [wi_48_0, wi_48_1, wi_48_4, wi_48_7, wi_48_8, wi_48_9, wi_48_12, wi_48_15, wi_48_18, wi_48_19, wi_48_22, wi_48_23, io_add_o, io_sub_o, io_mul_o, io_neg_o, io_and_r, io_or_r, io_xor_r, io_nd_r, io_shr_r, io_shl1, io_i2b_r, io_i2l_o, io_l2i_o, il_add_o, il_sub_o, il_mul_o, il_neg_o, ib_bit, Int.toNat_natCast, true_implies, false_implies, implies_true, and_true, true_and, and_self, not_true_eq_false, not_false_eq_true, wa_0, wa_1, il_cmp_o, il_cmp0, il_cmp1, il_cmp2, io_bit1, ibt0, ibt1, ibt00, ibt11, ibt10, ibt01, Int.ofNat_lt, Int.ofNat_le, Int.ofNat_inj, Nat.lt_irrefl, Int.lt_irrefl, Int.toNat_one, Int.toNat_zero, Bool.false_eq_true, reduceIte, reduceCtorEq, Nat.reduceAdd, Nat.reduceMul, Nat.reduceSub, Nat.reduceLT, Nat.reduceLeDiff, Nat.reduceEqDiff, Int.reduceNeg, Int.reduceAdd, Int.reduceMul, Int.reduceSub, Int.reduceLT, Int.reduceLE, Int.reduceEq, Int.reduceToNat, Int.reduceNatCast, icl, ico, inz, Nat.not_lt_zero, wp_isAtEnd _ p M _ hC hp rfl hat, e1, gu_e, wp_isDigit hC' e0, hd, Bool.true_and]
    · simp (disch := first | assumption | omega | exact il_cqA _ _ | exact il_cqB _ _) only [wi_48_0, wi_48_1, wi_48_4, wi_48_7, wi_48_8, wi_48_9, wi_48_12, wi_48_15, wi_48_18, wi_48_19, wi_48_22, wi_48_23, io_add_o, io_sub_o, io_mul_o, io_neg_o, io_and_r, io_or_r, io_xor_r, io_nd_r, io_shr_r, io_shl1, io_i2b_r, io_i2l_o, io_l2i_o, il_add_o, il_sub_o, il_mul_o, il_neg_o, ib_bit, Int.toNat_natCast, true_implies, false_implies, implies_true, and_true, true_and, and_self, not_true_eq_false, not_false_eq_true, wa_0, wa_1, il_cmp_o, il_cmp0, il_cmp1, il_cmp2, io_bit1, ibt0, ibt1, ibt00, ibt11, ibt10, ibt01, Int.ofNat_lt, Int.ofNat_le, Int.ofNat_inj, Nat.lt_irrefl, Int.lt_irrefl, Int.toNat_one, Int.toNat_zero, Bool.false_eq_true, reduceIte, reduceCtorEq, Nat.reduceAdd, Nat.reduceMul, Nat.reduceSub, Nat.reduceLT, Nat.reduceLeDiff, Nat.reduceEqDiff, Int.reduceNeg, Int.reduceAdd, Int.reduceMul, Int.reduceSub, Int.reduceLT, Int.reduceLE, Int.reduceEq, Int.reduceToNat, Int.reduceNatCast, icl, ico, inz, Nat.not_lt_zero, wp_isAtEnd _ p M _ hC hp rfl hat, e1, gu_e, wp_isDigit hC' e0, hd, Bool.true_and]
theorem wp_fail {M : gg_M} {k q : Int} :
    wp N xs d 51 0 [gr 76, (0, k), (0, q)] [] (gk_R, M, 142, cc, cs) Q ↔ Q ((1, (0, 0)), (gk_R, gg_up (gg_up M 76 2 k) 76 3 q, 142, cc, cs)) := by
  simp (disch := first | assumption | omega | exact il_cqA _ _ | exact il_cqB _ _) only [wi_51_0, wi_51_1, wi_51_2, wi_51_5, wi_51_6, wi_51_7, wi_51_10, wi_51_11, io_add_o, io_sub_o, io_mul_o, io_neg_o, io_and_r, io_or_r, io_xor_r, io_nd_r, io_shr_r, io_shl1, io_i2b_r, io_i2l_o, io_l2i_o, il_add_o, il_sub_o, il_mul_o, il_neg_o, ib_bit, Int.toNat_natCast, true_implies, false_implies, implies_true, and_true, true_and, and_self, not_true_eq_false, not_false_eq_true, wa_0, wa_1, il_cmp_o, il_cmp0, il_cmp1, il_cmp2, io_bit1, ibt0, ibt1, ibt00, ibt11, ibt10, ibt01, Int.ofNat_lt, Int.ofNat_le, Int.ofNat_inj, Nat.lt_irrefl, Int.lt_irrefl, Int.toNat_one, Int.toNat_zero, Bool.false_eq_true, reduceIte, reduceCtorEq, Nat.reduceAdd, Nat.reduceMul, Nat.reduceSub, Nat.reduceLT, Nat.reduceLeDiff, Nat.reduceEqDiff, Int.reduceNeg, Int.reduceAdd, Int.reduceMul, Int.reduceSub, Int.reduceLT, Int.reduceLE, Int.reduceEq, Int.reduceToNat, Int.reduceNatCast, icl, ico, inz, Nat.not_lt_zero]
theorem wp_readWord {M : gg_M} {p : Nat} (hC : qt_C M X B) (hp : p ≤ B) (hat : M 76 5 = (p : Int))
    (hok : qws X B p < B → qle X (qws X B p) = true → ∀ M' : gg_M, (∀ j, j ≠ 76 → M' j = M j) → (∀ f, f ≠ 5 → f ≠ 6 → M' 76 f = M 76 f) → M' 76 5 = (qwe X B p : Int) → M' 76 6 = (qws X B p : Int) → Q ((1, (0, 1)), (gk_R, M', 142, cc, cs)))
    (herr : ¬ (qws X B p < B ∧ qle X (qws X B p) = true) → ∀ M' : gg_M, (∀ j, j ≠ 76 → M' j = M j) → (∀ f, f ≠ 2 → f ≠ 3 → f ≠ 5 → M' 76 f = M 76 f) → M' 76 2 = 1 → M' 76 3 = (qws X B p : Int) → Q ((1, (0, 0)), (gk_R, M', 142, cc, cs))) :
    wp N xs (d + 2) 44 0 [gr 76] [] (gk_R, M, 142, cc, cs) Q := by
  have hC' := qt_C_u (x := (qws X B p : Int)) hC (show 5 ≠ 1 by decide)
  obtain ⟨hr1, hr⟩ := qws_rg (X := X) hp
  have hB := hC.2.1
  have hfail : ¬ (qws X B p < B ∧ qle X (qws X B p) = true) → Q ((1, (0, 0)), (gk_R, gg_up (gg_up (gg_up M 76 5 (qws X B p : Int)) 76 2 1) 76 3 (qws X B p : Int), 142, cc, cs)) := fun h =>
    herr h _ (fun j hj => by rw [gu_n hj, gu_n hj, gu_n hj]) (fun f f2 f3 f5 => by rw [gu_s f3, gu_s f2, gu_s f5]) (by rw [gu_s (by decide), gu_e]) gu_e
  by_cases e : B ≤ qws X B p
  · have e1 : decide (B ≤ qws X B p) = true := decide_eq_true e
    have := hfail (fun h => by omega)
    simp (disch := first | assumption | omega | exact il_cqA _ _ | exact il_cqB _ _) only [wi_44_0, wi_44_1, wi_44_4, wi_44_7, wi_44_8, wi_44_9, wi_44_12, wi_44_15, wi_44_18, wi_44_19, wi_44_20, wi_44_21, wi_44_24, wi_44_27, wi_44_28, wi_44_29, wi_44_30, wi_44_33, wi_44_37, wi_44_40, wi_44_41, wi_44_44, wi_44_47, wi_44_48, wi_44_49, wi_44_52, wi_44_55, wi_44_58, wi_44_59, wi_44_60, wi_44_63, wi_44_64, wi_44_65, wi_44_68, wi_44_71, wi_44_72, io_add_o, io_sub_o, io_mul_o, io_neg_o, io_and_r, io_or_r, io_xor_r, io_nd_r, io_shr_r, io_shl1, io_i2b_r, io_i2l_o, io_l2i_o, il_add_o, il_sub_o, il_mul_o, il_neg_o, ib_bit, Int.toNat_natCast, true_implies, false_implies, implies_true, and_true, true_and, and_self, not_true_eq_false, not_false_eq_true, wa_0, wa_1, il_cmp_o, il_cmp0, il_cmp1, il_cmp2, io_bit1, ibt0, ibt1, ibt00, ibt11, ibt10, ibt01, Int.ofNat_lt, Int.ofNat_le, Int.ofNat_inj, Nat.lt_irrefl, Int.lt_irrefl, Int.toNat_one, Int.toNat_zero, Bool.false_eq_true, reduceIte, reduceCtorEq, Nat.reduceAdd, Nat.reduceMul, Nat.reduceSub, Nat.reduceLT, Nat.reduceLeDiff, Nat.reduceEqDiff, Int.reduceNeg, Int.reduceAdd, Int.reduceMul, Int.reduceSub, Int.reduceLT, Int.reduceLE, Int.reduceEq, Int.reduceToNat, Int.reduceNatCast, icl, ico, inz, Nat.not_lt_zero, wp_isAtEnd _ p M _ hC hp rfl hat, e1, gu_e, wp_fail]
    exact this
  · have e0 : qws X B p < B := by omega
    have e1 : decide (B ≤ qws X B p) = false := decide_eq_false e
    cases hl : qle X (qws X B p)
    · have := hfail (fun h => by rw [hl] at h; cases h.2)
      simp (disch := first | assumption | omega | exact il_cqA _ _ | exact il_cqB _ _) only [wi_44_0, wi_44_1, wi_44_4, wi_44_7, wi_44_8, wi_44_9, wi_44_12, wi_44_15, wi_44_18, wi_44_19, wi_44_20, wi_44_21, wi_44_24, wi_44_27, wi_44_28, wi_44_29, wi_44_30, wi_44_33, wi_44_37, wi_44_40, wi_44_41, wi_44_44, wi_44_47, wi_44_48, wi_44_49, wi_44_52, wi_44_55, wi_44_58, wi_44_59, wi_44_60, wi_44_63, wi_44_64, wi_44_65, wi_44_68, wi_44_71, wi_44_72, io_add_o, io_sub_o, io_mul_o, io_neg_o, io_and_r, io_or_r, io_xor_r, io_nd_r, io_shr_r, io_shl1, io_i2b_r, io_i2l_o, io_l2i_o, il_add_o, il_sub_o, il_mul_o, il_neg_o, ib_bit, Int.toNat_natCast, true_implies, false_implies, implies_true, and_true, true_and, and_self, not_true_eq_false, not_false_eq_true, wa_0, wa_1, il_cmp_o, il_cmp0, il_cmp1, il_cmp2, io_bit1, ibt0, ibt1, ibt00, ibt11, ibt10, ibt01, Int.ofNat_lt, Int.ofNat_le, Int.ofNat_inj, Nat.lt_irrefl, Int.lt_irrefl, Int.toNat_one, Int.toNat_zero, Bool.false_eq_true, reduceIte, reduceCtorEq, Nat.reduceAdd, Nat.reduceMul, Nat.reduceSub, Nat.reduceLT, Nat.reduceLeDiff, Nat.reduceEqDiff, Int.reduceNeg, Int.reduceAdd, Int.reduceMul, Int.reduceSub, Int.reduceLT, Int.reduceLE, Int.reduceEq, Int.reduceToNat, Int.reduceNatCast, icl, ico, inz, Nat.not_lt_zero, wp_isAtEnd _ p M _ hC hp rfl hat, e1, gu_e, wp_isLetter hC' e0, hl, wp_fail]
      exact this
    · have hok' := hok e0 hl
      simp (disch := first | assumption | omega | exact il_cqA _ _ | exact il_cqB _ _) only [wi_44_0, wi_44_1, wi_44_4, wi_44_7, wi_44_8, wi_44_9, wi_44_12, wi_44_15, wi_44_18, wi_44_19, wi_44_20, wi_44_21, wi_44_24, wi_44_27, wi_44_28, wi_44_29, wi_44_30, wi_44_33, wi_44_37, wi_44_40, wi_44_41, wi_44_44, wi_44_47, wi_44_48, wi_44_49, wi_44_52, wi_44_55, wi_44_58, wi_44_59, wi_44_60, wi_44_63, wi_44_64, wi_44_65, wi_44_68, wi_44_71, wi_44_72, io_add_o, io_sub_o, io_mul_o, io_neg_o, io_and_r, io_or_r, io_xor_r, io_nd_r, io_shr_r, io_shl1, io_i2b_r, io_i2l_o, io_l2i_o, il_add_o, il_sub_o, il_mul_o, il_neg_o, ib_bit, Int.toNat_natCast, true_implies, false_implies, implies_true, and_true, true_and, and_self, not_true_eq_false, not_false_eq_true, wa_0, wa_1, il_cmp_o, il_cmp0, il_cmp1, il_cmp2, io_bit1, ibt0, ibt1, ibt00, ibt11, ibt10, ibt01, Int.ofNat_lt, Int.ofNat_le, Int.ofNat_inj, Nat.lt_irrefl, Int.lt_irrefl, Int.toNat_one, Int.toNat_zero, Bool.false_eq_true, reduceIte, reduceCtorEq, Nat.reduceAdd, Nat.reduceMul, Nat.reduceSub, Nat.reduceLT, Nat.reduceLeDiff, Nat.reduceEqDiff, Int.reduceNeg, Int.reduceAdd, Int.reduceMul, Int.reduceSub, Int.reduceLT, Int.reduceLE, Int.reduceEq, Int.reduceToNat, Int.reduceNatCast, icl, ico, inz, Nat.not_lt_zero, wp_isAtEnd _ p M _ hC hp rfl hat, e1, gu_e, wp_isLetter hC' e0, hl]
      have key : ∀ k q (M1 : gg_M), k = B - q → qws X B p ≤ q → q ≤ B → (∀ j, j ≠ 76 → M1 j = M j) → (∀ f, f ≠ 5 → f ≠ 6 → M1 76 f = M 76 f) → M1 76 5 = (q : Int) → M1 76 6 = (qws X B p : Int) → qend (qle X) B q = qwe X B p → wp N xs (d + 2) 44 36 [gr 76] [] (gk_R, M1, 142, cc, cs) Q := by
        intro k
        induction k with
        | zero =>
          intro q M1 hk h0 h1 g1 g2 g3 g4 g5
          have hBq : q = B := by omega
          have gB : M1 76 1 = (B : Int) := by rw [g2 1 (by decide) (by decide)]; exact hC.1
          rw [qend_B (by omega)] at g5
          have := hok' M1 g1 g2 (by rw [g3, g5]) g4
          have hnl : ¬ q < B := by omega
          rw [wi_44_36]
          simp (disch := first | assumption | omega | exact il_cqA _ _ | exact il_cqB _ _) only [wi_44_0, wi_44_1, wi_44_4, wi_44_7, wi_44_8, wi_44_9, wi_44_12, wi_44_15, wi_44_18, wi_44_19, wi_44_20, wi_44_21, wi_44_24, wi_44_27, wi_44_28, wi_44_29, wi_44_30, wi_44_33, wi_44_37, wi_44_40, wi_44_41, wi_44_44, wi_44_47, wi_44_48, wi_44_49, wi_44_52, wi_44_55, wi_44_58, wi_44_59, wi_44_60, wi_44_63, wi_44_64, wi_44_65, wi_44_68, wi_44_71, wi_44_72, io_add_o, io_sub_o, io_mul_o, io_neg_o, io_and_r, io_or_r, io_xor_r, io_nd_r, io_shr_r, io_shl1, io_i2b_r, io_i2l_o, io_l2i_o, il_add_o, il_sub_o, il_mul_o, il_neg_o, ib_bit, Int.toNat_natCast, true_implies, false_implies, implies_true, and_true, true_and, and_self, not_true_eq_false, not_false_eq_true, wa_0, wa_1, il_cmp_o, il_cmp0, il_cmp1, il_cmp2, io_bit1, ibt0, ibt1, ibt00, ibt11, ibt10, ibt01, Int.ofNat_lt, Int.ofNat_le, Int.ofNat_inj, Nat.lt_irrefl, Int.lt_irrefl, Int.toNat_one, Int.toNat_zero, Bool.false_eq_true, reduceIte, reduceCtorEq, Nat.reduceAdd, Nat.reduceMul, Nat.reduceSub, Nat.reduceLT, Nat.reduceLeDiff, Nat.reduceEqDiff, Int.reduceNeg, Int.reduceAdd, Int.reduceMul, Int.reduceSub, Int.reduceLT, Int.reduceLE, Int.reduceEq, Int.reduceToNat, Int.reduceNatCast, icl, ico, inz, Nat.not_lt_zero, g3, gB, hnl]
          exact this
        | succ k ih =>
          intro q M1 hk h0 h1 g1 g2 g3 g4 g5
          have gB : M1 76 1 = (B : Int) := by rw [g2 1 (by decide) (by decide)]; exact hC.1
          have hlt : q < B := by omega
          have hC1 : qt_C M1 X B := qt_C_e hC (g2 1 (by decide) (by decide)) (g1 77 (by decide))
          rw [wi_44_36]
          cases hq : qle X q
          · rw [qend_f hq] at g5
            have := hok' M1 g1 g2 (by rw [g3, g5]) g4
            simp (disch := first | assumption | omega | exact il_cqA _ _ | exact il_cqB _ _) only [wi_44_0, wi_44_1, wi_44_4, wi_44_7, wi_44_8, wi_44_9, wi_44_12, wi_44_15, wi_44_18, wi_44_19, wi_44_20, wi_44_21, wi_44_24, wi_44_27, wi_44_28, wi_44_29, wi_44_30, wi_44_33, wi_44_37, wi_44_40, wi_44_41, wi_44_44, wi_44_47, wi_44_48, wi_44_49, wi_44_52, wi_44_55, wi_44_58, wi_44_59, wi_44_60, wi_44_63, wi_44_64, wi_44_65, wi_44_68, wi_44_71, wi_44_72, io_add_o, io_sub_o, io_mul_o, io_neg_o, io_and_r, io_or_r, io_xor_r, io_nd_r, io_shr_r, io_shl1, io_i2b_r, io_i2l_o, io_l2i_o, il_add_o, il_sub_o, il_mul_o, il_neg_o, ib_bit, Int.toNat_natCast, true_implies, false_implies, implies_true, and_true, true_and, and_self, not_true_eq_false, not_false_eq_true, wa_0, wa_1, il_cmp_o, il_cmp0, il_cmp1, il_cmp2, io_bit1, ibt0, ibt1, ibt00, ibt11, ibt10, ibt01, Int.ofNat_lt, Int.ofNat_le, Int.ofNat_inj, Nat.lt_irrefl, Int.lt_irrefl, Int.toNat_one, Int.toNat_zero, Bool.false_eq_true, reduceIte, reduceCtorEq, Nat.reduceAdd, Nat.reduceMul, Nat.reduceSub, Nat.reduceLT, Nat.reduceLeDiff, Nat.reduceEqDiff, Int.reduceNeg, Int.reduceAdd, Int.reduceMul, Int.reduceSub, Int.reduceLT, Int.reduceLE, Int.reduceEq, Int.reduceToNat, Int.reduceNatCast, icl, ico, inz, Nat.not_lt_zero, g3, gB, hlt, wp_isLetter hC1 hlt, hq]
            exact this
          · rw [qend_s hlt hq] at g5
            simp (disch := first | assumption | omega | exact il_cqA _ _ | exact il_cqB _ _) only [wi_44_0, wi_44_1, wi_44_4, wi_44_7, wi_44_8, wi_44_9, wi_44_12, wi_44_15, wi_44_18, wi_44_19, wi_44_20, wi_44_21, wi_44_24, wi_44_27, wi_44_28, wi_44_29, wi_44_30, wi_44_33, wi_44_37, wi_44_40, wi_44_41, wi_44_44, wi_44_47, wi_44_48, wi_44_49, wi_44_52, wi_44_55, wi_44_58, wi_44_59, wi_44_60, wi_44_63, wi_44_64, wi_44_65, wi_44_68, wi_44_71, wi_44_72, io_add_o, io_sub_o, io_mul_o, io_neg_o, io_and_r, io_or_r, io_xor_r, io_nd_r, io_shr_r, io_shl1, io_i2b_r, io_i2l_o, io_l2i_o, il_add_o, il_sub_o, il_mul_o, il_neg_o, ib_bit, Int.toNat_natCast, true_implies, false_implies, implies_true, and_true, true_and, and_self, not_true_eq_false, not_false_eq_true, wa_0, wa_1, il_cmp_o, il_cmp0, il_cmp1, il_cmp2, io_bit1, ibt0, ibt1, ibt00, ibt11, ibt10, ibt01, Int.ofNat_lt, Int.ofNat_le, Int.ofNat_inj, Nat.lt_irrefl, Int.lt_irrefl, Int.toNat_one, Int.toNat_zero, Bool.false_eq_true, reduceIte, reduceCtorEq, Nat.reduceAdd, Nat.reduceMul, Nat.reduceSub, Nat.reduceLT, Nat.reduceLeDiff, Nat.reduceEqDiff, Int.reduceNeg, Int.reduceAdd, Int.reduceMul, Int.reduceSub, Int.reduceLT, Int.reduceLE, Int.reduceEq, Int.reduceToNat, Int.reduceNatCast, icl, ico, inz, Nat.not_lt_zero, g3, gB, hlt, wp_isLetter hC1 hlt, hq]
            exact ih (q + 1) _ (by omega) (by omega) (by omega) (fun j hj => by rw [gu_n hj, g1 j hj]) (fun f f5 f6 => by rw [gu_s f5, g2 f f5 f6]) gu_e (by rw [gu_s (by decide)]; exact g4) g5
      exact key _ (qws X B p) _ rfl (Nat.le_refl _) (by omega) (fun j hj => by rw [gu_n hj, gu_n hj]) (fun f f5 f6 => by rw [gu_s f6, gu_s f5]) (by rw [gu_s (by decide), gu_e]) gu_e rfl
theorem wp_isWord {M : gg_M} {b e s : Nat} (hs : s < 3) (hC : qt_C M X B) (hbe : b ≤ e) (he : e ≤ B) (hat : M 76 5 = (e : Int)) (hw : M 76 6 = (b : Int)) :
    wp N xs (d + 4) 46 0 [gr 76, gtx s, (3, 0)] [] (gk_R, M, 142, cc, cs) Q ↔ Q ((1, (0, ((qword X b e s).toNat : Int))), (gk_R, M, 142, cc, cs)) := by
  refine wp_det ?_
  obtain ⟨c1, c2, c3, c4⟩ := id hC
  have h5 := gtx_len s
  by_cases e1 : e - b = (gg_tx s).length
  · have e2 : (e : Int) - (b : Int) = ((gg_tx s).length : Int) := by omega
    have hq : qword X b e s = (List.range (gg_tx s).length).all fun k => decide ((X (b + k) : Int) = gch s k) := by
      unfold qword
      rw [decide_eq_true e1, Bool.true_and]
    rw [hq]
    simp (disch := first | assumption | omega | exact il_cqA _ _ | exact il_cqB _ _) only [wi_46_0, wi_46_1, wi_46_4, wi_46_5, wi_46_8, wi_46_9, wi_46_10, wi_46_13, wi_46_16, wi_46_17, wi_46_18, wi_46_19, wi_46_21, wi_46_22, wi_46_25, wi_46_28, wi_46_29, wi_46_32, wi_46_33, wi_46_36, wi_46_37, wi_46_38, wi_46_39, wi_46_40, wi_46_41, wi_46_44, wi_46_47, wi_46_48, wi_46_49, wi_46_52, wi_46_55, wi_46_56, io_add_o, io_sub_o, io_mul_o, io_neg_o, io_and_r, io_or_r, io_xor_r, io_nd_r, io_shr_r, io_shl1, io_i2b_r, io_i2l_o, io_l2i_o, il_add_o, il_sub_o, il_mul_o, il_neg_o, ib_bit, Int.toNat_natCast, true_implies, false_implies, implies_true, and_true, true_and, and_self, not_true_eq_false, not_false_eq_true, wa_0, wa_1, il_cmp_o, il_cmp0, il_cmp1, il_cmp2, io_bit1, ibt0, ibt1, ibt00, ibt11, ibt10, ibt01, Int.ofNat_lt, Int.ofNat_le, Int.ofNat_inj, Nat.lt_irrefl, Int.lt_irrefl, Int.toNat_one, Int.toNat_zero, Bool.false_eq_true, reduceIte, reduceCtorEq, Nat.reduceAdd, Nat.reduceMul, Nat.reduceSub, Nat.reduceLT, Nat.reduceLeDiff, Nat.reduceEqDiff, Int.reduceNeg, Int.reduceAdd, Int.reduceMul, Int.reduceSub, Int.reduceLT, Int.reduceLE, Int.reduceEq, Int.reduceToNat, Int.reduceNatCast, icl, ico, inz, Nat.not_lt_zero, hat, hw, wp_len hs, e2]
    refine wl_i (P := fun i I => (∀ k, k < i → (X (b + k) : Int) = gch s k) → wp N xs (d + 4) 46 20 [gr 76, gtx s, (0, I)] [] (gk_R, M, 142, cc, cs) _) (gg_tx s).length (fun i hi ih hv => ?_) (fun hv => ?_) (fun k hk => absurd hk (Nat.not_lt_zero k))
    · have hx := c4 (b + i) (by omega)
      have hx2 := c3 (b + i)
      have e3 : ((b : Int) + (i : Int)).toNat = b + i := by omega
      have hg := gch_ok ⟨s, hs⟩ ⟨i, by omega⟩ hi
      simp only at hg
      obtain ⟨_, _, hg3, hg4⟩ := hg
      rw [wi_46_20]
      by_cases e4 : (X (b + i) : Int) = gch s i
      · simp (disch := first | assumption | omega | exact il_cqA _ _ | exact il_cqB _ _) only [wi_46_0, wi_46_1, wi_46_4, wi_46_5, wi_46_8, wi_46_9, wi_46_10, wi_46_13, wi_46_16, wi_46_17, wi_46_18, wi_46_19, wi_46_21, wi_46_22, wi_46_25, wi_46_28, wi_46_29, wi_46_32, wi_46_33, wi_46_36, wi_46_37, wi_46_38, wi_46_39, wi_46_40, wi_46_41, wi_46_44, wi_46_47, wi_46_48, wi_46_49, wi_46_52, wi_46_55, wi_46_56, io_add_o, io_sub_o, io_mul_o, io_neg_o, io_and_r, io_or_r, io_xor_r, io_nd_r, io_shr_r, io_shl1, io_i2b_r, io_i2l_o, io_l2i_o, il_add_o, il_sub_o, il_mul_o, il_neg_o, ib_bit, Int.toNat_natCast, true_implies, false_implies, implies_true, and_true, true_and, and_self, not_true_eq_false, not_false_eq_true, wa_0, wa_1, il_cmp_o, il_cmp0, il_cmp1, il_cmp2, io_bit1, ibt0, ibt1, ibt00, ibt11, ibt10, ibt01, Int.ofNat_lt, Int.ofNat_le, Int.ofNat_inj, Nat.lt_irrefl, Int.lt_irrefl, Int.toNat_one, Int.toNat_zero, Bool.false_eq_true, reduceIte, reduceCtorEq, Nat.reduceAdd, Nat.reduceMul, Nat.reduceSub, Nat.reduceLT, Nat.reduceLeDiff, Nat.reduceEqDiff, Int.reduceNeg, Int.reduceAdd, Int.reduceMul, Int.reduceSub, Int.reduceLT, Int.reduceLE, Int.reduceEq, Int.reduceToNat, Int.reduceNatCast, icl, ico, inz, Nat.not_lt_zero, hw, wp_len hs, hi, e3, hx, wp_charAt hs hi, e4]
        refine ih fun k hk => ?_
        by_cases e5 : k = i
        · subst e5
          exact e4
        · exact hv k (by omega)
      · have : ((List.range (gg_tx s).length).all fun k => decide ((X (b + k) : Int) = gch s k)) = false := by
          rw [← Bool.not_eq_true, List.all_eq_true]
          intro h
          exact e4 (of_decide_eq_true (h i (List.mem_range.2 hi)))
        rw [this]
        simp (disch := first | assumption | omega | exact il_cqA _ _ | exact il_cqB _ _) only [wi_46_0, wi_46_1, wi_46_4, wi_46_5, wi_46_8, wi_46_9, wi_46_10, wi_46_13, wi_46_16, wi_46_17, wi_46_18, wi_46_19, wi_46_21, wi_46_22, wi_46_25, wi_46_28, wi_46_29, wi_46_32, wi_46_33, wi_46_36, wi_46_37, wi_46_38, wi_46_39, wi_46_40, wi_46_41, wi_46_44, wi_46_47, wi_46_48, wi_46_49, wi_46_52, wi_46_55, wi_46_56, io_add_o, io_sub_o, io_mul_o, io_neg_o, io_and_r, io_or_r, io_xor_r, io_nd_r, io_shr_r, io_shl1, io_i2b_r, io_i2l_o, io_l2i_o, il_add_o, il_sub_o, il_mul_o, il_neg_o, ib_bit, Int.toNat_natCast, true_implies, false_implies, implies_true, and_true, true_and, and_self, not_true_eq_false, not_false_eq_true, wa_0, wa_1, il_cmp_o, il_cmp0, il_cmp1, il_cmp2, io_bit1, ibt0, ibt1, ibt00, ibt11, ibt10, ibt01, Int.ofNat_lt, Int.ofNat_le, Int.ofNat_inj, Nat.lt_irrefl, Int.lt_irrefl, Int.toNat_one, Int.toNat_zero, Bool.false_eq_true, reduceIte, reduceCtorEq, Nat.reduceAdd, Nat.reduceMul, Nat.reduceSub, Nat.reduceLT, Nat.reduceLeDiff, Nat.reduceEqDiff, Int.reduceNeg, Int.reduceAdd, Int.reduceMul, Int.reduceSub, Int.reduceLT, Int.reduceLE, Int.reduceEq, Int.reduceToNat, Int.reduceNatCast, icl, ico, inz, Nat.not_lt_zero, hw, wp_len hs, hi, e3, hx, wp_charAt hs hi, e4]
    · have : ((List.range (gg_tx s).length).all fun k => decide ((X (b + k) : Int) = gch s k)) = true := by
        rw [List.all_eq_true]
        intro k hk
        exact decide_eq_true (hv k (List.mem_range.1 hk))
      rw [this]
      rw [wi_46_20]
      simp (disch := first | assumption | omega | exact il_cqA _ _ | exact il_cqB _ _) only [wi_46_0, wi_46_1, wi_46_4, wi_46_5, wi_46_8, wi_46_9, wi_46_10, wi_46_13, wi_46_16, wi_46_17, wi_46_18, wi_46_19, wi_46_21, wi_46_22, wi_46_25, wi_46_28, wi_46_29, wi_46_32, wi_46_33, wi_46_36, wi_46_37, wi_46_38, wi_46_39, wi_46_40, wi_46_41, wi_46_44, wi_46_47, wi_46_48, wi_46_49, wi_46_52, wi_46_55, wi_46_56, io_add_o, io_sub_o, io_mul_o, io_neg_o, io_and_r, io_or_r, io_xor_r, io_nd_r, io_shr_r, io_shl1, io_i2b_r, io_i2l_o, io_l2i_o, il_add_o, il_sub_o, il_mul_o, il_neg_o, ib_bit, Int.toNat_natCast, true_implies, false_implies, implies_true, and_true, true_and, and_self, not_true_eq_false, not_false_eq_true, wa_0, wa_1, il_cmp_o, il_cmp0, il_cmp1, il_cmp2, io_bit1, ibt0, ibt1, ibt00, ibt11, ibt10, ibt01, Int.ofNat_lt, Int.ofNat_le, Int.ofNat_inj, Nat.lt_irrefl, Int.lt_irrefl, Int.toNat_one, Int.toNat_zero, Bool.false_eq_true, reduceIte, reduceCtorEq, Nat.reduceAdd, Nat.reduceMul, Nat.reduceSub, Nat.reduceLT, Nat.reduceLeDiff, Nat.reduceEqDiff, Int.reduceNeg, Int.reduceAdd, Int.reduceMul, Int.reduceSub, Int.reduceLT, Int.reduceLE, Int.reduceEq, Int.reduceToNat, Int.reduceNatCast, icl, ico, inz, Nat.not_lt_zero, wp_len hs]
  · have e2 : ¬ (e : Int) - (b : Int) = ((gg_tx s).length : Int) := by omega
    have hq : qword X b e s = false := by
      unfold qword
      rw [decide_eq_false e1]
      rfl
    rw [hq]
    simp (disch := first | assumption | omega | exact il_cqA _ _ | exact il_cqB _ _) only [wi_46_0, wi_46_1, wi_46_4, wi_46_5, wi_46_8, wi_46_9, wi_46_10, wi_46_13, wi_46_16, wi_46_17, wi_46_18, wi_46_19, wi_46_21, wi_46_22, wi_46_25, wi_46_28, wi_46_29, wi_46_32, wi_46_33, wi_46_36, wi_46_37, wi_46_38, wi_46_39, wi_46_40, wi_46_41, wi_46_44, wi_46_47, wi_46_48, wi_46_49, wi_46_52, wi_46_55, wi_46_56, io_add_o, io_sub_o, io_mul_o, io_neg_o, io_and_r, io_or_r, io_xor_r, io_nd_r, io_shr_r, io_shl1, io_i2b_r, io_i2l_o, io_l2i_o, il_add_o, il_sub_o, il_mul_o, il_neg_o, ib_bit, Int.toNat_natCast, true_implies, false_implies, implies_true, and_true, true_and, and_self, not_true_eq_false, not_false_eq_true, wa_0, wa_1, il_cmp_o, il_cmp0, il_cmp1, il_cmp2, io_bit1, ibt0, ibt1, ibt00, ibt11, ibt10, ibt01, Int.ofNat_lt, Int.ofNat_le, Int.ofNat_inj, Nat.lt_irrefl, Int.lt_irrefl, Int.toNat_one, Int.toNat_zero, Bool.false_eq_true, reduceIte, reduceCtorEq, Nat.reduceAdd, Nat.reduceMul, Nat.reduceSub, Nat.reduceLT, Nat.reduceLeDiff, Nat.reduceEqDiff, Int.reduceNeg, Int.reduceAdd, Int.reduceMul, Int.reduceSub, Int.reduceLT, Int.reduceLE, Int.reduceEq, Int.reduceToNat, Int.reduceNatCast, icl, ico, inz, Nat.not_lt_zero, hat, hw, wp_len hs, e2]
theorem wp_readNumber {M : gg_M} {p : Nat} {lo hi : Int} (hlo : 0 ≤ lo) (hlo2 : lo ≤ 10) (hhi : -1 ≤ hi) (hhi2 : hi ≤ 99) (hC : qt_C M X B) (hp : p ≤ B) (hat : M 76 5 = (p : Int))
    (hok : ∀ v e, qnumb X B p lo hi = .ok (v, e) → p < e → e ≤ B → ∀ M' : gg_M, (∀ j, j ≠ 76 → M' j = M j) → (∀ f, f ≠ 5 → f ≠ 7 → M' 76 f = M 76 f) → M' 76 5 = (e : Int) → M' 76 7 = (v : Int) → Q ((1, (0, 1)), (gk_R, M', 142, cc, cs)))
    (herr : ∀ k q, qnumb X B p lo hi = .error (k, q) → ∀ M' : gg_M, (∀ j, j ≠ 76 → M' j = M j) → (∀ f, f ≠ 2 → f ≠ 3 → f ≠ 5 → f ≠ 7 → M' 76 f = M 76 f) → M' 76 2 = (k : Int) → M' 76 3 = (q : Int) → Q ((1, (0, 0)), (gk_R, M', 142, cc, cs))) :
    wp N xs (d + 3) 45 0 [gr 76, (0, lo), (0, hi), (3, 0)] [] (gk_R, M, 142, cc, cs) Q := by
  obtain ⟨hr1, hr⟩ := qws_rg (X := X) hp
  have hB := hC.2.1
  have h255 := hC.2.2.1
  by_cases e : qws X B p < B ∧ qdi X (qws X B p) = true
  · have hb : (decide (qws X B p < B) && qdi X (qws X B p)) = true := by rw [e.2, decide_eq_true e.1]; rfl
    obtain ⟨q1, q2, q3, q4⟩ := qend_rg (f := qdi X) (B := B) hr
    have hnum : qnumb X B p lo hi = (if lo ≤ (qval X (qws X B p) (qend (qdi X) B (qws X B p) - qws X B p) : Int) ∧ (qval X (qws X B p) (qend (qdi X) B (qws X B p) - qws X B p) : Int) ≤ hi then .ok (qval X (qws X B p) (qend (qdi X) B (qws X B p) - qws X B p), qend (qdi X) B (qws X B p)) else .error (2, qws X B p)) := by
      unfold qnumb
      rw [if_pos e]
    have hlt1 : qws X B p < qend (qdi X) B (qws X B p) := by
      rw [qend_s e.1 e.2]
      have := (qend_rg (f := qdi X) (B := B) (p := qws X B p + 1) (by omega)).1
      omega
    obtain ⟨w, hw⟩ : ∃ w, qws X B p = w := ⟨_, rfl⟩
    rw [hw] at e hb q1 q2 q3 q4 hnum hlt1 hr1 hr
    simp (disch := first | assumption | omega | exact il_cqA _ _ | exact il_cqB _ _) only [wi_45_0, wi_45_1, wi_45_4, wi_45_7, wi_45_8, wi_45_9, wi_45_10, wi_45_13, wi_45_16, wi_45_17, wi_45_18, wi_45_21, wi_45_22, wi_45_23, wi_45_24, wi_45_28, wi_45_31, wi_45_32, wi_45_35, wi_45_38, wi_45_39, wi_45_40, wi_45_43, wi_45_46, wi_45_49, wi_45_50, wi_45_51, wi_45_54, wi_45_56, wi_45_57, wi_45_58, wi_45_61, wi_45_62, wi_45_65, wi_45_66, wi_45_67, wi_45_69, wi_45_70, wi_45_73, wi_45_76, wi_45_79, wi_45_80, wi_45_81, wi_45_84, wi_45_85, wi_45_86, wi_45_89, wi_45_92, wi_45_93, wi_45_96, wi_45_97, wi_45_100, wi_45_101, wi_45_104, wi_45_105, wi_45_108, wi_45_109, wi_45_110, wi_45_111, wi_45_114, wi_45_117, wi_45_118, wi_45_121, wi_45_122, io_add_o, io_sub_o, io_mul_o, io_neg_o, io_and_r, io_or_r, io_xor_r, io_nd_r, io_shr_r, io_shl1, io_i2b_r, io_i2l_o, io_l2i_o, il_add_o, il_sub_o, il_mul_o, il_neg_o, ib_bit, Int.toNat_natCast, true_implies, false_implies, implies_true, and_true, true_and, and_self, not_true_eq_false, not_false_eq_true, wa_0, wa_1, il_cmp_o, il_cmp0, il_cmp1, il_cmp2, io_bit1, ibt0, ibt1, ibt00, ibt11, ibt10, ibt01, Int.ofNat_lt, Int.ofNat_le, Int.ofNat_inj, Nat.lt_irrefl, Int.lt_irrefl, Int.toNat_one, Int.toNat_zero, Bool.false_eq_true, reduceIte, reduceCtorEq, Nat.reduceAdd, Nat.reduceMul, Nat.reduceSub, Nat.reduceLT, Nat.reduceLeDiff, Nat.reduceEqDiff, Int.reduceNeg, Int.reduceAdd, Int.reduceMul, Int.reduceSub, Int.reduceLT, Int.reduceLE, Int.reduceEq, Int.reduceToNat, Int.reduceNatCast, icl, ico, inz, Nat.not_lt_zero, wp_isAtDigit hC hp hat, hw, hb, gu_e]
    have key : ∀ k n (M1 : gg_M), k = qend (qdi X) B w - (w + n) → w + n ≤ qend (qdi X) B w → (∀ j, j ≠ 76 → M1 j = M j) → (∀ f, f ≠ 5 → f ≠ 7 → M1 76 f = M 76 f) → M1 76 5 = ((w + n : Nat) : Int) → M1 76 7 = ((min (qval X w n) 1000 : Nat) : Int) → wp N xs (d + 3) 45 27 [gr 76, (0, lo), (0, hi), (0, (w : Int))] [] (gk_R, M1, 142, cc, cs) Q := by
      intro k
      induction k with
      | zero =>
        intro n M1 hk hn g1 g2 g3 g4
        have en : w + n = qend (qdi X) B w := by omega
        have gB : M1 76 1 = (B : Int) := by rw [g2 1 (by decide) (by decide)]; exact hC.1
        have hC1 : qt_C M1 X B := qt_C_e hC (g2 1 (by decide) (by decide)) (g1 77 (by decide))
        have en2 : qend (qdi X) B w - w = n := by omega
        rw [en2] at hnum
        have hfin : wp N xs (d + 3) 45 92 [gr 76, (0, lo), (0, hi), (0, (w : Int))] [] (gk_R, M1, 142, cc, cs) Q := by
          by_cases r1 : lo ≤ (qval X w n : Int)
          · by_cases r2 : (qval X w n : Int) ≤ hi
            · rw [if_pos ⟨r1, r2⟩] at hnum
              have f1 : ¬ ((min (qval X w n) 1000 : Nat) : Int) < lo := by omega
              have f2 : ¬ hi < ((min (qval X w n) 1000 : Nat) : Int) := by omega
              have := hok _ _ hnum (by omega) (by omega) M1 g1 g2 (by rw [g3, en]) (by rw [g4]; omega)
              simp (disch := first | assumption | omega | exact il_cqA _ _ | exact il_cqB _ _) only [wi_45_0, wi_45_1, wi_45_4, wi_45_7, wi_45_8, wi_45_9, wi_45_10, wi_45_13, wi_45_16, wi_45_17, wi_45_18, wi_45_21, wi_45_22, wi_45_23, wi_45_24, wi_45_28, wi_45_31, wi_45_32, wi_45_35, wi_45_38, wi_45_39, wi_45_40, wi_45_43, wi_45_46, wi_45_49, wi_45_50, wi_45_51, wi_45_54, wi_45_56, wi_45_57, wi_45_58, wi_45_61, wi_45_62, wi_45_65, wi_45_66, wi_45_67, wi_45_69, wi_45_70, wi_45_73, wi_45_76, wi_45_79, wi_45_80, wi_45_81, wi_45_84, wi_45_85, wi_45_86, wi_45_89, wi_45_92, wi_45_93, wi_45_96, wi_45_97, wi_45_100, wi_45_101, wi_45_104, wi_45_105, wi_45_108, wi_45_109, wi_45_110, wi_45_111, wi_45_114, wi_45_117, wi_45_118, wi_45_121, wi_45_122, io_add_o, io_sub_o, io_mul_o, io_neg_o, io_and_r, io_or_r, io_xor_r, io_nd_r, io_shr_r, io_shl1, io_i2b_r, io_i2l_o, io_l2i_o, il_add_o, il_sub_o, il_mul_o, il_neg_o, ib_bit, Int.toNat_natCast, true_implies, false_implies, implies_true, and_true, true_and, and_self, not_true_eq_false, not_false_eq_true, wa_0, wa_1, il_cmp_o, il_cmp0, il_cmp1, il_cmp2, io_bit1, ibt0, ibt1, ibt00, ibt11, ibt10, ibt01, Int.ofNat_lt, Int.ofNat_le, Int.ofNat_inj, Nat.lt_irrefl, Int.lt_irrefl, Int.toNat_one, Int.toNat_zero, Bool.false_eq_true, reduceIte, reduceCtorEq, Nat.reduceAdd, Nat.reduceMul, Nat.reduceSub, Nat.reduceLT, Nat.reduceLeDiff, Nat.reduceEqDiff, Int.reduceNeg, Int.reduceAdd, Int.reduceMul, Int.reduceSub, Int.reduceLT, Int.reduceLE, Int.reduceEq, Int.reduceToNat, Int.reduceNatCast, icl, ico, inz, Nat.not_lt_zero, g4, f1, f2]
              exact this
            · rw [if_neg (fun h => r2 h.2)] at hnum
              have f1 : ¬ ((min (qval X w n) 1000 : Nat) : Int) < lo := by omega
              have f2 : hi < ((min (qval X w n) 1000 : Nat) : Int) := by omega
              have := herr _ _ hnum (gg_up (gg_up M1 76 2 2) 76 3 (w : Int)) (fun j hj => by rw [gu_n hj, gu_n hj, g1 j hj]) (fun f a2 a3 a5 a7 => by rw [gu_s a3, gu_s a2, g2 f a5 a7]) (by rw [gu_s (by decide), gu_e]; rfl) gu_e
              simp (disch := first | assumption | omega | exact il_cqA _ _ | exact il_cqB _ _) only [wi_45_0, wi_45_1, wi_45_4, wi_45_7, wi_45_8, wi_45_9, wi_45_10, wi_45_13, wi_45_16, wi_45_17, wi_45_18, wi_45_21, wi_45_22, wi_45_23, wi_45_24, wi_45_28, wi_45_31, wi_45_32, wi_45_35, wi_45_38, wi_45_39, wi_45_40, wi_45_43, wi_45_46, wi_45_49, wi_45_50, wi_45_51, wi_45_54, wi_45_56, wi_45_57, wi_45_58, wi_45_61, wi_45_62, wi_45_65, wi_45_66, wi_45_67, wi_45_69, wi_45_70, wi_45_73, wi_45_76, wi_45_79, wi_45_80, wi_45_81, wi_45_84, wi_45_85, wi_45_86, wi_45_89, wi_45_92, wi_45_93, wi_45_96, wi_45_97, wi_45_100, wi_45_101, wi_45_104, wi_45_105, wi_45_108, wi_45_109, wi_45_110, wi_45_111, wi_45_114, wi_45_117, wi_45_118, wi_45_121, wi_45_122, io_add_o, io_sub_o, io_mul_o, io_neg_o, io_and_r, io_or_r, io_xor_r, io_nd_r, io_shr_r, io_shl1, io_i2b_r, io_i2l_o, io_l2i_o, il_add_o, il_sub_o, il_mul_o, il_neg_o, ib_bit, Int.toNat_natCast, true_implies, false_implies, implies_true, and_true, true_and, and_self, not_true_eq_false, not_false_eq_true, wa_0, wa_1, il_cmp_o, il_cmp0, il_cmp1, il_cmp2, io_bit1, ibt0, ibt1, ibt00, ibt11, ibt10, ibt01, Int.ofNat_lt, Int.ofNat_le, Int.ofNat_inj, Nat.lt_irrefl, Int.lt_irrefl, Int.toNat_one, Int.toNat_zero, Bool.false_eq_true, reduceIte, reduceCtorEq, Nat.reduceAdd, Nat.reduceMul, Nat.reduceSub, Nat.reduceLT, Nat.reduceLeDiff, Nat.reduceEqDiff, Int.reduceNeg, Int.reduceAdd, Int.reduceMul, Int.reduceSub, Int.reduceLT, Int.reduceLE, Int.reduceEq, Int.reduceToNat, Int.reduceNatCast, icl, ico, inz, Nat.not_lt_zero, g4, f1, f2, wp_fail]
              exact this
          · rw [if_neg (fun h => r1 h.1)] at hnum
            have f1 : ((min (qval X w n) 1000 : Nat) : Int) < lo := by omega
            have := herr _ _ hnum (gg_up (gg_up M1 76 2 2) 76 3 (w : Int)) (fun j hj => by rw [gu_n hj, gu_n hj, g1 j hj]) (fun f a2 a3 a5 a7 => by rw [gu_s a3, gu_s a2, g2 f a5 a7]) (by rw [gu_s (by decide), gu_e]; rfl) gu_e
            simp (disch := first | assumption | omega | exact il_cqA _ _ | exact il_cqB _ _) only [wi_45_0, wi_45_1, wi_45_4, wi_45_7, wi_45_8, wi_45_9, wi_45_10, wi_45_13, wi_45_16, wi_45_17, wi_45_18, wi_45_21, wi_45_22, wi_45_23, wi_45_24, wi_45_28, wi_45_31, wi_45_32, wi_45_35, wi_45_38, wi_45_39, wi_45_40, wi_45_43, wi_45_46, wi_45_49, wi_45_50, wi_45_51, wi_45_54, wi_45_56, wi_45_57, wi_45_58, wi_45_61, wi_45_62, wi_45_65, wi_45_66, wi_45_67, wi_45_69, wi_45_70, wi_45_73, wi_45_76, wi_45_79, wi_45_80, wi_45_81, wi_45_84, wi_45_85, wi_45_86, wi_45_89, wi_45_92, wi_45_93, wi_45_96, wi_45_97, wi_45_100, wi_45_101, wi_45_104, wi_45_105, wi_45_108, wi_45_109, wi_45_110, wi_45_111, wi_45_114, wi_45_117, wi_45_118, wi_45_121, wi_45_122, io_add_o, io_sub_o, io_mul_o, io_neg_o, io_and_r, io_or_r, io_xor_r, io_nd_r, io_shr_r, io_shl1, io_i2b_r, io_i2l_o, io_l2i_o, il_add_o, il_sub_o, il_mul_o, il_neg_o, ib_bit, Int.toNat_natCast, true_implies, false_implies, implies_true, and_true, true_and, and_self, not_true_eq_false, not_false_eq_true, wa_0, wa_1, il_cmp_o, il_cmp0, il_cmp1, il_cmp2, io_bit1, ibt0, ibt1, ibt00, ibt11, ibt10, ibt01, Int.ofNat_lt, Int.ofNat_le, Int.ofNat_inj, Nat.lt_irrefl, Int.lt_irrefl, Int.toNat_one, Int.toNat_zero, Bool.false_eq_true, reduceIte, reduceCtorEq, Nat.reduceAdd, Nat.reduceMul, Nat.reduceSub, Nat.reduceLT, Nat.reduceLeDiff, Nat.reduceEqDiff, Int.reduceNeg, Int.reduceAdd, Int.reduceMul, Int.reduceSub, Int.reduceLT, Int.reduceLE, Int.reduceEq, Int.reduceToNat, Int.reduceNatCast, icl, ico, inz, Nat.not_lt_zero, g4, f1, wp_fail]
            exact this
        rw [wi_45_27]
        generalize hwn : w + n = wn at *
        by_cases e5 : wn < B
        · have hq : qdi X wn = false := by
            rw [en]
            exact q3 (by omega)
          revert hfin
          simp (disch := first | assumption | omega | exact il_cqA _ _ | exact il_cqB _ _) only [wi_45_0, wi_45_1, wi_45_4, wi_45_7, wi_45_8, wi_45_9, wi_45_10, wi_45_13, wi_45_16, wi_45_17, wi_45_18, wi_45_21, wi_45_22, wi_45_23, wi_45_24, wi_45_28, wi_45_31, wi_45_32, wi_45_35, wi_45_38, wi_45_39, wi_45_40, wi_45_43, wi_45_46, wi_45_49, wi_45_50, wi_45_51, wi_45_54, wi_45_56, wi_45_57, wi_45_58, wi_45_61, wi_45_62, wi_45_65, wi_45_66, wi_45_67, wi_45_69, wi_45_70, wi_45_73, wi_45_76, wi_45_79, wi_45_80, wi_45_81, wi_45_84, wi_45_85, wi_45_86, wi_45_89, wi_45_92, wi_45_93, wi_45_96, wi_45_97, wi_45_100, wi_45_101, wi_45_104, wi_45_105, wi_45_108, wi_45_109, wi_45_110, wi_45_111, wi_45_114, wi_45_117, wi_45_118, wi_45_121, wi_45_122, io_add_o, io_sub_o, io_mul_o, io_neg_o, io_and_r, io_or_r, io_xor_r, io_nd_r, io_shr_r, io_shl1, io_i2b_r, io_i2l_o, io_l2i_o, il_add_o, il_sub_o, il_mul_o, il_neg_o, ib_bit, Int.toNat_natCast, true_implies, false_implies, implies_true, and_true, true_and, and_self, not_true_eq_false, not_false_eq_true, wa_0, wa_1, il_cmp_o, il_cmp0, il_cmp1, il_cmp2, io_bit1, ibt0, ibt1, ibt00, ibt11, ibt10, ibt01, Int.ofNat_lt, Int.ofNat_le, Int.ofNat_inj, Nat.lt_irrefl, Int.lt_irrefl, Int.toNat_one, Int.toNat_zero, Bool.false_eq_true, reduceIte, reduceCtorEq, Nat.reduceAdd, Nat.reduceMul, Nat.reduceSub, Nat.reduceLT, Nat.reduceLeDiff, Nat.reduceEqDiff, Int.reduceNeg, Int.reduceAdd, Int.reduceMul, Int.reduceSub, Int.reduceLT, Int.reduceLE, Int.reduceEq, Int.reduceToNat, Int.reduceNatCast, icl, ico, inz, Nat.not_lt_zero, g3, gB, e5, wp_isDigit hC1 e5, hq]
          exact id
        · revert hfin
          simp (disch := first | assumption | omega | exact il_cqA _ _ | exact il_cqB _ _) only [wi_45_0, wi_45_1, wi_45_4, wi_45_7, wi_45_8, wi_45_9, wi_45_10, wi_45_13, wi_45_16, wi_45_17, wi_45_18, wi_45_21, wi_45_22, wi_45_23, wi_45_24, wi_45_28, wi_45_31, wi_45_32, wi_45_35, wi_45_38, wi_45_39, wi_45_40, wi_45_43, wi_45_46, wi_45_49, wi_45_50, wi_45_51, wi_45_54, wi_45_56, wi_45_57, wi_45_58, wi_45_61, wi_45_62, wi_45_65, wi_45_66, wi_45_67, wi_45_69, wi_45_70, wi_45_73, wi_45_76, wi_45_79, wi_45_80, wi_45_81, wi_45_84, wi_45_85, wi_45_86, wi_45_89, wi_45_92, wi_45_93, wi_45_96, wi_45_97, wi_45_100, wi_45_101, wi_45_104, wi_45_105, wi_45_108, wi_45_109, wi_45_110, wi_45_111, wi_45_114, wi_45_117, wi_45_118, wi_45_121, wi_45_122, io_add_o, io_sub_o, io_mul_o, io_neg_o, io_and_r, io_or_r, io_xor_r, io_nd_r, io_shr_r, io_shl1, io_i2b_r, io_i2l_o, io_l2i_o, il_add_o, il_sub_o, il_mul_o, il_neg_o, ib_bit, Int.toNat_natCast, true_implies, false_implies, implies_true, and_true, true_and, and_self, not_true_eq_false, not_false_eq_true, wa_0, wa_1, il_cmp_o, il_cmp0, il_cmp1, il_cmp2, io_bit1, ibt0, ibt1, ibt00, ibt11, ibt10, ibt01, Int.ofNat_lt, Int.ofNat_le, Int.ofNat_inj, Nat.lt_irrefl, Int.lt_irrefl, Int.toNat_one, Int.toNat_zero, Bool.false_eq_true, reduceIte, reduceCtorEq, Nat.reduceAdd, Nat.reduceMul, Nat.reduceSub, Nat.reduceLT, Nat.reduceLeDiff, Nat.reduceEqDiff, Int.reduceNeg, Int.reduceAdd, Int.reduceMul, Int.reduceSub, Int.reduceLT, Int.reduceLE, Int.reduceEq, Int.reduceToNat, Int.reduceNatCast, icl, ico, inz, Nat.not_lt_zero, g3, gB, e5]
          exact id
      | succ k ih =>
        intro n M1 hk hn g1 g2 g3 g4
        have gB : M1 76 1 = (B : Int) := by rw [g2 1 (by decide) (by decide)]; exact hC.1
        have hC1 : qt_C M1 X B := qt_C_e hC (g2 1 (by decide) (by decide)) (g1 77 (by decide))
        have hq := q4 (w + n) (by omega) (by omega)
        have hx := hC1.2.2.2 (w + n) (by omega)
        have hx2 := h255 (w + n)
        have hd : 48 ≤ X (w + n) ∧ X (w + n) ≤ 57 := by
          unfold qdi at hq
          rw [Bool.and_eq_true, decide_eq_true_eq, decide_eq_true_eq] at hq
          exact hq
        have hmin := qval_min X w n 1000 hd.1 (by decide)
        have hnx := ih (n + 1)
        have e8 : ((w + (n + 1) : Nat) : Int) = ((w + n : Nat) : Int) + 1 := by omega
        rw [e8] at hnx
        have e9 : w + (n + 1) = (w + n) + 1 := by omega
        rw [e9] at hnx
        rw [wi_45_27]
        obtain ⟨V, hV⟩ : ∃ V, V = min (qval X w n) 1000 := ⟨_, rfl⟩
        rw [← hV] at g4 hmin
        have hV2 : V ≤ 1000 := by omega
        generalize hwn : w + n = wn at *
        have e5 : wn < B := by omega
        obtain ⟨c, hc⟩ : ∃ c, X wn = c := ⟨_, rfl⟩
        rw [hc] at hx hx2 hd hmin
        by_cases e6 : (V : Int) * 10 + (c : Int) - 48 ≤ 1000
        · simp (disch := first | assumption | omega | exact il_cqA _ _ | exact il_cqB _ _) only [wi_45_0, wi_45_1, wi_45_4, wi_45_7, wi_45_8, wi_45_9, wi_45_10, wi_45_13, wi_45_16, wi_45_17, wi_45_18, wi_45_21, wi_45_22, wi_45_23, wi_45_24, wi_45_28, wi_45_31, wi_45_32, wi_45_35, wi_45_38, wi_45_39, wi_45_40, wi_45_43, wi_45_46, wi_45_49, wi_45_50, wi_45_51, wi_45_54, wi_45_56, wi_45_57, wi_45_58, wi_45_61, wi_45_62, wi_45_65, wi_45_66, wi_45_67, wi_45_69, wi_45_70, wi_45_73, wi_45_76, wi_45_79, wi_45_80, wi_45_81, wi_45_84, wi_45_85, wi_45_86, wi_45_89, wi_45_92, wi_45_93, wi_45_96, wi_45_97, wi_45_100, wi_45_101, wi_45_104, wi_45_105, wi_45_108, wi_45_109, wi_45_110, wi_45_111, wi_45_114, wi_45_117, wi_45_118, wi_45_121, wi_45_122, io_add_o, io_sub_o, io_mul_o, io_neg_o, io_and_r, io_or_r, io_xor_r, io_nd_r, io_shr_r, io_shl1, io_i2b_r, io_i2l_o, io_l2i_o, il_add_o, il_sub_o, il_mul_o, il_neg_o, ib_bit, Int.toNat_natCast, true_implies, false_implies, implies_true, and_true, true_and, and_self, not_true_eq_false, not_false_eq_true, wa_0, wa_1, il_cmp_o, il_cmp0, il_cmp1, il_cmp2, io_bit1, ibt0, ibt1, ibt00, ibt11, ibt10, ibt01, Int.ofNat_lt, Int.ofNat_le, Int.ofNat_inj, Nat.lt_irrefl, Int.lt_irrefl, Int.toNat_one, Int.toNat_zero, Bool.false_eq_true, reduceIte, reduceCtorEq, Nat.reduceAdd, Nat.reduceMul, Nat.reduceSub, Nat.reduceLT, Nat.reduceLeDiff, Nat.reduceEqDiff, Int.reduceNeg, Int.reduceAdd, Int.reduceMul, Int.reduceSub, Int.reduceLT, Int.reduceLE, Int.reduceEq, Int.reduceToNat, Int.reduceNatCast, icl, ico, inz, Nat.not_lt_zero, g3, gB, e5, wp_isDigit hC1 e5, hq, g4, hx, gu_s, e6]
          exact hnx _ (by omega) (by omega) (fun j hj => by rw [gu_n hj, gu_n hj, g1 j hj]) (fun f a5 a7 => by rw [gu_s a5, gu_s a7, g2 f a5 a7]) gu_e (by rw [gu_s (by decide), gu_e, ← hmin]; omega)
        · simp (disch := first | assumption | omega | exact il_cqA _ _ | exact il_cqB _ _) only [wi_45_0, wi_45_1, wi_45_4, wi_45_7, wi_45_8, wi_45_9, wi_45_10, wi_45_13, wi_45_16, wi_45_17, wi_45_18, wi_45_21, wi_45_22, wi_45_23, wi_45_24, wi_45_28, wi_45_31, wi_45_32, wi_45_35, wi_45_38, wi_45_39, wi_45_40, wi_45_43, wi_45_46, wi_45_49, wi_45_50, wi_45_51, wi_45_54, wi_45_56, wi_45_57, wi_45_58, wi_45_61, wi_45_62, wi_45_65, wi_45_66, wi_45_67, wi_45_69, wi_45_70, wi_45_73, wi_45_76, wi_45_79, wi_45_80, wi_45_81, wi_45_84, wi_45_85, wi_45_86, wi_45_89, wi_45_92, wi_45_93, wi_45_96, wi_45_97, wi_45_100, wi_45_101, wi_45_104, wi_45_105, wi_45_108, wi_45_109, wi_45_110, wi_45_111, wi_45_114, wi_45_117, wi_45_118, wi_45_121, wi_45_122, io_add_o, io_sub_o, io_mul_o, io_neg_o, io_and_r, io_or_r, io_xor_r, io_nd_r, io_shr_r, io_shl1, io_i2b_r, io_i2l_o, io_l2i_o, il_add_o, il_sub_o, il_mul_o, il_neg_o, ib_bit, Int.toNat_natCast, true_implies, false_implies, implies_true, and_true, true_and, and_self, not_true_eq_false, not_false_eq_true, wa_0, wa_1, il_cmp_o, il_cmp0, il_cmp1, il_cmp2, io_bit1, ibt0, ibt1, ibt00, ibt11, ibt10, ibt01, Int.ofNat_lt, Int.ofNat_le, Int.ofNat_inj, Nat.lt_irrefl, Int.lt_irrefl, Int.toNat_one, Int.toNat_zero, Bool.false_eq_true, reduceIte, reduceCtorEq, Nat.reduceAdd, Nat.reduceMul, Nat.reduceSub, Nat.reduceLT, Nat.reduceLeDiff, Nat.reduceEqDiff, Int.reduceNeg, Int.reduceAdd, Int.reduceMul, Int.reduceSub, Int.reduceLT, Int.reduceLE, Int.reduceEq, Int.reduceToNat, Int.reduceNatCast, icl, ico, inz, Nat.not_lt_zero, g3, gB, e5, wp_isDigit hC1 e5, hq, g4, hx, gu_s, e6]
          exact hnx _ (by omega) (by omega) (fun j hj => by rw [gu_n hj, gu_n hj, g1 j hj]) (fun f a5 a7 => by rw [gu_s a5, gu_s a7, g2 f a5 a7]) gu_e (by rw [gu_s (by decide), gu_e, ← hmin]; omega)
    exact key _ 0 _ rfl (by omega) (fun j hj => by rw [gu_n hj, gu_n hj]) (fun f a5 a7 => by rw [gu_s a7, gu_s a5]) (by rw [gu_s (by decide), gu_e]; rfl) (by rw [gu_e]; rfl)
  · have hb : (decide (qws X B p < B) && qdi X (qws X B p)) = false := by
      cases h1 : qdi X (qws X B p)
      · exact Bool.and_false _
      · rw [decide_eq_false (fun h => e ⟨h, h1⟩)]
        rfl
    have hnum : qnumb X B p lo hi = .error (1, qws X B p) := by
      unfold qnumb
      rw [if_neg e]
    have := herr _ _ hnum (gg_up (gg_up (gg_up M 76 5 (qws X B p : Int)) 76 2 1) 76 3 (qws X B p : Int)) (fun j hj => by rw [gu_n hj, gu_n hj, gu_n hj]) (fun f a2 a3 a5 a7 => by rw [gu_s a3, gu_s a2, gu_s a5]) (by rw [gu_s (by decide), gu_e]; rfl) gu_e
    simp (disch := first | assumption | omega | exact il_cqA _ _ | exact il_cqB _ _) only [wi_45_0, wi_45_1, wi_45_4, wi_45_7, wi_45_8, wi_45_9, wi_45_10, wi_45_13, wi_45_16, wi_45_17, wi_45_18, wi_45_21, wi_45_22, wi_45_23, wi_45_24, wi_45_28, wi_45_31, wi_45_32, wi_45_35, wi_45_38, wi_45_39, wi_45_40, wi_45_43, wi_45_46, wi_45_49, wi_45_50, wi_45_51, wi_45_54, wi_45_56, wi_45_57, wi_45_58, wi_45_61, wi_45_62, wi_45_65, wi_45_66, wi_45_67, wi_45_69, wi_45_70, wi_45_73, wi_45_76, wi_45_79, wi_45_80, wi_45_81, wi_45_84, wi_45_85, wi_45_86, wi_45_89, wi_45_92, wi_45_93, wi_45_96, wi_45_97, wi_45_100, wi_45_101, wi_45_104, wi_45_105, wi_45_108, wi_45_109, wi_45_110, wi_45_111, wi_45_114, wi_45_117, wi_45_118, wi_45_121, wi_45_122, io_add_o, io_sub_o, io_mul_o, io_neg_o, io_and_r, io_or_r, io_xor_r, io_nd_r, io_shr_r, io_shl1, io_i2b_r, io_i2l_o, io_l2i_o, il_add_o, il_sub_o, il_mul_o, il_neg_o, ib_bit, Int.toNat_natCast, true_implies, false_implies, implies_true, and_true, true_and, and_self, not_true_eq_false, not_false_eq_true, wa_0, wa_1, il_cmp_o, il_cmp0, il_cmp1, il_cmp2, io_bit1, ibt0, ibt1, ibt00, ibt11, ibt10, ibt01, Int.ofNat_lt, Int.ofNat_le, Int.ofNat_inj, Nat.lt_irrefl, Int.lt_irrefl, Int.toNat_one, Int.toNat_zero, Bool.false_eq_true, reduceIte, reduceCtorEq, Nat.reduceAdd, Nat.reduceMul, Nat.reduceSub, Nat.reduceLT, Nat.reduceLeDiff, Nat.reduceEqDiff, Int.reduceNeg, Int.reduceAdd, Int.reduceMul, Int.reduceSub, Int.reduceLT, Int.reduceLE, Int.reduceEq, Int.reduceToNat, Int.reduceNatCast, icl, ico, inz, Nat.not_lt_zero, wp_isAtDigit hC hp hat, hb, gu_e, wp_fail]
    exact this
end SG
