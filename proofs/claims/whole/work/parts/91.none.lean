/-! questions with no argument -/
section SG
variable {N : Nat} {xs : Nat → Int32} {d : Nat} {M : gg_M} {cc cs : Nat} {A : q_A}
theorem q_mend2 {M' : gg_M} {Q : gg_O → Prop} {o t : Nat} {fl : Bool} {v b : Int} (h0 : ∀ (M' : gg_M) (b : Int), (∀ j, j < 142 ∨ j = 157 → M' j = M j) → q_V M' A → M' 142 7 = qthr o fl → (o = 0 → b = v) → Q ((1, (t, b)), (gk_R, M', 158, cc, cs))) (ho : o = 0) (hV : q_V M A) (hM : ∀ j, (j < 144 ∨ (145 < j ∧ j < 150) ∨ j = 157) → M' j = gg_up M 142 7 0 j) (hb : b = v) : Q ((1, (t, b)), (gk_R, M', 158, cc, cs)) :=
  h0 M' b (fun j hj => by rw [hM j (by omega), gu_n (by omega)]) (q_V_q (q_V_t hV) (hM 143 (by decide)) (hM 146 (by decide)) (hM 147 (by decide)) (hM 148 (by decide)) (hM 149 (by decide)) (fun f _ => by rw [hM 142 (by decide)])) (by rw [hM 142 (by decide), gu_e, ho]; rfl) (fun _ => hb)
theorem qP_60 {G : q_G} (hG : q_ok G) : ∀ v, v < qN G → -1 ≤ qP G v ∧ qP G v ≤ 60 := fun v hv => by
  obtain ⟨⟨k1, k2, k3, k4, k5, k6, k7, k8⟩, _, hp, hp2⟩ := id hG
  have hml := Nat.mul_le_mul k4 k8
  have := hp v (by omega)
  omega
theorem qP_100 {G : q_G} (hG : q_ok G) : ∀ v, v < qN G → -1 ≤ qP G v ∧ qP G v ≤ 100 := fun v hv => by
  have := qP_60 hG v hv
  omega
theorem cq_94 (hI : q_I M A) (hA : a_ok A) : q_cS N xs (d + 31) 94 [] M A cc cs 0 0 ((qS (aG A) : Int)) := by
  have hG := hA.1
  have hC := hI.1
  have hg := gs_G2_
  intro Q h0 h1
  have h4 := hC.1.2.2.2.1
  simp (disch := first | assumption | omega | exact il_cqA _ _ | exact il_cqB _ _) only [wi_94_0, wi_94_1, wi_94_4, wi_94_7, io_add_o, io_sub_o, io_mul_o, io_neg_o, io_and_r, io_or_r, io_xor_r, io_nd_r, io_shr_r, io_shl1, io_i2b_r, io_i2l_o, io_l2i_o, il_add_o, il_sub_o, il_mul_o, il_neg_o, ib_bit, Int.toNat_natCast, true_implies, false_implies, implies_true, and_true, true_and, and_self, not_true_eq_false, not_false_eq_true, wa_0, wa_1, il_cmp_o, il_cmp0, il_cmp1, il_cmp2, io_bit1, ibt0, ibt1, ibt00, ibt11, ibt10, ibt01, Int.ofNat_lt, Int.ofNat_le, Int.ofNat_inj, Nat.lt_irrefl, Int.lt_irrefl, Int.toNat_one, Int.toNat_zero, Bool.false_eq_true, reduceIte, reduceCtorEq, Nat.reduceAdd, Nat.reduceMul, Nat.reduceSub, Nat.reduceLT, Nat.reduceLeDiff, Nat.reduceEqDiff, Int.reduceNeg, Int.reduceAdd, Int.reduceMul, Int.reduceSub, Int.reduceLT, Int.reduceLE, Int.reduceEq, Int.reduceToNat, Int.reduceNatCast, icl, ico, inz, Nat.not_lt_zero, h4]
  exact h0 rfl M (fun _ _ => rfl) hI
theorem mq_196 (hV : q_V M A) (hA : a_ok A) : q_mS N xs (d + 31) 196 [] M A cc cs 0 false 0 ((qS (aG A) : Int)) := by
  have hG := hA.1
  intro Q h0
  have hV1 := q_V_t (x := 0) hV
  have hR1 := hV1.1
  have hz := fun M' b hM hb => q_mend (M' := M') (b := b) h0 rfl hV hM hb
  have hz2 := fun M' b hM hb => q_mend2 (M' := M') (b := b) h0 rfl hV hM hb
  clear h0
  have h4 := hR1.1.2.2.2.1
  simp (disch := first | assumption | omega | exact il_cqA _ _ | exact il_cqB _ _) only [wi_196_0, wi_196_1, wi_196_2, wi_196_5, wi_196_6, wi_196_9, wi_196_10, wi_196_11, io_add_o, io_sub_o, io_mul_o, io_neg_o, io_and_r, io_or_r, io_xor_r, io_nd_r, io_shr_r, io_shl1, io_i2b_r, io_i2l_o, io_l2i_o, il_add_o, il_sub_o, il_mul_o, il_neg_o, ib_bit, Int.toNat_natCast, true_implies, false_implies, implies_true, and_true, true_and, and_self, not_true_eq_false, not_false_eq_true, wa_0, wa_1, il_cmp_o, il_cmp0, il_cmp1, il_cmp2, io_bit1, ibt0, ibt1, ibt00, ibt11, ibt10, ibt01, Int.ofNat_lt, Int.ofNat_le, Int.ofNat_inj, Nat.lt_irrefl, Int.lt_irrefl, Int.toNat_one, Int.toNat_zero, Bool.false_eq_true, reduceIte, reduceCtorEq, Nat.reduceAdd, Nat.reduceMul, Nat.reduceSub, Nat.reduceLT, Nat.reduceLeDiff, Nat.reduceEqDiff, Int.reduceNeg, Int.reduceAdd, Int.reduceMul, Int.reduceSub, Int.reduceLT, Int.reduceLE, Int.reduceEq, Int.reduceToNat, Int.reduceNatCast, icl, ico, inz, Nat.not_lt_zero, h4]
  exact hz _ _ (fun _ _ _ _ => rfl) rfl
theorem cq_89 (hI : q_I M A) (hA : a_ok A) : q_cS N xs (d + 31) 89 [] M A cc cs 0 0 ((aE A : Int)) := by
  have hG := hA.1
  have hC := hI.1
  have hg := gs_G2_
  intro Q h0 h1
  have h4 := hI.2.2.2.2.2.1
  simp (disch := first | assumption | omega | exact il_cqA _ _ | exact il_cqB _ _) only [wi_89_0, wi_89_1, wi_89_4, wi_89_7, io_add_o, io_sub_o, io_mul_o, io_neg_o, io_and_r, io_or_r, io_xor_r, io_nd_r, io_shr_r, io_shl1, io_i2b_r, io_i2l_o, io_l2i_o, il_add_o, il_sub_o, il_mul_o, il_neg_o, ib_bit, Int.toNat_natCast, true_implies, false_implies, implies_true, and_true, true_and, and_self, not_true_eq_false, not_false_eq_true, wa_0, wa_1, il_cmp_o, il_cmp0, il_cmp1, il_cmp2, io_bit1, ibt0, ibt1, ibt00, ibt11, ibt10, ibt01, Int.ofNat_lt, Int.ofNat_le, Int.ofNat_inj, Nat.lt_irrefl, Int.lt_irrefl, Int.toNat_one, Int.toNat_zero, Bool.false_eq_true, reduceIte, reduceCtorEq, Nat.reduceAdd, Nat.reduceMul, Nat.reduceSub, Nat.reduceLT, Nat.reduceLeDiff, Nat.reduceEqDiff, Int.reduceNeg, Int.reduceAdd, Int.reduceMul, Int.reduceSub, Int.reduceLT, Int.reduceLE, Int.reduceEq, Int.reduceToNat, Int.reduceNatCast, icl, ico, inz, Nat.not_lt_zero, h4]
  exact h0 rfl M (fun _ _ => rfl) hI
theorem mq_189 (hV : q_V M A) (hA : a_ok A) : q_mS N xs (d + 31) 189 [] M A cc cs 0 false 0 ((aE A : Int)) := by
  have hG := hA.1
  intro Q h0
  have hV1 := q_V_t (x := 0) hV
  have hR1 := hV1.1
  have hz := fun M' b hM hb => q_mend (M' := M') (b := b) h0 rfl hV hM hb
  have hz2 := fun M' b hM hb => q_mend2 (M' := M') (b := b) h0 rfl hV hM hb
  clear h0
  have h4 := hV1.2.2.2.2.1
  simp (disch := first | assumption | omega | exact il_cqA _ _ | exact il_cqB _ _) only [wi_189_0, wi_189_1, wi_189_2, wi_189_5, wi_189_6, wi_189_9, io_add_o, io_sub_o, io_mul_o, io_neg_o, io_and_r, io_or_r, io_xor_r, io_nd_r, io_shr_r, io_shl1, io_i2b_r, io_i2l_o, io_l2i_o, il_add_o, il_sub_o, il_mul_o, il_neg_o, ib_bit, Int.toNat_natCast, true_implies, false_implies, implies_true, and_true, true_and, and_self, not_true_eq_false, not_false_eq_true, wa_0, wa_1, il_cmp_o, il_cmp0, il_cmp1, il_cmp2, io_bit1, ibt0, ibt1, ibt00, ibt11, ibt10, ibt01, Int.ofNat_lt, Int.ofNat_le, Int.ofNat_inj, Nat.lt_irrefl, Int.lt_irrefl, Int.toNat_one, Int.toNat_zero, Bool.false_eq_true, reduceIte, reduceCtorEq, Nat.reduceAdd, Nat.reduceMul, Nat.reduceSub, Nat.reduceLT, Nat.reduceLeDiff, Nat.reduceEqDiff, Int.reduceNeg, Int.reduceAdd, Int.reduceMul, Int.reduceSub, Int.reduceLT, Int.reduceLE, Int.reduceEq, Int.reduceToNat, Int.reduceNatCast, icl, ico, inz, Nat.not_lt_zero, h4]
  exact hz _ _ (fun _ _ _ _ => rfl) rfl
theorem cq_90 (hI : q_I M A) (hA : a_ok A) : q_cS N xs (d + 31) 90 [] M A cc cs 0 0 (aS A) := by
  have hG := hA.1
  have hC := hI.1
  have hg := gs_G2_
  intro Q h0 h1
  have h4 := hI.2.2.2.2.2.1
  have h5 := hI.2.2.2.2.2.2
  obtain ⟨e1, e2, e3, e4⟩ := hA.2.2.2.2
  by_cases e : aE A = 0
  · have e5 := e4.1 e
    rw [e] at h4
    simp (disch := first | assumption | omega | exact il_cqA _ _ | exact il_cqB _ _) only [wi_90_0, wi_90_1, wi_90_4, wi_90_7, wi_90_10, wi_90_11, wi_90_14, wi_90_15, wi_90_18, wi_90_21, io_add_o, io_sub_o, io_mul_o, io_neg_o, io_and_r, io_or_r, io_xor_r, io_nd_r, io_shr_r, io_shl1, io_i2b_r, io_i2l_o, io_l2i_o, il_add_o, il_sub_o, il_mul_o, il_neg_o, ib_bit, Int.toNat_natCast, true_implies, false_implies, implies_true, and_true, true_and, and_self, not_true_eq_false, not_false_eq_true, wa_0, wa_1, il_cmp_o, il_cmp0, il_cmp1, il_cmp2, io_bit1, ibt0, ibt1, ibt00, ibt11, ibt10, ibt01, Int.ofNat_lt, Int.ofNat_le, Int.ofNat_inj, Nat.lt_irrefl, Int.lt_irrefl, Int.toNat_one, Int.toNat_zero, Bool.false_eq_true, reduceIte, reduceCtorEq, Nat.reduceAdd, Nat.reduceMul, Nat.reduceSub, Nat.reduceLT, Nat.reduceLeDiff, Nat.reduceEqDiff, Int.reduceNeg, Int.reduceAdd, Int.reduceMul, Int.reduceSub, Int.reduceLT, Int.reduceLE, Int.reduceEq, Int.reduceToNat, Int.reduceNatCast, icl, ico, inz, Nat.not_lt_zero, h4]
    rw [← e5]
    exact h0 rfl M (fun _ _ => rfl) hI
  · have e6 := h5 e
    have e7 : ¬ ((aE A : Nat) : Int) = 0 := by omega
    simp (disch := first | assumption | omega | exact il_cqA _ _ | exact il_cqB _ _) only [wi_90_0, wi_90_1, wi_90_4, wi_90_7, wi_90_10, wi_90_11, wi_90_14, wi_90_15, wi_90_18, wi_90_21, io_add_o, io_sub_o, io_mul_o, io_neg_o, io_and_r, io_or_r, io_xor_r, io_nd_r, io_shr_r, io_shl1, io_i2b_r, io_i2l_o, io_l2i_o, il_add_o, il_sub_o, il_mul_o, il_neg_o, ib_bit, Int.toNat_natCast, true_implies, false_implies, implies_true, and_true, true_and, and_self, not_true_eq_false, not_false_eq_true, wa_0, wa_1, il_cmp_o, il_cmp0, il_cmp1, il_cmp2, io_bit1, ibt0, ibt1, ibt00, ibt11, ibt10, ibt01, Int.ofNat_lt, Int.ofNat_le, Int.ofNat_inj, Nat.lt_irrefl, Int.lt_irrefl, Int.toNat_one, Int.toNat_zero, Bool.false_eq_true, reduceIte, reduceCtorEq, Nat.reduceAdd, Nat.reduceMul, Nat.reduceSub, Nat.reduceLT, Nat.reduceLeDiff, Nat.reduceEqDiff, Int.reduceNeg, Int.reduceAdd, Int.reduceMul, Int.reduceSub, Int.reduceLT, Int.reduceLE, Int.reduceEq, Int.reduceToNat, Int.reduceNatCast, icl, ico, inz, Nat.not_lt_zero, h4, e6, e7]
    exact h0 rfl M (fun _ _ => rfl) hI
theorem mq_190 (hV : q_V M A) (hA : a_ok A) : q_mS N xs (d + 31) 190 [] M A cc cs 0 false 0 (aS A) := by
  have hG := hA.1
  intro Q h0
  have hV1 := q_V_t (x := 0) hV
  have hR1 := hV1.1
  have hz := fun M' b hM hb => q_mend (M' := M') (b := b) h0 rfl hV hM hb
  have hz2 := fun M' b hM hb => q_mend2 (M' := M') (b := b) h0 rfl hV hM hb
  clear h0
  have h4 := hV1.2.2.2.2.2
  simp (disch := first | assumption | omega | exact il_cqA _ _ | exact il_cqB _ _) only [wi_190_0, wi_190_1, wi_190_2, wi_190_5, wi_190_6, wi_190_9, io_add_o, io_sub_o, io_mul_o, io_neg_o, io_and_r, io_or_r, io_xor_r, io_nd_r, io_shr_r, io_shl1, io_i2b_r, io_i2l_o, io_l2i_o, il_add_o, il_sub_o, il_mul_o, il_neg_o, ib_bit, Int.toNat_natCast, true_implies, false_implies, implies_true, and_true, true_and, and_self, not_true_eq_false, not_false_eq_true, wa_0, wa_1, il_cmp_o, il_cmp0, il_cmp1, il_cmp2, io_bit1, ibt0, ibt1, ibt00, ibt11, ibt10, ibt01, Int.ofNat_lt, Int.ofNat_le, Int.ofNat_inj, Nat.lt_irrefl, Int.lt_irrefl, Int.toNat_one, Int.toNat_zero, Bool.false_eq_true, reduceIte, reduceCtorEq, Nat.reduceAdd, Nat.reduceMul, Nat.reduceSub, Nat.reduceLT, Nat.reduceLeDiff, Nat.reduceEqDiff, Int.reduceNeg, Int.reduceAdd, Int.reduceMul, Int.reduceSub, Int.reduceLT, Int.reduceLE, Int.reduceEq, Int.reduceToNat, Int.reduceNatCast, icl, ico, inz, Nat.not_lt_zero, h4]
  exact hz _ _ (fun _ _ _ _ => rfl) rfl
theorem cq_109 (hI : q_I M A) (hA : a_ok A) : q_cS N xs (d + 31) 109 [] M A cc cs 0 0 ((qcnt (fun s => decide (s &&& qU (aG A) = s) && decide (qsz (aG A) s = qrk (aG A) (qU (aG A))) && qfr (aG A) s) (2 ^ qK (aG A)) : Int)) := by
  have hG := hA.1
  have hC := hI.1
  have hg := gs_G2_
  intro Q h0 h1
  have h3 := hC.1.2.2.1
  simp (disch := first | assumption | omega | exact il_cqA _ _ | exact il_cqB _ _) only [wi_109_0, wi_109_1, wi_109_4, wi_109_5, wi_109_8, wi_109_9, wi_109_12, wi_109_15, wi_109_18, io_add_o, io_sub_o, io_mul_o, io_neg_o, io_and_r, io_or_r, io_xor_r, io_nd_r, io_shr_r, io_shl1, io_i2b_r, io_i2l_o, io_l2i_o, il_add_o, il_sub_o, il_mul_o, il_neg_o, ib_bit, Int.toNat_natCast, true_implies, false_implies, implies_true, and_true, true_and, and_self, not_true_eq_false, not_false_eq_true, wa_0, wa_1, il_cmp_o, il_cmp0, il_cmp1, il_cmp2, io_bit1, ibt0, ibt1, ibt00, ibt11, ibt10, ibt01, Int.ofNat_lt, Int.ofNat_le, Int.ofNat_inj, Nat.lt_irrefl, Int.lt_irrefl, Int.toNat_one, Int.toNat_zero, Bool.false_eq_true, reduceIte, reduceCtorEq, Nat.reduceAdd, Nat.reduceMul, Nat.reduceSub, Nat.reduceLT, Nat.reduceLeDiff, Nat.reduceEqDiff, Int.reduceNeg, Int.reduceAdd, Int.reduceMul, Int.reduceSub, Int.reduceLT, Int.reduceLE, Int.reduceEq, Int.reduceToNat, Int.reduceNatCast, icl, ico, inz, Nat.not_lt_zero, wp_allArcs (M := M) hG hg h3]
  refine wp_countBases hg hG hC hI.2.1 (of := qU (aG A)) qU_lt (fun M' hM' hS' => ?_)
  simp (disch := first | assumption | omega | exact il_cqA _ _ | exact il_cqB _ _) only [wi_109_0, wi_109_1, wi_109_4, wi_109_5, wi_109_8, wi_109_9, wi_109_12, wi_109_15, wi_109_18, io_add_o, io_sub_o, io_mul_o, io_neg_o, io_and_r, io_or_r, io_xor_r, io_nd_r, io_shr_r, io_shl1, io_i2b_r, io_i2l_o, io_l2i_o, il_add_o, il_sub_o, il_mul_o, il_neg_o, ib_bit, Int.toNat_natCast, true_implies, false_implies, implies_true, and_true, true_and, and_self, not_true_eq_false, not_false_eq_true, wa_0, wa_1, il_cmp_o, il_cmp0, il_cmp1, il_cmp2, io_bit1, ibt0, ibt1, ibt00, ibt11, ibt10, ibt01, Int.ofNat_lt, Int.ofNat_le, Int.ofNat_inj, Nat.lt_irrefl, Int.lt_irrefl, Int.toNat_one, Int.toNat_zero, Bool.false_eq_true, reduceIte, reduceCtorEq, Nat.reduceAdd, Nat.reduceMul, Nat.reduceSub, Nat.reduceLT, Nat.reduceLeDiff, Nat.reduceEqDiff, Int.reduceNeg, Int.reduceAdd, Int.reduceMul, Int.reduceSub, Int.reduceLT, Int.reduceLE, Int.reduceEq, Int.reduceToNat, Int.reduceNatCast, icl, ico, inz, Nat.not_lt_zero]
  rw [qcnt_bs qU_lt]
  exact h0 rfl M' (fr_8 hM') (q_I_8 hI hM' hS')
theorem mq_227 (hV : q_V M A) (hA : a_ok A) : q_mS N xs (d + 31) 227 [] M A cc cs 0 false 0 ((qcnt (fun s => decide (s &&& qU (aG A) = s) && decide (qsz (aG A) s = qrk (aG A) (qU (aG A))) && qfr (aG A) s) (2 ^ qK (aG A)) : Int)) := by
  have hG := hA.1
  intro Q h0
  have hV1 := q_V_t (x := 0) hV
  have hR1 := hV1.1
  have hz := fun M' b hM hb => q_mend (M' := M') (b := b) h0 rfl hV hM hb
  have hz2 := fun M' b hM hb => q_mend2 (M' := M') (b := b) h0 rfl hV hM hb
  clear h0
  simp (disch := first | assumption | omega | exact il_cqA _ _ | exact il_cqB _ _) only [wi_227_0, wi_227_1, wi_227_2, wi_227_5, wi_227_6, wi_227_7, wi_227_10, wi_227_13, io_add_o, io_sub_o, io_mul_o, io_neg_o, io_and_r, io_or_r, io_xor_r, io_nd_r, io_shr_r, io_shl1, io_i2b_r, io_i2l_o, io_l2i_o, il_add_o, il_sub_o, il_mul_o, il_neg_o, ib_bit, Int.toNat_natCast, true_implies, false_implies, implies_true, and_true, true_and, and_self, not_true_eq_false, not_false_eq_true, wa_0, wa_1, il_cmp_o, il_cmp0, il_cmp1, il_cmp2, io_bit1, ibt0, ibt1, ibt00, ibt11, ibt10, ibt01, Int.ofNat_lt, Int.ofNat_le, Int.ofNat_inj, Nat.lt_irrefl, Int.lt_irrefl, Int.toNat_one, Int.toNat_zero, Bool.false_eq_true, reduceIte, reduceCtorEq, Nat.reduceAdd, Nat.reduceMul, Nat.reduceSub, Nat.reduceLT, Nat.reduceLeDiff, Nat.reduceEqDiff, Int.reduceNeg, Int.reduceAdd, Int.reduceMul, Int.reduceSub, Int.reduceLT, Int.reduceLE, Int.reduceEq, Int.reduceToNat, Int.reduceNatCast, icl, ico, inz, Nat.not_lt_zero, wp_mall hR1 hG]
  refine wp_mbases hR1 hG (of := qU (aG A)) qU_lt (fun M' hM => ?_)
  simp (disch := first | assumption | omega | exact il_cqA _ _ | exact il_cqB _ _) only [wi_227_0, wi_227_1, wi_227_2, wi_227_5, wi_227_6, wi_227_7, wi_227_10, wi_227_13, io_add_o, io_sub_o, io_mul_o, io_neg_o, io_and_r, io_or_r, io_xor_r, io_nd_r, io_shr_r, io_shl1, io_i2b_r, io_i2l_o, io_l2i_o, il_add_o, il_sub_o, il_mul_o, il_neg_o, ib_bit, Int.toNat_natCast, true_implies, false_implies, implies_true, and_true, true_and, and_self, not_true_eq_false, not_false_eq_true, wa_0, wa_1, il_cmp_o, il_cmp0, il_cmp1, il_cmp2, io_bit1, ibt0, ibt1, ibt00, ibt11, ibt10, ibt01, Int.ofNat_lt, Int.ofNat_le, Int.ofNat_inj, Nat.lt_irrefl, Int.lt_irrefl, Int.toNat_one, Int.toNat_zero, Bool.false_eq_true, reduceIte, reduceCtorEq, Nat.reduceAdd, Nat.reduceMul, Nat.reduceSub, Nat.reduceLT, Nat.reduceLeDiff, Nat.reduceEqDiff, Int.reduceNeg, Int.reduceAdd, Int.reduceMul, Int.reduceSub, Int.reduceLT, Int.reduceLE, Int.reduceEq, Int.reduceToNat, Int.reduceNatCast, icl, ico, inz, Nat.not_lt_zero]
  exact hz _ _ hM rfl
theorem cq_111 (hI : q_I M A) (hA : a_ok A) : q_cS N xs (d + 31) 111 [] M A cc cs 0 0 ((qmb (aG A) 100 : Int)) := by
  have hG := hA.1
  have hC := hI.1
  have hg := gs_G2_
  intro Q h0 h1
  simp (disch := first | assumption | omega | exact il_cqA _ _ | exact il_cqB _ _) only [wi_111_0, wi_111_1, wi_111_4, wi_111_5, wi_111_8, wi_111_11, io_add_o, io_sub_o, io_mul_o, io_neg_o, io_and_r, io_or_r, io_xor_r, io_nd_r, io_shr_r, io_shl1, io_i2b_r, io_i2l_o, io_l2i_o, il_add_o, il_sub_o, il_mul_o, il_neg_o, ib_bit, Int.toNat_natCast, true_implies, false_implies, implies_true, and_true, true_and, and_self, not_true_eq_false, not_false_eq_true, wa_0, wa_1, il_cmp_o, il_cmp0, il_cmp1, il_cmp2, io_bit1, ibt0, ibt1, ibt00, ibt11, ibt10, ibt01, Int.ofNat_lt, Int.ofNat_le, Int.ofNat_inj, Nat.lt_irrefl, Int.lt_irrefl, Int.toNat_one, Int.toNat_zero, Bool.false_eq_true, reduceIte, reduceCtorEq, Nat.reduceAdd, Nat.reduceMul, Nat.reduceSub, Nat.reduceLT, Nat.reduceLeDiff, Nat.reduceEqDiff, Int.reduceNeg, Int.reduceAdd, Int.reduceMul, Int.reduceSub, Int.reduceLT, Int.reduceLE, Int.reduceEq, Int.reduceToNat, Int.reduceNatCast, icl, ico, inz, Nat.not_lt_zero]
  refine wp_lightestBasis hg hG hC hI.2.1 (fun M' hM' => ?_)
  simp (disch := first | assumption | omega | exact il_cqA _ _ | exact il_cqB _ _) only [wi_111_0, wi_111_1, wi_111_4, wi_111_5, wi_111_8, wi_111_11, io_add_o, io_sub_o, io_mul_o, io_neg_o, io_and_r, io_or_r, io_xor_r, io_nd_r, io_shr_r, io_shl1, io_i2b_r, io_i2l_o, io_l2i_o, il_add_o, il_sub_o, il_mul_o, il_neg_o, ib_bit, Int.toNat_natCast, true_implies, false_implies, implies_true, and_true, true_and, and_self, not_true_eq_false, not_false_eq_true, wa_0, wa_1, il_cmp_o, il_cmp0, il_cmp1, il_cmp2, io_bit1, ibt0, ibt1, ibt00, ibt11, ibt10, ibt01, Int.ofNat_lt, Int.ofNat_le, Int.ofNat_inj, Nat.lt_irrefl, Int.lt_irrefl, Int.toNat_one, Int.toNat_zero, Bool.false_eq_true, reduceIte, reduceCtorEq, Nat.reduceAdd, Nat.reduceMul, Nat.reduceSub, Nat.reduceLT, Nat.reduceLeDiff, Nat.reduceEqDiff, Int.reduceNeg, Int.reduceAdd, Int.reduceMul, Int.reduceSub, Int.reduceLT, Int.reduceLE, Int.reduceEq, Int.reduceToNat, Int.reduceNatCast, icl, ico, inz, Nat.not_lt_zero]
  exact h0 rfl M' (fr_9 hM') (q_I_9 hI hM')
theorem mq_229 (hV : q_V M A) (hA : a_ok A) : q_mS N xs (d + 31) 229 [(3, 0), (3, 0), (3, 0)] M A cc cs 0 false 0 ((qmb (aG A) 100 : Int)) := by
  have hG := hA.1
  intro Q h0
  have hV1 := q_V_t (x := 0) hV
  have hR1 := hV1.1
  have hz := fun M' b hM hb => q_mend (M' := M') (b := b) h0 rfl hV hM hb
  have hz2 := fun M' b hM hb => q_mend2 (M' := M') (b := b) h0 rfl hV hM hb
  clear h0
  simp (disch := first | assumption | omega | exact il_cqA _ _ | exact il_cqB _ _) only [wi_229_0, wi_229_1, wi_229_2, wi_229_5, wi_229_6, wi_229_7, wi_229_8, wi_229_10, wi_229_12, wi_229_15, wi_229_16, wi_229_18, wi_229_19, wi_229_22, wi_229_23, wi_229_24, wi_229_27, wi_229_28, wi_229_31, wi_229_33, wi_229_34, wi_229_35, wi_229_36, wi_229_37, wi_229_40, wi_229_41, wi_229_42, wi_229_43, wi_229_44, wi_229_45, wi_229_46, wi_229_49, wi_229_52, wi_229_53, wi_229_54, wi_229_55, wi_229_56, wi_229_57, wi_229_58, wi_229_61, wi_229_64, wi_229_67, wi_229_70, wi_229_71, io_add_o, io_sub_o, io_mul_o, io_neg_o, io_and_r, io_or_r, io_xor_r, io_nd_r, io_shr_r, io_shl1, io_i2b_r, io_i2l_o, io_l2i_o, il_add_o, il_sub_o, il_mul_o, il_neg_o, ib_bit, Int.toNat_natCast, true_implies, false_implies, implies_true, and_true, true_and, and_self, not_true_eq_false, not_false_eq_true, wa_0, wa_1, il_cmp_o, il_cmp0, il_cmp1, il_cmp2, io_bit1, ibt0, ibt1, ibt00, ibt11, ibt10, ibt01, Int.ofNat_lt, Int.ofNat_le, Int.ofNat_inj, Nat.lt_irrefl, Int.lt_irrefl, Int.toNat_one, Int.toNat_zero, Bool.false_eq_true, reduceIte, reduceCtorEq, Nat.reduceAdd, Nat.reduceMul, Nat.reduceSub, Nat.reduceLT, Nat.reduceLeDiff, Nat.reduceEqDiff, Int.reduceNeg, Int.reduceAdd, Int.reduceMul, Int.reduceSub, Int.reduceLT, Int.reduceLE, Int.reduceEq, Int.reduceToNat, Int.reduceNatCast, icl, ico, inz, Nat.not_lt_zero]
  clear hz2
  revert hz hR1
  generalize gg_up M 142 7 0 = M0
  intro hR1 hz
  generalize aG A = G at *
  obtain ⟨⟨h1, h2, h3, h4, h5⟩, hF, hT, hA, hW, hPa, hO⟩ := id hR1
  obtain ⟨⟨k1, k2, k3, k4, k5, k6, k7, k8⟩, hk, hp, hp2⟩ := id hG
  have hp2 := two_le k5
  have hU : qU G + 1 = 2 ^ qK G := by have := Nat.one_le_two_pow (n := qK G); unfold qU; omega
  refine wl_i (P := fun w W => ∀ M' : gg_M, (∀ j, j ≠ 150 → j ≠ 151 → j ≠ 152 → M' j = M0 j) → ∀ b : Nat, b = qmb G w → ∀ l3 : gg_V, wp N xs (d + 30 + 1) 229 9 [gr 142, (0, (b : Int)), (0, W), l3] [] (gk_R, M', 158, cc, cs) Q) 100 (fun w hw ihw M' hM b hb l3 => ?_) (fun M' hM b hb l3 => ?_) M0 (fun _ _ _ _ => rfl) 0 rfl _
  · have hw9 : ¬ 99 < (w : Int) := by omega
    rw [wi_229_9]
    simp (disch := first | assumption | omega | exact il_cqA _ _ | exact il_cqB _ _) only [wi_229_0, wi_229_1, wi_229_2, wi_229_5, wi_229_6, wi_229_7, wi_229_8, wi_229_10, wi_229_12, wi_229_15, wi_229_16, wi_229_18, wi_229_19, wi_229_22, wi_229_23, wi_229_24, wi_229_27, wi_229_28, wi_229_31, wi_229_33, wi_229_34, wi_229_35, wi_229_36, wi_229_37, wi_229_40, wi_229_41, wi_229_42, wi_229_43, wi_229_44, wi_229_45, wi_229_46, wi_229_49, wi_229_52, wi_229_53, wi_229_54, wi_229_55, wi_229_56, wi_229_57, wi_229_58, wi_229_61, wi_229_64, wi_229_67, wi_229_70, wi_229_71, io_add_o, io_sub_o, io_mul_o, io_neg_o, io_and_r, io_or_r, io_xor_r, io_nd_r, io_shr_r, io_shl1, io_i2b_r, io_i2l_o, io_l2i_o, il_add_o, il_sub_o, il_mul_o, il_neg_o, ib_bit, Int.toNat_natCast, true_implies, false_implies, implies_true, and_true, true_and, and_self, not_true_eq_false, not_false_eq_true, wa_0, wa_1, il_cmp_o, il_cmp0, il_cmp1, il_cmp2, io_bit1, ibt0, ibt1, ibt00, ibt11, ibt10, ibt01, Int.ofNat_lt, Int.ofNat_le, Int.ofNat_inj, Nat.lt_irrefl, Int.lt_irrefl, Int.toNat_one, Int.toNat_zero, Bool.false_eq_true, reduceIte, reduceCtorEq, Nat.reduceAdd, Nat.reduceMul, Nat.reduceSub, Nat.reduceLT, Nat.reduceLeDiff, Nat.reduceEqDiff, Int.reduceNeg, Int.reduceAdd, Int.reduceMul, Int.reduceSub, Int.reduceLT, Int.reduceLE, Int.reduceEq, Int.reduceToNat, Int.reduceNatCast, icl, ico, inz, Nat.not_lt_zero, hw9]
    refine wl_i (P := fun i I => ∀ M' : gg_M, (∀ j, j ≠ 150 → j ≠ 151 → j ≠ 152 → M' j = M0 j) → ∀ c : Nat, c = qmw G w b i → wp N xs (d + 30 + 1) 229 17 [gr 142, (0, (c : Int)), (0, (w : Int)), (0, I)] [] (gk_R, M', 158, cc, cs) Q) (qK G) (fun i hi ih M' hM c hc => ?_) (fun M' hM c hc => ?_) M' hM b rfl
    · have e0 : M' 143 = M0 143 := hM 143 (by decide) (by decide) (by decide)
      have hR' : q_R (M' 143) G := by rw [e0]; exact hR1
      have hWi := hW i hi
      have hwl := (hk i hi).2.2.2
      have hbl : b < 2 ^ qK G := by rw [hb]; exact qmb_lt w
      have hcl : c < 2 ^ qK G := by rw [hc]; exact qmw_lt hbl (by omega)
      have hol := or_lt hcl hi
      have hi2 : 2 ^ i ≤ 2 ^ 12 := Nat.pow_le_pow_right (by decide) (by omega)
      have hi1 : 1 ≤ 2 ^ i := Nat.one_le_two_pow
      rw [qmw, ← hc] at ih
      rw [wi_229_17]
      by_cases e1 : qW G i = w
      · rw [if_pos e1, qtake] at ih
        simp (disch := first | assumption | omega | exact il_cqA _ _ | exact il_cqB _ _) only [wi_229_0, wi_229_1, wi_229_2, wi_229_5, wi_229_6, wi_229_7, wi_229_8, wi_229_10, wi_229_12, wi_229_15, wi_229_16, wi_229_18, wi_229_19, wi_229_22, wi_229_23, wi_229_24, wi_229_27, wi_229_28, wi_229_31, wi_229_33, wi_229_34, wi_229_35, wi_229_36, wi_229_37, wi_229_40, wi_229_41, wi_229_42, wi_229_43, wi_229_44, wi_229_45, wi_229_46, wi_229_49, wi_229_52, wi_229_53, wi_229_54, wi_229_55, wi_229_56, wi_229_57, wi_229_58, wi_229_61, wi_229_64, wi_229_67, wi_229_70, wi_229_71, io_add_o, io_sub_o, io_mul_o, io_neg_o, io_and_r, io_or_r, io_xor_r, io_nd_r, io_shr_r, io_shl1, io_i2b_r, io_i2l_o, io_l2i_o, il_add_o, il_sub_o, il_mul_o, il_neg_o, ib_bit, Int.toNat_natCast, true_implies, false_implies, implies_true, and_true, true_and, and_self, not_true_eq_false, not_false_eq_true, wa_0, wa_1, il_cmp_o, il_cmp0, il_cmp1, il_cmp2, io_bit1, ibt0, ibt1, ibt00, ibt11, ibt10, ibt01, Int.ofNat_lt, Int.ofNat_le, Int.ofNat_inj, Nat.lt_irrefl, Int.lt_irrefl, Int.toNat_one, Int.toNat_zero, Bool.false_eq_true, reduceIte, reduceCtorEq, Nat.reduceAdd, Nat.reduceMul, Nat.reduceSub, Nat.reduceLT, Nat.reduceLeDiff, Nat.reduceEqDiff, Int.reduceNeg, Int.reduceAdd, Int.reduceMul, Int.reduceSub, Int.reduceLT, Int.reduceLE, Int.reduceEq, Int.reduceToNat, Int.reduceNatCast, icl, ico, inz, Nat.not_lt_zero, it45, e0, hi, h3, hWi, e1]
        refine wp_mfree hR' hG hol (fun M3 hM3 => ?_)
        have hF3 : (∀ j, j ≠ 150 → j ≠ 151 → j ≠ 152 → M3 j = M0 j) := fun j h1 h2 h3 => by rw [hM3 j h1 h2 h3, hM j h1 h2 h3]
        cases ef : qfr G (c ||| 2 ^ i)
        · rw [ef] at ih
          simp (disch := first | assumption | omega | exact il_cqA _ _ | exact il_cqB _ _) only [wi_229_0, wi_229_1, wi_229_2, wi_229_5, wi_229_6, wi_229_7, wi_229_8, wi_229_10, wi_229_12, wi_229_15, wi_229_16, wi_229_18, wi_229_19, wi_229_22, wi_229_23, wi_229_24, wi_229_27, wi_229_28, wi_229_31, wi_229_33, wi_229_34, wi_229_35, wi_229_36, wi_229_37, wi_229_40, wi_229_41, wi_229_42, wi_229_43, wi_229_44, wi_229_45, wi_229_46, wi_229_49, wi_229_52, wi_229_53, wi_229_54, wi_229_55, wi_229_56, wi_229_57, wi_229_58, wi_229_61, wi_229_64, wi_229_67, wi_229_70, wi_229_71, io_add_o, io_sub_o, io_mul_o, io_neg_o, io_and_r, io_or_r, io_xor_r, io_nd_r, io_shr_r, io_shl1, io_i2b_r, io_i2l_o, io_l2i_o, il_add_o, il_sub_o, il_mul_o, il_neg_o, ib_bit, Int.toNat_natCast, true_implies, false_implies, implies_true, and_true, true_and, and_self, not_true_eq_false, not_false_eq_true, wa_0, wa_1, il_cmp_o, il_cmp0, il_cmp1, il_cmp2, io_bit1, ibt0, ibt1, ibt00, ibt11, ibt10, ibt01, Int.ofNat_lt, Int.ofNat_le, Int.ofNat_inj, Nat.lt_irrefl, Int.lt_irrefl, Int.toNat_one, Int.toNat_zero, Bool.false_eq_true, reduceIte, reduceCtorEq, Nat.reduceAdd, Nat.reduceMul, Nat.reduceSub, Nat.reduceLT, Nat.reduceLeDiff, Nat.reduceEqDiff, Int.reduceNeg, Int.reduceAdd, Int.reduceMul, Int.reduceSub, Int.reduceLT, Int.reduceLE, Int.reduceEq, Int.reduceToNat, Int.reduceNatCast, icl, ico, inz, Nat.not_lt_zero]
          exact ih M3 hF3 _ rfl
        · rw [ef] at ih
          simp (disch := first | assumption | omega | exact il_cqA _ _ | exact il_cqB _ _) only [wi_229_0, wi_229_1, wi_229_2, wi_229_5, wi_229_6, wi_229_7, wi_229_8, wi_229_10, wi_229_12, wi_229_15, wi_229_16, wi_229_18, wi_229_19, wi_229_22, wi_229_23, wi_229_24, wi_229_27, wi_229_28, wi_229_31, wi_229_33, wi_229_34, wi_229_35, wi_229_36, wi_229_37, wi_229_40, wi_229_41, wi_229_42, wi_229_43, wi_229_44, wi_229_45, wi_229_46, wi_229_49, wi_229_52, wi_229_53, wi_229_54, wi_229_55, wi_229_56, wi_229_57, wi_229_58, wi_229_61, wi_229_64, wi_229_67, wi_229_70, wi_229_71, io_add_o, io_sub_o, io_mul_o, io_neg_o, io_and_r, io_or_r, io_xor_r, io_nd_r, io_shr_r, io_shl1, io_i2b_r, io_i2l_o, io_l2i_o, il_add_o, il_sub_o, il_mul_o, il_neg_o, ib_bit, Int.toNat_natCast, true_implies, false_implies, implies_true, and_true, true_and, and_self, not_true_eq_false, not_false_eq_true, wa_0, wa_1, il_cmp_o, il_cmp0, il_cmp1, il_cmp2, io_bit1, ibt0, ibt1, ibt00, ibt11, ibt10, ibt01, Int.ofNat_lt, Int.ofNat_le, Int.ofNat_inj, Nat.lt_irrefl, Int.lt_irrefl, Int.toNat_one, Int.toNat_zero, Bool.false_eq_true, reduceIte, reduceCtorEq, Nat.reduceAdd, Nat.reduceMul, Nat.reduceSub, Nat.reduceLT, Nat.reduceLeDiff, Nat.reduceEqDiff, Int.reduceNeg, Int.reduceAdd, Int.reduceMul, Int.reduceSub, Int.reduceLT, Int.reduceLE, Int.reduceEq, Int.reduceToNat, Int.reduceNatCast, icl, ico, inz, Nat.not_lt_zero]
          exact ih M3 hF3 _ rfl
      · rw [if_neg e1] at ih
        simp (disch := first | assumption | omega | exact il_cqA _ _ | exact il_cqB _ _) only [wi_229_0, wi_229_1, wi_229_2, wi_229_5, wi_229_6, wi_229_7, wi_229_8, wi_229_10, wi_229_12, wi_229_15, wi_229_16, wi_229_18, wi_229_19, wi_229_22, wi_229_23, wi_229_24, wi_229_27, wi_229_28, wi_229_31, wi_229_33, wi_229_34, wi_229_35, wi_229_36, wi_229_37, wi_229_40, wi_229_41, wi_229_42, wi_229_43, wi_229_44, wi_229_45, wi_229_46, wi_229_49, wi_229_52, wi_229_53, wi_229_54, wi_229_55, wi_229_56, wi_229_57, wi_229_58, wi_229_61, wi_229_64, wi_229_67, wi_229_70, wi_229_71, io_add_o, io_sub_o, io_mul_o, io_neg_o, io_and_r, io_or_r, io_xor_r, io_nd_r, io_shr_r, io_shl1, io_i2b_r, io_i2l_o, io_l2i_o, il_add_o, il_sub_o, il_mul_o, il_neg_o, ib_bit, Int.toNat_natCast, true_implies, false_implies, implies_true, and_true, true_and, and_self, not_true_eq_false, not_false_eq_true, wa_0, wa_1, il_cmp_o, il_cmp0, il_cmp1, il_cmp2, io_bit1, ibt0, ibt1, ibt00, ibt11, ibt10, ibt01, Int.ofNat_lt, Int.ofNat_le, Int.ofNat_inj, Nat.lt_irrefl, Int.lt_irrefl, Int.toNat_one, Int.toNat_zero, Bool.false_eq_true, reduceIte, reduceCtorEq, Nat.reduceAdd, Nat.reduceMul, Nat.reduceSub, Nat.reduceLT, Nat.reduceLeDiff, Nat.reduceEqDiff, Int.reduceNeg, Int.reduceAdd, Int.reduceMul, Int.reduceSub, Int.reduceLT, Int.reduceLE, Int.reduceEq, Int.reduceToNat, Int.reduceNatCast, icl, ico, inz, Nat.not_lt_zero, it45, e0, hi, h3, hWi, e1]
        exact ih M' hM _ rfl
    · have e0 : M' 143 = M0 143 := hM 143 (by decide) (by decide) (by decide)
      rw [wi_229_17]
      simp (disch := first | assumption | omega | exact il_cqA _ _ | exact il_cqB _ _) only [wi_229_0, wi_229_1, wi_229_2, wi_229_5, wi_229_6, wi_229_7, wi_229_8, wi_229_10, wi_229_12, wi_229_15, wi_229_16, wi_229_18, wi_229_19, wi_229_22, wi_229_23, wi_229_24, wi_229_27, wi_229_28, wi_229_31, wi_229_33, wi_229_34, wi_229_35, wi_229_36, wi_229_37, wi_229_40, wi_229_41, wi_229_42, wi_229_43, wi_229_44, wi_229_45, wi_229_46, wi_229_49, wi_229_52, wi_229_53, wi_229_54, wi_229_55, wi_229_56, wi_229_57, wi_229_58, wi_229_61, wi_229_64, wi_229_67, wi_229_70, wi_229_71, io_add_o, io_sub_o, io_mul_o, io_neg_o, io_and_r, io_or_r, io_xor_r, io_nd_r, io_shr_r, io_shl1, io_i2b_r, io_i2l_o, io_l2i_o, il_add_o, il_sub_o, il_mul_o, il_neg_o, ib_bit, Int.toNat_natCast, true_implies, false_implies, implies_true, and_true, true_and, and_self, not_true_eq_false, not_false_eq_true, wa_0, wa_1, il_cmp_o, il_cmp0, il_cmp1, il_cmp2, io_bit1, ibt0, ibt1, ibt00, ibt11, ibt10, ibt01, Int.ofNat_lt, Int.ofNat_le, Int.ofNat_inj, Nat.lt_irrefl, Int.lt_irrefl, Int.toNat_one, Int.toNat_zero, Bool.false_eq_true, reduceIte, reduceCtorEq, Nat.reduceAdd, Nat.reduceMul, Nat.reduceSub, Nat.reduceLT, Nat.reduceLeDiff, Nat.reduceEqDiff, Int.reduceNeg, Int.reduceAdd, Int.reduceMul, Int.reduceSub, Int.reduceLT, Int.reduceLE, Int.reduceEq, Int.reduceToNat, Int.reduceNatCast, icl, ico, inz, Nat.not_lt_zero, e0, h3]
      exact ihw M' hM c (by rw [hc, qmb, hb]) _
  · rw [wi_229_9]
    simp (disch := first | assumption | omega | exact il_cqA _ _ | exact il_cqB _ _) only [wi_229_0, wi_229_1, wi_229_2, wi_229_5, wi_229_6, wi_229_7, wi_229_8, wi_229_10, wi_229_12, wi_229_15, wi_229_16, wi_229_18, wi_229_19, wi_229_22, wi_229_23, wi_229_24, wi_229_27, wi_229_28, wi_229_31, wi_229_33, wi_229_34, wi_229_35, wi_229_36, wi_229_37, wi_229_40, wi_229_41, wi_229_42, wi_229_43, wi_229_44, wi_229_45, wi_229_46, wi_229_49, wi_229_52, wi_229_53, wi_229_54, wi_229_55, wi_229_56, wi_229_57, wi_229_58, wi_229_61, wi_229_64, wi_229_67, wi_229_70, wi_229_71, io_add_o, io_sub_o, io_mul_o, io_neg_o, io_and_r, io_or_r, io_xor_r, io_nd_r, io_shr_r, io_shl1, io_i2b_r, io_i2l_o, io_l2i_o, il_add_o, il_sub_o, il_mul_o, il_neg_o, ib_bit, Int.toNat_natCast, true_implies, false_implies, implies_true, and_true, true_and, and_self, not_true_eq_false, not_false_eq_true, wa_0, wa_1, il_cmp_o, il_cmp0, il_cmp1, il_cmp2, io_bit1, ibt0, ibt1, ibt00, ibt11, ibt10, ibt01, Int.ofNat_lt, Int.ofNat_le, Int.ofNat_inj, Nat.lt_irrefl, Int.lt_irrefl, Int.toNat_one, Int.toNat_zero, Bool.false_eq_true, reduceIte, reduceCtorEq, Nat.reduceAdd, Nat.reduceMul, Nat.reduceSub, Nat.reduceLT, Nat.reduceLeDiff, Nat.reduceEqDiff, Int.reduceNeg, Int.reduceAdd, Int.reduceMul, Int.reduceSub, Int.reduceLT, Int.reduceLE, Int.reduceEq, Int.reduceToNat, Int.reduceNatCast, icl, ico, inz, Nat.not_lt_zero]
    exact hz M' _ hM (by rw [hb])
theorem cq_114 (hI : q_I M A) (hA : a_ok A) : q_cS N xs (d + 31) 114 [] M A cc cs 0 0 ((qfe (aG A) (qU (aG A)) : Int)) := by
  have hG := hA.1
  have hC := hI.1
  have hg := gs_G2_
  intro Q h0 h1
  simp (disch := first | assumption | omega | exact il_cqA _ _ | exact il_cqB _ _) only [wi_114_0, wi_114_1, wi_114_4, wi_114_5, wi_114_8, wi_114_11, io_add_o, io_sub_o, io_mul_o, io_neg_o, io_and_r, io_or_r, io_xor_r, io_nd_r, io_shr_r, io_shl1, io_i2b_r, io_i2l_o, io_l2i_o, il_add_o, il_sub_o, il_mul_o, il_neg_o, ib_bit, Int.toNat_natCast, true_implies, false_implies, implies_true, and_true, true_and, and_self, not_true_eq_false, not_false_eq_true, wa_0, wa_1, il_cmp_o, il_cmp0, il_cmp1, il_cmp2, io_bit1, ibt0, ibt1, ibt00, ibt11, ibt10, ibt01, Int.ofNat_lt, Int.ofNat_le, Int.ofNat_inj, Nat.lt_irrefl, Int.lt_irrefl, Int.toNat_one, Int.toNat_zero, Bool.false_eq_true, reduceIte, reduceCtorEq, Nat.reduceAdd, Nat.reduceMul, Nat.reduceSub, Nat.reduceLT, Nat.reduceLeDiff, Nat.reduceEqDiff, Int.reduceNeg, Int.reduceAdd, Int.reduceMul, Int.reduceSub, Int.reduceLT, Int.reduceLE, Int.reduceEq, Int.reduceToNat, Int.reduceNatCast, icl, ico, inz, Nat.not_lt_zero]
  refine wp_fewestOdd hg hG hC hI.2.1 (fun M' hM' hS' => ?_)
  simp (disch := first | assumption | omega | exact il_cqA _ _ | exact il_cqB _ _) only [wi_114_0, wi_114_1, wi_114_4, wi_114_5, wi_114_8, wi_114_11, io_add_o, io_sub_o, io_mul_o, io_neg_o, io_and_r, io_or_r, io_xor_r, io_nd_r, io_shr_r, io_shl1, io_i2b_r, io_i2l_o, io_l2i_o, il_add_o, il_sub_o, il_mul_o, il_neg_o, ib_bit, Int.toNat_natCast, true_implies, false_implies, implies_true, and_true, true_and, and_self, not_true_eq_false, not_false_eq_true, wa_0, wa_1, il_cmp_o, il_cmp0, il_cmp1, il_cmp2, io_bit1, ibt0, ibt1, ibt00, ibt11, ibt10, ibt01, Int.ofNat_lt, Int.ofNat_le, Int.ofNat_inj, Nat.lt_irrefl, Int.lt_irrefl, Int.toNat_one, Int.toNat_zero, Bool.false_eq_true, reduceIte, reduceCtorEq, Nat.reduceAdd, Nat.reduceMul, Nat.reduceSub, Nat.reduceLT, Nat.reduceLeDiff, Nat.reduceEqDiff, Int.reduceNeg, Int.reduceAdd, Int.reduceMul, Int.reduceSub, Int.reduceLT, Int.reduceLE, Int.reduceEq, Int.reduceToNat, Int.reduceNatCast, icl, ico, inz, Nat.not_lt_zero]
  rw [qfe_U]
  exact h0 rfl M' (fr_8 hM') (q_I_8 hI hM' hS')
theorem mq_232 (hV : q_V M A) (hA : a_ok A) : q_mS N xs (d + 31) 232 [(3, 0), (3, 0)] M A cc cs 0 false 0 ((qfe (aG A) (qU (aG A)) : Int)) := by
  have hG := hA.1
  intro Q h0
  have hV1 := q_V_t (x := 0) hV
  have hR1 := hV1.1
  have hz := fun M' b hM hb => q_mend (M' := M') (b := b) h0 rfl hV hM hb
  have hz2 := fun M' b hM hb => q_mend2 (M' := M') (b := b) h0 rfl hV hM hb
  clear h0
  simp (disch := first | assumption | omega | exact il_cqA _ _ | exact il_cqB _ _) only [wi_232_0, wi_232_1, wi_232_2, wi_232_5, wi_232_6, wi_232_9, wi_232_10, wi_232_11, wi_232_13, wi_232_14, wi_232_17, wi_232_20, wi_232_21, wi_232_24, wi_232_25, wi_232_28, wi_232_31, wi_232_32, wi_232_33, wi_232_36, wi_232_37, wi_232_38, wi_232_41, wi_232_44, wi_232_45, wi_232_46, wi_232_49, wi_232_52, wi_232_53, io_add_o, io_sub_o, io_mul_o, io_neg_o, io_and_r, io_or_r, io_xor_r, io_nd_r, io_shr_r, io_shl1, io_i2b_r, io_i2l_o, io_l2i_o, il_add_o, il_sub_o, il_mul_o, il_neg_o, ib_bit, Int.toNat_natCast, true_implies, false_implies, implies_true, and_true, true_and, and_self, not_true_eq_false, not_false_eq_true, wa_0, wa_1, il_cmp_o, il_cmp0, il_cmp1, il_cmp2, io_bit1, ibt0, ibt1, ibt00, ibt11, ibt10, ibt01, Int.ofNat_lt, Int.ofNat_le, Int.ofNat_inj, Nat.lt_irrefl, Int.lt_irrefl, Int.toNat_one, Int.toNat_zero, Bool.false_eq_true, reduceIte, reduceCtorEq, Nat.reduceAdd, Nat.reduceMul, Nat.reduceSub, Nat.reduceLT, Nat.reduceLeDiff, Nat.reduceEqDiff, Int.reduceNeg, Int.reduceAdd, Int.reduceMul, Int.reduceSub, Int.reduceLT, Int.reduceLE, Int.reduceEq, Int.reduceToNat, Int.reduceNatCast, icl, ico, inz, Nat.not_lt_zero, wp_mall hR1 hG]
  clear hz2
  revert hz hR1
  generalize gg_up M 142 7 0 = M0
  intro hR1 hz
  generalize aG A = G at *
  obtain ⟨⟨h1, h2, h3, h4, h5⟩, hF, hT, hA, hW, hPa, hO⟩ := id hR1
  obtain ⟨⟨k1, k2, k3, k4, k5, k6, k7, k8⟩, hk, hp, hp2⟩ := id hG
  have hp2 := two_le k5
  have hU : qU G + 1 = 2 ^ qK G := by have := Nat.one_le_two_pow (n := qK G); unfold qU; omega
  refine wl_i (P := fun i I => ∀ M' : gg_M, (∀ j, j ≠ 150 → j ≠ 151 → j ≠ 152 → M' j = M0 j) → ∀ c : Nat, c = qfe G i → wp N xs (d + 30 + 1) 232 12 [gr 142, (0, (c : Int)), (0, I)] [] (gk_R, M', 158, cc, cs) Q) (qU G) (fun i hi ih M' hM c hc => ?_) (fun M' hM c hc => ?_) M0 (fun _ _ _ _ => rfl) (qU G) rfl
  · have e0 : M' 143 = M0 143 := hM 143 (by decide) (by decide) (by decide)
    have hR' : q_R (M' 143) G := by rw [e0]; exact hR1
    have hil : i < 2 ^ qK G := by omega
    have hcl : c < 2 ^ qK G := by rw [hc]; exact qfe_lt (by omega)
    have h9 := qsz_12 hG hil
    have h10 := qsz_12 hG hcl
    have hx := gnd_xor (G := G) hil
    have hxl : qU G ^^^ i < 2 ^ qK G := Nat.xor_lt_two_pow qU_lt hil
    have hs1 := qsz_le G i
    have hs2 := qsz_le G c
    rw [qfe, ← hc, hx] at ih
    rw [wi_232_12]
    by_cases e1 : qsz G i < qsz G c
    · simp (disch := first | assumption | omega | exact il_cqA _ _ | exact il_cqB _ _) only [wi_232_0, wi_232_1, wi_232_2, wi_232_5, wi_232_6, wi_232_9, wi_232_10, wi_232_11, wi_232_13, wi_232_14, wi_232_17, wi_232_20, wi_232_21, wi_232_24, wi_232_25, wi_232_28, wi_232_31, wi_232_32, wi_232_33, wi_232_36, wi_232_37, wi_232_38, wi_232_41, wi_232_44, wi_232_45, wi_232_46, wi_232_49, wi_232_52, wi_232_53, io_add_o, io_sub_o, io_mul_o, io_neg_o, io_and_r, io_or_r, io_xor_r, io_nd_r, io_shr_r, io_shl1, io_i2b_r, io_i2l_o, io_l2i_o, il_add_o, il_sub_o, il_mul_o, il_neg_o, ib_bit, Int.toNat_natCast, true_implies, false_implies, implies_true, and_true, true_and, and_self, not_true_eq_false, not_false_eq_true, wa_0, wa_1, il_cmp_o, il_cmp0, il_cmp1, il_cmp2, io_bit1, ibt0, ibt1, ibt00, ibt11, ibt10, ibt01, Int.ofNat_lt, Int.ofNat_le, Int.ofNat_inj, Nat.lt_irrefl, Int.lt_irrefl, Int.toNat_one, Int.toNat_zero, Bool.false_eq_true, reduceIte, reduceCtorEq, Nat.reduceAdd, Nat.reduceMul, Nat.reduceSub, Nat.reduceLT, Nat.reduceLeDiff, Nat.reduceEqDiff, Int.reduceNeg, Int.reduceAdd, Int.reduceMul, Int.reduceSub, Int.reduceLT, Int.reduceLE, Int.reduceEq, Int.reduceToNat, Int.reduceNatCast, icl, ico, inz, Nat.not_lt_zero, wp_mall (M := M') hR' hG, wp_sizeOf, h9, h10, e1, hi]
      refine wp_meven hR' hG (s := qU G ^^^ i) (by omega) (fun M3 hM3 => ?_)
      have hF3 : (∀ j, j ≠ 150 → j ≠ 151 → j ≠ 152 → M3 j = M0 j) := fun j h1 h2 h3 => by rw [hM3 j h1 h2 h3, hM j h1 h2 h3]
      cases ev : qeven G (qU G ^^^ i)
      · rw [ev, if_neg (fun z => absurd z.2 (by decide))] at ih
        simp (disch := first | assumption | omega | exact il_cqA _ _ | exact il_cqB _ _) only [wi_232_0, wi_232_1, wi_232_2, wi_232_5, wi_232_6, wi_232_9, wi_232_10, wi_232_11, wi_232_13, wi_232_14, wi_232_17, wi_232_20, wi_232_21, wi_232_24, wi_232_25, wi_232_28, wi_232_31, wi_232_32, wi_232_33, wi_232_36, wi_232_37, wi_232_38, wi_232_41, wi_232_44, wi_232_45, wi_232_46, wi_232_49, wi_232_52, wi_232_53, io_add_o, io_sub_o, io_mul_o, io_neg_o, io_and_r, io_or_r, io_xor_r, io_nd_r, io_shr_r, io_shl1, io_i2b_r, io_i2l_o, io_l2i_o, il_add_o, il_sub_o, il_mul_o, il_neg_o, ib_bit, Int.toNat_natCast, true_implies, false_implies, implies_true, and_true, true_and, and_self, not_true_eq_false, not_false_eq_true, wa_0, wa_1, il_cmp_o, il_cmp0, il_cmp1, il_cmp2, io_bit1, ibt0, ibt1, ibt00, ibt11, ibt10, ibt01, Int.ofNat_lt, Int.ofNat_le, Int.ofNat_inj, Nat.lt_irrefl, Int.lt_irrefl, Int.toNat_one, Int.toNat_zero, Bool.false_eq_true, reduceIte, reduceCtorEq, Nat.reduceAdd, Nat.reduceMul, Nat.reduceSub, Nat.reduceLT, Nat.reduceLeDiff, Nat.reduceEqDiff, Int.reduceNeg, Int.reduceAdd, Int.reduceMul, Int.reduceSub, Int.reduceLT, Int.reduceLE, Int.reduceEq, Int.reduceToNat, Int.reduceNatCast, icl, ico, inz, Nat.not_lt_zero]
        exact ih M3 hF3 _ rfl
      · rw [ev, if_pos ⟨e1, rfl⟩] at ih
        simp (disch := first | assumption | omega | exact il_cqA _ _ | exact il_cqB _ _) only [wi_232_0, wi_232_1, wi_232_2, wi_232_5, wi_232_6, wi_232_9, wi_232_10, wi_232_11, wi_232_13, wi_232_14, wi_232_17, wi_232_20, wi_232_21, wi_232_24, wi_232_25, wi_232_28, wi_232_31, wi_232_32, wi_232_33, wi_232_36, wi_232_37, wi_232_38, wi_232_41, wi_232_44, wi_232_45, wi_232_46, wi_232_49, wi_232_52, wi_232_53, io_add_o, io_sub_o, io_mul_o, io_neg_o, io_and_r, io_or_r, io_xor_r, io_nd_r, io_shr_r, io_shl1, io_i2b_r, io_i2l_o, io_l2i_o, il_add_o, il_sub_o, il_mul_o, il_neg_o, ib_bit, Int.toNat_natCast, true_implies, false_implies, implies_true, and_true, true_and, and_self, not_true_eq_false, not_false_eq_true, wa_0, wa_1, il_cmp_o, il_cmp0, il_cmp1, il_cmp2, io_bit1, ibt0, ibt1, ibt00, ibt11, ibt10, ibt01, Int.ofNat_lt, Int.ofNat_le, Int.ofNat_inj, Nat.lt_irrefl, Int.lt_irrefl, Int.toNat_one, Int.toNat_zero, Bool.false_eq_true, reduceIte, reduceCtorEq, Nat.reduceAdd, Nat.reduceMul, Nat.reduceSub, Nat.reduceLT, Nat.reduceLeDiff, Nat.reduceEqDiff, Int.reduceNeg, Int.reduceAdd, Int.reduceMul, Int.reduceSub, Int.reduceLT, Int.reduceLE, Int.reduceEq, Int.reduceToNat, Int.reduceNatCast, icl, ico, inz, Nat.not_lt_zero]
        exact ih M3 hF3 _ rfl
    · rw [if_neg (fun z => e1 z.1)] at ih
      simp (disch := first | assumption | omega | exact il_cqA _ _ | exact il_cqB _ _) only [wi_232_0, wi_232_1, wi_232_2, wi_232_5, wi_232_6, wi_232_9, wi_232_10, wi_232_11, wi_232_13, wi_232_14, wi_232_17, wi_232_20, wi_232_21, wi_232_24, wi_232_25, wi_232_28, wi_232_31, wi_232_32, wi_232_33, wi_232_36, wi_232_37, wi_232_38, wi_232_41, wi_232_44, wi_232_45, wi_232_46, wi_232_49, wi_232_52, wi_232_53, io_add_o, io_sub_o, io_mul_o, io_neg_o, io_and_r, io_or_r, io_xor_r, io_nd_r, io_shr_r, io_shl1, io_i2b_r, io_i2l_o, io_l2i_o, il_add_o, il_sub_o, il_mul_o, il_neg_o, ib_bit, Int.toNat_natCast, true_implies, false_implies, implies_true, and_true, true_and, and_self, not_true_eq_false, not_false_eq_true, wa_0, wa_1, il_cmp_o, il_cmp0, il_cmp1, il_cmp2, io_bit1, ibt0, ibt1, ibt00, ibt11, ibt10, ibt01, Int.ofNat_lt, Int.ofNat_le, Int.ofNat_inj, Nat.lt_irrefl, Int.lt_irrefl, Int.toNat_one, Int.toNat_zero, Bool.false_eq_true, reduceIte, reduceCtorEq, Nat.reduceAdd, Nat.reduceMul, Nat.reduceSub, Nat.reduceLT, Nat.reduceLeDiff, Nat.reduceEqDiff, Int.reduceNeg, Int.reduceAdd, Int.reduceMul, Int.reduceSub, Int.reduceLT, Int.reduceLE, Int.reduceEq, Int.reduceToNat, Int.reduceNatCast, icl, ico, inz, Nat.not_lt_zero, wp_mall (M := M') hR' hG, wp_sizeOf, h9, h10, e1, hi]
      exact ih M' hM _ rfl
  · have e0 : M' 143 = M0 143 := hM 143 (by decide) (by decide) (by decide)
    have hR' : q_R (M' 143) G := by rw [e0]; exact hR1
    rw [wi_232_12]
    simp (disch := first | assumption | omega | exact il_cqA _ _ | exact il_cqB _ _) only [wi_232_0, wi_232_1, wi_232_2, wi_232_5, wi_232_6, wi_232_9, wi_232_10, wi_232_11, wi_232_13, wi_232_14, wi_232_17, wi_232_20, wi_232_21, wi_232_24, wi_232_25, wi_232_28, wi_232_31, wi_232_32, wi_232_33, wi_232_36, wi_232_37, wi_232_38, wi_232_41, wi_232_44, wi_232_45, wi_232_46, wi_232_49, wi_232_52, wi_232_53, io_add_o, io_sub_o, io_mul_o, io_neg_o, io_and_r, io_or_r, io_xor_r, io_nd_r, io_shr_r, io_shl1, io_i2b_r, io_i2l_o, io_l2i_o, il_add_o, il_sub_o, il_mul_o, il_neg_o, ib_bit, Int.toNat_natCast, true_implies, false_implies, implies_true, and_true, true_and, and_self, not_true_eq_false, not_false_eq_true, wa_0, wa_1, il_cmp_o, il_cmp0, il_cmp1, il_cmp2, io_bit1, ibt0, ibt1, ibt00, ibt11, ibt10, ibt01, Int.ofNat_lt, Int.ofNat_le, Int.ofNat_inj, Nat.lt_irrefl, Int.lt_irrefl, Int.toNat_one, Int.toNat_zero, Bool.false_eq_true, reduceIte, reduceCtorEq, Nat.reduceAdd, Nat.reduceMul, Nat.reduceSub, Nat.reduceLT, Nat.reduceLeDiff, Nat.reduceEqDiff, Int.reduceNeg, Int.reduceAdd, Int.reduceMul, Int.reduceSub, Int.reduceLT, Int.reduceLE, Int.reduceEq, Int.reduceToNat, Int.reduceNatCast, icl, ico, inz, Nat.not_lt_zero, wp_mall (M := M') hR' hG]
    exact hz M' _ hM (by rw [hc])
theorem cq_125 (hI : q_I M A) (hA : a_ok A) : q_cS N xs (d + 31) 125 [] M A cc cs 0 0 ((qcnt (qcl (aG A) (qP (aG A))) (qK (aG A)) : Int)) := by
  have hG := hA.1
  have hC := hI.1
  have hg := gs_G2_
  intro Q h0 h1
  obtain ⟨⟨h1, h2, h3, h4, h5⟩, hF, hT, hA, hW, hP, hO⟩ := id hC
  obtain ⟨⟨k1, k2, k3, k4, k5, k6, k7, k8⟩, hk, hp, hp2⟩ := id hG
  have hca : gs_a 7 1 8 := gs_ab_ok (by decide +kernel)
  have hcv : ∀ v, v < qN (aG A) → M 7 v = qP (aG A) v := fun v hv => hP v (by omega)
  simp (disch := first | assumption | omega | exact il_cqA _ _ | exact il_cqB _ _) only [wi_125_0, wi_125_1, wi_125_4, wi_125_5, wi_125_8, wi_125_11, wi_125_14, io_add_o, io_sub_o, io_mul_o, io_neg_o, io_and_r, io_or_r, io_xor_r, io_nd_r, io_shr_r, io_shl1, io_i2b_r, io_i2l_o, io_l2i_o, il_add_o, il_sub_o, il_mul_o, il_neg_o, ib_bit, Int.toNat_natCast, true_implies, false_implies, implies_true, and_true, true_and, and_self, not_true_eq_false, not_false_eq_true, wa_0, wa_1, il_cmp_o, il_cmp0, il_cmp1, il_cmp2, io_bit1, ibt0, ibt1, ibt00, ibt11, ibt10, ibt01, Int.ofNat_lt, Int.ofNat_le, Int.ofNat_inj, Nat.lt_irrefl, Int.lt_irrefl, Int.toNat_one, Int.toNat_zero, Bool.false_eq_true, reduceIte, reduceCtorEq, Nat.reduceAdd, Nat.reduceMul, Nat.reduceSub, Nat.reduceLT, Nat.reduceLeDiff, Nat.reduceEqDiff, Int.reduceNeg, Int.reduceAdd, Int.reduceMul, Int.reduceSub, Int.reduceLT, Int.reduceLE, Int.reduceEq, Int.reduceToNat, Int.reduceNatCast, icl, ico, inz, Nat.not_lt_zero, wp_clashesAmong hg hG hC hca hcv (qP_60 hG)]
  exact h0 rfl M (fun _ _ => rfl) hI
theorem mq_255 (hV : q_V M A) (hA : a_ok A) : q_mS N xs (d + 31) 255 [] M A cc cs 0 false 0 ((qcnt (qcl (aG A) (qP (aG A))) (qK (aG A)) : Int)) := by
  have hG := hA.1
  intro Q h0
  have hV1 := q_V_t (x := 0) hV
  have hR1 := hV1.1
  have hz := fun M' b hM hb => q_mend (M' := M') (b := b) h0 rfl hV hM hb
  have hz2 := fun M' b hM hb => q_mend2 (M' := M') (b := b) h0 rfl hV hM hb
  clear h0
  have k2 := hG.1.2.1
  simp (disch := first | assumption | omega | exact il_cqA _ _ | exact il_cqB _ _) only [wi_255_0, wi_255_1, wi_255_2, wi_255_5, wi_255_6, wi_255_9, wi_255_10, wi_255_13, io_add_o, io_sub_o, io_mul_o, io_neg_o, io_and_r, io_or_r, io_xor_r, io_nd_r, io_shr_r, io_shl1, io_i2b_r, io_i2l_o, io_l2i_o, il_add_o, il_sub_o, il_mul_o, il_neg_o, ib_bit, Int.toNat_natCast, true_implies, false_implies, implies_true, and_true, true_and, and_self, not_true_eq_false, not_false_eq_true, wa_0, wa_1, il_cmp_o, il_cmp0, il_cmp1, il_cmp2, io_bit1, ibt0, ibt1, ibt00, ibt11, ibt10, ibt01, Int.ofNat_lt, Int.ofNat_le, Int.ofNat_inj, Nat.lt_irrefl, Int.lt_irrefl, Int.toNat_one, Int.toNat_zero, Bool.false_eq_true, reduceIte, reduceCtorEq, Nat.reduceAdd, Nat.reduceMul, Nat.reduceSub, Nat.reduceLT, Nat.reduceLeDiff, Nat.reduceEqDiff, Int.reduceNeg, Int.reduceAdd, Int.reduceMul, Int.reduceSub, Int.reduceLT, Int.reduceLE, Int.reduceEq, Int.reduceToNat, Int.reduceNatCast, icl, ico, inz, Nat.not_lt_zero]
  refine wp_triesPaint hR1 hG (fun M1 hM1 hv1 => ?_)
  have hR2 : q_R (M1 143) (aG A) := by rw [hM1 143 (by decide)]; exact hR1
  have hcv : ∀ v, v < qN (aG A) → M1 153 v = qP (aG A) v := fun v hv => hv1 v (by omega)
  simp (disch := first | assumption | omega | exact il_cqA _ _ | exact il_cqB _ _) only [wi_255_0, wi_255_1, wi_255_2, wi_255_5, wi_255_6, wi_255_9, wi_255_10, wi_255_13, io_add_o, io_sub_o, io_mul_o, io_neg_o, io_and_r, io_or_r, io_xor_r, io_nd_r, io_shr_r, io_shl1, io_i2b_r, io_i2l_o, io_l2i_o, il_add_o, il_sub_o, il_mul_o, il_neg_o, ib_bit, Int.toNat_natCast, true_implies, false_implies, implies_true, and_true, true_and, and_self, not_true_eq_false, not_false_eq_true, wa_0, wa_1, il_cmp_o, il_cmp0, il_cmp1, il_cmp2, io_bit1, ibt0, ibt1, ibt00, ibt11, ibt10, ibt01, Int.ofNat_lt, Int.ofNat_le, Int.ofNat_inj, Nat.lt_irrefl, Int.lt_irrefl, Int.toNat_one, Int.toNat_zero, Bool.false_eq_true, reduceIte, reduceCtorEq, Nat.reduceAdd, Nat.reduceMul, Nat.reduceSub, Nat.reduceLT, Nat.reduceLeDiff, Nat.reduceEqDiff, Int.reduceNeg, Int.reduceAdd, Int.reduceMul, Int.reduceSub, Int.reduceLT, Int.reduceLE, Int.reduceEq, Int.reduceToNat, Int.reduceNatCast, icl, ico, inz, Nat.not_lt_zero, wp_clashMany hR2 hG hcv (qP_100 hG)]
  exact hz2 M1 _ (fun j hj => hM1 j (by omega)) rfl
end SG
