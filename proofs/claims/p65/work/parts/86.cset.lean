/-! questions about a set of arcs: the class -/
section SG
variable {N : Nat} {xs : Nat → Int32} {d : Nat} {M : gg_M} {cc cs : Nat} {A : q_A}
theorem q_I_9 {M' : gg_M} (hI : q_I M A) (hM : (∀ j, j < 79 ∨ 81 < j → M' j = M j)) : q_I M' A := q_I_q hI (fun j hj => hM j (by omega)) (qs_S_e hI.2.1 (hM 78 (by decide)) (hM 83 (by decide)) (hM 84 (by decide)))
theorem q_I_8 {M' : gg_M} (hI : q_I M A) (hM : (∀ j, j < 78 ∨ 125 < j → M' j = M j)) (hS : qs_S M' (aG A)) : q_I M' A := q_I_q hI (fun j hj => hM j (by omega)) hS
theorem fr_9 {M' : gg_M} (hM : (∀ j, j < 79 ∨ 81 < j → M' j = M j)) : ∀ j, 142 ≤ j → M' j = M j := fun j hj => hM j (by omega)
theorem fr_8 {M' : gg_M} (hM : (∀ j, j < 78 ∨ 125 < j → M' j = M j)) : ∀ j, 142 ≤ j → M' j = M j := fun j hj => hM j (by omega)
theorem cq_101 (hI : q_I M A) (hA : a_ok A) {x : Int} (x1 : -2147483648 ≤ x) (x2 : x ≤ 2147483647) : q_cS N xs (d + 30) 101 [(0, x)] M A cc cs (o_set A x) 0 ((qrk (aG A) x.toNat : Int)) := by
  have hG := hA.1
  have hC := hI.1
  have hg := gs_G2_
  intro Q h0 h1
  by_cases e : 0 ≤ x ∧ x ≤ qU (aG A)
  · have ho : o_set A x = 0 := if_pos e
    simp (disch := first | assumption | omega | exact il_cqA _ _ | exact il_cqB _ _) only [wi_101_0, wi_101_1, wi_101_2, wi_101_5, wi_101_6, wi_101_9, wi_101_10, wi_101_13, wi_101_14, wi_101_17, io_add_o, io_sub_o, io_mul_o, io_neg_o, io_and_r, io_or_r, io_xor_r, io_nd_r, io_shr_r, io_shl1, io_i2b_r, io_i2l_o, io_l2i_o, il_add_o, il_sub_o, il_mul_o, il_neg_o, ib_bit, Int.toNat_natCast, true_implies, false_implies, implies_true, and_true, true_and, and_self, not_true_eq_false, not_false_eq_true, wa_0, wa_1, il_cmp_o, il_cmp0, il_cmp1, il_cmp2, io_bit1, ibt0, ibt1, ibt00, ibt11, ibt10, ibt01, Int.ofNat_lt, Int.ofNat_le, Int.ofNat_inj, Nat.lt_irrefl, Int.lt_irrefl, Int.toNat_one, Int.toNat_zero, Bool.false_eq_true, reduceIte, reduceCtorEq, Nat.reduceAdd, Nat.reduceMul, Nat.reduceSub, Nat.reduceLT, Nat.reduceLeDiff, Nat.reduceEqDiff, Int.reduceNeg, Int.reduceAdd, Int.reduceMul, Int.reduceSub, Int.reduceLT, Int.reduceLE, Int.reduceEq, Int.reduceToNat, Int.reduceNatCast, icl, ico, inz, Nat.not_lt_zero, wp_needSet x1 x2 hG hC, if_pos e]
    obtain ⟨s, rfl⟩ := Int.eq_ofNat_of_zero_le e.1
    have hs := qU_s e.2
    refine wp_rankOf hg hG hC hI.2.1 hs (fun M' hM' => ?_)
    simp (disch := first | assumption | omega | exact il_cqA _ _ | exact il_cqB _ _) only [wi_101_0, wi_101_1, wi_101_2, wi_101_5, wi_101_6, wi_101_9, wi_101_10, wi_101_13, wi_101_14, wi_101_17, io_add_o, io_sub_o, io_mul_o, io_neg_o, io_and_r, io_or_r, io_xor_r, io_nd_r, io_shr_r, io_shl1, io_i2b_r, io_i2l_o, io_l2i_o, il_add_o, il_sub_o, il_mul_o, il_neg_o, ib_bit, Int.toNat_natCast, true_implies, false_implies, implies_true, and_true, true_and, and_self, not_true_eq_false, not_false_eq_true, wa_0, wa_1, il_cmp_o, il_cmp0, il_cmp1, il_cmp2, io_bit1, ibt0, ibt1, ibt00, ibt11, ibt10, ibt01, Int.ofNat_lt, Int.ofNat_le, Int.ofNat_inj, Nat.lt_irrefl, Int.lt_irrefl, Int.toNat_one, Int.toNat_zero, Bool.false_eq_true, reduceIte, reduceCtorEq, Nat.reduceAdd, Nat.reduceMul, Nat.reduceSub, Nat.reduceLT, Nat.reduceLeDiff, Nat.reduceEqDiff, Int.reduceNeg, Int.reduceAdd, Int.reduceMul, Int.reduceSub, Int.reduceLT, Int.reduceLE, Int.reduceEq, Int.reduceToNat, Int.reduceNatCast, icl, ico, inz, Nat.not_lt_zero]
    exact h0 ho M' (fr_9 hM') (q_I_9 hI hM')
  · have ho : o_set A x = 2 := if_neg e
    simp (disch := first | assumption | omega | exact il_cqA _ _ | exact il_cqB _ _) only [wi_101_0, wi_101_1, wi_101_2, wi_101_5, wi_101_6, wi_101_9, wi_101_10, wi_101_13, wi_101_14, wi_101_17, io_add_o, io_sub_o, io_mul_o, io_neg_o, io_and_r, io_or_r, io_xor_r, io_nd_r, io_shr_r, io_shl1, io_i2b_r, io_i2l_o, io_l2i_o, il_add_o, il_sub_o, il_mul_o, il_neg_o, ib_bit, Int.toNat_natCast, true_implies, false_implies, implies_true, and_true, true_and, and_self, not_true_eq_false, not_false_eq_true, wa_0, wa_1, il_cmp_o, il_cmp0, il_cmp1, il_cmp2, io_bit1, ibt0, ibt1, ibt00, ibt11, ibt10, ibt01, Int.ofNat_lt, Int.ofNat_le, Int.ofNat_inj, Nat.lt_irrefl, Int.lt_irrefl, Int.toNat_one, Int.toNat_zero, Bool.false_eq_true, reduceIte, reduceCtorEq, Nat.reduceAdd, Nat.reduceMul, Nat.reduceSub, Nat.reduceLT, Nat.reduceLeDiff, Nat.reduceEqDiff, Int.reduceNeg, Int.reduceAdd, Int.reduceMul, Int.reduceSub, Int.reduceLT, Int.reduceLE, Int.reduceEq, Int.reduceToNat, Int.reduceNatCast, icl, ico, inz, Nat.not_lt_zero, wp_needSet x1 x2 hG hC, if_neg e, wa_x2 (k := 101) (by decide +kernel), wa_x3 (k := 101) (by decide +kernel)]
    have := h1 (by rw [ho]; decide) hI
    rw [ho] at this
    exact this
end SG
