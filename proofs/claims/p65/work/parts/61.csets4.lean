/-! the lightest basis, frustration, sums: the class -/
section SG
variable {N : Nat} {xs : Nat → Int32} {d : Nat} {M : gg_M} {cc cs : Nat} {Q : gg_O → Prop} {g : Nat} {G : q_G}
theorem wp_lightestArc (hg : gs_G g) (hG : q_ok G) (hC : q_C M g G) {seen : Nat} (hs : seen < 4096) :
    wp N xs d 81 0 [gr g, (0, (seen : Int)), (3, 0), (3, 0), (3, 0)] [] (gk_R, M, 142, cc, cs) Q ↔ Q ((1, (0, ((qlt G seen (qK G)).1 : Int))), (gk_R, M, 142, cc, cs)) := by
  refine wp_det ?_
  obtain ⟨⟨h1, h2, h3, h4, h5⟩, hF, hT, hA, hW, hP, hO⟩ := id hC
  obtain ⟨⟨k1, k2, k3, k4, k5, k6, k7, k8⟩, hk, hp, hp2⟩ := id hG
  simp (contextual := true) (disch := first | assumption | omega | exact il_cqA _ _ | exact il_cqB _ _) only [wi_81_0, wi_81_1, wi_81_2, wi_81_4, wi_81_5, wi_81_6, wi_81_10, wi_81_11, wi_81_14, wi_81_17, wi_81_18, wi_81_20, wi_81_21, wi_81_22, wi_81_23, wi_81_26, wi_81_27, wi_81_30, wi_81_32, wi_81_33, wi_81_34, wi_81_37, wi_81_39, wi_81_40, wi_81_41, wi_81_44, wi_81_46, wi_81_47, wi_81_48, wi_81_51, wi_81_54, wi_81_55, io_add_o, io_sub_o, io_mul_o, io_neg_o, io_and_r, io_or_r, io_xor_r, io_nd_r, io_shr_r, io_shl1, io_i2b_r, io_i2l_o, io_l2i_o, il_add_o, il_sub_o, il_mul_o, il_neg_o, ib_bit, Int.toNat_natCast, true_implies, false_implies, implies_true, and_true, true_and, and_self, not_true_eq_false, not_false_eq_true, wa_0, wa_1, il_cmp_o, il_cmp0, il_cmp1, il_cmp2, io_bit1, ibt0, ibt1, ibt00, ibt11, ibt10, ibt01, Int.ofNat_lt, Int.ofNat_le, Int.ofNat_inj, Nat.lt_irrefl, Int.lt_irrefl, Int.toNat_one, Int.toNat_zero, Bool.false_eq_true, reduceIte, reduceCtorEq, Nat.reduceAdd, Nat.reduceMul, Nat.reduceSub, Nat.reduceLT, Nat.reduceLeDiff, Nat.reduceEqDiff, Int.reduceNeg, Int.reduceAdd, Int.reduceMul, Int.reduceSub, Int.reduceLT, Int.reduceLE, Int.reduceEq, Int.reduceToNat, Int.reduceNatCast, icl, ico, inz]
  refine wl_i (P := fun i I => wp N xs d 81 8 [gr g, (0, (seen : Int)), (0, ((qlt G seen i).1 : Int)), (0, ((qlt G seen i).2 : Int)), (0, I)] [] (gk_R, M, 142, cc, cs) _) (qK G) (fun i hi ih => ?_) ?_
  · have hw := hW i hi
    have h9 := (hk i hi).2.2.2
    have h8 : (qlt G seen i).2 ≤ 100 := by
      rcases qlt_spec hG seen (n := i) (by omega) with ⟨h, _⟩ | ⟨_, _, _, h, _⟩ <;> omega
    rw [qlt] at ih
    rw [wi_81_8]
    cases hb : seen.testBit i
    · by_cases e : qW G i < (qlt G seen i).2
      · rw [hb, if_pos ⟨rfl, e⟩] at ih
        simp (contextual := true) (disch := first | assumption | omega | exact il_cqA _ _ | exact il_cqB _ _) only [wi_81_0, wi_81_1, wi_81_2, wi_81_4, wi_81_5, wi_81_6, wi_81_10, wi_81_11, wi_81_14, wi_81_17, wi_81_18, wi_81_20, wi_81_21, wi_81_22, wi_81_23, wi_81_26, wi_81_27, wi_81_30, wi_81_32, wi_81_33, wi_81_34, wi_81_37, wi_81_39, wi_81_40, wi_81_41, wi_81_44, wi_81_46, wi_81_47, wi_81_48, wi_81_51, wi_81_54, wi_81_55, io_add_o, io_sub_o, io_mul_o, io_neg_o, io_and_r, io_or_r, io_xor_r, io_nd_r, io_shr_r, io_shl1, io_i2b_r, io_i2l_o, io_l2i_o, il_add_o, il_sub_o, il_mul_o, il_neg_o, ib_bit, Int.toNat_natCast, true_implies, false_implies, implies_true, and_true, true_and, and_self, not_true_eq_false, not_false_eq_true, wa_0, wa_1, il_cmp_o, il_cmp0, il_cmp1, il_cmp2, io_bit1, ibt0, ibt1, ibt00, ibt11, ibt10, ibt01, Int.ofNat_lt, Int.ofNat_le, Int.ofNat_inj, Nat.lt_irrefl, Int.lt_irrefl, Int.toNat_one, Int.toNat_zero, Bool.false_eq_true, reduceIte, reduceCtorEq, Nat.reduceAdd, Nat.reduceMul, Nat.reduceSub, Nat.reduceLT, Nat.reduceLeDiff, Nat.reduceEqDiff, Int.reduceNeg, Int.reduceAdd, Int.reduceMul, Int.reduceSub, Int.reduceLT, Int.reduceLE, Int.reduceEq, Int.reduceToNat, Int.reduceNatCast, icl, ico, inz, hi, h3, hb, hw, e]
        exact ih
      · rw [if_neg (fun h => e h.2)] at ih
        simp (contextual := true) (disch := first | assumption | omega | exact il_cqA _ _ | exact il_cqB _ _) only [wi_81_0, wi_81_1, wi_81_2, wi_81_4, wi_81_5, wi_81_6, wi_81_10, wi_81_11, wi_81_14, wi_81_17, wi_81_18, wi_81_20, wi_81_21, wi_81_22, wi_81_23, wi_81_26, wi_81_27, wi_81_30, wi_81_32, wi_81_33, wi_81_34, wi_81_37, wi_81_39, wi_81_40, wi_81_41, wi_81_44, wi_81_46, wi_81_47, wi_81_48, wi_81_51, wi_81_54, wi_81_55, io_add_o, io_sub_o, io_mul_o, io_neg_o, io_and_r, io_or_r, io_xor_r, io_nd_r, io_shr_r, io_shl1, io_i2b_r, io_i2l_o, io_l2i_o, il_add_o, il_sub_o, il_mul_o, il_neg_o, ib_bit, Int.toNat_natCast, true_implies, false_implies, implies_true, and_true, true_and, and_self, not_true_eq_false, not_false_eq_true, wa_0, wa_1, il_cmp_o, il_cmp0, il_cmp1, il_cmp2, io_bit1, ibt0, ibt1, ibt00, ibt11, ibt10, ibt01, Int.ofNat_lt, Int.ofNat_le, Int.ofNat_inj, Nat.lt_irrefl, Int.lt_irrefl, Int.toNat_one, Int.toNat_zero, Bool.false_eq_true, reduceIte, reduceCtorEq, Nat.reduceAdd, Nat.reduceMul, Nat.reduceSub, Nat.reduceLT, Nat.reduceLeDiff, Nat.reduceEqDiff, Int.reduceNeg, Int.reduceAdd, Int.reduceMul, Int.reduceSub, Int.reduceLT, Int.reduceLE, Int.reduceEq, Int.reduceToNat, Int.reduceNatCast, icl, ico, inz, hi, h3, hb, hw, e]
        exact ih
    · rw [hb, if_neg (fun h => by cases h.1)] at ih
      simp (contextual := true) (disch := first | assumption | omega | exact il_cqA _ _ | exact il_cqB _ _) only [wi_81_0, wi_81_1, wi_81_2, wi_81_4, wi_81_5, wi_81_6, wi_81_10, wi_81_11, wi_81_14, wi_81_17, wi_81_18, wi_81_20, wi_81_21, wi_81_22, wi_81_23, wi_81_26, wi_81_27, wi_81_30, wi_81_32, wi_81_33, wi_81_34, wi_81_37, wi_81_39, wi_81_40, wi_81_41, wi_81_44, wi_81_46, wi_81_47, wi_81_48, wi_81_51, wi_81_54, wi_81_55, io_add_o, io_sub_o, io_mul_o, io_neg_o, io_and_r, io_or_r, io_xor_r, io_nd_r, io_shr_r, io_shl1, io_i2b_r, io_i2l_o, io_l2i_o, il_add_o, il_sub_o, il_mul_o, il_neg_o, ib_bit, Int.toNat_natCast, true_implies, false_implies, implies_true, and_true, true_and, and_self, not_true_eq_false, not_false_eq_true, wa_0, wa_1, il_cmp_o, il_cmp0, il_cmp1, il_cmp2, io_bit1, ibt0, ibt1, ibt00, ibt11, ibt10, ibt01, Int.ofNat_lt, Int.ofNat_le, Int.ofNat_inj, Nat.lt_irrefl, Int.lt_irrefl, Int.toNat_one, Int.toNat_zero, Bool.false_eq_true, reduceIte, reduceCtorEq, Nat.reduceAdd, Nat.reduceMul, Nat.reduceSub, Nat.reduceLT, Nat.reduceLeDiff, Nat.reduceEqDiff, Int.reduceNeg, Int.reduceAdd, Int.reduceMul, Int.reduceSub, Int.reduceLT, Int.reduceLE, Int.reduceEq, Int.reduceToNat, Int.reduceNatCast, icl, ico, inz, hi, h3, hb]
      exact ih
  · rw [wi_81_8]
    simp (contextual := true) (disch := first | assumption | omega | exact il_cqA _ _ | exact il_cqB _ _) only [wi_81_0, wi_81_1, wi_81_2, wi_81_4, wi_81_5, wi_81_6, wi_81_10, wi_81_11, wi_81_14, wi_81_17, wi_81_18, wi_81_20, wi_81_21, wi_81_22, wi_81_23, wi_81_26, wi_81_27, wi_81_30, wi_81_32, wi_81_33, wi_81_34, wi_81_37, wi_81_39, wi_81_40, wi_81_41, wi_81_44, wi_81_46, wi_81_47, wi_81_48, wi_81_51, wi_81_54, wi_81_55, io_add_o, io_sub_o, io_mul_o, io_neg_o, io_and_r, io_or_r, io_xor_r, io_nd_r, io_shr_r, io_shl1, io_i2b_r, io_i2l_o, io_l2i_o, il_add_o, il_sub_o, il_mul_o, il_neg_o, ib_bit, Int.toNat_natCast, true_implies, false_implies, implies_true, and_true, true_and, and_self, not_true_eq_false, not_false_eq_true, wa_0, wa_1, il_cmp_o, il_cmp0, il_cmp1, il_cmp2, io_bit1, ibt0, ibt1, ibt00, ibt11, ibt10, ibt01, Int.ofNat_lt, Int.ofNat_le, Int.ofNat_inj, Nat.lt_irrefl, Int.lt_irrefl, Int.toNat_one, Int.toNat_zero, Bool.false_eq_true, reduceIte, reduceCtorEq, Nat.reduceAdd, Nat.reduceMul, Nat.reduceSub, Nat.reduceLT, Nat.reduceLeDiff, Nat.reduceEqDiff, Int.reduceNeg, Int.reduceAdd, Int.reduceMul, Int.reduceSub, Int.reduceLT, Int.reduceLE, Int.reduceEq, Int.reduceToNat, Int.reduceNatCast, icl, ico, inz, h3]
theorem wp_lightestBasis (hg : gs_G g) (hG : q_ok G) (hC : q_C M g G) (hS : qs_S M G) (hQ : ∀ M' : gg_M, (∀ j, j < 79 ∨ 81 < j → M' j = M j) → Q ((1, (0, (qmb G 100 : Int))), (gk_R, M', 142, cc, cs))) :
    wp N xs (d + 5) 80 0 [gr 78, gr g, (3, 0), (3, 0), (3, 0), (3, 0)] [] (gk_R, M, 142, cc, cs) Q := by
  have hgp := gs_GP hg gs_P79
  obtain ⟨⟨h1, h2, h3, h4, h5⟩, hF, hT, hA, hW, hP, hO⟩ := id hC
  obtain ⟨⟨k1, k2, k3, k4, k5, k6, k7, k8⟩, hk, hp, hp2⟩ := id hG
  have hp2 := two_le k5
  rw [← qlb_eq hG] at hQ
  have hlb : ∀ r, r ≤ qK G → (qlb G r).1 < 2 ^ qK G ∧ (qlb G r).2 < 2 ^ qK G ∧ (r < qK G → (qlt G (qlb G r).1 (qK G)).1 < qK G) := by
    intro r
    have hl0 : ∀ seen, 0 < qK G → (qlt G seen (qK G)).1 < qK G := by
      intro seen h0
      have : ∀ n, (qlt G seen n).1 = 0 ∨ (qlt G seen n).1 < n := by
        intro n
        induction n with
        | zero => exact Or.inl rfl
        | succ n ih =>
          unfold qlt
          split
          · exact Or.inr (by show n < n + 1; omega)
          · omega
      have := this (qK G)
      omega
    induction r with
    | zero => exact fun _ => ⟨Nat.two_pow_pos _, Nat.two_pow_pos _, fun h => hl0 _ h⟩
    | succ r ih =>
      intro hr
      obtain ⟨i1, i2, i3⟩ := ih (by omega)
      have i4 := i3 (by omega)
      exact ⟨Nat.or_lt_two_pow i1 (Nat.pow_lt_pow_right (by decide) i4), qtake_lt i2 i4, fun h => hl0 _ (by omega)⟩
  simp (contextual := true) (disch := first | assumption | omega | exact il_cqA _ _ | exact il_cqB _ _) only [wi_80_0, wi_80_1, wi_80_2, wi_80_3, wi_80_4, wi_80_5, wi_80_9, wi_80_10, wi_80_13, wi_80_16, wi_80_17, wi_80_18, wi_80_19, wi_80_22, wi_80_23, wi_80_25, wi_80_26, wi_80_28, wi_80_29, wi_80_30, wi_80_31, wi_80_32, wi_80_33, wi_80_35, wi_80_36, wi_80_39, wi_80_42, wi_80_43, wi_80_45, wi_80_46, wi_80_47, wi_80_50, wi_80_53, wi_80_54, io_add_o, io_sub_o, io_mul_o, io_neg_o, io_and_r, io_or_r, io_xor_r, io_nd_r, io_shr_r, io_shl1, io_i2b_r, io_i2l_o, io_l2i_o, il_add_o, il_sub_o, il_mul_o, il_neg_o, ib_bit, Int.toNat_natCast, true_implies, false_implies, implies_true, and_true, true_and, and_self, not_true_eq_false, not_false_eq_true, wa_0, wa_1, il_cmp_o, il_cmp0, il_cmp1, il_cmp2, io_bit1, ibt0, ibt1, ibt00, ibt11, ibt10, ibt01, Int.ofNat_lt, Int.ofNat_le, Int.ofNat_inj, Nat.lt_irrefl, Int.lt_irrefl, Int.toNat_one, Int.toNat_zero, Bool.false_eq_true, reduceIte, reduceCtorEq, Nat.reduceAdd, Nat.reduceMul, Nat.reduceSub, Nat.reduceLT, Nat.reduceLeDiff, Nat.reduceEqDiff, Int.reduceNeg, Int.reduceAdd, Int.reduceMul, Int.reduceSub, Int.reduceLT, Int.reduceLE, Int.reduceEq, Int.reduceToNat, Int.reduceNatCast, icl, ico, inz]
  refine wl_i (P := fun i I => ∀ M' : gg_M, (∀ j, j < 79 ∨ 81 < j → M' j = M j) → ∀ l5 : gg_V, wp N xs (d + 5) 80 7 [gr 78, gr g, (0, ((qlb G i).1 : Int)), (0, ((qlb G i).2 : Int)), (0, I), l5] [] (gk_R, M', 142, cc, cs) Q) (qK G) (fun i hi ih M' hM l5 => ?_) (fun M' hM l5 => ?_) M (fun _ _ => rfl) _
  · have hC' := q_C_e hC fun j h1 h2 => hM j (by omega)
    have hS' := qs_S_e hS (hM 78 (by decide)) (hM 83 (by decide)) (hM 84 (by decide))
    obtain ⟨b1, b2, b3⟩ := hlb i (by omega)
    have b4 := b3 hi
    have b5 := or_lt b2 b4
    have b6 := or_lt b1 b4
    have e0 : M' g = M g := hM g (by omega)
    have hi2 : 2 ^ (qlt G (qlb G i).1 (qK G)).1 ≤ 2 ^ 12 := Nat.pow_le_pow_right (by decide) (by omega)
    have hi1 : 1 ≤ 2 ^ (qlt G (qlb G i).1 (qK G)).1 := Nat.one_le_two_pow
    rw [qlb, qtake] at ih
    rw [wi_80_7]
    simp (contextual := true) (disch := first | assumption | omega | exact il_cqA _ _ | exact il_cqB _ _) only [wi_80_0, wi_80_1, wi_80_2, wi_80_3, wi_80_4, wi_80_5, wi_80_9, wi_80_10, wi_80_13, wi_80_16, wi_80_17, wi_80_18, wi_80_19, wi_80_22, wi_80_23, wi_80_25, wi_80_26, wi_80_28, wi_80_29, wi_80_30, wi_80_31, wi_80_32, wi_80_33, wi_80_35, wi_80_36, wi_80_39, wi_80_42, wi_80_43, wi_80_45, wi_80_46, wi_80_47, wi_80_50, wi_80_53, wi_80_54, io_add_o, io_sub_o, io_mul_o, io_neg_o, io_and_r, io_or_r, io_xor_r, io_nd_r, io_shr_r, io_shl1, io_i2b_r, io_i2l_o, io_l2i_o, il_add_o, il_sub_o, il_mul_o, il_neg_o, ib_bit, Int.toNat_natCast, true_implies, false_implies, implies_true, and_true, true_and, and_self, not_true_eq_false, not_false_eq_true, wa_0, wa_1, il_cmp_o, il_cmp0, il_cmp1, il_cmp2, io_bit1, ibt0, ibt1, ibt00, ibt11, ibt10, ibt01, Int.ofNat_lt, Int.ofNat_le, Int.ofNat_inj, Nat.lt_irrefl, Int.lt_irrefl, Int.toNat_one, Int.toNat_zero, Bool.false_eq_true, reduceIte, reduceCtorEq, Nat.reduceAdd, Nat.reduceMul, Nat.reduceSub, Nat.reduceLT, Nat.reduceLeDiff, Nat.reduceEqDiff, Int.reduceNeg, Int.reduceAdd, Int.reduceMul, Int.reduceSub, Int.reduceLT, Int.reduceLE, Int.reduceEq, Int.reduceToNat, Int.reduceNatCast, icl, ico, inz, hi, e0, h3, wp_lightestArc hg hG hC']
    refine wp_isFree hg hG hC' hS' b5 (fun M2 hM2 => ?_)
    cases ef : qfr G ((qlb G i).2 ||| 2 ^ (qlt G (qlb G i).1 (qK G)).1)
    · rw [ef] at ih
      simp (contextual := true) (disch := first | assumption | omega | exact il_cqA _ _ | exact il_cqB _ _) only [wi_80_0, wi_80_1, wi_80_2, wi_80_3, wi_80_4, wi_80_5, wi_80_9, wi_80_10, wi_80_13, wi_80_16, wi_80_17, wi_80_18, wi_80_19, wi_80_22, wi_80_23, wi_80_25, wi_80_26, wi_80_28, wi_80_29, wi_80_30, wi_80_31, wi_80_32, wi_80_33, wi_80_35, wi_80_36, wi_80_39, wi_80_42, wi_80_43, wi_80_45, wi_80_46, wi_80_47, wi_80_50, wi_80_53, wi_80_54, io_add_o, io_sub_o, io_mul_o, io_neg_o, io_and_r, io_or_r, io_xor_r, io_nd_r, io_shr_r, io_shl1, io_i2b_r, io_i2l_o, io_l2i_o, il_add_o, il_sub_o, il_mul_o, il_neg_o, ib_bit, Int.toNat_natCast, true_implies, false_implies, implies_true, and_true, true_and, and_self, not_true_eq_false, not_false_eq_true, wa_0, wa_1, il_cmp_o, il_cmp0, il_cmp1, il_cmp2, io_bit1, ibt0, ibt1, ibt00, ibt11, ibt10, ibt01, Int.ofNat_lt, Int.ofNat_le, Int.ofNat_inj, Nat.lt_irrefl, Int.lt_irrefl, Int.toNat_one, Int.toNat_zero, Bool.false_eq_true, reduceIte, reduceCtorEq, Nat.reduceAdd, Nat.reduceMul, Nat.reduceSub, Nat.reduceLT, Nat.reduceLeDiff, Nat.reduceEqDiff, Int.reduceNeg, Int.reduceAdd, Int.reduceMul, Int.reduceSub, Int.reduceLT, Int.reduceLE, Int.reduceEq, Int.reduceToNat, Int.reduceNatCast, icl, ico, inz]
      exact ih M2 (fun j hj => by rw [hM2 j hj, hM j hj]) _
    · rw [ef] at ih
      simp (contextual := true) (disch := first | assumption | omega | exact il_cqA _ _ | exact il_cqB _ _) only [wi_80_0, wi_80_1, wi_80_2, wi_80_3, wi_80_4, wi_80_5, wi_80_9, wi_80_10, wi_80_13, wi_80_16, wi_80_17, wi_80_18, wi_80_19, wi_80_22, wi_80_23, wi_80_25, wi_80_26, wi_80_28, wi_80_29, wi_80_30, wi_80_31, wi_80_32, wi_80_33, wi_80_35, wi_80_36, wi_80_39, wi_80_42, wi_80_43, wi_80_45, wi_80_46, wi_80_47, wi_80_50, wi_80_53, wi_80_54, io_add_o, io_sub_o, io_mul_o, io_neg_o, io_and_r, io_or_r, io_xor_r, io_nd_r, io_shr_r, io_shl1, io_i2b_r, io_i2l_o, io_l2i_o, il_add_o, il_sub_o, il_mul_o, il_neg_o, ib_bit, Int.toNat_natCast, true_implies, false_implies, implies_true, and_true, true_and, and_self, not_true_eq_false, not_false_eq_true, wa_0, wa_1, il_cmp_o, il_cmp0, il_cmp1, il_cmp2, io_bit1, ibt0, ibt1, ibt00, ibt11, ibt10, ibt01, Int.ofNat_lt, Int.ofNat_le, Int.ofNat_inj, Nat.lt_irrefl, Int.lt_irrefl, Int.toNat_one, Int.toNat_zero, Bool.false_eq_true, reduceIte, reduceCtorEq, Nat.reduceAdd, Nat.reduceMul, Nat.reduceSub, Nat.reduceLT, Nat.reduceLeDiff, Nat.reduceEqDiff, Int.reduceNeg, Int.reduceAdd, Int.reduceMul, Int.reduceSub, Int.reduceLT, Int.reduceLE, Int.reduceEq, Int.reduceToNat, Int.reduceNatCast, icl, ico, inz]
      exact ih M2 (fun j hj => by rw [hM2 j hj, hM j hj]) _
  · have e0 : M' g = M g := hM g (by omega)
    rw [wi_80_7]
    simp (contextual := true) (disch := first | assumption | omega | exact il_cqA _ _ | exact il_cqB _ _) only [wi_80_0, wi_80_1, wi_80_2, wi_80_3, wi_80_4, wi_80_5, wi_80_9, wi_80_10, wi_80_13, wi_80_16, wi_80_17, wi_80_18, wi_80_19, wi_80_22, wi_80_23, wi_80_25, wi_80_26, wi_80_28, wi_80_29, wi_80_30, wi_80_31, wi_80_32, wi_80_33, wi_80_35, wi_80_36, wi_80_39, wi_80_42, wi_80_43, wi_80_45, wi_80_46, wi_80_47, wi_80_50, wi_80_53, wi_80_54, io_add_o, io_sub_o, io_mul_o, io_neg_o, io_and_r, io_or_r, io_xor_r, io_nd_r, io_shr_r, io_shl1, io_i2b_r, io_i2l_o, io_l2i_o, il_add_o, il_sub_o, il_mul_o, il_neg_o, ib_bit, Int.toNat_natCast, true_implies, false_implies, implies_true, and_true, true_and, and_self, not_true_eq_false, not_false_eq_true, wa_0, wa_1, il_cmp_o, il_cmp0, il_cmp1, il_cmp2, io_bit1, ibt0, ibt1, ibt00, ibt11, ibt10, ibt01, Int.ofNat_lt, Int.ofNat_le, Int.ofNat_inj, Nat.lt_irrefl, Int.lt_irrefl, Int.toNat_one, Int.toNat_zero, Bool.false_eq_true, reduceIte, reduceCtorEq, Nat.reduceAdd, Nat.reduceMul, Nat.reduceSub, Nat.reduceLT, Nat.reduceLeDiff, Nat.reduceEqDiff, Int.reduceNeg, Int.reduceAdd, Int.reduceMul, Int.reduceSub, Int.reduceLT, Int.reduceLE, Int.reduceEq, Int.reduceToNat, Int.reduceNatCast, icl, ico, inz, e0, h3]
    exact hQ M' hM
end SG
