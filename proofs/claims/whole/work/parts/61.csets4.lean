/-! the lightest basis, frustration, sums: the class -/
theorem qho_mul {f : Nat → Int} {c : Int} (hc0 : 0 ≤ c) (hc : c ≤ 61) (hf : ∀ k, -4096 ≤ f k ∧ f k ≤ 4096) {j : Nat} (hj : j ≤ 7) : -900000000000000000 ≤ qho f c (j + 1) * c ∧ qho f c (j + 1) * c ≤ 900000000000000000 := by
  have ih := qho_bd hc0 hc hf j
  have h3 : (62 : Int) ^ j ≤ 3521614606208 := by
    have h := Nat.pow_le_pow_right (n := 62) (i := j) (j := 7) (by decide) hj
    have : ((62 ^ j : Nat) : Int) ≤ ((62 ^ 7 : Nat) : Int) := Int.ofNat_le.2 h
    rw [Int.natCast_pow] at this
    exact this
  have h0 := Int.pow_pos (n := (62 : Int)) (m := j) (by decide)
  generalize qho f c (j + 1) = q at *
  have h4 : q * c ≤ 4096 * 62 ^ j * 61 := by
    have a1 : q * c ≤ (4096 * 62 ^ j) * c := Int.mul_le_mul_of_nonneg_right ih.2 hc0
    have a2 : (4096 * 62 ^ j) * c ≤ (4096 * 62 ^ j) * 61 := Int.mul_le_mul_of_nonneg_left hc (by omega)
    omega
  have h5 : -(4096 * 62 ^ j * 61) ≤ q * c := by
    have a1 : -(4096 * 62 ^ j) * c ≤ q * c := Int.mul_le_mul_of_nonneg_right ih.1 hc0
    have a2 : (4096 * 62 ^ j) * c ≤ (4096 * 62 ^ j) * 61 := Int.mul_le_mul_of_nonneg_left hc (by omega)
    rw [Int.neg_mul] at a1
    omega
  omega
section SG
variable {N : Nat} {xs : Nat → Int32} {d : Nat} {M : gg_M} {cc cs : Nat} {Q : gg_O → Prop} {g : Nat} {G : q_G}
theorem wp_lightestArc (hg : gs_G g) (hG : q_ok G) (hC : q_C M g G) {seen : Nat} (hs : seen < 4096) :
    wp N xs d 81 0 [gr g, (0, (seen : Int)), (3, 0), (3, 0), (3, 0)] [] (gk_R, M, 158, cc, cs) Q ↔ Q ((1, (0, ((qlt G seen (qK G)).1 : Int))), (gk_R, M, 158, cc, cs)) := by
  refine wp_det ?_
  obtain ⟨⟨h1, h2, h3, h4, h5⟩, hF, hT, hA, hW, hP, hO⟩ := id hC
  obtain ⟨⟨k1, k2, k3, k4, k5, k6, k7, k8⟩, hk, hp, hp2⟩ := id hG
  simp (contextual := true) (disch := first | assumption | omega | exact il_cqA _ _ | exact il_cqB _ _) only [wi_81_0, wi_81_1, wi_81_2, wi_81_4, wi_81_5, wi_81_6, wi_81_10, wi_81_11, wi_81_14, wi_81_17, wi_81_18, wi_81_20, wi_81_21, wi_81_22, wi_81_23, wi_81_26, wi_81_27, wi_81_30, wi_81_32, wi_81_33, wi_81_34, wi_81_37, wi_81_39, wi_81_40, wi_81_41, wi_81_44, wi_81_46, wi_81_47, wi_81_48, wi_81_51, wi_81_54, wi_81_55, io_add_o, io_sub_o, io_mul_o, io_neg_o, io_and_r, io_or_r, io_xor_r, io_nd_r, io_shr_r, io_shl1, io_i2b_r, io_i2l_o, io_l2i_o, il_add_o, il_sub_o, il_mul_o, il_neg_o, ib_bit, Int.toNat_natCast, true_implies, false_implies, implies_true, and_true, true_and, and_self, not_true_eq_false, not_false_eq_true, wa_0, wa_1, il_cmp_o, il_cmp0, il_cmp1, il_cmp2, io_bit1, ibt0, ibt1, ibt00, ibt11, ibt10, ibt01, Int.ofNat_lt, Int.ofNat_le, Int.ofNat_inj, Nat.lt_irrefl, Int.lt_irrefl, Int.toNat_one, Int.toNat_zero, Bool.false_eq_true, reduceIte, reduceCtorEq, Nat.reduceAdd, Nat.reduceMul, Nat.reduceSub, Nat.reduceLT, Nat.reduceLeDiff, Nat.reduceEqDiff, Int.reduceNeg, Int.reduceAdd, Int.reduceMul, Int.reduceSub, Int.reduceLT, Int.reduceLE, Int.reduceEq, Int.reduceToNat, Int.reduceNatCast, icl, ico, inz]
  refine wl_i (P := fun i I => wp N xs d 81 8 [gr g, (0, (seen : Int)), (0, ((qlt G seen i).1 : Int)), (0, ((qlt G seen i).2 : Int)), (0, I)] [] (gk_R, M, 158, cc, cs) _) (qK G) (fun i hi ih => ?_) ?_
  · have hw := hW i hi
    have h9 := (hk i hi).2.2.2
    have h8 : (qlt G seen i).2 ≤ 100 := by
      rcases qlt_spec hG seen (n := i) (by omega) with ⟨h, _⟩ | ⟨_, _, _, h, _⟩ <;> omega
    rw [qlt] at ih
    rw [wi_81_8]
    cases hb : seen.testBit i
    · by_cases e : qW G i < (qlt G seen i).2
      · rw [hb, if_pos ⟨rfl, e⟩] at ih
        simp (contextual := true) (disch := first | assumption | omega | exact il_cqA _ _ | exact il_cqB _ _) only [wi_81_0, wi_81_1, wi_81_2, wi_81_4, wi_81_5, wi_81_6, wi_81_10, wi_81_11, wi_81_14, wi_81_17, wi_81_18, wi_81_20, wi_81_21, wi_81_22, wi_81_23, wi_81_26, wi_81_27, wi_81_30, wi_81_32, wi_81_33, wi_81_34, wi_81_37, wi_81_39, wi_81_40, wi_81_41, wi_81_44, wi_81_46, wi_81_47, wi_81_48, wi_81_51, wi_81_54, wi_81_55, io_add_o, io_sub_o, io_mul_o, io_neg_o, io_and_r, io_or_r, io_xor_r, io_nd_r, io_shr_r, io_shl1, io_i2b_r, io_i2l_o, io_l2i_o, il_add_o, il_sub_o, il_mul_o, il_neg_o, ib_bit, Int.toNat_natCast, true_implies, false_implies, implies_true, and_true, true_and, and_self, not_true_eq_false, not_false_eq_true, wa_0, wa_1, il_cmp_o, il_cmp0, il_cmp1, il_cmp2, io_bit1, ibt0, ibt1, ibt00, ibt11, ibt10, ibt01, Int.ofNat_lt, Int.ofNat_le, Int.ofNat_inj, Nat.lt_irrefl, Int.lt_irrefl, Int.toNat_one, Int.toNat_zero, Bool.false_eq_true, reduceIte, reduceCtorEq, Nat.reduceAdd, Nat.reduceMul, Nat.reduceSub, Nat.reduceLT, Nat.reduceLeDiff, Nat.reduceEqDiff, Int.reduceNeg, Int.reduceAdd, Int.reduceMul, Int.reduceSub, Int.reduceLT, Int.reduceLE, Int.reduceEq, Int.reduceToNat, Int.reduceNatCast, icl, ico, inz, hi, h3, hb, hw, e]
        exact ih
      · rw [if_neg (fun h => e h.2)] at ih
        simp (contextual := true) (disch := first | assumption | omega | exact il_cqA _ _ | exact il_cqB _ _) only [wi_81_0, wi_81_1, wi_81_2, wi_81_4, wi_81_5, wi_81_6, wi_81_10, wi_81_11, wi_81_14, wi_81_17, wi_81_18, wi_81_20, wi_81_21, wi_81_22, wi_81_23, wi_81_26, wi_81_27, wi_81_30, wi_81_32, wi_81_33, wi_81_34, wi_81_37, wi_81_39, wi_81_40, wi_81_41, wi_81_44, wi_81_46, wi_81_47, wi_81_48, wi_81_51, wi_81_54, wi_81_55, io_add_o, io_sub_o, io_mul_o, io_neg_o, io_and_r, io_or_r, io_xor_r, io_nd_r, io_shr_r, io_shl1, io_i2b_r, io_i2l_o, io_l2i_o, il_add_o, il_sub_o, il_mul_o, il_neg_o, ib_bit, Int.toNat_natCast, true_implies, false_implies, implies_true, and_true, true_and, and_self, not_true_eq_false, not_false_eq_true, wa_0, wa_1, il_cmp_o, il_cmp0, il_cmp1, il_cmp2, io_bit1, ibt0, ibt1, ibt00, ibt11, ibt10, ibt01, Int.ofNat_lt, Int.ofNat_le, Int.ofNat_inj, Nat.lt_irrefl, Int.lt_irrefl, Int.toNat_one, Int.toNat_zero, Bool.false_eq_true, reduceIte, reduceCtorEq, Nat.reduceAdd, Nat.reduceMul, Nat.reduceSub, Nat.reduceLT, Nat.reduceLeDiff, Nat.reduceEqDiff, Int.reduceNeg, Int.reduceAdd, Int.reduceMul, Int.reduceSub, Int.reduceLT, Int.reduceLE, Int.reduceEq, Int.reduceToNat, Int.reduceNatCast, icl, ico, inz, hi, h3, hb, hw, e]
        exact ih
    · rw [hb, if_neg (fun h => by cases h.1)] at ih
      simp (contextual := true) (disch := first | assumption | omega | exact il_cqA _ _ | exact il_cqB _ _) only [wi_81_0, wi_81_1, wi_81_2, wi_81_4, wi_81_5, wi_81_6, wi_81_10, wi_81_11, wi_81_14, wi_81_17, wi_81_18, wi_81_20, wi_81_21, wi_81_22, wi_81_23, wi_81_26, wi_81_27, wi_81_30, wi_81_32, wi_81_33, wi_81_34, wi_81_37, wi_81_39, wi_81_40, wi_81_41, wi_81_44, wi_81_46, wi_81_47, wi_81_48, wi_81_51, wi_81_54, wi_81_55, io_add_o, io_sub_o, io_mul_o, io_neg_o, io_and_r, io_or_r, io_xor_r, io_nd_r, io_shr_r, io_shl1, io_i2b_r, io_i2l_o, io_l2i_o, il_add_o, il_sub_o, il_mul_o, il_neg_o, ib_bit, Int.toNat_natCast, true_implies, false_implies, implies_true, and_true, true_and, and_self, not_true_eq_false, not_false_eq_true, wa_0, wa_1, il_cmp_o, il_cmp0, il_cmp1, il_cmp2, io_bit1, ibt0, ibt1, ibt00, ibt11, ibt10, ibt01, Int.ofNat_lt, Int.ofNat_le, Int.ofNat_inj, Nat.lt_irrefl, Int.lt_irrefl, Int.toNat_one, Int.toNat_zero, Bool.false_eq_true, reduceIte, reduceCtorEq, Nat.reduceAdd, Nat.reduceMul, Nat.reduceSub, Nat.reduceLT, Nat.reduceLeDiff, Nat.reduceEqDiff, Int.reduceNeg, Int.reduceAdd, Int.reduceMul, Int.reduceSub, Int.reduceLT, Int.reduceLE, Int.reduceEq, Int.reduceToNat, Int.reduceNatCast, icl, ico, inz, hi, h3, hb]
      exact ih
  · rw [wi_81_8]
    simp (contextual := true) (disch := first | assumption | omega | exact il_cqA _ _ | exact il_cqB _ _) only [wi_81_0, wi_81_1, wi_81_2, wi_81_4, wi_81_5, wi_81_6, wi_81_10, wi_81_11, wi_81_14, wi_81_17, wi_81_18, wi_81_20, wi_81_21, wi_81_22, wi_81_23, wi_81_26, wi_81_27, wi_81_30, wi_81_32, wi_81_33, wi_81_34, wi_81_37, wi_81_39, wi_81_40, wi_81_41, wi_81_44, wi_81_46, wi_81_47, wi_81_48, wi_81_51, wi_81_54, wi_81_55, io_add_o, io_sub_o, io_mul_o, io_neg_o, io_and_r, io_or_r, io_xor_r, io_nd_r, io_shr_r, io_shl1, io_i2b_r, io_i2l_o, io_l2i_o, il_add_o, il_sub_o, il_mul_o, il_neg_o, ib_bit, Int.toNat_natCast, true_implies, false_implies, implies_true, and_true, true_and, and_self, not_true_eq_false, not_false_eq_true, wa_0, wa_1, il_cmp_o, il_cmp0, il_cmp1, il_cmp2, io_bit1, ibt0, ibt1, ibt00, ibt11, ibt10, ibt01, Int.ofNat_lt, Int.ofNat_le, Int.ofNat_inj, Nat.lt_irrefl, Int.lt_irrefl, Int.toNat_one, Int.toNat_zero, Bool.false_eq_true, reduceIte, reduceCtorEq, Nat.reduceAdd, Nat.reduceMul, Nat.reduceSub, Nat.reduceLT, Nat.reduceLeDiff, Nat.reduceEqDiff, Int.reduceNeg, Int.reduceAdd, Int.reduceMul, Int.reduceSub, Int.reduceLT, Int.reduceLE, Int.reduceEq, Int.reduceToNat, Int.reduceNatCast, icl, ico, inz, h3]
theorem wp_lightestBasis (hg : gs_G g) (hG : q_ok G) (hC : q_C M g G) (hS : qs_S M G) (hQ : ∀ M' : gg_M, (∀ j, j < 79 ∨ 81 < j → M' j = M j) → Q ((1, (0, (qmb G 100 : Int))), (gk_R, M', 158, cc, cs))) :
    wp N xs (d + 5) 80 0 [gr 78, gr g, (3, 0), (3, 0), (3, 0), (3, 0)] [] (gk_R, M, 158, cc, cs) Q := by
  have hgp := gs_GP hg gs_P79
  obtain ⟨⟨h1, h2, h3, h4, h5⟩, hF, hT, hA, hW, hP, hO⟩ := id hC
  obtain ⟨⟨k1, k2, k3, k4, k5, k6, k7, k8⟩, hk, hp, hp2⟩ := id hG
  have hp2 := two_le k5
  rw [← qlb_eq hG] at hQ
  have hlb : ∀ r, r ≤ qK G → (qlb G r).1 < 2 ^ qK G ∧ (qlb G r).2 < 2 ^ qK G ∧ (r < qK G → (qlt G (qlb G r).1 (qK G)).1 < qK G) := by
    intro r
    have hl0 : ∀ seen, 0 < qK G → (qlt G seen (qK G)).1 < qK G := by
      intro seen h0
      have : ∀ n, (qlt G seen n).1 = 0 ∨ (qlt G seen n).1 < n := by
        intro n
        induction n with
        | zero => exact Or.inl rfl
        | succ n ih =>
          unfold qlt
          split
          · exact Or.inr (by show n < n + 1; omega)
          · omega
      have := this (qK G)
      omega
    induction r with
    | zero => exact fun _ => ⟨Nat.two_pow_pos _, Nat.two_pow_pos _, fun h => hl0 _ h⟩
    | succ r ih =>
      intro hr
      obtain ⟨i1, i2, i3⟩ := ih (by omega)
      have i4 := i3 (by omega)
      exact ⟨Nat.or_lt_two_pow i1 (Nat.pow_lt_pow_right (by decide) i4), qtake_lt i2 i4, fun h => hl0 _ (by omega)⟩
  simp (contextual := true) (disch := first | assumption | omega | exact il_cqA _ _ | exact il_cqB _ _) only [wi_80_0, wi_80_1, wi_80_2, wi_80_3, wi_80_4, wi_80_5, wi_80_9, wi_80_10, wi_80_13, wi_80_16, wi_80_17, wi_80_18, wi_80_19, wi_80_22, wi_80_23, wi_80_25, wi_80_26, wi_80_28, wi_80_29, wi_80_30, wi_80_31, wi_80_32, wi_80_33, wi_80_35, wi_80_36, wi_80_39, wi_80_42, wi_80_43, wi_80_45, wi_80_46, wi_80_47, wi_80_50, wi_80_53, wi_80_54, io_add_o, io_sub_o, io_mul_o, io_neg_o, io_and_r, io_or_r, io_xor_r, io_nd_r, io_shr_r, io_shl1, io_i2b_r, io_i2l_o, io_l2i_o, il_add_o, il_sub_o, il_mul_o, il_neg_o, ib_bit, Int.toNat_natCast, true_implies, false_implies, implies_true, and_true, true_and, and_self, not_true_eq_false, not_false_eq_true, wa_0, wa_1, il_cmp_o, il_cmp0, il_cmp1, il_cmp2, io_bit1, ibt0, ibt1, ibt00, ibt11, ibt10, ibt01, Int.ofNat_lt, Int.ofNat_le, Int.ofNat_inj, Nat.lt_irrefl, Int.lt_irrefl, Int.toNat_one, Int.toNat_zero, Bool.false_eq_true, reduceIte, reduceCtorEq, Nat.reduceAdd, Nat.reduceMul, Nat.reduceSub, Nat.reduceLT, Nat.reduceLeDiff, Nat.reduceEqDiff, Int.reduceNeg, Int.reduceAdd, Int.reduceMul, Int.reduceSub, Int.reduceLT, Int.reduceLE, Int.reduceEq, Int.reduceToNat, Int.reduceNatCast, icl, ico, inz]
  refine wl_i (P := fun i I => ∀ M' : gg_M, (∀ j, j < 79 ∨ 81 < j → M' j = M j) → ∀ l5 : gg_V, wp N xs (d + 5) 80 7 [gr 78, gr g, (0, ((qlb G i).1 : Int)), (0, ((qlb G i).2 : Int)), (0, I), l5] [] (gk_R, M', 158, cc, cs) Q) (qK G) (fun i hi ih M' hM l5 => ?_) (fun M' hM l5 => ?_) M (fun _ _ => rfl) _
  · have hC' := q_C_e hC fun j h1 h2 => hM j (by omega)
    have hS' := qs_S_e hS (hM 78 (by decide)) (hM 83 (by decide)) (hM 84 (by decide))
    obtain ⟨b1, b2, b3⟩ := hlb i (by omega)
    have b4 := b3 hi
    have b5 := or_lt b2 b4
    have b6 := or_lt b1 b4
    have e0 : M' g = M g := hM g (by omega)
    have hi2 : 2 ^ (qlt G (qlb G i).1 (qK G)).1 ≤ 2 ^ 12 := Nat.pow_le_pow_right (by decide) (by omega)
    have hi1 : 1 ≤ 2 ^ (qlt G (qlb G i).1 (qK G)).1 := Nat.one_le_two_pow
    rw [qlb, qtake] at ih
    rw [wi_80_7]
    simp (contextual := true) (disch := first | assumption | omega | exact il_cqA _ _ | exact il_cqB _ _) only [wi_80_0, wi_80_1, wi_80_2, wi_80_3, wi_80_4, wi_80_5, wi_80_9, wi_80_10, wi_80_13, wi_80_16, wi_80_17, wi_80_18, wi_80_19, wi_80_22, wi_80_23, wi_80_25, wi_80_26, wi_80_28, wi_80_29, wi_80_30, wi_80_31, wi_80_32, wi_80_33, wi_80_35, wi_80_36, wi_80_39, wi_80_42, wi_80_43, wi_80_45, wi_80_46, wi_80_47, wi_80_50, wi_80_53, wi_80_54, io_add_o, io_sub_o, io_mul_o, io_neg_o, io_and_r, io_or_r, io_xor_r, io_nd_r, io_shr_r, io_shl1, io_i2b_r, io_i2l_o, io_l2i_o, il_add_o, il_sub_o, il_mul_o, il_neg_o, ib_bit, Int.toNat_natCast, true_implies, false_implies, implies_true, and_true, true_and, and_self, not_true_eq_false, not_false_eq_true, wa_0, wa_1, il_cmp_o, il_cmp0, il_cmp1, il_cmp2, io_bit1, ibt0, ibt1, ibt00, ibt11, ibt10, ibt01, Int.ofNat_lt, Int.ofNat_le, Int.ofNat_inj, Nat.lt_irrefl, Int.lt_irrefl, Int.toNat_one, Int.toNat_zero, Bool.false_eq_true, reduceIte, reduceCtorEq, Nat.reduceAdd, Nat.reduceMul, Nat.reduceSub, Nat.reduceLT, Nat.reduceLeDiff, Nat.reduceEqDiff, Int.reduceNeg, Int.reduceAdd, Int.reduceMul, Int.reduceSub, Int.reduceLT, Int.reduceLE, Int.reduceEq, Int.reduceToNat, Int.reduceNatCast, icl, ico, inz, hi, e0, h3, wp_lightestArc hg hG hC']
    refine wp_isFree hg hG hC' hS' b5 (fun M2 hM2 => ?_)
    cases ef : qfr G ((qlb G i).2 ||| 2 ^ (qlt G (qlb G i).1 (qK G)).1)
    · rw [ef] at ih
      simp (contextual := true) (disch := first | assumption | omega | exact il_cqA _ _ | exact il_cqB _ _) only [wi_80_0, wi_80_1, wi_80_2, wi_80_3, wi_80_4, wi_80_5, wi_80_9, wi_80_10, wi_80_13, wi_80_16, wi_80_17, wi_80_18, wi_80_19, wi_80_22, wi_80_23, wi_80_25, wi_80_26, wi_80_28, wi_80_29, wi_80_30, wi_80_31, wi_80_32, wi_80_33, wi_80_35, wi_80_36, wi_80_39, wi_80_42, wi_80_43, wi_80_45, wi_80_46, wi_80_47, wi_80_50, wi_80_53, wi_80_54, io_add_o, io_sub_o, io_mul_o, io_neg_o, io_and_r, io_or_r, io_xor_r, io_nd_r, io_shr_r, io_shl1, io_i2b_r, io_i2l_o, io_l2i_o, il_add_o, il_sub_o, il_mul_o, il_neg_o, ib_bit, Int.toNat_natCast, true_implies, false_implies, implies_true, and_true, true_and, and_self, not_true_eq_false, not_false_eq_true, wa_0, wa_1, il_cmp_o, il_cmp0, il_cmp1, il_cmp2, io_bit1, ibt0, ibt1, ibt00, ibt11, ibt10, ibt01, Int.ofNat_lt, Int.ofNat_le, Int.ofNat_inj, Nat.lt_irrefl, Int.lt_irrefl, Int.toNat_one, Int.toNat_zero, Bool.false_eq_true, reduceIte, reduceCtorEq, Nat.reduceAdd, Nat.reduceMul, Nat.reduceSub, Nat.reduceLT, Nat.reduceLeDiff, Nat.reduceEqDiff, Int.reduceNeg, Int.reduceAdd, Int.reduceMul, Int.reduceSub, Int.reduceLT, Int.reduceLE, Int.reduceEq, Int.reduceToNat, Int.reduceNatCast, icl, ico, inz]
      exact ih M2 (fun j hj => by rw [hM2 j hj, hM j hj]) _
    · rw [ef] at ih
      simp (contextual := true) (disch := first | assumption | omega | exact il_cqA _ _ | exact il_cqB _ _) only [wi_80_0, wi_80_1, wi_80_2, wi_80_3, wi_80_4, wi_80_5, wi_80_9, wi_80_10, wi_80_13, wi_80_16, wi_80_17, wi_80_18, wi_80_19, wi_80_22, wi_80_23, wi_80_25, wi_80_26, wi_80_28, wi_80_29, wi_80_30, wi_80_31, wi_80_32, wi_80_33, wi_80_35, wi_80_36, wi_80_39, wi_80_42, wi_80_43, wi_80_45, wi_80_46, wi_80_47, wi_80_50, wi_80_53, wi_80_54, io_add_o, io_sub_o, io_mul_o, io_neg_o, io_and_r, io_or_r, io_xor_r, io_nd_r, io_shr_r, io_shl1, io_i2b_r, io_i2l_o, io_l2i_o, il_add_o, il_sub_o, il_mul_o, il_neg_o, ib_bit, Int.toNat_natCast, true_implies, false_implies, implies_true, and_true, true_and, and_self, not_true_eq_false, not_false_eq_true, wa_0, wa_1, il_cmp_o, il_cmp0, il_cmp1, il_cmp2, io_bit1, ibt0, ibt1, ibt00, ibt11, ibt10, ibt01, Int.ofNat_lt, Int.ofNat_le, Int.ofNat_inj, Nat.lt_irrefl, Int.lt_irrefl, Int.toNat_one, Int.toNat_zero, Bool.false_eq_true, reduceIte, reduceCtorEq, Nat.reduceAdd, Nat.reduceMul, Nat.reduceSub, Nat.reduceLT, Nat.reduceLeDiff, Nat.reduceEqDiff, Int.reduceNeg, Int.reduceAdd, Int.reduceMul, Int.reduceSub, Int.reduceLT, Int.reduceLE, Int.reduceEq, Int.reduceToNat, Int.reduceNatCast, icl, ico, inz]
      exact ih M2 (fun j hj => by rw [hM2 j hj, hM j hj]) _
  · have e0 : M' g = M g := hM g (by omega)
    rw [wi_80_7]
    simp (contextual := true) (disch := first | assumption | omega | exact il_cqA _ _ | exact il_cqB _ _) only [wi_80_0, wi_80_1, wi_80_2, wi_80_3, wi_80_4, wi_80_5, wi_80_9, wi_80_10, wi_80_13, wi_80_16, wi_80_17, wi_80_18, wi_80_19, wi_80_22, wi_80_23, wi_80_25, wi_80_26, wi_80_28, wi_80_29, wi_80_30, wi_80_31, wi_80_32, wi_80_33, wi_80_35, wi_80_36, wi_80_39, wi_80_42, wi_80_43, wi_80_45, wi_80_46, wi_80_47, wi_80_50, wi_80_53, wi_80_54, io_add_o, io_sub_o, io_mul_o, io_neg_o, io_and_r, io_or_r, io_xor_r, io_nd_r, io_shr_r, io_shl1, io_i2b_r, io_i2l_o, io_l2i_o, il_add_o, il_sub_o, il_mul_o, il_neg_o, ib_bit, Int.toNat_natCast, true_implies, false_implies, implies_true, and_true, true_and, and_self, not_true_eq_false, not_false_eq_true, wa_0, wa_1, il_cmp_o, il_cmp0, il_cmp1, il_cmp2, io_bit1, ibt0, ibt1, ibt00, ibt11, ibt10, ibt01, Int.ofNat_lt, Int.ofNat_le, Int.ofNat_inj, Nat.lt_irrefl, Int.lt_irrefl, Int.toNat_one, Int.toNat_zero, Bool.false_eq_true, reduceIte, reduceCtorEq, Nat.reduceAdd, Nat.reduceMul, Nat.reduceSub, Nat.reduceLT, Nat.reduceLeDiff, Nat.reduceEqDiff, Int.reduceNeg, Int.reduceAdd, Int.reduceMul, Int.reduceSub, Int.reduceLT, Int.reduceLE, Int.reduceEq, Int.reduceToNat, Int.reduceNatCast, icl, ico, inz, e0, h3]
    exact hQ M' hM
theorem wp_fewestOdd (hg : gs_G g) (hG : q_ok G) (hC : q_C M g G) (hS : qs_S M G) (hQ : ∀ M' : gg_M, (∀ j, j < 78 ∨ 125 < j → M' j = M j) → qs_S M' G → Q ((1, (0, (qfe G (2 ^ qK G) : Int))), (gk_R, M', 158, cc, cs))) :
    wp N xs (d + 20) 82 0 [gr 78, gr g, (3, 0), (3, 0), (3, 0)] [] (gk_R, M, 158, cc, cs) Q := by
  have hgp := gs_GP hg gs_P79
  have hgr := gs_Gr hg
  obtain ⟨⟨h1, h2, h3, h4, h5⟩, hF, hT, hA, hW, hP, hO⟩ := id hC
  obtain ⟨⟨k1, k2, k3, k4, k5, k6, k7, k8⟩, hk, hp, hp2⟩ := id hG
  have hp2 := two_le k5
  have hU : qU G + 1 = 2 ^ qK G := by have := Nat.one_le_two_pow (n := qK G); unfold qU; omega
  simp (contextual := true) (disch := first | assumption | omega | exact il_cqA _ _ | exact il_cqB _ _) only [wi_82_0, wi_82_1, wi_82_2, wi_82_5, wi_82_6, wi_82_9, wi_82_10, wi_82_11, wi_82_12, wi_82_13, wi_82_17, wi_82_18, wi_82_21, wi_82_23, wi_82_26, wi_82_27, wi_82_30, wi_82_33, wi_82_34, wi_82_35, wi_82_36, wi_82_38, wi_82_39, wi_82_40, wi_82_41, wi_82_44, wi_82_47, wi_82_49, wi_82_50, wi_82_53, wi_82_56, wi_82_57, io_add_o, io_sub_o, io_mul_o, io_neg_o, io_and_r, io_or_r, io_xor_r, io_nd_r, io_shr_r, io_shl1, io_i2b_r, io_i2l_o, io_l2i_o, il_add_o, il_sub_o, il_mul_o, il_neg_o, ib_bit, Int.toNat_natCast, true_implies, false_implies, implies_true, and_true, true_and, and_self, not_true_eq_false, not_false_eq_true, wa_0, wa_1, il_cmp_o, il_cmp0, il_cmp1, il_cmp2, io_bit1, ibt0, ibt1, ibt00, ibt11, ibt10, ibt01, Int.ofNat_lt, Int.ofNat_le, Int.ofNat_inj, Nat.lt_irrefl, Int.lt_irrefl, Int.toNat_one, Int.toNat_zero, Bool.false_eq_true, reduceIte, reduceCtorEq, Nat.reduceAdd, Nat.reduceMul, Nat.reduceSub, Nat.reduceLT, Nat.reduceLeDiff, Nat.reduceEqDiff, Int.reduceNeg, Int.reduceAdd, Int.reduceMul, Int.reduceSub, Int.reduceLT, Int.reduceLE, Int.reduceEq, Int.reduceToNat, Int.reduceNatCast, icl, ico, inz]
  refine wp_survey hg hG hC hS (fun M1 hM1 h1' hS1 => ?_)
  have hC1 := q_C_e hC fun j h1 h2 => hM1 j (by omega)
  simp (contextual := true) (disch := first | assumption | omega | exact il_cqA _ _ | exact il_cqB _ _) only [wi_82_0, wi_82_1, wi_82_2, wi_82_5, wi_82_6, wi_82_9, wi_82_10, wi_82_11, wi_82_12, wi_82_13, wi_82_17, wi_82_18, wi_82_21, wi_82_23, wi_82_26, wi_82_27, wi_82_30, wi_82_33, wi_82_34, wi_82_35, wi_82_36, wi_82_38, wi_82_39, wi_82_40, wi_82_41, wi_82_44, wi_82_47, wi_82_49, wi_82_50, wi_82_53, wi_82_56, wi_82_57, io_add_o, io_sub_o, io_mul_o, io_neg_o, io_and_r, io_or_r, io_xor_r, io_nd_r, io_shr_r, io_shl1, io_i2b_r, io_i2l_o, io_l2i_o, il_add_o, il_sub_o, il_mul_o, il_neg_o, ib_bit, Int.toNat_natCast, true_implies, false_implies, implies_true, and_true, true_and, and_self, not_true_eq_false, not_false_eq_true, wa_0, wa_1, il_cmp_o, il_cmp0, il_cmp1, il_cmp2, io_bit1, ibt0, ibt1, ibt00, ibt11, ibt10, ibt01, Int.ofNat_lt, Int.ofNat_le, Int.ofNat_inj, Nat.lt_irrefl, Int.lt_irrefl, Int.toNat_one, Int.toNat_zero, Bool.false_eq_true, reduceIte, reduceCtorEq, Nat.reduceAdd, Nat.reduceMul, Nat.reduceSub, Nat.reduceLT, Nat.reduceLeDiff, Nat.reduceEqDiff, Int.reduceNeg, Int.reduceAdd, Int.reduceMul, Int.reduceSub, Int.reduceLT, Int.reduceLE, Int.reduceEq, Int.reduceToNat, Int.reduceNatCast, icl, ico, inz, wp_allArcs (M := M1) hG hg hC1.1.2.2.1]
  refine wl_i (P := fun i I => ∀ M' : gg_M, (∀ j, j < 79 ∨ 81 < j → M' j = M1 j) → wp N xs (d + 19 + 1) 82 15 [gr 78, gr g, (0, (qU G : Int)), (0, (qfe G i : Int)), (0, I)] [] (gk_R, M', 158, cc, cs) Q) (2 ^ qK G) (fun i hi ih M' hM => ?_) (fun M' hM => ?_) M1 (fun _ _ => rfl)
  · have hC' := q_C_e hC1 fun j h1 h2 => hM j (by omega)
    have hS' := qs_S_e hS1 (hM 78 (by decide)) (hM 83 (by decide)) (hM 84 (by decide))
    have hf := qfe_lt (G := G) (s := i) (by omega)
    have h9 := qsz_12 hG hi
    have h9' := qsz_12 hG hf
    have h8 : qcnt i.testBit 12 ≤ 12 := qcnt_le _ _
    have h8' : qcnt (qfe G i).testBit 12 ≤ 12 := qcnt_le _ _
    have hgl := gnd_U (G := G) i
    have hle : ¬ qU G < i := by omega
    rw [qfe] at ih
    rw [wi_82_15]
    by_cases e : qsz G i < qsz G (qfe G i)
    · simp (contextual := true) (disch := first | assumption | omega | exact il_cqA _ _ | exact il_cqB _ _) only [wi_82_0, wi_82_1, wi_82_2, wi_82_5, wi_82_6, wi_82_9, wi_82_10, wi_82_11, wi_82_12, wi_82_13, wi_82_17, wi_82_18, wi_82_21, wi_82_23, wi_82_26, wi_82_27, wi_82_30, wi_82_33, wi_82_34, wi_82_35, wi_82_36, wi_82_38, wi_82_39, wi_82_40, wi_82_41, wi_82_44, wi_82_47, wi_82_49, wi_82_50, wi_82_53, wi_82_56, wi_82_57, io_add_o, io_sub_o, io_mul_o, io_neg_o, io_and_r, io_or_r, io_xor_r, io_nd_r, io_shr_r, io_shl1, io_i2b_r, io_i2l_o, io_l2i_o, il_add_o, il_sub_o, il_mul_o, il_neg_o, ib_bit, Int.toNat_natCast, true_implies, false_implies, implies_true, and_true, true_and, and_self, not_true_eq_false, not_false_eq_true, wa_0, wa_1, il_cmp_o, il_cmp0, il_cmp1, il_cmp2, io_bit1, ibt0, ibt1, ibt00, ibt11, ibt10, ibt01, Int.ofNat_lt, Int.ofNat_le, Int.ofNat_inj, Nat.lt_irrefl, Int.lt_irrefl, Int.toNat_one, Int.toNat_zero, Bool.false_eq_true, reduceIte, reduceCtorEq, Nat.reduceAdd, Nat.reduceMul, Nat.reduceSub, Nat.reduceLT, Nat.reduceLeDiff, Nat.reduceEqDiff, Int.reduceNeg, Int.reduceAdd, Int.reduceMul, Int.reduceSub, Int.reduceLT, Int.reduceLE, Int.reduceEq, Int.reduceToNat, Int.reduceNatCast, icl, ico, inz, hle, wp_bitCount, h9, h9', e]
      refine wp_isEven hg hG hC' hS' hgl (fun M2 hM2 => ?_)
      cases ef : qeven G (gnd (qU G) i)
      · rw [if_neg (fun h => by rw [ef] at h; cases h.2)] at ih
        simp (contextual := true) (disch := first | assumption | omega | exact il_cqA _ _ | exact il_cqB _ _) only [wi_82_0, wi_82_1, wi_82_2, wi_82_5, wi_82_6, wi_82_9, wi_82_10, wi_82_11, wi_82_12, wi_82_13, wi_82_17, wi_82_18, wi_82_21, wi_82_23, wi_82_26, wi_82_27, wi_82_30, wi_82_33, wi_82_34, wi_82_35, wi_82_36, wi_82_38, wi_82_39, wi_82_40, wi_82_41, wi_82_44, wi_82_47, wi_82_49, wi_82_50, wi_82_53, wi_82_56, wi_82_57, io_add_o, io_sub_o, io_mul_o, io_neg_o, io_and_r, io_or_r, io_xor_r, io_nd_r, io_shr_r, io_shl1, io_i2b_r, io_i2l_o, io_l2i_o, il_add_o, il_sub_o, il_mul_o, il_neg_o, ib_bit, Int.toNat_natCast, true_implies, false_implies, implies_true, and_true, true_and, and_self, not_true_eq_false, not_false_eq_true, wa_0, wa_1, il_cmp_o, il_cmp0, il_cmp1, il_cmp2, io_bit1, ibt0, ibt1, ibt00, ibt11, ibt10, ibt01, Int.ofNat_lt, Int.ofNat_le, Int.ofNat_inj, Nat.lt_irrefl, Int.lt_irrefl, Int.toNat_one, Int.toNat_zero, Bool.false_eq_true, reduceIte, reduceCtorEq, Nat.reduceAdd, Nat.reduceMul, Nat.reduceSub, Nat.reduceLT, Nat.reduceLeDiff, Nat.reduceEqDiff, Int.reduceNeg, Int.reduceAdd, Int.reduceMul, Int.reduceSub, Int.reduceLT, Int.reduceLE, Int.reduceEq, Int.reduceToNat, Int.reduceNatCast, icl, ico, inz]
        exact ih M2 (fun j hj => by rw [hM2 j hj, hM j hj])
      · rw [if_pos ⟨e, ef⟩] at ih
        simp (contextual := true) (disch := first | assumption | omega | exact il_cqA _ _ | exact il_cqB _ _) only [wi_82_0, wi_82_1, wi_82_2, wi_82_5, wi_82_6, wi_82_9, wi_82_10, wi_82_11, wi_82_12, wi_82_13, wi_82_17, wi_82_18, wi_82_21, wi_82_23, wi_82_26, wi_82_27, wi_82_30, wi_82_33, wi_82_34, wi_82_35, wi_82_36, wi_82_38, wi_82_39, wi_82_40, wi_82_41, wi_82_44, wi_82_47, wi_82_49, wi_82_50, wi_82_53, wi_82_56, wi_82_57, io_add_o, io_sub_o, io_mul_o, io_neg_o, io_and_r, io_or_r, io_xor_r, io_nd_r, io_shr_r, io_shl1, io_i2b_r, io_i2l_o, io_l2i_o, il_add_o, il_sub_o, il_mul_o, il_neg_o, ib_bit, Int.toNat_natCast, true_implies, false_implies, implies_true, and_true, true_and, and_self, not_true_eq_false, not_false_eq_true, wa_0, wa_1, il_cmp_o, il_cmp0, il_cmp1, il_cmp2, io_bit1, ibt0, ibt1, ibt00, ibt11, ibt10, ibt01, Int.ofNat_lt, Int.ofNat_le, Int.ofNat_inj, Nat.lt_irrefl, Int.lt_irrefl, Int.toNat_one, Int.toNat_zero, Bool.false_eq_true, reduceIte, reduceCtorEq, Nat.reduceAdd, Nat.reduceMul, Nat.reduceSub, Nat.reduceLT, Nat.reduceLeDiff, Nat.reduceEqDiff, Int.reduceNeg, Int.reduceAdd, Int.reduceMul, Int.reduceSub, Int.reduceLT, Int.reduceLE, Int.reduceEq, Int.reduceToNat, Int.reduceNatCast, icl, ico, inz]
        exact ih M2 (fun j hj => by rw [hM2 j hj, hM j hj])
    · rw [if_neg (fun h => e h.1)] at ih
      simp (contextual := true) (disch := first | assumption | omega | exact il_cqA _ _ | exact il_cqB _ _) only [wi_82_0, wi_82_1, wi_82_2, wi_82_5, wi_82_6, wi_82_9, wi_82_10, wi_82_11, wi_82_12, wi_82_13, wi_82_17, wi_82_18, wi_82_21, wi_82_23, wi_82_26, wi_82_27, wi_82_30, wi_82_33, wi_82_34, wi_82_35, wi_82_36, wi_82_38, wi_82_39, wi_82_40, wi_82_41, wi_82_44, wi_82_47, wi_82_49, wi_82_50, wi_82_53, wi_82_56, wi_82_57, io_add_o, io_sub_o, io_mul_o, io_neg_o, io_and_r, io_or_r, io_xor_r, io_nd_r, io_shr_r, io_shl1, io_i2b_r, io_i2l_o, io_l2i_o, il_add_o, il_sub_o, il_mul_o, il_neg_o, ib_bit, Int.toNat_natCast, true_implies, false_implies, implies_true, and_true, true_and, and_self, not_true_eq_false, not_false_eq_true, wa_0, wa_1, il_cmp_o, il_cmp0, il_cmp1, il_cmp2, io_bit1, ibt0, ibt1, ibt00, ibt11, ibt10, ibt01, Int.ofNat_lt, Int.ofNat_le, Int.ofNat_inj, Nat.lt_irrefl, Int.lt_irrefl, Int.toNat_one, Int.toNat_zero, Bool.false_eq_true, reduceIte, reduceCtorEq, Nat.reduceAdd, Nat.reduceMul, Nat.reduceSub, Nat.reduceLT, Nat.reduceLeDiff, Nat.reduceEqDiff, Int.reduceNeg, Int.reduceAdd, Int.reduceMul, Int.reduceSub, Int.reduceLT, Int.reduceLE, Int.reduceEq, Int.reduceToNat, Int.reduceNatCast, icl, ico, inz, hle, wp_bitCount, h9, h9', e]
      exact ih M' hM
  · have hC' := q_C_e hC1 fun j h1 h2 => hM j (by omega)
    have hS' := qs_S_e hS1 (hM 78 (by decide)) (hM 83 (by decide)) (hM 84 (by decide))
    have hle : qU G < 2 ^ qK G := qU_lt
    rw [wi_82_15]
    simp (contextual := true) (disch := first | assumption | omega | exact il_cqA _ _ | exact il_cqB _ _) only [wi_82_0, wi_82_1, wi_82_2, wi_82_5, wi_82_6, wi_82_9, wi_82_10, wi_82_11, wi_82_12, wi_82_13, wi_82_17, wi_82_18, wi_82_21, wi_82_23, wi_82_26, wi_82_27, wi_82_30, wi_82_33, wi_82_34, wi_82_35, wi_82_36, wi_82_38, wi_82_39, wi_82_40, wi_82_41, wi_82_44, wi_82_47, wi_82_49, wi_82_50, wi_82_53, wi_82_56, wi_82_57, io_add_o, io_sub_o, io_mul_o, io_neg_o, io_and_r, io_or_r, io_xor_r, io_nd_r, io_shr_r, io_shl1, io_i2b_r, io_i2l_o, io_l2i_o, il_add_o, il_sub_o, il_mul_o, il_neg_o, ib_bit, Int.toNat_natCast, true_implies, false_implies, implies_true, and_true, true_and, and_self, not_true_eq_false, not_false_eq_true, wa_0, wa_1, il_cmp_o, il_cmp0, il_cmp1, il_cmp2, io_bit1, ibt0, ibt1, ibt00, ibt11, ibt10, ibt01, Int.ofNat_lt, Int.ofNat_le, Int.ofNat_inj, Nat.lt_irrefl, Int.lt_irrefl, Int.toNat_one, Int.toNat_zero, Bool.false_eq_true, reduceIte, reduceCtorEq, Nat.reduceAdd, Nat.reduceMul, Nat.reduceSub, Nat.reduceLT, Nat.reduceLeDiff, Nat.reduceEqDiff, Int.reduceNeg, Int.reduceAdd, Int.reduceMul, Int.reduceSub, Int.reduceLT, Int.reduceLE, Int.reduceEq, Int.reduceToNat, Int.reduceNatCast, icl, ico, inz, hle]
    exact hQ M' (fun j hj => by rw [hM j (by omega), hM1 j hj]) hS'
theorem wp_restGain (hg : gs_G g) (hG : q_ok G) (hC : q_C M g G) {a : Nat} (ha : a < qK G) (hQ : ∀ M' : gg_M, (∀ j, j < 79 ∨ 81 < j → M' j = M j) → Q ((1, (0, (qrest G a : Int))), (gk_R, M', 158, cc, cs))) :
    wp N xs (d + 3) 83 0 [gr 78, gr g, (0, (a : Int)), (3, 0), (3, 0)] [] (gk_R, M, 158, cc, cs) Q := by
  have hgp := gs_GP hg gs_P79
  have hp79 := gs_P79
  obtain ⟨⟨h1, h2, h3, h4, h5⟩, hF, hT, hA, hW, hP, hO⟩ := id hC
  obtain ⟨⟨k1, k2, k3, k4, k5, k6, k7, k8⟩, hk, hp, hp2⟩ := id hG
  have hp2 := two_le k5
  have hU := qU_le hG
  simp (contextual := true) (disch := first | assumption | omega | exact il_cqA _ _ | exact il_cqB _ _) only [wi_83_0, wi_83_1, wi_83_2, wi_83_3, wi_83_6, wi_83_9, wi_83_10, wi_83_11, wi_83_12, wi_83_15, wi_83_16, wi_83_19, wi_83_20, wi_83_21, wi_83_22, wi_83_23, wi_83_26, wi_83_27, wi_83_28, wi_83_31, wi_83_33, wi_83_34, wi_83_36, wi_83_37, wi_83_40, wi_83_41, wi_83_44, wi_83_45, wi_83_46, wi_83_47, wi_83_50, io_add_o, io_sub_o, io_mul_o, io_neg_o, io_and_r, io_or_r, io_xor_r, io_nd_r, io_shr_r, io_shl1, io_i2b_r, io_i2l_o, io_l2i_o, il_add_o, il_sub_o, il_mul_o, il_neg_o, ib_bit, Int.toNat_natCast, true_implies, false_implies, implies_true, and_true, true_and, and_self, not_true_eq_false, not_false_eq_true, wa_0, wa_1, il_cmp_o, il_cmp0, il_cmp1, il_cmp2, io_bit1, ibt0, ibt1, ibt00, ibt11, ibt10, ibt01, Int.ofNat_lt, Int.ofNat_le, Int.ofNat_inj, Nat.lt_irrefl, Int.lt_irrefl, Int.toNat_one, Int.toNat_zero, Bool.false_eq_true, reduceIte, reduceCtorEq, Nat.reduceAdd, Nat.reduceMul, Nat.reduceSub, Nat.reduceLT, Nat.reduceLeDiff, Nat.reduceEqDiff, Int.reduceNeg, Int.reduceAdd, Int.reduceMul, Int.reduceSub, Int.reduceLT, Int.reduceLE, Int.reduceEq, Int.reduceToNat, Int.reduceNatCast, icl, ico, inz, wp_allArcs (M := M) hG hg h3]
  refine wp_split hg hG hC (by omega) (fun M1 hM1 hD1 => ?_)
  have hC1 := q_C_e hC fun j h1 h2 => hM1 j (by omega)
  obtain ⟨_, _, dh⟩ := hD1
  obtain ⟨⟨h1', h2', h3', h4', h5'⟩, hF', hT', hA', hW', hP', hO'⟩ := id hC1
  have hok := p_r_ok hG (p_r_Ps G (qU G))
  obtain ⟨a1, a2, a3, _⟩ := hk a ha
  have f3 := dh (qF G a) a1
  have f4 := dh (qT G a) a2
  have o3 := (hok (qF G a)).2.2.1
  have o7 := (hok (qT G a)).2.2.1
  have q1 := qpl_lt o3 a3
  have hF := hF' a ha
  have hT := hT' a ha
  have hA := hA' a ha
  have er : qmi (qM G) (qpl (qM G) (ph (qPs G (qU G)) (qF G a)) (qA G a)) (ph (qPs G (qU G)) (qT G a)) = qrest G a := rfl
  simp (contextual := true) (disch := first | assumption | omega | exact il_cqA _ _ | exact il_cqB _ _) only [wi_83_0, wi_83_1, wi_83_2, wi_83_3, wi_83_6, wi_83_9, wi_83_10, wi_83_11, wi_83_12, wi_83_15, wi_83_16, wi_83_19, wi_83_20, wi_83_21, wi_83_22, wi_83_23, wi_83_26, wi_83_27, wi_83_28, wi_83_31, wi_83_33, wi_83_34, wi_83_36, wi_83_37, wi_83_40, wi_83_41, wi_83_44, wi_83_45, wi_83_46, wi_83_47, wi_83_50, io_add_o, io_sub_o, io_mul_o, io_neg_o, io_and_r, io_or_r, io_xor_r, io_nd_r, io_shr_r, io_shl1, io_i2b_r, io_i2l_o, io_l2i_o, il_add_o, il_sub_o, il_mul_o, il_neg_o, ib_bit, Int.toNat_natCast, true_implies, false_implies, implies_true, and_true, true_and, and_self, not_true_eq_false, not_false_eq_true, wa_0, wa_1, il_cmp_o, il_cmp0, il_cmp1, il_cmp2, io_bit1, ibt0, ibt1, ibt00, ibt11, ibt10, ibt01, Int.ofNat_lt, Int.ofNat_le, Int.ofNat_inj, Nat.lt_irrefl, Int.lt_irrefl, Int.toNat_one, Int.toNat_zero, Bool.false_eq_true, reduceIte, reduceCtorEq, Nat.reduceAdd, Nat.reduceMul, Nat.reduceSub, Nat.reduceLT, Nat.reduceLeDiff, Nat.reduceEqDiff, Int.reduceNeg, Int.reduceAdd, Int.reduceMul, Int.reduceSub, Int.reduceLT, Int.reduceLE, Int.reduceEq, Int.reduceToNat, Int.reduceNatCast, icl, ico, inz, hF, hT, hA, f3, f4, er, wp_plus (M := M1) hg h2' k4, wp_minus (M := M1) hg h2' k4]
  exact hQ M1 hM1
theorem wp_tally (hg : gs_G g) (hG : q_ok G) (hC : q_C M g G) (hS : qs_S M G) {mask wanted : Nat} (hm : mask < 4096) (hw : wanted < 4096) {b : Bool} (hQ : ∀ M' : gg_M, (∀ j, j < 78 ∨ 125 < j → M' j = M j) → qs_S M' G → (∀ k, k < 9 → M' 85 k = qtl G (qtok G mask wanted b) k (2 ^ qK G)) → Q ((0, (3, 0)), (gk_R, M', 158, cc, cs))) :
    wp N xs (d + 20) 84 0 [gr 78, gr g, (0, (mask : Int)), (0, (wanted : Int)), (0, (b.toNat : Int)), (3, 0)] [] (gk_R, M, 158, cc, cs) Q := by
  have hgp := gs_GP hg gs_P79
  have hgr := gs_Gr hg
  obtain ⟨⟨h1, h2, h3, h4, h5⟩, hF, hT, hA, hW, hP, hO⟩ := id hC
  obtain ⟨⟨k1, k2, k3, k4, k5, k6, k7, k8⟩, hk, hp, hp2⟩ := id hG
  have hp2 := two_le k5
  have hU : qU G + 1 = 2 ^ qK G := by have := Nat.one_le_two_pow (n := qK G); unfold qU; omega
  simp (contextual := true) (disch := first | assumption | omega | exact il_cqA _ _ | exact il_cqB _ _) only [wi_84_0, wi_84_1, wi_84_2, wi_84_5, wi_84_6, wi_84_10, wi_84_12, wi_84_15, wi_84_16, wi_84_19, wi_84_21, wi_84_22, wi_84_23, wi_84_26, wi_84_29, wi_84_30, wi_84_34, wi_84_35, wi_84_38, wi_84_41, wi_84_43, wi_84_44, wi_84_45, wi_84_46, wi_84_49, wi_84_51, wi_84_54, wi_84_55, wi_84_56, wi_84_58, wi_84_61, wi_84_64, wi_84_65, wi_84_68, wi_84_69, wi_84_72, wi_84_74, wi_84_75, wi_84_76, wi_84_77, wi_84_79, wi_84_82, wi_84_83, wi_84_84, wi_84_87, wi_84_88, wi_84_91, wi_84_94, wi_84_95, wi_84_96, wi_84_99, wi_84_102, io_add_o, io_sub_o, io_mul_o, io_neg_o, io_and_r, io_or_r, io_xor_r, io_nd_r, io_shr_r, io_shl1, io_i2b_r, io_i2l_o, io_l2i_o, il_add_o, il_sub_o, il_mul_o, il_neg_o, ib_bit, Int.toNat_natCast, true_implies, false_implies, implies_true, and_true, true_and, and_self, not_true_eq_false, not_false_eq_true, wa_0, wa_1, il_cmp_o, il_cmp0, il_cmp1, il_cmp2, io_bit1, ibt0, ibt1, ibt00, ibt11, ibt10, ibt01, Int.ofNat_lt, Int.ofNat_le, Int.ofNat_inj, Nat.lt_irrefl, Int.lt_irrefl, Int.toNat_one, Int.toNat_zero, Bool.false_eq_true, reduceIte, reduceCtorEq, Nat.reduceAdd, Nat.reduceMul, Nat.reduceSub, Nat.reduceLT, Nat.reduceLeDiff, Nat.reduceEqDiff, Int.reduceNeg, Int.reduceAdd, Int.reduceMul, Int.reduceSub, Int.reduceLT, Int.reduceLE, Int.reduceEq, Int.reduceToNat, Int.reduceNatCast, icl, ico, inz]
  refine wp_survey hg hG hC hS (fun M1 hM1 h1' hS1 => ?_)
  have hC1 := q_C_e hC fun j h1 h2 => hM1 j (by omega)
  have hT1 : ∀ s, s < 2 ^ qK G → M1 83 s = (qnu G s : Int) ∧ M1 84 s = (qev G s : Int) := by
    rcases hS1 with h | h
    · rw [h1'] at h
      cases h
    · exact h.2
  simp (contextual := true) (disch := first | assumption | omega | exact il_cqA _ _ | exact il_cqB _ _) only [wi_84_0, wi_84_1, wi_84_2, wi_84_5, wi_84_6, wi_84_10, wi_84_12, wi_84_15, wi_84_16, wi_84_19, wi_84_21, wi_84_22, wi_84_23, wi_84_26, wi_84_29, wi_84_30, wi_84_34, wi_84_35, wi_84_38, wi_84_41, wi_84_43, wi_84_44, wi_84_45, wi_84_46, wi_84_49, wi_84_51, wi_84_54, wi_84_55, wi_84_56, wi_84_58, wi_84_61, wi_84_64, wi_84_65, wi_84_68, wi_84_69, wi_84_72, wi_84_74, wi_84_75, wi_84_76, wi_84_77, wi_84_79, wi_84_82, wi_84_83, wi_84_84, wi_84_87, wi_84_88, wi_84_91, wi_84_94, wi_84_95, wi_84_96, wi_84_99, wi_84_102, io_add_o, io_sub_o, io_mul_o, io_neg_o, io_and_r, io_or_r, io_xor_r, io_nd_r, io_shr_r, io_shl1, io_i2b_r, io_i2l_o, io_l2i_o, il_add_o, il_sub_o, il_mul_o, il_neg_o, ib_bit, Int.toNat_natCast, true_implies, false_implies, implies_true, and_true, true_and, and_self, not_true_eq_false, not_false_eq_true, wa_0, wa_1, il_cmp_o, il_cmp0, il_cmp1, il_cmp2, io_bit1, ibt0, ibt1, ibt00, ibt11, ibt10, ibt01, Int.ofNat_lt, Int.ofNat_le, Int.ofNat_inj, Nat.lt_irrefl, Int.lt_irrefl, Int.toNat_one, Int.toNat_zero, Bool.false_eq_true, reduceIte, reduceCtorEq, Nat.reduceAdd, Nat.reduceMul, Nat.reduceSub, Nat.reduceLT, Nat.reduceLeDiff, Nat.reduceEqDiff, Int.reduceNeg, Int.reduceAdd, Int.reduceMul, Int.reduceSub, Int.reduceLT, Int.reduceLE, Int.reduceEq, Int.reduceToNat, Int.reduceNatCast, icl, ico, inz]
  refine wl_i (P := fun i I => ∀ M' : gg_M, (∀ j, j ≠ 85 → M' j = M1 j) → (∀ k, k < i → M' 85 k = 0) → wp N xs (d + 19 + 1) 84 8 [gr 78, gr g, (0, (mask : Int)), (0, (wanted : Int)), (0, (b.toNat : Int)), (0, I)] [] (gk_R, M', 158, cc, cs) Q) 9 (fun i hi ih M' hM hv => ?_) (fun M' hM hv => ?_) M1 (fun _ _ => rfl) (fun v hv => absurd hv (Nat.not_lt_zero v))
  · have hi9 : ¬ (8 : Int) < (i : Int) := by omega
    rw [wi_84_8]
    simp (contextual := true) (disch := first | assumption | omega | exact il_cqA _ _ | exact il_cqB _ _) only [wi_84_0, wi_84_1, wi_84_2, wi_84_5, wi_84_6, wi_84_10, wi_84_12, wi_84_15, wi_84_16, wi_84_19, wi_84_21, wi_84_22, wi_84_23, wi_84_26, wi_84_29, wi_84_30, wi_84_34, wi_84_35, wi_84_38, wi_84_41, wi_84_43, wi_84_44, wi_84_45, wi_84_46, wi_84_49, wi_84_51, wi_84_54, wi_84_55, wi_84_56, wi_84_58, wi_84_61, wi_84_64, wi_84_65, wi_84_68, wi_84_69, wi_84_72, wi_84_74, wi_84_75, wi_84_76, wi_84_77, wi_84_79, wi_84_82, wi_84_83, wi_84_84, wi_84_87, wi_84_88, wi_84_91, wi_84_94, wi_84_95, wi_84_96, wi_84_99, wi_84_102, io_add_o, io_sub_o, io_mul_o, io_neg_o, io_and_r, io_or_r, io_xor_r, io_nd_r, io_shr_r, io_shl1, io_i2b_r, io_i2l_o, io_l2i_o, il_add_o, il_sub_o, il_mul_o, il_neg_o, ib_bit, Int.toNat_natCast, true_implies, false_implies, implies_true, and_true, true_and, and_self, not_true_eq_false, not_false_eq_true, wa_0, wa_1, il_cmp_o, il_cmp0, il_cmp1, il_cmp2, io_bit1, ibt0, ibt1, ibt00, ibt11, ibt10, ibt01, Int.ofNat_lt, Int.ofNat_le, Int.ofNat_inj, Nat.lt_irrefl, Int.lt_irrefl, Int.toNat_one, Int.toNat_zero, Bool.false_eq_true, reduceIte, reduceCtorEq, Nat.reduceAdd, Nat.reduceMul, Nat.reduceSub, Nat.reduceLT, Nat.reduceLeDiff, Nat.reduceEqDiff, Int.reduceNeg, Int.reduceAdd, Int.reduceMul, Int.reduceSub, Int.reduceLT, Int.reduceLE, Int.reduceEq, Int.reduceToNat, Int.reduceNatCast, icl, ico, inz, hi9]
    refine ih _ (fun j h1 => by rw [gu_n h1, hM j h1]) (fun v hv' => ?_)
    rw [gu]
    have := hv v
    grind
  · rw [wi_84_8]
    simp (contextual := true) (disch := first | assumption | omega | exact il_cqA _ _ | exact il_cqB _ _) only [wi_84_0, wi_84_1, wi_84_2, wi_84_5, wi_84_6, wi_84_10, wi_84_12, wi_84_15, wi_84_16, wi_84_19, wi_84_21, wi_84_22, wi_84_23, wi_84_26, wi_84_29, wi_84_30, wi_84_34, wi_84_35, wi_84_38, wi_84_41, wi_84_43, wi_84_44, wi_84_45, wi_84_46, wi_84_49, wi_84_51, wi_84_54, wi_84_55, wi_84_56, wi_84_58, wi_84_61, wi_84_64, wi_84_65, wi_84_68, wi_84_69, wi_84_72, wi_84_74, wi_84_75, wi_84_76, wi_84_77, wi_84_79, wi_84_82, wi_84_83, wi_84_84, wi_84_87, wi_84_88, wi_84_91, wi_84_94, wi_84_95, wi_84_96, wi_84_99, wi_84_102, io_add_o, io_sub_o, io_mul_o, io_neg_o, io_and_r, io_or_r, io_xor_r, io_nd_r, io_shr_r, io_shl1, io_i2b_r, io_i2l_o, io_l2i_o, il_add_o, il_sub_o, il_mul_o, il_neg_o, ib_bit, Int.toNat_natCast, true_implies, false_implies, implies_true, and_true, true_and, and_self, not_true_eq_false, not_false_eq_true, wa_0, wa_1, il_cmp_o, il_cmp0, il_cmp1, il_cmp2, io_bit1, ibt0, ibt1, ibt00, ibt11, ibt10, ibt01, Int.ofNat_lt, Int.ofNat_le, Int.ofNat_inj, Nat.lt_irrefl, Int.lt_irrefl, Int.toNat_one, Int.toNat_zero, Bool.false_eq_true, reduceIte, reduceCtorEq, Nat.reduceAdd, Nat.reduceMul, Nat.reduceSub, Nat.reduceLT, Nat.reduceLeDiff, Nat.reduceEqDiff, Int.reduceNeg, Int.reduceAdd, Int.reduceMul, Int.reduceSub, Int.reduceLT, Int.reduceLE, Int.reduceEq, Int.reduceToNat, Int.reduceNatCast, icl, ico, inz, ico]
    refine wl_i (P := fun i I => ∀ M2 : gg_M, (∀ j, j < 79 ∨ (81 < j ∧ j ≠ 85) → M2 j = M1 j) → (∀ k, k < 9 → M2 85 k = qtl G (qtok G mask wanted b) k i) → wp N xs (d + 19 + 1) 84 32 [gr 78, gr g, (0, (mask : Int)), (0, (wanted : Int)), (0, (b.toNat : Int)), (0, I)] [] (gk_R, M2, 158, cc, cs) Q) (2 ^ qK G) (fun i hi ih M2 hM2 hv2 => ?_) (fun M2 hM2 hv2 => ?_) M' (fun j hj => hM j (by omega)) (fun k hk => hv k hk)
    · have hle : ¬ qU G < i := by omega
      have hnx : ∀ M3 : gg_M, (∀ j, j < 79 ∨ (81 < j ∧ j ≠ 85) → M3 j = M1 j) → (∀ k, k < 9 → M3 85 k = qtl G (qtok G mask wanted b) k i + (if qtok G mask wanted b i = true ∧ qev G i = k then qsg2 G i else 0)) → wp N xs (d + 19 + 1) 84 32 [gr 78, gr g, (0, (mask : Int)), (0, (wanted : Int)), (0, (b.toNat : Int)), (0, (i : Int) + 1)] [] (gk_R, M3, 158, cc, cs) Q := fun M3 hM3 hv3 => ih M3 hM3 fun k hk => by
        rw [hv3 k hk]
        rfl
      have hC' := q_C_e hC1 fun j h1 h2 => hM2 j (by omega)
      have hS' := qs_S_e hS1 (hM2 78 (by decide)) (hM2 83 (by decide)) (hM2 84 (by decide))
      have hland : i &&& mask < 4096 := Nat.lt_of_le_of_lt Nat.and_le_left (by omega)
      have hskip : ∀ M3 : gg_M, (∀ j, j < 79 ∨ (81 < j ∧ j ≠ 85) → M3 j = M1 j) → (∀ k, k < 9 → M3 85 k = qtl G (qtok G mask wanted b) k i) → qtok G mask wanted b i = false → wp N xs (d + 19 + 1) 84 32 [gr 78, gr g, (0, (mask : Int)), (0, (wanted : Int)), (0, (b.toNat : Int)), (0, (i : Int) + 1)] [] (gk_R, M3, 158, cc, cs) Q := fun M3 hM3 hv3 hf => hnx M3 hM3 fun k hk => by
        rw [hv3 k hk, if_neg (fun h => by rw [hf] at h; cases h.1), Int.add_zero]
      have hadd : ∀ M3 : gg_M, (∀ j, j < 79 ∨ (81 < j ∧ j ≠ 85) → M3 j = M1 j) → (∀ k, k < 9 → M3 85 k = qtl G (qtok G mask wanted b) k i) → qtok G mask wanted b i = true → wp N xs (d + 19 + 1) 84 64 [gr 78, gr g, (0, (mask : Int)), (0, (wanted : Int)), (0, (b.toNat : Int)), (0, (i : Int))] [] (gk_R, M3, 158, cc, cs) Q := by
        intro M3 hM3 hv3 hf
        have hev : qev G i < 9 := by have := qev_le G i; omega
        have h84 : M3 84 i = (qev G i : Int) := by rw [hM3 84 (by decide)]; exact (hT1 i hi).2
        have h85 := hv3 (qev G i) hev
        have hbd := qtl_bd (G := G) (qtok G mask wanted b) (qev G i) i
        have h9 := qsz_12 hG hi
        have h8 : qcnt i.testBit 12 ≤ 12 := qcnt_le _ _
        have hsg : qsg2 G i = if qsz G i % 2 = 0 then 1 else -1 := rfl
        have hmod : qsz G i % 2 < 2 := Nat.mod_lt _ (by decide)
        have hfin : ∀ x : Int, x = qtl G (qtok G mask wanted b) (qev G i) i + qsg2 G i → wp N xs (d + 19 + 1) 84 32 [gr 78, gr g, (0, (mask : Int)), (0, (wanted : Int)), (0, (b.toNat : Int)), (0, (i : Int) + 1)] [] (gk_R, gg_up M3 85 (qev G i) x, 158, cc, cs) Q := by
          intro x hx
          refine hnx _ (fun j hj => by rw [gu_n (by omega), hM3 j hj]) (fun k hk => ?_)
          rw [gu]
          by_cases e : k = qev G i
          · rw [if_pos ⟨rfl, e⟩, e, if_pos ⟨hf, rfl⟩, hx]
          · rw [if_neg (fun h => e h.2), if_neg (fun h => e h.2.symm), hv3 k hk, Int.add_zero]
        by_cases e : qsz G i % 2 = 0
        · rw [if_pos e] at hsg
          simp (contextual := true) (disch := first | assumption | omega | exact il_cqA _ _ | exact il_cqB _ _) only [wi_84_0, wi_84_1, wi_84_2, wi_84_5, wi_84_6, wi_84_10, wi_84_12, wi_84_15, wi_84_16, wi_84_19, wi_84_21, wi_84_22, wi_84_23, wi_84_26, wi_84_29, wi_84_30, wi_84_34, wi_84_35, wi_84_38, wi_84_41, wi_84_43, wi_84_44, wi_84_45, wi_84_46, wi_84_49, wi_84_51, wi_84_54, wi_84_55, wi_84_56, wi_84_58, wi_84_61, wi_84_64, wi_84_65, wi_84_68, wi_84_69, wi_84_72, wi_84_74, wi_84_75, wi_84_76, wi_84_77, wi_84_79, wi_84_82, wi_84_83, wi_84_84, wi_84_87, wi_84_88, wi_84_91, wi_84_94, wi_84_95, wi_84_96, wi_84_99, wi_84_102, io_add_o, io_sub_o, io_mul_o, io_neg_o, io_and_r, io_or_r, io_xor_r, io_nd_r, io_shr_r, io_shl1, io_i2b_r, io_i2l_o, io_l2i_o, il_add_o, il_sub_o, il_mul_o, il_neg_o, ib_bit, Int.toNat_natCast, true_implies, false_implies, implies_true, and_true, true_and, and_self, not_true_eq_false, not_false_eq_true, wa_0, wa_1, il_cmp_o, il_cmp0, il_cmp1, il_cmp2, io_bit1, ibt0, ibt1, ibt00, ibt11, ibt10, ibt01, Int.ofNat_lt, Int.ofNat_le, Int.ofNat_inj, Nat.lt_irrefl, Int.lt_irrefl, Int.toNat_one, Int.toNat_zero, Bool.false_eq_true, reduceIte, reduceCtorEq, Nat.reduceAdd, Nat.reduceMul, Nat.reduceSub, Nat.reduceLT, Nat.reduceLeDiff, Nat.reduceEqDiff, Int.reduceNeg, Int.reduceAdd, Int.reduceMul, Int.reduceSub, Int.reduceLT, Int.reduceLE, Int.reduceEq, Int.reduceToNat, Int.reduceNatCast, icl, ico, inz, h84, h85, wp_bitCount, h9, Nat.and_one_is_mod, e]
          exact hfin _ (by rw [hsg])
        · rw [if_neg e] at hsg
          simp (contextual := true) (disch := first | assumption | omega | exact il_cqA _ _ | exact il_cqB _ _) only [wi_84_0, wi_84_1, wi_84_2, wi_84_5, wi_84_6, wi_84_10, wi_84_12, wi_84_15, wi_84_16, wi_84_19, wi_84_21, wi_84_22, wi_84_23, wi_84_26, wi_84_29, wi_84_30, wi_84_34, wi_84_35, wi_84_38, wi_84_41, wi_84_43, wi_84_44, wi_84_45, wi_84_46, wi_84_49, wi_84_51, wi_84_54, wi_84_55, wi_84_56, wi_84_58, wi_84_61, wi_84_64, wi_84_65, wi_84_68, wi_84_69, wi_84_72, wi_84_74, wi_84_75, wi_84_76, wi_84_77, wi_84_79, wi_84_82, wi_84_83, wi_84_84, wi_84_87, wi_84_88, wi_84_91, wi_84_94, wi_84_95, wi_84_96, wi_84_99, wi_84_102, io_add_o, io_sub_o, io_mul_o, io_neg_o, io_and_r, io_or_r, io_xor_r, io_nd_r, io_shr_r, io_shl1, io_i2b_r, io_i2l_o, io_l2i_o, il_add_o, il_sub_o, il_mul_o, il_neg_o, ib_bit, Int.toNat_natCast, true_implies, false_implies, implies_true, and_true, true_and, and_self, not_true_eq_false, not_false_eq_true, wa_0, wa_1, il_cmp_o, il_cmp0, il_cmp1, il_cmp2, io_bit1, ibt0, ibt1, ibt00, ibt11, ibt10, ibt01, Int.ofNat_lt, Int.ofNat_le, Int.ofNat_inj, Nat.lt_irrefl, Int.lt_irrefl, Int.toNat_one, Int.toNat_zero, Bool.false_eq_true, reduceIte, reduceCtorEq, Nat.reduceAdd, Nat.reduceMul, Nat.reduceSub, Nat.reduceLT, Nat.reduceLeDiff, Nat.reduceEqDiff, Int.reduceNeg, Int.reduceAdd, Int.reduceMul, Int.reduceSub, Int.reduceLT, Int.reduceLE, Int.reduceEq, Int.reduceToNat, Int.reduceNatCast, icl, ico, inz, h84, h85, wp_bitCount, h9, Nat.and_one_is_mod, e]
          exact hfin _ (by rw [hsg])
      rw [wi_84_32]
      by_cases e : i &&& mask = wanted
      · cases b
        · have hok : qtok G mask wanted false i = true := by
            unfold qtok
            rw [decide_eq_true e]
            rfl
          have := hadd M2 hM2 hv2 hok
          rw [show Bool.toNat false = 0 from rfl] at this
          revert this
          simp (contextual := true) (disch := first | assumption | omega | exact il_cqA _ _ | exact il_cqB _ _) only [wi_84_0, wi_84_1, wi_84_2, wi_84_5, wi_84_6, wi_84_10, wi_84_12, wi_84_15, wi_84_16, wi_84_19, wi_84_21, wi_84_22, wi_84_23, wi_84_26, wi_84_29, wi_84_30, wi_84_34, wi_84_35, wi_84_38, wi_84_41, wi_84_43, wi_84_44, wi_84_45, wi_84_46, wi_84_49, wi_84_51, wi_84_54, wi_84_55, wi_84_56, wi_84_58, wi_84_61, wi_84_64, wi_84_65, wi_84_68, wi_84_69, wi_84_72, wi_84_74, wi_84_75, wi_84_76, wi_84_77, wi_84_79, wi_84_82, wi_84_83, wi_84_84, wi_84_87, wi_84_88, wi_84_91, wi_84_94, wi_84_95, wi_84_96, wi_84_99, wi_84_102, io_add_o, io_sub_o, io_mul_o, io_neg_o, io_and_r, io_or_r, io_xor_r, io_nd_r, io_shr_r, io_shl1, io_i2b_r, io_i2l_o, io_l2i_o, il_add_o, il_sub_o, il_mul_o, il_neg_o, ib_bit, Int.toNat_natCast, true_implies, false_implies, implies_true, and_true, true_and, and_self, not_true_eq_false, not_false_eq_true, wa_0, wa_1, il_cmp_o, il_cmp0, il_cmp1, il_cmp2, io_bit1, ibt0, ibt1, ibt00, ibt11, ibt10, ibt01, Int.ofNat_lt, Int.ofNat_le, Int.ofNat_inj, Nat.lt_irrefl, Int.lt_irrefl, Int.toNat_one, Int.toNat_zero, Bool.false_eq_true, reduceIte, reduceCtorEq, Nat.reduceAdd, Nat.reduceMul, Nat.reduceSub, Nat.reduceLT, Nat.reduceLeDiff, Nat.reduceEqDiff, Int.reduceNeg, Int.reduceAdd, Int.reduceMul, Int.reduceSub, Int.reduceLT, Int.reduceLE, Int.reduceEq, Int.reduceToNat, Int.reduceNatCast, icl, ico, inz, wp_allArcs (M := M2) hG hg hC'.1.2.2.1, hle, e]
        · simp (contextual := true) (disch := first | assumption | omega | exact il_cqA _ _ | exact il_cqB _ _) only [wi_84_0, wi_84_1, wi_84_2, wi_84_5, wi_84_6, wi_84_10, wi_84_12, wi_84_15, wi_84_16, wi_84_19, wi_84_21, wi_84_22, wi_84_23, wi_84_26, wi_84_29, wi_84_30, wi_84_34, wi_84_35, wi_84_38, wi_84_41, wi_84_43, wi_84_44, wi_84_45, wi_84_46, wi_84_49, wi_84_51, wi_84_54, wi_84_55, wi_84_56, wi_84_58, wi_84_61, wi_84_64, wi_84_65, wi_84_68, wi_84_69, wi_84_72, wi_84_74, wi_84_75, wi_84_76, wi_84_77, wi_84_79, wi_84_82, wi_84_83, wi_84_84, wi_84_87, wi_84_88, wi_84_91, wi_84_94, wi_84_95, wi_84_96, wi_84_99, wi_84_102, io_add_o, io_sub_o, io_mul_o, io_neg_o, io_and_r, io_or_r, io_xor_r, io_nd_r, io_shr_r, io_shl1, io_i2b_r, io_i2l_o, io_l2i_o, il_add_o, il_sub_o, il_mul_o, il_neg_o, ib_bit, Int.toNat_natCast, true_implies, false_implies, implies_true, and_true, true_and, and_self, not_true_eq_false, not_false_eq_true, wa_0, wa_1, il_cmp_o, il_cmp0, il_cmp1, il_cmp2, io_bit1, ibt0, ibt1, ibt00, ibt11, ibt10, ibt01, Int.ofNat_lt, Int.ofNat_le, Int.ofNat_inj, Nat.lt_irrefl, Int.lt_irrefl, Int.toNat_one, Int.toNat_zero, Bool.false_eq_true, reduceIte, reduceCtorEq, Nat.reduceAdd, Nat.reduceMul, Nat.reduceSub, Nat.reduceLT, Nat.reduceLeDiff, Nat.reduceEqDiff, Int.reduceNeg, Int.reduceAdd, Int.reduceMul, Int.reduceSub, Int.reduceLT, Int.reduceLE, Int.reduceEq, Int.reduceToNat, Int.reduceNatCast, icl, ico, inz, wp_allArcs (M := M2) hG hg hC'.1.2.2.1, hle, e]
          refine wp_isEven hg hG hC' hS' hi (fun M3 hM3 => ?_)
          have hF3 : ∀ j, j < 79 ∨ (81 < j ∧ j ≠ 85) → M3 j = M1 j := fun j hj => by rw [hM3 j (by omega), hM2 j hj]
          have hv3 : ∀ k, k < 9 → M3 85 k = qtl G (qtok G mask wanted true) k i := fun k hk => by rw [hM3 85 (by decide)]; exact hv2 k hk
          cases ee : qeven G i
          · have hok : qtok G mask wanted true i = false := by
              unfold qtok
              rw [ee]
              exact Bool.and_false _
            have := hskip M3 hF3 hv3 hok
            simp (contextual := true) (disch := first | assumption | omega | exact il_cqA _ _ | exact il_cqB _ _) only [wi_84_0, wi_84_1, wi_84_2, wi_84_5, wi_84_6, wi_84_10, wi_84_12, wi_84_15, wi_84_16, wi_84_19, wi_84_21, wi_84_22, wi_84_23, wi_84_26, wi_84_29, wi_84_30, wi_84_34, wi_84_35, wi_84_38, wi_84_41, wi_84_43, wi_84_44, wi_84_45, wi_84_46, wi_84_49, wi_84_51, wi_84_54, wi_84_55, wi_84_56, wi_84_58, wi_84_61, wi_84_64, wi_84_65, wi_84_68, wi_84_69, wi_84_72, wi_84_74, wi_84_75, wi_84_76, wi_84_77, wi_84_79, wi_84_82, wi_84_83, wi_84_84, wi_84_87, wi_84_88, wi_84_91, wi_84_94, wi_84_95, wi_84_96, wi_84_99, wi_84_102, io_add_o, io_sub_o, io_mul_o, io_neg_o, io_and_r, io_or_r, io_xor_r, io_nd_r, io_shr_r, io_shl1, io_i2b_r, io_i2l_o, io_l2i_o, il_add_o, il_sub_o, il_mul_o, il_neg_o, ib_bit, Int.toNat_natCast, true_implies, false_implies, implies_true, and_true, true_and, and_self, not_true_eq_false, not_false_eq_true, wa_0, wa_1, il_cmp_o, il_cmp0, il_cmp1, il_cmp2, io_bit1, ibt0, ibt1, ibt00, ibt11, ibt10, ibt01, Int.ofNat_lt, Int.ofNat_le, Int.ofNat_inj, Nat.lt_irrefl, Int.lt_irrefl, Int.toNat_one, Int.toNat_zero, Bool.false_eq_true, reduceIte, reduceCtorEq, Nat.reduceAdd, Nat.reduceMul, Nat.reduceSub, Nat.reduceLT, Nat.reduceLeDiff, Nat.reduceEqDiff, Int.reduceNeg, Int.reduceAdd, Int.reduceMul, Int.reduceSub, Int.reduceLT, Int.reduceLE, Int.reduceEq, Int.reduceToNat, Int.reduceNatCast, icl, ico, inz]
            exact this
          · have hok : qtok G mask wanted true i = true := by
              unfold qtok
              rw [decide_eq_true e, ee]
              rfl
            have := hadd M3 hF3 hv3 hok
            revert this
            simp (contextual := true) (disch := first | assumption | omega | exact il_cqA _ _ | exact il_cqB _ _) only [wi_84_0, wi_84_1, wi_84_2, wi_84_5, wi_84_6, wi_84_10, wi_84_12, wi_84_15, wi_84_16, wi_84_19, wi_84_21, wi_84_22, wi_84_23, wi_84_26, wi_84_29, wi_84_30, wi_84_34, wi_84_35, wi_84_38, wi_84_41, wi_84_43, wi_84_44, wi_84_45, wi_84_46, wi_84_49, wi_84_51, wi_84_54, wi_84_55, wi_84_56, wi_84_58, wi_84_61, wi_84_64, wi_84_65, wi_84_68, wi_84_69, wi_84_72, wi_84_74, wi_84_75, wi_84_76, wi_84_77, wi_84_79, wi_84_82, wi_84_83, wi_84_84, wi_84_87, wi_84_88, wi_84_91, wi_84_94, wi_84_95, wi_84_96, wi_84_99, wi_84_102, io_add_o, io_sub_o, io_mul_o, io_neg_o, io_and_r, io_or_r, io_xor_r, io_nd_r, io_shr_r, io_shl1, io_i2b_r, io_i2l_o, io_l2i_o, il_add_o, il_sub_o, il_mul_o, il_neg_o, ib_bit, Int.toNat_natCast, true_implies, false_implies, implies_true, and_true, true_and, and_self, not_true_eq_false, not_false_eq_true, wa_0, wa_1, il_cmp_o, il_cmp0, il_cmp1, il_cmp2, io_bit1, ibt0, ibt1, ibt00, ibt11, ibt10, ibt01, Int.ofNat_lt, Int.ofNat_le, Int.ofNat_inj, Nat.lt_irrefl, Int.lt_irrefl, Int.toNat_one, Int.toNat_zero, Bool.false_eq_true, reduceIte, reduceCtorEq, Nat.reduceAdd, Nat.reduceMul, Nat.reduceSub, Nat.reduceLT, Nat.reduceLeDiff, Nat.reduceEqDiff, Int.reduceNeg, Int.reduceAdd, Int.reduceMul, Int.reduceSub, Int.reduceLT, Int.reduceLE, Int.reduceEq, Int.reduceToNat, Int.reduceNatCast, icl, ico, inz]
      · have hok : qtok G mask wanted b i = false := by
          unfold qtok
          rw [decide_eq_false e]
          rfl
        simp (contextual := true) (disch := first | assumption | omega | exact il_cqA _ _ | exact il_cqB _ _) only [wi_84_0, wi_84_1, wi_84_2, wi_84_5, wi_84_6, wi_84_10, wi_84_12, wi_84_15, wi_84_16, wi_84_19, wi_84_21, wi_84_22, wi_84_23, wi_84_26, wi_84_29, wi_84_30, wi_84_34, wi_84_35, wi_84_38, wi_84_41, wi_84_43, wi_84_44, wi_84_45, wi_84_46, wi_84_49, wi_84_51, wi_84_54, wi_84_55, wi_84_56, wi_84_58, wi_84_61, wi_84_64, wi_84_65, wi_84_68, wi_84_69, wi_84_72, wi_84_74, wi_84_75, wi_84_76, wi_84_77, wi_84_79, wi_84_82, wi_84_83, wi_84_84, wi_84_87, wi_84_88, wi_84_91, wi_84_94, wi_84_95, wi_84_96, wi_84_99, wi_84_102, io_add_o, io_sub_o, io_mul_o, io_neg_o, io_and_r, io_or_r, io_xor_r, io_nd_r, io_shr_r, io_shl1, io_i2b_r, io_i2l_o, io_l2i_o, il_add_o, il_sub_o, il_mul_o, il_neg_o, ib_bit, Int.toNat_natCast, true_implies, false_implies, implies_true, and_true, true_and, and_self, not_true_eq_false, not_false_eq_true, wa_0, wa_1, il_cmp_o, il_cmp0, il_cmp1, il_cmp2, io_bit1, ibt0, ibt1, ibt00, ibt11, ibt10, ibt01, Int.ofNat_lt, Int.ofNat_le, Int.ofNat_inj, Nat.lt_irrefl, Int.lt_irrefl, Int.toNat_one, Int.toNat_zero, Bool.false_eq_true, reduceIte, reduceCtorEq, Nat.reduceAdd, Nat.reduceMul, Nat.reduceSub, Nat.reduceLT, Nat.reduceLeDiff, Nat.reduceEqDiff, Int.reduceNeg, Int.reduceAdd, Int.reduceMul, Int.reduceSub, Int.reduceLT, Int.reduceLE, Int.reduceEq, Int.reduceToNat, Int.reduceNatCast, icl, ico, inz, wp_allArcs (M := M2) hG hg hC'.1.2.2.1, hle, e]
        exact hskip M2 hM2 hv2 hok
    · have hC' := q_C_e hC1 fun j h1 h2 => hM2 j (by omega)
      have hS' := qs_S_e hS1 (hM2 78 (by decide)) (hM2 83 (by decide)) (hM2 84 (by decide))
      have hle : qU G < 2 ^ qK G := qU_lt
      rw [wi_84_32]
      simp (contextual := true) (disch := first | assumption | omega | exact il_cqA _ _ | exact il_cqB _ _) only [wi_84_0, wi_84_1, wi_84_2, wi_84_5, wi_84_6, wi_84_10, wi_84_12, wi_84_15, wi_84_16, wi_84_19, wi_84_21, wi_84_22, wi_84_23, wi_84_26, wi_84_29, wi_84_30, wi_84_34, wi_84_35, wi_84_38, wi_84_41, wi_84_43, wi_84_44, wi_84_45, wi_84_46, wi_84_49, wi_84_51, wi_84_54, wi_84_55, wi_84_56, wi_84_58, wi_84_61, wi_84_64, wi_84_65, wi_84_68, wi_84_69, wi_84_72, wi_84_74, wi_84_75, wi_84_76, wi_84_77, wi_84_79, wi_84_82, wi_84_83, wi_84_84, wi_84_87, wi_84_88, wi_84_91, wi_84_94, wi_84_95, wi_84_96, wi_84_99, wi_84_102, io_add_o, io_sub_o, io_mul_o, io_neg_o, io_and_r, io_or_r, io_xor_r, io_nd_r, io_shr_r, io_shl1, io_i2b_r, io_i2l_o, io_l2i_o, il_add_o, il_sub_o, il_mul_o, il_neg_o, ib_bit, Int.toNat_natCast, true_implies, false_implies, implies_true, and_true, true_and, and_self, not_true_eq_false, not_false_eq_true, wa_0, wa_1, il_cmp_o, il_cmp0, il_cmp1, il_cmp2, io_bit1, ibt0, ibt1, ibt00, ibt11, ibt10, ibt01, Int.ofNat_lt, Int.ofNat_le, Int.ofNat_inj, Nat.lt_irrefl, Int.lt_irrefl, Int.toNat_one, Int.toNat_zero, Bool.false_eq_true, reduceIte, reduceCtorEq, Nat.reduceAdd, Nat.reduceMul, Nat.reduceSub, Nat.reduceLT, Nat.reduceLeDiff, Nat.reduceEqDiff, Int.reduceNeg, Int.reduceAdd, Int.reduceMul, Int.reduceSub, Int.reduceLT, Int.reduceLE, Int.reduceEq, Int.reduceToNat, Int.reduceNatCast, icl, ico, inz, wp_allArcs (M := M2) hG hg hC'.1.2.2.1, hle]
      exact hQ M2 (fun j hj => by rw [hM2 j (by omega), hM1 j hj]) hS' hv2
theorem wp_sumAt {c : Nat} (hc : c ≤ 61) {f : Nat → Int} (hf : ∀ k, -4096 ≤ f k ∧ f k ≤ 4096) (h85 : ∀ k, k < 9 → M 85 k = f k) :
    wp N xs d 85 0 [gr 78, (0, (c : Int)), (3, 0), (3, 0), (3, 0)] [] (gk_R, M, 158, cc, cs) Q ↔ Q ((1, (1, qho f c 9)), (gk_R, M, 158, cc, cs)) := by
  refine wp_det ?_
  simp (contextual := true) (disch := first | assumption | omega | exact il_cqA _ _ | exact il_cqB _ _) only [wi_85_0, wi_85_1, wi_85_2, wi_85_4, wi_85_8, wi_85_11, wi_85_12, wi_85_13, wi_85_14, wi_85_15, wi_85_16, wi_85_19, wi_85_21, wi_85_22, wi_85_23, wi_85_24, wi_85_27, wi_85_30, wi_85_31, io_add_o, io_sub_o, io_mul_o, io_neg_o, io_and_r, io_or_r, io_xor_r, io_nd_r, io_shr_r, io_shl1, io_i2b_r, io_i2l_o, io_l2i_o, il_add_o, il_sub_o, il_mul_o, il_neg_o, ib_bit, Int.toNat_natCast, true_implies, false_implies, implies_true, and_true, true_and, and_self, not_true_eq_false, not_false_eq_true, wa_0, wa_1, il_cmp_o, il_cmp0, il_cmp1, il_cmp2, io_bit1, ibt0, ibt1, ibt00, ibt11, ibt10, ibt01, Int.ofNat_lt, Int.ofNat_le, Int.ofNat_inj, Nat.lt_irrefl, Int.lt_irrefl, Int.toNat_one, Int.toNat_zero, Bool.false_eq_true, reduceIte, reduceCtorEq, Nat.reduceAdd, Nat.reduceMul, Nat.reduceSub, Nat.reduceLT, Nat.reduceLeDiff, Nat.reduceEqDiff, Int.reduceNeg, Int.reduceAdd, Int.reduceMul, Int.reduceSub, Int.reduceLT, Int.reduceLE, Int.reduceEq, Int.reduceToNat, Int.reduceNatCast, icl, ico, inz]
  have key : ∀ (i : Nat) (I : Int), I = 8 - (i : Int) → i ≤ 9 → wp N xs d 85 6 [gr 78, (0, (c : Int)), (1, qho f c i), (3, 0), (0, I)] [] (gk_R, M, 158, cc, cs) (fun o => o = ((1, (1, qho f c 9)), (gk_R, M, 158, cc, cs))) := by
    intro i
    generalize hn : 9 - i = n
    induction n generalizing i with
    | zero =>
      intro I hI hi
      have e : i = 9 := by omega
      subst e
      have e1 : I < 0 := by omega
      rw [wi_85_6]
      simp (contextual := true) (disch := first | assumption | omega | exact il_cqA _ _ | exact il_cqB _ _) only [wi_85_0, wi_85_1, wi_85_2, wi_85_4, wi_85_8, wi_85_11, wi_85_12, wi_85_13, wi_85_14, wi_85_15, wi_85_16, wi_85_19, wi_85_21, wi_85_22, wi_85_23, wi_85_24, wi_85_27, wi_85_30, wi_85_31, io_add_o, io_sub_o, io_mul_o, io_neg_o, io_and_r, io_or_r, io_xor_r, io_nd_r, io_shr_r, io_shl1, io_i2b_r, io_i2l_o, io_l2i_o, il_add_o, il_sub_o, il_mul_o, il_neg_o, ib_bit, Int.toNat_natCast, true_implies, false_implies, implies_true, and_true, true_and, and_self, not_true_eq_false, not_false_eq_true, wa_0, wa_1, il_cmp_o, il_cmp0, il_cmp1, il_cmp2, io_bit1, ibt0, ibt1, ibt00, ibt11, ibt10, ibt01, Int.ofNat_lt, Int.ofNat_le, Int.ofNat_inj, Nat.lt_irrefl, Int.lt_irrefl, Int.toNat_one, Int.toNat_zero, Bool.false_eq_true, reduceIte, reduceCtorEq, Nat.reduceAdd, Nat.reduceMul, Nat.reduceSub, Nat.reduceLT, Nat.reduceLeDiff, Nat.reduceEqDiff, Int.reduceNeg, Int.reduceAdd, Int.reduceMul, Int.reduceSub, Int.reduceLT, Int.reduceLE, Int.reduceEq, Int.reduceToNat, Int.reduceNatCast, icl, ico, inz, e1]
    | succ n ih =>
      intro I hI hi
      have e1 : ¬ I < 0 := by omega
      have e2 : I.toNat = 8 - i := by omega
      have e3 := h85 (8 - i) (by omega)
      have e4 := hf (8 - i)
      have hb : -900000000000000000 ≤ qho f c i * (c : Int) ∧ qho f c i * (c : Int) ≤ 900000000000000000 := by
        cases i with
        | zero => simp [qho]
        | succ j => exact qho_mul (by omega) (by omega) hf (by omega)
      have := ih (i + 1) (by omega) (I + -1) (by omega) (by omega)
      rw [qho] at this
      rw [wi_85_6]
      simp (contextual := true) (disch := first | assumption | omega | exact il_cqA _ _ | exact il_cqB _ _) only [wi_85_0, wi_85_1, wi_85_2, wi_85_4, wi_85_8, wi_85_11, wi_85_12, wi_85_13, wi_85_14, wi_85_15, wi_85_16, wi_85_19, wi_85_21, wi_85_22, wi_85_23, wi_85_24, wi_85_27, wi_85_30, wi_85_31, io_add_o, io_sub_o, io_mul_o, io_neg_o, io_and_r, io_or_r, io_xor_r, io_nd_r, io_shr_r, io_shl1, io_i2b_r, io_i2l_o, io_l2i_o, il_add_o, il_sub_o, il_mul_o, il_neg_o, ib_bit, Int.toNat_natCast, true_implies, false_implies, implies_true, and_true, true_and, and_self, not_true_eq_false, not_false_eq_true, wa_0, wa_1, il_cmp_o, il_cmp0, il_cmp1, il_cmp2, io_bit1, ibt0, ibt1, ibt00, ibt11, ibt10, ibt01, Int.ofNat_lt, Int.ofNat_le, Int.ofNat_inj, Nat.lt_irrefl, Int.lt_irrefl, Int.toNat_one, Int.toNat_zero, Bool.false_eq_true, reduceIte, reduceCtorEq, Nat.reduceAdd, Nat.reduceMul, Nat.reduceSub, Nat.reduceLT, Nat.reduceLeDiff, Nat.reduceEqDiff, Int.reduceNeg, Int.reduceAdd, Int.reduceMul, Int.reduceSub, Int.reduceLT, Int.reduceLE, Int.reduceEq, Int.reduceToNat, Int.reduceNatCast, icl, ico, inz, e1, e2, e3]
      exact this
  exact key 0 8 (by omega) (by omega)
end SG
