/-! the model changes its row -/
theorem mdrop_S {S a K : Nat} (ha : a < K) (hS : S < 2 ^ K) : (S &&& (2 ^ a - 1)) ||| ((S >>> (a + 1)) <<< a) = qbits (qov S.testBit a) (K - 1) := by
  refine qbits_eq fun i => ?_
  rw [Nat.testBit_or, Nat.testBit_and, Nat.testBit_two_pow_sub_one, Nat.testBit_shiftLeft, Nat.testBit_shiftRight]
  unfold qov
  by_cases e : i < a
  · rw [if_pos e, decide_eq_true e, decide_eq_true (show i < K - 1 by omega), decide_eq_false (show ¬ i ≥ a by omega)]
    simp
  · rw [if_neg e, decide_eq_false e, decide_eq_true (show i ≥ a by omega), show a + 1 + (i - a) = i + 1 by omega]
    by_cases e2 : i < K - 1
    · rw [decide_eq_true e2]
      simp
    · rw [Nat.testBit_lt_two_pow (Nat.lt_of_lt_of_le hS (Nat.pow_le_pow_right (by decide) (show K ≤ i + 1 by omega)))]
      simp
section SG
variable {N : Nat} {xs : Nat → Int32} {d : Nat} {M : gg_M} {cc cs : Nat} {Q : gg_O → Prop} {G : q_G}
theorem wp_mdrops (hG : q_ok G) (hR : q_R (M 143) G) {a : Nat} (ha : a < qK G) (hQ : ∀ M' : gg_M, (∀ j, j ≠ 143 → M' j = M j) → q_R (M' 143) (qdrop G a) → Q ((0, (3, 0)), (gk_R, M', 158, cc, cs))) :
    wp N xs d 271 0 [gr 142, (0, (a : Int)), (3, 0), (3, 0)] [] (gk_R, M, 158, cc, cs) Q := by
  obtain ⟨⟨h1, h2, h3, h4, h5⟩, hF, hT, hA, hW, hPa, hO⟩ := id hR
  obtain ⟨⟨k1, k2, k3, k4, k5, k6, k7, k8⟩, hk, hp, hp2⟩ := id hG
  have e3 : (qK G : Int) - 1 = ((qK G - 1 : Nat) : Int) := by omega
  simp (disch := first | assumption | omega | exact il_cqA _ _ | exact il_cqB _ _) only [wi_271_0, wi_271_1, wi_271_4, wi_271_5, wi_271_6, wi_271_7, wi_271_8, wi_271_9, wi_271_10, wi_271_11, wi_271_13, wi_271_14, wi_271_17, wi_271_18, wi_271_19, wi_271_22, wi_271_24, wi_271_26, wi_271_28, wi_271_31, wi_271_32, wi_271_35, wi_271_36, wi_271_37, wi_271_38, wi_271_39, wi_271_42, wi_271_43, wi_271_44, wi_271_45, wi_271_46, wi_271_47, wi_271_48, wi_271_49, wi_271_52, wi_271_55, wi_271_58, wi_271_61, wi_271_62, wi_271_65, wi_271_66, wi_271_67, wi_271_68, wi_271_69, wi_271_70, wi_271_71, wi_271_72, wi_271_73, wi_271_74, wi_271_75, wi_271_78, wi_271_79, wi_271_80, wi_271_81, wi_271_84, wi_271_85, wi_271_86, wi_271_87, wi_271_88, wi_271_89, wi_271_90, wi_271_91, wi_271_92, wi_271_93, wi_271_94, io_add_o, io_sub_o, io_mul_o, io_neg_o, io_and_r, io_or_r, io_xor_r, io_nd_r, io_shr_r, io_shl1, io_i2b_r, io_i2l_o, io_l2i_o, il_add_o, il_sub_o, il_mul_o, il_neg_o, ib_bit, Int.toNat_natCast, true_implies, false_implies, implies_true, and_true, true_and, and_self, not_true_eq_false, not_false_eq_true, wa_0, wa_1, il_cmp_o, il_cmp0, il_cmp1, il_cmp2, io_bit1, ibt0, ibt1, ibt00, ibt11, ibt10, ibt01, Int.ofNat_lt, Int.ofNat_le, Int.ofNat_inj, Nat.lt_irrefl, Int.lt_irrefl, Int.toNat_one, Int.toNat_zero, Bool.false_eq_true, reduceIte, reduceCtorEq, Nat.reduceAdd, Nat.reduceMul, Nat.reduceSub, Nat.reduceLT, Nat.reduceLeDiff, Nat.reduceEqDiff, Int.reduceNeg, Int.reduceAdd, Int.reduceMul, Int.reduceSub, Int.reduceLT, Int.reduceLE, Int.reduceEq, Int.reduceToNat, Int.reduceNatCast, icl, ico, inz, h3, e3]
  refine wl_for (P := fun j => ∀ M' : gg_M, (∀ r, r ≠ 143 → M' r = M r) → M' 143 2 = ((qK G - 1 : Nat) : Int) → (∀ b, b < qK G → M' 143 (9 + b) = ((if b < a + j then qov (qF G) a b else qF G b : Nat) : Int) ∧ M' 143 (21 + b) = ((if b < a + j then qov (qT G) a b else qT G b : Nat) : Int) ∧ M' 143 (33 + b) = ((if b < a + j then qov (qA G) a b else qA G b : Nat) : Int) ∧ M' 143 (45 + b) = ((if b < a + j then qov (qW G) a b else qW G b : Nat) : Int)) → (∀ p, p ≠ 2 → (p < 9 ∨ 57 ≤ p) → M' 143 p = M 143 p) → ∀ l3 : gg_V, wp N xs d 271 12 [gr 142, (0, (a : Int)), (0, ((a + j : Nat) : Int)), l3] [] (gk_R, M', 158, cc, cs) Q) (qK G - 1 - a) (fun j hj ih M' hM h2' hv ho l3 => ?_) (fun M' hM h2' hv ho l3 => ?_) (gg_up M 143 2 ((qK G - 1 : Nat) : Int)) (fun r hr => gu_n hr) gu_e (fun b hb => ?_) (fun p hp _ => gu_s hp) _
  · have hlt : (a + j) + 1 < qK G := by omega
    obtain ⟨w1, w2, w3, w4⟩ := hv (a + j + 1) hlt
    rw [if_neg (by omega)] at w1 w2 w3 w4
    have ov : ∀ {α : Type} (f : Nat → α), qov f a (a + j) = f (a + j + 1) := fun f => if_neg (by omega)
    have e8 : ((a + (j + 1) : Nat) : Int) = ((a + j : Nat) : Int) + 1 := by omega
    have e9 : a + (j + 1) = (a + j) + 1 := by omega
    simp only [e8, e9] at ih
    rw [wi_271_12]
    generalize hkk : a + j = kk at *
    have hltI : (kk : Int) < ((qK G - 1 : Nat) : Int) := by omega
    have t1 : ((9 : Int) + (kk : Int) + 1).toNat = 9 + (kk + 1) := by omega
    have t2 : ((21 : Int) + (kk : Int) + 1).toNat = 21 + (kk + 1) := by omega
    have t3 : ((33 : Int) + (kk : Int) + 1).toNat = 33 + (kk + 1) := by omega
    have t4 : ((45 : Int) + (kk : Int) + 1).toNat = 45 + (kk + 1) := by omega
    simp (disch := first | assumption | omega | exact il_cqA _ _ | exact il_cqB _ _) only [wi_271_0, wi_271_1, wi_271_4, wi_271_5, wi_271_6, wi_271_7, wi_271_8, wi_271_9, wi_271_10, wi_271_11, wi_271_13, wi_271_14, wi_271_17, wi_271_18, wi_271_19, wi_271_22, wi_271_24, wi_271_26, wi_271_28, wi_271_31, wi_271_32, wi_271_35, wi_271_36, wi_271_37, wi_271_38, wi_271_39, wi_271_42, wi_271_43, wi_271_44, wi_271_45, wi_271_46, wi_271_47, wi_271_48, wi_271_49, wi_271_52, wi_271_55, wi_271_58, wi_271_61, wi_271_62, wi_271_65, wi_271_66, wi_271_67, wi_271_68, wi_271_69, wi_271_70, wi_271_71, wi_271_72, wi_271_73, wi_271_74, wi_271_75, wi_271_78, wi_271_79, wi_271_80, wi_271_81, wi_271_84, wi_271_85, wi_271_86, wi_271_87, wi_271_88, wi_271_89, wi_271_90, wi_271_91, wi_271_92, wi_271_93, wi_271_94, io_add_o, io_sub_o, io_mul_o, io_neg_o, io_and_r, io_or_r, io_xor_r, io_nd_r, io_shr_r, io_shl1, io_i2b_r, io_i2l_o, io_l2i_o, il_add_o, il_sub_o, il_mul_o, il_neg_o, ib_bit, Int.toNat_natCast, true_implies, false_implies, implies_true, and_true, true_and, and_self, not_true_eq_false, not_false_eq_true, wa_0, wa_1, il_cmp_o, il_cmp0, il_cmp1, il_cmp2, io_bit1, ibt0, ibt1, ibt00, ibt11, ibt10, ibt01, Int.ofNat_lt, Int.ofNat_le, Int.ofNat_inj, Nat.lt_irrefl, Int.lt_irrefl, Int.toNat_one, Int.toNat_zero, Bool.false_eq_true, reduceIte, reduceCtorEq, Nat.reduceAdd, Nat.reduceMul, Nat.reduceSub, Nat.reduceLT, Nat.reduceLeDiff, Nat.reduceEqDiff, Int.reduceNeg, Int.reduceAdd, Int.reduceMul, Int.reduceSub, Int.reduceLT, Int.reduceLE, Int.reduceEq, Int.reduceToNat, Int.reduceNatCast, icl, ico, inz, h2', hltI]
    rw [wi_271_25]
    simp (disch := first | assumption | omega | exact il_cqA _ _ | exact il_cqB _ _) only [wi_271_0, wi_271_1, wi_271_4, wi_271_5, wi_271_6, wi_271_7, wi_271_8, wi_271_9, wi_271_10, wi_271_11, wi_271_13, wi_271_14, wi_271_17, wi_271_18, wi_271_19, wi_271_22, wi_271_24, wi_271_26, wi_271_28, wi_271_31, wi_271_32, wi_271_35, wi_271_36, wi_271_37, wi_271_38, wi_271_39, wi_271_42, wi_271_43, wi_271_44, wi_271_45, wi_271_46, wi_271_47, wi_271_48, wi_271_49, wi_271_52, wi_271_55, wi_271_58, wi_271_61, wi_271_62, wi_271_65, wi_271_66, wi_271_67, wi_271_68, wi_271_69, wi_271_70, wi_271_71, wi_271_72, wi_271_73, wi_271_74, wi_271_75, wi_271_78, wi_271_79, wi_271_80, wi_271_81, wi_271_84, wi_271_85, wi_271_86, wi_271_87, wi_271_88, wi_271_89, wi_271_90, wi_271_91, wi_271_92, wi_271_93, wi_271_94, io_add_o, io_sub_o, io_mul_o, io_neg_o, io_and_r, io_or_r, io_xor_r, io_nd_r, io_shr_r, io_shl1, io_i2b_r, io_i2l_o, io_l2i_o, il_add_o, il_sub_o, il_mul_o, il_neg_o, ib_bit, Int.toNat_natCast, true_implies, false_implies, implies_true, and_true, true_and, and_self, not_true_eq_false, not_false_eq_true, wa_0, wa_1, il_cmp_o, il_cmp0, il_cmp1, il_cmp2, io_bit1, ibt0, ibt1, ibt00, ibt11, ibt10, ibt01, Int.ofNat_lt, Int.ofNat_le, Int.ofNat_inj, Nat.lt_irrefl, Int.lt_irrefl, Int.toNat_one, Int.toNat_zero, Bool.false_eq_true, reduceIte, reduceCtorEq, Nat.reduceAdd, Nat.reduceMul, Nat.reduceSub, Nat.reduceLT, Nat.reduceLeDiff, Nat.reduceEqDiff, Int.reduceNeg, Int.reduceAdd, Int.reduceMul, Int.reduceSub, Int.reduceLT, Int.reduceLE, Int.reduceEq, Int.reduceToNat, Int.reduceNatCast, icl, ico, inz, it9, t1, w1]
    rw [wi_271_25]
    simp (disch := first | assumption | omega | exact il_cqA _ _ | exact il_cqB _ _) only [wi_271_0, wi_271_1, wi_271_4, wi_271_5, wi_271_6, wi_271_7, wi_271_8, wi_271_9, wi_271_10, wi_271_11, wi_271_13, wi_271_14, wi_271_17, wi_271_18, wi_271_19, wi_271_22, wi_271_24, wi_271_26, wi_271_28, wi_271_31, wi_271_32, wi_271_35, wi_271_36, wi_271_37, wi_271_38, wi_271_39, wi_271_42, wi_271_43, wi_271_44, wi_271_45, wi_271_46, wi_271_47, wi_271_48, wi_271_49, wi_271_52, wi_271_55, wi_271_58, wi_271_61, wi_271_62, wi_271_65, wi_271_66, wi_271_67, wi_271_68, wi_271_69, wi_271_70, wi_271_71, wi_271_72, wi_271_73, wi_271_74, wi_271_75, wi_271_78, wi_271_79, wi_271_80, wi_271_81, wi_271_84, wi_271_85, wi_271_86, wi_271_87, wi_271_88, wi_271_89, wi_271_90, wi_271_91, wi_271_92, wi_271_93, wi_271_94, io_add_o, io_sub_o, io_mul_o, io_neg_o, io_and_r, io_or_r, io_xor_r, io_nd_r, io_shr_r, io_shl1, io_i2b_r, io_i2l_o, io_l2i_o, il_add_o, il_sub_o, il_mul_o, il_neg_o, ib_bit, Int.toNat_natCast, true_implies, false_implies, implies_true, and_true, true_and, and_self, not_true_eq_false, not_false_eq_true, wa_0, wa_1, il_cmp_o, il_cmp0, il_cmp1, il_cmp2, io_bit1, ibt0, ibt1, ibt00, ibt11, ibt10, ibt01, Int.ofNat_lt, Int.ofNat_le, Int.ofNat_inj, Nat.lt_irrefl, Int.lt_irrefl, Int.toNat_one, Int.toNat_zero, Bool.false_eq_true, reduceIte, reduceCtorEq, Nat.reduceAdd, Nat.reduceMul, Nat.reduceSub, Nat.reduceLT, Nat.reduceLeDiff, Nat.reduceEqDiff, Int.reduceNeg, Int.reduceAdd, Int.reduceMul, Int.reduceSub, Int.reduceLT, Int.reduceLE, Int.reduceEq, Int.reduceToNat, Int.reduceNatCast, icl, ico, inz, it21, t2, gu_s, w2]
    rw [wi_271_25]
    simp (disch := first | assumption | omega | exact il_cqA _ _ | exact il_cqB _ _) only [wi_271_0, wi_271_1, wi_271_4, wi_271_5, wi_271_6, wi_271_7, wi_271_8, wi_271_9, wi_271_10, wi_271_11, wi_271_13, wi_271_14, wi_271_17, wi_271_18, wi_271_19, wi_271_22, wi_271_24, wi_271_26, wi_271_28, wi_271_31, wi_271_32, wi_271_35, wi_271_36, wi_271_37, wi_271_38, wi_271_39, wi_271_42, wi_271_43, wi_271_44, wi_271_45, wi_271_46, wi_271_47, wi_271_48, wi_271_49, wi_271_52, wi_271_55, wi_271_58, wi_271_61, wi_271_62, wi_271_65, wi_271_66, wi_271_67, wi_271_68, wi_271_69, wi_271_70, wi_271_71, wi_271_72, wi_271_73, wi_271_74, wi_271_75, wi_271_78, wi_271_79, wi_271_80, wi_271_81, wi_271_84, wi_271_85, wi_271_86, wi_271_87, wi_271_88, wi_271_89, wi_271_90, wi_271_91, wi_271_92, wi_271_93, wi_271_94, io_add_o, io_sub_o, io_mul_o, io_neg_o, io_and_r, io_or_r, io_xor_r, io_nd_r, io_shr_r, io_shl1, io_i2b_r, io_i2l_o, io_l2i_o, il_add_o, il_sub_o, il_mul_o, il_neg_o, ib_bit, Int.toNat_natCast, true_implies, false_implies, implies_true, and_true, true_and, and_self, not_true_eq_false, not_false_eq_true, wa_0, wa_1, il_cmp_o, il_cmp0, il_cmp1, il_cmp2, io_bit1, ibt0, ibt1, ibt00, ibt11, ibt10, ibt01, Int.ofNat_lt, Int.ofNat_le, Int.ofNat_inj, Nat.lt_irrefl, Int.lt_irrefl, Int.toNat_one, Int.toNat_zero, Bool.false_eq_true, reduceIte, reduceCtorEq, Nat.reduceAdd, Nat.reduceMul, Nat.reduceSub, Nat.reduceLT, Nat.reduceLeDiff, Nat.reduceEqDiff, Int.reduceNeg, Int.reduceAdd, Int.reduceMul, Int.reduceSub, Int.reduceLT, Int.reduceLE, Int.reduceEq, Int.reduceToNat, Int.reduceNatCast, icl, ico, inz, it33, t3, gu_s, w3]
    rw [wi_271_25]
    simp (disch := first | assumption | omega | exact il_cqA _ _ | exact il_cqB _ _) only [wi_271_0, wi_271_1, wi_271_4, wi_271_5, wi_271_6, wi_271_7, wi_271_8, wi_271_9, wi_271_10, wi_271_11, wi_271_13, wi_271_14, wi_271_17, wi_271_18, wi_271_19, wi_271_22, wi_271_24, wi_271_26, wi_271_28, wi_271_31, wi_271_32, wi_271_35, wi_271_36, wi_271_37, wi_271_38, wi_271_39, wi_271_42, wi_271_43, wi_271_44, wi_271_45, wi_271_46, wi_271_47, wi_271_48, wi_271_49, wi_271_52, wi_271_55, wi_271_58, wi_271_61, wi_271_62, wi_271_65, wi_271_66, wi_271_67, wi_271_68, wi_271_69, wi_271_70, wi_271_71, wi_271_72, wi_271_73, wi_271_74, wi_271_75, wi_271_78, wi_271_79, wi_271_80, wi_271_81, wi_271_84, wi_271_85, wi_271_86, wi_271_87, wi_271_88, wi_271_89, wi_271_90, wi_271_91, wi_271_92, wi_271_93, wi_271_94, io_add_o, io_sub_o, io_mul_o, io_neg_o, io_and_r, io_or_r, io_xor_r, io_nd_r, io_shr_r, io_shl1, io_i2b_r, io_i2l_o, io_l2i_o, il_add_o, il_sub_o, il_mul_o, il_neg_o, ib_bit, Int.toNat_natCast, true_implies, false_implies, implies_true, and_true, true_and, and_self, not_true_eq_false, not_false_eq_true, wa_0, wa_1, il_cmp_o, il_cmp0, il_cmp1, il_cmp2, io_bit1, ibt0, ibt1, ibt00, ibt11, ibt10, ibt01, Int.ofNat_lt, Int.ofNat_le, Int.ofNat_inj, Nat.lt_irrefl, Int.lt_irrefl, Int.toNat_one, Int.toNat_zero, Bool.false_eq_true, reduceIte, reduceCtorEq, Nat.reduceAdd, Nat.reduceMul, Nat.reduceSub, Nat.reduceLT, Nat.reduceLeDiff, Nat.reduceEqDiff, Int.reduceNeg, Int.reduceAdd, Int.reduceMul, Int.reduceSub, Int.reduceLT, Int.reduceLE, Int.reduceEq, Int.reduceToNat, Int.reduceNatCast, icl, ico, inz, it45, t4, gu_s, w4]
    rw [wi_271_25]
    simp (disch := first | assumption | omega | exact il_cqA _ _ | exact il_cqB _ _) only [wi_271_0, wi_271_1, wi_271_4, wi_271_5, wi_271_6, wi_271_7, wi_271_8, wi_271_9, wi_271_10, wi_271_11, wi_271_13, wi_271_14, wi_271_17, wi_271_18, wi_271_19, wi_271_22, wi_271_24, wi_271_26, wi_271_28, wi_271_31, wi_271_32, wi_271_35, wi_271_36, wi_271_37, wi_271_38, wi_271_39, wi_271_42, wi_271_43, wi_271_44, wi_271_45, wi_271_46, wi_271_47, wi_271_48, wi_271_49, wi_271_52, wi_271_55, wi_271_58, wi_271_61, wi_271_62, wi_271_65, wi_271_66, wi_271_67, wi_271_68, wi_271_69, wi_271_70, wi_271_71, wi_271_72, wi_271_73, wi_271_74, wi_271_75, wi_271_78, wi_271_79, wi_271_80, wi_271_81, wi_271_84, wi_271_85, wi_271_86, wi_271_87, wi_271_88, wi_271_89, wi_271_90, wi_271_91, wi_271_92, wi_271_93, wi_271_94, io_add_o, io_sub_o, io_mul_o, io_neg_o, io_and_r, io_or_r, io_xor_r, io_nd_r, io_shr_r, io_shl1, io_i2b_r, io_i2l_o, io_l2i_o, il_add_o, il_sub_o, il_mul_o, il_neg_o, ib_bit, Int.toNat_natCast, true_implies, false_implies, implies_true, and_true, true_and, and_self, not_true_eq_false, not_false_eq_true, wa_0, wa_1, il_cmp_o, il_cmp0, il_cmp1, il_cmp2, io_bit1, ibt0, ibt1, ibt00, ibt11, ibt10, ibt01, Int.ofNat_lt, Int.ofNat_le, Int.ofNat_inj, Nat.lt_irrefl, Int.lt_irrefl, Int.toNat_one, Int.toNat_zero, Bool.false_eq_true, reduceIte, reduceCtorEq, Nat.reduceAdd, Nat.reduceMul, Nat.reduceSub, Nat.reduceLT, Nat.reduceLeDiff, Nat.reduceEqDiff, Int.reduceNeg, Int.reduceAdd, Int.reduceMul, Int.reduceSub, Int.reduceLT, Int.reduceLE, Int.reduceEq, Int.reduceToNat, Int.reduceNatCast, icl, ico, inz]
    refine ih _ (fun r hr => by rw [gu_n hr, gu_n hr, gu_n hr, gu_n hr, hM r hr]) (by rw [gu_s (by omega), gu_s (by omega), gu_s (by omega), gu_s (by omega)]; exact h2') (fun b hb => ?_) (fun p hp hp2 => ?_) _
    · obtain ⟨v1, v2, v3, v4⟩ := hv b hb
      have hk12 : kk < 12 := by omega
      by_cases e : b = kk
      · subst e
        rw [gu_s (by omega), gu_s (by omega), gu_s (by omega), gu_e, gu_s (by omega), gu_s (by omega), gu_e, gu_s (by omega), gu_e, gu_e, if_pos (by omega), if_pos (by omega), if_pos (by omega), if_pos (by omega), ov, ov, ov, ov]
        exact ⟨rfl, rfl, rfl, rfl⟩
      · have r1 : ∀ p, p ≠ 9 + kk → p ≠ 21 + kk → p ≠ 33 + kk → p ≠ 45 + kk → gg_up (gg_up (gg_up (gg_up M' 143 (9 + kk) (qF G (kk + 1) : Int)) 143 (21 + kk) (qT G (kk + 1) : Int)) 143 (33 + kk) (qA G (kk + 1) : Int)) 143 (45 + kk) (qW G (kk + 1) : Int) 143 p = M' 143 p := fun p p1 p2 p3 p4 => by rw [gu_s p4, gu_s p3, gu_s p2, gu_s p1]
        rw [r1 _ (by omega) (by omega) (by omega) (by omega), r1 _ (by omega) (by omega) (by omega) (by omega), r1 _ (by omega) (by omega) (by omega) (by omega), r1 _ (by omega) (by omega) (by omega) (by omega)]
        by_cases e2 : b < kk
        · rw [if_pos e2] at v1 v2 v3 v4
          rw [if_pos (by omega), if_pos (by omega), if_pos (by omega), if_pos (by omega)]
          exact ⟨v1, v2, v3, v4⟩
        · rw [if_neg e2] at v1 v2 v3 v4
          rw [if_neg (by omega), if_neg (by omega), if_neg (by omega), if_neg (by omega)]
          exact ⟨v1, v2, v3, v4⟩
    · rw [gu_s (by omega), gu_s (by omega), gu_s (by omega), gu_s (by omega)]
      exact ho p hp hp2
  · have hkk : a + (qK G - 1 - a) = qK G - 1 := by omega
    rw [hkk] at hv ⊢
    have x1 : 2 ^ a ≤ 2 ^ 11 := Nat.pow_le_pow_right (by decide) (by omega)
    have x1p : 1 ≤ 2 ^ a := Nat.one_le_two_pow
    have x2 : 2 ^ qK G ≤ 2 ^ 12 := Nat.pow_le_pow_right (by decide) k5
    have e1 : ((2 ^ a : Nat) : Int) - 1 = ((2 ^ a - 1 : Nat) : Int) := by omega
    have e2 := mdrop_S ha k6
    have y3 : M' 143 3 = (qS G : Int) := by rw [ho 3 (by decide) (by decide)]; exact h4
    have z1 : (qS G >>> (a + 1)) <<< a ≤ qS G := by
      rw [Nat.shiftRight_eq_div_pow, Nat.shiftLeft_eq, Nat.pow_succ, ← Nat.div_div_eq_div_mul, Nat.div_div_eq_div_mul, Nat.mul_comm (2 ^ a) 2, ← Nat.div_div_eq_div_mul]
      exact Nat.le_trans (Nat.div_mul_le_self _ _) (Nat.div_le_self _ _)
    have z2 : qS G >>> (a + 1) ≤ qS G := by
      rw [Nat.shiftRight_eq_div_pow]
      exact Nat.div_le_self _ _
    have z4 : qS G &&& (2 ^ a - 1) ≤ qS G := Nat.and_le_left
    obtain ⟨y, hy⟩ : ∃ y, qS G >>> (a + 1) = y := ⟨_, rfl⟩
    rw [hy] at z1 z2 e2
    obtain ⟨z, hz⟩ : ∃ z, y <<< a = z := ⟨_, rfl⟩
    rw [hz] at z1 e2
    have z3 : io_shl (y : Int) (a : Int) = (z : Int) := by
      rw [io_shl_r (by omega) (by omega) (by omega) (by omega) (by rw [Int.toNat_natCast, Int.toNat_natCast, hz]; omega), Int.toNat_natCast, Int.toNat_natCast, hz]
    rw [wi_271_12]
    simp (disch := first | assumption | omega | exact il_cqA _ _ | exact il_cqB _ _) only [wi_271_0, wi_271_1, wi_271_4, wi_271_5, wi_271_6, wi_271_7, wi_271_8, wi_271_9, wi_271_10, wi_271_11, wi_271_13, wi_271_14, wi_271_17, wi_271_18, wi_271_19, wi_271_22, wi_271_24, wi_271_26, wi_271_28, wi_271_31, wi_271_32, wi_271_35, wi_271_36, wi_271_37, wi_271_38, wi_271_39, wi_271_42, wi_271_43, wi_271_44, wi_271_45, wi_271_46, wi_271_47, wi_271_48, wi_271_49, wi_271_52, wi_271_55, wi_271_58, wi_271_61, wi_271_62, wi_271_65, wi_271_66, wi_271_67, wi_271_68, wi_271_69, wi_271_70, wi_271_71, wi_271_72, wi_271_73, wi_271_74, wi_271_75, wi_271_78, wi_271_79, wi_271_80, wi_271_81, wi_271_84, wi_271_85, wi_271_86, wi_271_87, wi_271_88, wi_271_89, wi_271_90, wi_271_91, wi_271_92, wi_271_93, wi_271_94, io_add_o, io_sub_o, io_mul_o, io_neg_o, io_and_r, io_or_r, io_xor_r, io_nd_r, io_shr_r, io_shl1, io_i2b_r, io_i2l_o, io_l2i_o, il_add_o, il_sub_o, il_mul_o, il_neg_o, ib_bit, Int.toNat_natCast, true_implies, false_implies, implies_true, and_true, true_and, and_self, not_true_eq_false, not_false_eq_true, wa_0, wa_1, il_cmp_o, il_cmp0, il_cmp1, il_cmp2, io_bit1, ibt0, ibt1, ibt00, ibt11, ibt10, ibt01, Int.ofNat_lt, Int.ofNat_le, Int.ofNat_inj, Nat.lt_irrefl, Int.lt_irrefl, Int.toNat_one, Int.toNat_zero, Bool.false_eq_true, reduceIte, reduceCtorEq, Nat.reduceAdd, Nat.reduceMul, Nat.reduceSub, Nat.reduceLT, Nat.reduceLeDiff, Nat.reduceEqDiff, Int.reduceNeg, Int.reduceAdd, Int.reduceMul, Int.reduceSub, Int.reduceLT, Int.reduceLE, Int.reduceEq, Int.reduceToNat, Int.reduceNatCast, icl, ico, inz, h2', y3, e1, it1, hy, z3, e2]
    refine hQ _ (fun r hr => by rw [gu_n hr, hM r hr]) ⟨⟨?_, ?_, ?_, ?_, ?_⟩, fun b hb => ?_, fun b hb => ?_, fun b hb => ?_, fun b hb => ?_, fun v hv' => ?_, fun t ht => ?_⟩
    · rw [gu_s (by decide), ho 0 (by decide) (by decide)]; exact h1
    · rw [gu_s (by decide), ho 1 (by decide) (by decide)]; exact h2
    · rw [gu_s (by decide), h2']; rfl
    · rw [gu_e]; rfl
    · rw [gu_s (by decide), ho 4 (by decide) (by decide)]; exact h5
    · have hb' : b < qK G - 1 := hb
      rw [gu_s (by omega), (hv b (by omega)).1, if_pos hb']
      rfl
    · have hb' : b < qK G - 1 := hb
      rw [gu_s (by omega), (hv b (by omega)).2.1, if_pos hb']
      rfl
    · have hb' : b < qK G - 1 := hb
      rw [gu_s (by omega), (hv b (by omega)).2.2.1, if_pos hb']
      rfl
    · have hb' : b < qK G - 1 := hb
      rw [gu_s (by omega), (hv b (by omega)).2.2.2, if_pos hb']
      rfl
    · rw [gu_s (by omega), ho (57 + v) (by omega) (by omega)]
      exact hPa v hv'
    · rw [gu_s (by omega), ho (5 + t) (by omega) (by omega)]
      exact hO t ht
  · have ov : ∀ f : Nat → Nat, (if b < a + 0 then qov f a b else f b) = f b := fun f => by
      split
      · exact if_pos (by omega)
      · rfl
    rw [ov, ov, ov, ov, gu_s (by omega), gu_s (by omega), gu_s (by omega), gu_s (by omega)]
    exact ⟨hF b hb, hT b hb, hA b hb, hW b hb⟩
theorem wp_mswitches (hG : q_ok G) (hR : q_R (M 143) G) {v b : Nat} (hv : v < qN G) (hb : b < qM G) (hQ : ∀ M' : gg_M, (∀ j, j ≠ 143 → M' j = M j) → q_R (M' 143) (qsw G v b) → Q ((1, (0, (qcnt (qswc G v b) (qK G) : Int))), (gk_R, M', 158, cc, cs))) :
    wp N xs (d + 1) 277 0 [gr 142, (0, (v : Int)), (0, (b : Int)), (3, 0), (3, 0), (3, 0)] [] (gk_R, M, 158, cc, cs) Q := by
  obtain ⟨⟨h1, h2, h3, h4, h5⟩, hF, hT, hA, hW, hPa, hO⟩ := id hR
  obtain ⟨⟨k1, k2, k3, k4, k5, k6, k7, k8⟩, hk, hp, hp2⟩ := id hG
  have m0 : (0 : Int) % (qM G : Int) = 0 := Int.zero_emod _
  have mb : (b : Int) % (qM G : Int) = (b : Int) := Int.emod_eq_of_lt (by omega) (by omega)
  have mn : ((0 : Int) - (b : Int)) % (qM G : Int) = (qmi (qM G) 0 b : Int) := em_mi (a := 0) (by omega) hb
  have qn := qmi_lt (m := qM G) (a := 0) (by omega) hb
  have q0 : qmi (qM G) 0 b = 0 ↔ b = 0 := qmi_eq (by omega) hb
  simp (disch := first | assumption | omega | exact il_cqA _ _ | exact il_cqB _ _) only [wi_277_0, wi_277_1, wi_277_2, wi_277_3, wi_277_7, wi_277_8, wi_277_11, wi_277_12, wi_277_13, wi_277_16, wi_277_17, wi_277_20, wi_277_22, wi_277_24, wi_277_25, wi_277_26, wi_277_27, wi_277_30, wi_277_31, wi_277_34, wi_277_35, wi_277_36, wi_277_39, wi_277_41, wi_277_43, wi_277_44, wi_277_45, wi_277_46, wi_277_49, wi_277_50, wi_277_53, wi_277_54, wi_277_55, wi_277_57, wi_277_58, wi_277_59, wi_277_61, wi_277_64, wi_277_67, wi_277_68, wi_277_71, wi_277_72, wi_277_73, wi_277_74, wi_277_75, wi_277_78, wi_277_80, wi_277_82, wi_277_83, wi_277_84, wi_277_85, wi_277_88, wi_277_90, wi_277_92, wi_277_93, wi_277_94, wi_277_96, wi_277_97, wi_277_100, wi_277_101, wi_277_104, wi_277_107, wi_277_108, wi_277_111, wi_277_113, wi_277_114, wi_277_115, wi_277_116, wi_277_118, wi_277_120, wi_277_123, wi_277_125, wi_277_126, wi_277_127, wi_277_128, wi_277_131, wi_277_132, wi_277_133, wi_277_134, wi_277_136, wi_277_137, wi_277_140, wi_277_142, wi_277_143, wi_277_144, wi_277_146, wi_277_148, wi_277_149, wi_277_150, wi_277_152, wi_277_153, wi_277_154, wi_277_157, wi_277_158, wi_277_159, wi_277_160, io_add_o, io_sub_o, io_mul_o, io_neg_o, io_and_r, io_or_r, io_xor_r, io_nd_r, io_shr_r, io_shl1, io_i2b_r, io_i2l_o, io_l2i_o, il_add_o, il_sub_o, il_mul_o, il_neg_o, ib_bit, Int.toNat_natCast, true_implies, false_implies, implies_true, and_true, true_and, and_self, not_true_eq_false, not_false_eq_true, wa_0, wa_1, il_cmp_o, il_cmp0, il_cmp1, il_cmp2, io_bit1, ibt0, ibt1, ibt00, ibt11, ibt10, ibt01, Int.ofNat_lt, Int.ofNat_le, Int.ofNat_inj, Nat.lt_irrefl, Int.lt_irrefl, Int.toNat_one, Int.toNat_zero, Bool.false_eq_true, reduceIte, reduceCtorEq, Nat.reduceAdd, Nat.reduceMul, Nat.reduceSub, Nat.reduceLT, Nat.reduceLeDiff, Nat.reduceEqDiff, Int.reduceNeg, Int.reduceAdd, Int.reduceMul, Int.reduceSub, Int.reduceLT, Int.reduceLE, Int.reduceEq, Int.reduceToNat, Int.reduceNatCast, icl, ico, inz]
  refine wl_i (P := fun i I => ∀ M' : gg_M, (∀ r, r ≠ 143 → M' r = M r) → (∀ a, a < qK G → M' 143 (33 + a) = ((if a < i then qswg G v b a else qA G a : Nat) : Int)) → (∀ p, p < 33 ∨ 45 ≤ p → M' 143 p = M 143 p) → ∀ l5 : gg_V, wp N xs (d + 1) 277 5 [gr 142, (0, (v : Int)), (0, (b : Int)), (0, (qcnt (qswc G v b) i : Int)), (0, I), l5] [] (gk_R, M', 158, cc, cs) Q) (qK G) (fun i hi ih M' hM ha ho l5 => ?_) (fun M' hM ha ho l5 => ?_) M (fun _ _ => rfl) (fun a ha => by rw [if_neg (Nat.not_lt_zero a)]; exact hA a ha) (fun _ _ => rfl) _
  · obtain ⟨a1, a2, a3, _⟩ := hk i hi
    have hF : M' 143 (9 + i) = (qF G i : Int) := by rw [ho _ (by omega)]; exact hF i hi
    have hT : M' 143 (21 + i) = (qT G i : Int) := by rw [ho _ (by omega)]; exact hT i hi
    have hAi := ha i hi
    rw [if_neg (Nat.lt_irrefl i)] at hAi
    have hm' : M' 143 1 = (qM G : Int) := by rw [ho 1 (by decide)]; exact h2
    have hk' : M' 143 2 = (qK G : Int) := by rw [ho 2 (by decide)]; exact h3
    have hl := qcnt_le (qswc G v b) i
    have mA : (qA G i : Int) % (qM G : Int) = (qA G i : Int) := Int.emod_eq_of_lt (by omega) (by omega)
    have mpl := em_pl a3 hb
    have mmi : ((qA G i : Int) + (0 - (b : Int))) % (qM G : Int) = (qmi (qM G) (qA G i) b : Int) := by
      rw [← em_mi a3 hb]
      congr 1
      omega
    have hnew : ∀ x : Nat, x = qswg G v b i → ∀ l5 : gg_V, wp N xs (d + 1) 277 5 [gr 142, (0, (v : Int)), (0, (b : Int)), (0, ((qcnt (qswc G v b) i + (qswc G v b i).toNat : Nat) : Int)), (0, (i : Int) + 1), l5] [] (gk_R, gg_up M' 143 (33 + i) (x : Int), 158, cc, cs) Q := fun x hx => ih _ (fun r hr => by rw [gu_n hr, hM r hr]) (fun a ha' => by
      by_cases e : a = i
      · subst e
        rw [gu_e, if_pos (by omega), hx]
      · rw [gu_s (by omega), ha a ha']
        by_cases e3 : a < i
        · rw [if_pos e3, if_pos (by omega)]
        · rw [if_neg e3, if_neg (by omega)]) (fun p hp => by rw [gu_s (by omega), ho p hp])
    rw [wi_277_5]
    by_cases eL : qF G i = qT G i
    · have hs1 : qA G i = qswg G v b i := (if_pos eL).symm
      have hs2 : qswc G v b i = false := by
        unfold qswc
        rw [decide_eq_false (fun h => h eL)]
        rfl
      have hn := hnew _ hs1
      rw [hs2] at hn
      by_cases eT : qT G i = v
      · simp (disch := first | assumption | omega | exact il_cqA _ _ | exact il_cqB _ _) only [wi_277_0, wi_277_1, wi_277_2, wi_277_3, wi_277_7, wi_277_8, wi_277_11, wi_277_12, wi_277_13, wi_277_16, wi_277_17, wi_277_20, wi_277_22, wi_277_24, wi_277_25, wi_277_26, wi_277_27, wi_277_30, wi_277_31, wi_277_34, wi_277_35, wi_277_36, wi_277_39, wi_277_41, wi_277_43, wi_277_44, wi_277_45, wi_277_46, wi_277_49, wi_277_50, wi_277_53, wi_277_54, wi_277_55, wi_277_57, wi_277_58, wi_277_59, wi_277_61, wi_277_64, wi_277_67, wi_277_68, wi_277_71, wi_277_72, wi_277_73, wi_277_74, wi_277_75, wi_277_78, wi_277_80, wi_277_82, wi_277_83, wi_277_84, wi_277_85, wi_277_88, wi_277_90, wi_277_92, wi_277_93, wi_277_94, wi_277_96, wi_277_97, wi_277_100, wi_277_101, wi_277_104, wi_277_107, wi_277_108, wi_277_111, wi_277_113, wi_277_114, wi_277_115, wi_277_116, wi_277_118, wi_277_120, wi_277_123, wi_277_125, wi_277_126, wi_277_127, wi_277_128, wi_277_131, wi_277_132, wi_277_133, wi_277_134, wi_277_136, wi_277_137, wi_277_140, wi_277_142, wi_277_143, wi_277_144, wi_277_146, wi_277_148, wi_277_149, wi_277_150, wi_277_152, wi_277_153, wi_277_154, wi_277_157, wi_277_158, wi_277_159, wi_277_160, io_add_o, io_sub_o, io_mul_o, io_neg_o, io_and_r, io_or_r, io_xor_r, io_nd_r, io_shr_r, io_shl1, io_i2b_r, io_i2l_o, io_l2i_o, il_add_o, il_sub_o, il_mul_o, il_neg_o, ib_bit, Int.toNat_natCast, true_implies, false_implies, implies_true, and_true, true_and, and_self, not_true_eq_false, not_false_eq_true, wa_0, wa_1, il_cmp_o, il_cmp0, il_cmp1, il_cmp2, io_bit1, ibt0, ibt1, ibt00, ibt11, ibt10, ibt01, Int.ofNat_lt, Int.ofNat_le, Int.ofNat_inj, Nat.lt_irrefl, Int.lt_irrefl, Int.toNat_one, Int.toNat_zero, Bool.false_eq_true, reduceIte, reduceCtorEq, Nat.reduceAdd, Nat.reduceMul, Nat.reduceSub, Nat.reduceLT, Nat.reduceLeDiff, Nat.reduceEqDiff, Int.reduceNeg, Int.reduceAdd, Int.reduceMul, Int.reduceSub, Int.reduceLT, Int.reduceLE, Int.reduceEq, Int.reduceToNat, Int.reduceNatCast, icl, ico, inz, hi, hk', it9, it21, it33, hF, hT, eL, eT, hAi, Int.sub_self, Int.add_zero, wp_rest (M := M') hm' k3 k4, m0, mA]
        exact hn _
      · simp (disch := first | assumption | omega | exact il_cqA _ _ | exact il_cqB _ _) only [wi_277_0, wi_277_1, wi_277_2, wi_277_3, wi_277_7, wi_277_8, wi_277_11, wi_277_12, wi_277_13, wi_277_16, wi_277_17, wi_277_20, wi_277_22, wi_277_24, wi_277_25, wi_277_26, wi_277_27, wi_277_30, wi_277_31, wi_277_34, wi_277_35, wi_277_36, wi_277_39, wi_277_41, wi_277_43, wi_277_44, wi_277_45, wi_277_46, wi_277_49, wi_277_50, wi_277_53, wi_277_54, wi_277_55, wi_277_57, wi_277_58, wi_277_59, wi_277_61, wi_277_64, wi_277_67, wi_277_68, wi_277_71, wi_277_72, wi_277_73, wi_277_74, wi_277_75, wi_277_78, wi_277_80, wi_277_82, wi_277_83, wi_277_84, wi_277_85, wi_277_88, wi_277_90, wi_277_92, wi_277_93, wi_277_94, wi_277_96, wi_277_97, wi_277_100, wi_277_101, wi_277_104, wi_277_107, wi_277_108, wi_277_111, wi_277_113, wi_277_114, wi_277_115, wi_277_116, wi_277_118, wi_277_120, wi_277_123, wi_277_125, wi_277_126, wi_277_127, wi_277_128, wi_277_131, wi_277_132, wi_277_133, wi_277_134, wi_277_136, wi_277_137, wi_277_140, wi_277_142, wi_277_143, wi_277_144, wi_277_146, wi_277_148, wi_277_149, wi_277_150, wi_277_152, wi_277_153, wi_277_154, wi_277_157, wi_277_158, wi_277_159, wi_277_160, io_add_o, io_sub_o, io_mul_o, io_neg_o, io_and_r, io_or_r, io_xor_r, io_nd_r, io_shr_r, io_shl1, io_i2b_r, io_i2l_o, io_l2i_o, il_add_o, il_sub_o, il_mul_o, il_neg_o, ib_bit, Int.toNat_natCast, true_implies, false_implies, implies_true, and_true, true_and, and_self, not_true_eq_false, not_false_eq_true, wa_0, wa_1, il_cmp_o, il_cmp0, il_cmp1, il_cmp2, io_bit1, ibt0, ibt1, ibt00, ibt11, ibt10, ibt01, Int.ofNat_lt, Int.ofNat_le, Int.ofNat_inj, Nat.lt_irrefl, Int.lt_irrefl, Int.toNat_one, Int.toNat_zero, Bool.false_eq_true, reduceIte, reduceCtorEq, Nat.reduceAdd, Nat.reduceMul, Nat.reduceSub, Nat.reduceLT, Nat.reduceLeDiff, Nat.reduceEqDiff, Int.reduceNeg, Int.reduceAdd, Int.reduceMul, Int.reduceSub, Int.reduceLT, Int.reduceLE, Int.reduceEq, Int.reduceToNat, Int.reduceNatCast, icl, ico, inz, hi, hk', it9, it21, it33, hF, hT, eL, eT, hAi, Int.sub_self, Int.add_zero, wp_rest (M := M') hm' k3 k4, m0, mA]
        exact hn _
    · by_cases eT : qT G i = v
      · have eF : ¬ qF G i = v := fun h => eL (h.trans eT.symm)
        have hs1 : qpl (qM G) (qA G i) b = qswg G v b i := by
          unfold qswg
          rw [if_neg eL, if_pos eT]
        have hn := hnew _ hs1
        have hs2 : qswc G v b i = decide (b ≠ 0) := by
          unfold qswc
          rw [decide_eq_true eL, decide_eq_true eT]
          rfl
        rw [hs2] at hn
        by_cases eb : b = 0
        · rw [decide_eq_false (fun h => h eb)] at hn
          simp (disch := first | assumption | omega | exact il_cqA _ _ | exact il_cqB _ _) only [wi_277_0, wi_277_1, wi_277_2, wi_277_3, wi_277_7, wi_277_8, wi_277_11, wi_277_12, wi_277_13, wi_277_16, wi_277_17, wi_277_20, wi_277_22, wi_277_24, wi_277_25, wi_277_26, wi_277_27, wi_277_30, wi_277_31, wi_277_34, wi_277_35, wi_277_36, wi_277_39, wi_277_41, wi_277_43, wi_277_44, wi_277_45, wi_277_46, wi_277_49, wi_277_50, wi_277_53, wi_277_54, wi_277_55, wi_277_57, wi_277_58, wi_277_59, wi_277_61, wi_277_64, wi_277_67, wi_277_68, wi_277_71, wi_277_72, wi_277_73, wi_277_74, wi_277_75, wi_277_78, wi_277_80, wi_277_82, wi_277_83, wi_277_84, wi_277_85, wi_277_88, wi_277_90, wi_277_92, wi_277_93, wi_277_94, wi_277_96, wi_277_97, wi_277_100, wi_277_101, wi_277_104, wi_277_107, wi_277_108, wi_277_111, wi_277_113, wi_277_114, wi_277_115, wi_277_116, wi_277_118, wi_277_120, wi_277_123, wi_277_125, wi_277_126, wi_277_127, wi_277_128, wi_277_131, wi_277_132, wi_277_133, wi_277_134, wi_277_136, wi_277_137, wi_277_140, wi_277_142, wi_277_143, wi_277_144, wi_277_146, wi_277_148, wi_277_149, wi_277_150, wi_277_152, wi_277_153, wi_277_154, wi_277_157, wi_277_158, wi_277_159, wi_277_160, io_add_o, io_sub_o, io_mul_o, io_neg_o, io_and_r, io_or_r, io_xor_r, io_nd_r, io_shr_r, io_shl1, io_i2b_r, io_i2l_o, io_l2i_o, il_add_o, il_sub_o, il_mul_o, il_neg_o, ib_bit, Int.toNat_natCast, true_implies, false_implies, implies_true, and_true, true_and, and_self, not_true_eq_false, not_false_eq_true, wa_0, wa_1, il_cmp_o, il_cmp0, il_cmp1, il_cmp2, io_bit1, ibt0, ibt1, ibt00, ibt11, ibt10, ibt01, Int.ofNat_lt, Int.ofNat_le, Int.ofNat_inj, Nat.lt_irrefl, Int.lt_irrefl, Int.toNat_one, Int.toNat_zero, Bool.false_eq_true, reduceIte, reduceCtorEq, Nat.reduceAdd, Nat.reduceMul, Nat.reduceSub, Nat.reduceLT, Nat.reduceLeDiff, Nat.reduceEqDiff, Int.reduceNeg, Int.reduceAdd, Int.reduceMul, Int.reduceSub, Int.reduceLT, Int.reduceLE, Int.reduceEq, Int.reduceToNat, Int.reduceNatCast, icl, ico, inz, hi, hk', it9, it21, it33, hF, hT, eF, eT, hAi, Int.sub_zero, Int.add_zero, wp_rest (M := M') hm' k3 k4, mb, eb]
          subst eb
          have mpl' : ((qA G i : Int)) % (qM G : Int) = (qpl (qM G) (qA G i) 0 : Int) := by rw [qpl_0 a3]; exact mA
          simp (disch := first | assumption | omega | exact il_cqA _ _ | exact il_cqB _ _) only [wi_277_0, wi_277_1, wi_277_2, wi_277_3, wi_277_7, wi_277_8, wi_277_11, wi_277_12, wi_277_13, wi_277_16, wi_277_17, wi_277_20, wi_277_22, wi_277_24, wi_277_25, wi_277_26, wi_277_27, wi_277_30, wi_277_31, wi_277_34, wi_277_35, wi_277_36, wi_277_39, wi_277_41, wi_277_43, wi_277_44, wi_277_45, wi_277_46, wi_277_49, wi_277_50, wi_277_53, wi_277_54, wi_277_55, wi_277_57, wi_277_58, wi_277_59, wi_277_61, wi_277_64, wi_277_67, wi_277_68, wi_277_71, wi_277_72, wi_277_73, wi_277_74, wi_277_75, wi_277_78, wi_277_80, wi_277_82, wi_277_83, wi_277_84, wi_277_85, wi_277_88, wi_277_90, wi_277_92, wi_277_93, wi_277_94, wi_277_96, wi_277_97, wi_277_100, wi_277_101, wi_277_104, wi_277_107, wi_277_108, wi_277_111, wi_277_113, wi_277_114, wi_277_115, wi_277_116, wi_277_118, wi_277_120, wi_277_123, wi_277_125, wi_277_126, wi_277_127, wi_277_128, wi_277_131, wi_277_132, wi_277_133, wi_277_134, wi_277_136, wi_277_137, wi_277_140, wi_277_142, wi_277_143, wi_277_144, wi_277_146, wi_277_148, wi_277_149, wi_277_150, wi_277_152, wi_277_153, wi_277_154, wi_277_157, wi_277_158, wi_277_159, wi_277_160, io_add_o, io_sub_o, io_mul_o, io_neg_o, io_and_r, io_or_r, io_xor_r, io_nd_r, io_shr_r, io_shl1, io_i2b_r, io_i2l_o, io_l2i_o, il_add_o, il_sub_o, il_mul_o, il_neg_o, ib_bit, Int.toNat_natCast, true_implies, false_implies, implies_true, and_true, true_and, and_self, not_true_eq_false, not_false_eq_true, wa_0, wa_1, il_cmp_o, il_cmp0, il_cmp1, il_cmp2, io_bit1, ibt0, ibt1, ibt00, ibt11, ibt10, ibt01, Int.ofNat_lt, Int.ofNat_le, Int.ofNat_inj, Nat.lt_irrefl, Int.lt_irrefl, Int.toNat_one, Int.toNat_zero, Bool.false_eq_true, reduceIte, reduceCtorEq, Nat.reduceAdd, Nat.reduceMul, Nat.reduceSub, Nat.reduceLT, Nat.reduceLeDiff, Nat.reduceEqDiff, Int.reduceNeg, Int.reduceAdd, Int.reduceMul, Int.reduceSub, Int.reduceLT, Int.reduceLE, Int.reduceEq, Int.reduceToNat, Int.reduceNatCast, icl, ico, inz, Int.add_zero, m0, mpl', hm', wp_rest (M := M') hm' k3 k4, it33, hAi]
          exact hn _
        · rw [decide_eq_true eb] at hn
          simp (disch := first | assumption | omega | exact il_cqA _ _ | exact il_cqB _ _) only [wi_277_0, wi_277_1, wi_277_2, wi_277_3, wi_277_7, wi_277_8, wi_277_11, wi_277_12, wi_277_13, wi_277_16, wi_277_17, wi_277_20, wi_277_22, wi_277_24, wi_277_25, wi_277_26, wi_277_27, wi_277_30, wi_277_31, wi_277_34, wi_277_35, wi_277_36, wi_277_39, wi_277_41, wi_277_43, wi_277_44, wi_277_45, wi_277_46, wi_277_49, wi_277_50, wi_277_53, wi_277_54, wi_277_55, wi_277_57, wi_277_58, wi_277_59, wi_277_61, wi_277_64, wi_277_67, wi_277_68, wi_277_71, wi_277_72, wi_277_73, wi_277_74, wi_277_75, wi_277_78, wi_277_80, wi_277_82, wi_277_83, wi_277_84, wi_277_85, wi_277_88, wi_277_90, wi_277_92, wi_277_93, wi_277_94, wi_277_96, wi_277_97, wi_277_100, wi_277_101, wi_277_104, wi_277_107, wi_277_108, wi_277_111, wi_277_113, wi_277_114, wi_277_115, wi_277_116, wi_277_118, wi_277_120, wi_277_123, wi_277_125, wi_277_126, wi_277_127, wi_277_128, wi_277_131, wi_277_132, wi_277_133, wi_277_134, wi_277_136, wi_277_137, wi_277_140, wi_277_142, wi_277_143, wi_277_144, wi_277_146, wi_277_148, wi_277_149, wi_277_150, wi_277_152, wi_277_153, wi_277_154, wi_277_157, wi_277_158, wi_277_159, wi_277_160, io_add_o, io_sub_o, io_mul_o, io_neg_o, io_and_r, io_or_r, io_xor_r, io_nd_r, io_shr_r, io_shl1, io_i2b_r, io_i2l_o, io_l2i_o, il_add_o, il_sub_o, il_mul_o, il_neg_o, ib_bit, Int.toNat_natCast, true_implies, false_implies, implies_true, and_true, true_and, and_self, not_true_eq_false, not_false_eq_true, wa_0, wa_1, il_cmp_o, il_cmp0, il_cmp1, il_cmp2, io_bit1, ibt0, ibt1, ibt00, ibt11, ibt10, ibt01, Int.ofNat_lt, Int.ofNat_le, Int.ofNat_inj, Nat.lt_irrefl, Int.lt_irrefl, Int.toNat_one, Int.toNat_zero, Bool.false_eq_true, reduceIte, reduceCtorEq, Nat.reduceAdd, Nat.reduceMul, Nat.reduceSub, Nat.reduceLT, Nat.reduceLeDiff, Nat.reduceEqDiff, Int.reduceNeg, Int.reduceAdd, Int.reduceMul, Int.reduceSub, Int.reduceLT, Int.reduceLE, Int.reduceEq, Int.reduceToNat, Int.reduceNatCast, icl, ico, inz, hi, hk', it9, it21, it33, hF, hT, eF, eT, hAi, Int.sub_zero, wp_rest (M := M') hm' k3 k4, mb, eb, mpl]
          exact hn _
      · by_cases eF : qF G i = v
        · have hs1 : qmi (qM G) (qA G i) b = qswg G v b i := by
            unfold qswg
            rw [if_neg eL, if_neg eT, if_pos eF]
          have hn := hnew _ hs1
          have hs2 : qswc G v b i = decide (b ≠ 0) := by
            unfold qswc
            rw [decide_eq_true eL, decide_eq_false eT, decide_eq_true eF]
            rfl
          rw [hs2] at hn
          by_cases eb : b = 0
          · have q1 := q0.2 eb
            rw [decide_eq_false (fun h => h eb)] at hn
            simp (disch := first | assumption | omega | exact il_cqA _ _ | exact il_cqB _ _) only [wi_277_0, wi_277_1, wi_277_2, wi_277_3, wi_277_7, wi_277_8, wi_277_11, wi_277_12, wi_277_13, wi_277_16, wi_277_17, wi_277_20, wi_277_22, wi_277_24, wi_277_25, wi_277_26, wi_277_27, wi_277_30, wi_277_31, wi_277_34, wi_277_35, wi_277_36, wi_277_39, wi_277_41, wi_277_43, wi_277_44, wi_277_45, wi_277_46, wi_277_49, wi_277_50, wi_277_53, wi_277_54, wi_277_55, wi_277_57, wi_277_58, wi_277_59, wi_277_61, wi_277_64, wi_277_67, wi_277_68, wi_277_71, wi_277_72, wi_277_73, wi_277_74, wi_277_75, wi_277_78, wi_277_80, wi_277_82, wi_277_83, wi_277_84, wi_277_85, wi_277_88, wi_277_90, wi_277_92, wi_277_93, wi_277_94, wi_277_96, wi_277_97, wi_277_100, wi_277_101, wi_277_104, wi_277_107, wi_277_108, wi_277_111, wi_277_113, wi_277_114, wi_277_115, wi_277_116, wi_277_118, wi_277_120, wi_277_123, wi_277_125, wi_277_126, wi_277_127, wi_277_128, wi_277_131, wi_277_132, wi_277_133, wi_277_134, wi_277_136, wi_277_137, wi_277_140, wi_277_142, wi_277_143, wi_277_144, wi_277_146, wi_277_148, wi_277_149, wi_277_150, wi_277_152, wi_277_153, wi_277_154, wi_277_157, wi_277_158, wi_277_159, wi_277_160, io_add_o, io_sub_o, io_mul_o, io_neg_o, io_and_r, io_or_r, io_xor_r, io_nd_r, io_shr_r, io_shl1, io_i2b_r, io_i2l_o, io_l2i_o, il_add_o, il_sub_o, il_mul_o, il_neg_o, ib_bit, Int.toNat_natCast, true_implies, false_implies, implies_true, and_true, true_and, and_self, not_true_eq_false, not_false_eq_true, wa_0, wa_1, il_cmp_o, il_cmp0, il_cmp1, il_cmp2, io_bit1, ibt0, ibt1, ibt00, ibt11, ibt10, ibt01, Int.ofNat_lt, Int.ofNat_le, Int.ofNat_inj, Nat.lt_irrefl, Int.lt_irrefl, Int.toNat_one, Int.toNat_zero, Bool.false_eq_true, reduceIte, reduceCtorEq, Nat.reduceAdd, Nat.reduceMul, Nat.reduceSub, Nat.reduceLT, Nat.reduceLeDiff, Nat.reduceEqDiff, Int.reduceNeg, Int.reduceAdd, Int.reduceMul, Int.reduceSub, Int.reduceLT, Int.reduceLE, Int.reduceEq, Int.reduceToNat, Int.reduceNatCast, icl, ico, inz, hi, hk', it9, it21, it33, hF, hT, eF, eT, hAi, wp_rest (M := M') hm' k3 k4, mn, q1, mmi, Int.add_zero]
            exact hn _
          · have q1 : ¬ qmi (qM G) 0 b = 0 := fun h => eb (q0.1 h)
            rw [decide_eq_true eb] at hn
            simp (disch := first | assumption | omega | exact il_cqA _ _ | exact il_cqB _ _) only [wi_277_0, wi_277_1, wi_277_2, wi_277_3, wi_277_7, wi_277_8, wi_277_11, wi_277_12, wi_277_13, wi_277_16, wi_277_17, wi_277_20, wi_277_22, wi_277_24, wi_277_25, wi_277_26, wi_277_27, wi_277_30, wi_277_31, wi_277_34, wi_277_35, wi_277_36, wi_277_39, wi_277_41, wi_277_43, wi_277_44, wi_277_45, wi_277_46, wi_277_49, wi_277_50, wi_277_53, wi_277_54, wi_277_55, wi_277_57, wi_277_58, wi_277_59, wi_277_61, wi_277_64, wi_277_67, wi_277_68, wi_277_71, wi_277_72, wi_277_73, wi_277_74, wi_277_75, wi_277_78, wi_277_80, wi_277_82, wi_277_83, wi_277_84, wi_277_85, wi_277_88, wi_277_90, wi_277_92, wi_277_93, wi_277_94, wi_277_96, wi_277_97, wi_277_100, wi_277_101, wi_277_104, wi_277_107, wi_277_108, wi_277_111, wi_277_113, wi_277_114, wi_277_115, wi_277_116, wi_277_118, wi_277_120, wi_277_123, wi_277_125, wi_277_126, wi_277_127, wi_277_128, wi_277_131, wi_277_132, wi_277_133, wi_277_134, wi_277_136, wi_277_137, wi_277_140, wi_277_142, wi_277_143, wi_277_144, wi_277_146, wi_277_148, wi_277_149, wi_277_150, wi_277_152, wi_277_153, wi_277_154, wi_277_157, wi_277_158, wi_277_159, wi_277_160, io_add_o, io_sub_o, io_mul_o, io_neg_o, io_and_r, io_or_r, io_xor_r, io_nd_r, io_shr_r, io_shl1, io_i2b_r, io_i2l_o, io_l2i_o, il_add_o, il_sub_o, il_mul_o, il_neg_o, ib_bit, Int.toNat_natCast, true_implies, false_implies, implies_true, and_true, true_and, and_self, not_true_eq_false, not_false_eq_true, wa_0, wa_1, il_cmp_o, il_cmp0, il_cmp1, il_cmp2, io_bit1, ibt0, ibt1, ibt00, ibt11, ibt10, ibt01, Int.ofNat_lt, Int.ofNat_le, Int.ofNat_inj, Nat.lt_irrefl, Int.lt_irrefl, Int.toNat_one, Int.toNat_zero, Bool.false_eq_true, reduceIte, reduceCtorEq, Nat.reduceAdd, Nat.reduceMul, Nat.reduceSub, Nat.reduceLT, Nat.reduceLeDiff, Nat.reduceEqDiff, Int.reduceNeg, Int.reduceAdd, Int.reduceMul, Int.reduceSub, Int.reduceLT, Int.reduceLE, Int.reduceEq, Int.reduceToNat, Int.reduceNatCast, icl, ico, inz, hi, hk', it9, it21, it33, hF, hT, eF, eT, hAi, wp_rest (M := M') hm' k3 k4, mn, q1, mmi]
            exact hn _
        · have hs1 : qA G i = qswg G v b i := by
            unfold qswg
            rw [if_neg eL, if_neg eT, if_neg eF]
          have hs2 : qswc G v b i = false := by
            unfold qswc
            rw [decide_eq_false eT, decide_eq_false eF]
            simp
          have hn := hnew _ hs1
          rw [hs2] at hn
          simp (disch := first | assumption | omega | exact il_cqA _ _ | exact il_cqB _ _) only [wi_277_0, wi_277_1, wi_277_2, wi_277_3, wi_277_7, wi_277_8, wi_277_11, wi_277_12, wi_277_13, wi_277_16, wi_277_17, wi_277_20, wi_277_22, wi_277_24, wi_277_25, wi_277_26, wi_277_27, wi_277_30, wi_277_31, wi_277_34, wi_277_35, wi_277_36, wi_277_39, wi_277_41, wi_277_43, wi_277_44, wi_277_45, wi_277_46, wi_277_49, wi_277_50, wi_277_53, wi_277_54, wi_277_55, wi_277_57, wi_277_58, wi_277_59, wi_277_61, wi_277_64, wi_277_67, wi_277_68, wi_277_71, wi_277_72, wi_277_73, wi_277_74, wi_277_75, wi_277_78, wi_277_80, wi_277_82, wi_277_83, wi_277_84, wi_277_85, wi_277_88, wi_277_90, wi_277_92, wi_277_93, wi_277_94, wi_277_96, wi_277_97, wi_277_100, wi_277_101, wi_277_104, wi_277_107, wi_277_108, wi_277_111, wi_277_113, wi_277_114, wi_277_115, wi_277_116, wi_277_118, wi_277_120, wi_277_123, wi_277_125, wi_277_126, wi_277_127, wi_277_128, wi_277_131, wi_277_132, wi_277_133, wi_277_134, wi_277_136, wi_277_137, wi_277_140, wi_277_142, wi_277_143, wi_277_144, wi_277_146, wi_277_148, wi_277_149, wi_277_150, wi_277_152, wi_277_153, wi_277_154, wi_277_157, wi_277_158, wi_277_159, wi_277_160, io_add_o, io_sub_o, io_mul_o, io_neg_o, io_and_r, io_or_r, io_xor_r, io_nd_r, io_shr_r, io_shl1, io_i2b_r, io_i2l_o, io_l2i_o, il_add_o, il_sub_o, il_mul_o, il_neg_o, ib_bit, Int.toNat_natCast, true_implies, false_implies, implies_true, and_true, true_and, and_self, not_true_eq_false, not_false_eq_true, wa_0, wa_1, il_cmp_o, il_cmp0, il_cmp1, il_cmp2, io_bit1, ibt0, ibt1, ibt00, ibt11, ibt10, ibt01, Int.ofNat_lt, Int.ofNat_le, Int.ofNat_inj, Nat.lt_irrefl, Int.lt_irrefl, Int.toNat_one, Int.toNat_zero, Bool.false_eq_true, reduceIte, reduceCtorEq, Nat.reduceAdd, Nat.reduceMul, Nat.reduceSub, Nat.reduceLT, Nat.reduceLeDiff, Nat.reduceEqDiff, Int.reduceNeg, Int.reduceAdd, Int.reduceMul, Int.reduceSub, Int.reduceLT, Int.reduceLE, Int.reduceEq, Int.reduceToNat, Int.reduceNatCast, icl, ico, inz, hi, hk', it9, it21, it33, hF, hT, eF, eT, hAi, Int.add_zero, wp_rest (M := M') hm' k3 k4, m0, mA]
          exact hn _
  · have hk' : M' 143 2 = (qK G : Int) := by rw [ho 2 (by decide)]; exact h3
    have hm' : M' 143 1 = (qM G : Int) := by rw [ho 1 (by decide)]; exact h2
    have hPv : M' 143 (57 + v) = qP G v := by rw [ho _ (by omega)]; exact hPa v (by omega)
    have hpv := hp v (by omega)
    have hml := Nat.mul_le_mul k4 k8
    have hfin : ∀ M2 : gg_M, (∀ r, r ≠ 143 → M2 r = M' r) → (∀ p, p < 57 → M2 143 p = M' 143 p) → (∀ u, u < 8 → M2 143 (57 + u) = qup (qP G) v (qswp G v b) u) → Q ((1, (0, (qcnt (qswc G v b) (qK G) : Int))), (gk_R, M2, 158, cc, cs)) := by
      intro M2 hM2 hl2 hp2'
      refine hQ M2 (fun j hj => by rw [hM2 j hj, hM j hj]) ⟨⟨?_, ?_, ?_, ?_, ?_⟩, fun a ha' => ?_, fun a ha' => ?_, fun a ha' => ?_, fun a ha' => ?_, hp2', fun t ht => ?_⟩
      · rw [hl2 0 (by decide), ho 0 (by decide)]; exact h1
      · rw [hl2 1 (by decide), ho 1 (by decide)]; exact h2
      · rw [hl2 2 (by decide), ho 2 (by decide)]; exact h3
      · rw [hl2 3 (by decide), ho 3 (by decide)]; exact h4
      · rw [hl2 4 (by decide), ho 4 (by decide)]; exact h5
      · have ha'' : a < qK G := ha'
        rw [hl2 _ (by omega), ho _ (by omega)]; exact hF a ha'
      · have ha'' : a < qK G := ha'
        rw [hl2 _ (by omega), ho _ (by omega)]; exact hT a ha'
      · have ha'' : a < qK G := ha'
        rw [hl2 _ (by omega), ha a ha'', if_pos ha'']; rfl
      · have ha'' : a < qK G := ha'
        rw [hl2 _ (by omega), ho _ (by omega)]; exact hW a ha'
      · rw [hl2 _ (by omega), ho _ (by omega)]; exact hO t ht
    rw [wi_277_5]
    by_cases eP : (0 : Int) < qP G v
    · obtain ⟨x, hx⟩ := Int.eq_ofNat_of_zero_le (show 0 ≤ qP G v by omega)
      have hm1 := tmod_e x (qM G) (by omega)
      have r1 : (x - 1) % qM G < qM G := Nat.mod_lt _ (by omega)
      have r2 : (x - 1) % qM G ≤ x - 1 := Nat.mod_le _ _
      have e0 := em_pl r1 hb
      have q1 := qpl_lt r1 hb
      have f1 : (1 : Int) ≤ (qM G : Int) := by omega
      have hsw : qswp G v b = (x : Int) - (((x - 1) % qM G : Nat) : Int) + (qpl (qM G) ((x - 1) % qM G) b : Int) := by
        unfold qswp qsh
        rw [if_neg (by omega), hx, Int.toNat_natCast, if_neg (by omega)]
        omega
      rw [hx] at hPv eP
      generalize (x - 1) % qM G = rx at *
      simp (disch := first | assumption | omega | exact il_cqA _ _ | exact il_cqB _ _) only [wi_277_0, wi_277_1, wi_277_2, wi_277_3, wi_277_7, wi_277_8, wi_277_11, wi_277_12, wi_277_13, wi_277_16, wi_277_17, wi_277_20, wi_277_22, wi_277_24, wi_277_25, wi_277_26, wi_277_27, wi_277_30, wi_277_31, wi_277_34, wi_277_35, wi_277_36, wi_277_39, wi_277_41, wi_277_43, wi_277_44, wi_277_45, wi_277_46, wi_277_49, wi_277_50, wi_277_53, wi_277_54, wi_277_55, wi_277_57, wi_277_58, wi_277_59, wi_277_61, wi_277_64, wi_277_67, wi_277_68, wi_277_71, wi_277_72, wi_277_73, wi_277_74, wi_277_75, wi_277_78, wi_277_80, wi_277_82, wi_277_83, wi_277_84, wi_277_85, wi_277_88, wi_277_90, wi_277_92, wi_277_93, wi_277_94, wi_277_96, wi_277_97, wi_277_100, wi_277_101, wi_277_104, wi_277_107, wi_277_108, wi_277_111, wi_277_113, wi_277_114, wi_277_115, wi_277_116, wi_277_118, wi_277_120, wi_277_123, wi_277_125, wi_277_126, wi_277_127, wi_277_128, wi_277_131, wi_277_132, wi_277_133, wi_277_134, wi_277_136, wi_277_137, wi_277_140, wi_277_142, wi_277_143, wi_277_144, wi_277_146, wi_277_148, wi_277_149, wi_277_150, wi_277_152, wi_277_153, wi_277_154, wi_277_157, wi_277_158, wi_277_159, wi_277_160, io_add_o, io_sub_o, io_mul_o, io_neg_o, io_and_r, io_or_r, io_xor_r, io_nd_r, io_shr_r, io_shl1, io_i2b_r, io_i2l_o, io_l2i_o, il_add_o, il_sub_o, il_mul_o, il_neg_o, ib_bit, Int.toNat_natCast, true_implies, false_implies, implies_true, and_true, true_and, and_self, not_true_eq_false, not_false_eq_true, wa_0, wa_1, il_cmp_o, il_cmp0, il_cmp1, il_cmp2, io_bit1, ibt0, ibt1, ibt00, ibt11, ibt10, ibt01, Int.ofNat_lt, Int.ofNat_le, Int.ofNat_inj, Nat.lt_irrefl, Int.lt_irrefl, Int.toNat_one, Int.toNat_zero, Bool.false_eq_true, reduceIte, reduceCtorEq, Nat.reduceAdd, Nat.reduceMul, Nat.reduceSub, Nat.reduceLT, Nat.reduceLeDiff, Nat.reduceEqDiff, Int.reduceNeg, Int.reduceAdd, Int.reduceMul, Int.reduceSub, Int.reduceLT, Int.reduceLE, Int.reduceEq, Int.reduceToNat, Int.reduceNatCast, icl, ico, inz, hk', it57, hPv, eP, hm', hm1, wp_rest (M := M') hm' k3 k4, e0]
      refine hfin _ (fun r hr => by rw [gu_n hr]) (fun p hp => by rw [gu_s (by omega)]) (fun u hu => ?_)
      unfold qup
      by_cases e : u = v
      · subst e
        rw [gu_e, if_pos rfl, hsw]
      · rw [gu_s (by omega), if_neg e, ho _ (by omega)]
        exact hPa u hu
    · simp (disch := first | assumption | omega | exact il_cqA _ _ | exact il_cqB _ _) only [wi_277_0, wi_277_1, wi_277_2, wi_277_3, wi_277_7, wi_277_8, wi_277_11, wi_277_12, wi_277_13, wi_277_16, wi_277_17, wi_277_20, wi_277_22, wi_277_24, wi_277_25, wi_277_26, wi_277_27, wi_277_30, wi_277_31, wi_277_34, wi_277_35, wi_277_36, wi_277_39, wi_277_41, wi_277_43, wi_277_44, wi_277_45, wi_277_46, wi_277_49, wi_277_50, wi_277_53, wi_277_54, wi_277_55, wi_277_57, wi_277_58, wi_277_59, wi_277_61, wi_277_64, wi_277_67, wi_277_68, wi_277_71, wi_277_72, wi_277_73, wi_277_74, wi_277_75, wi_277_78, wi_277_80, wi_277_82, wi_277_83, wi_277_84, wi_277_85, wi_277_88, wi_277_90, wi_277_92, wi_277_93, wi_277_94, wi_277_96, wi_277_97, wi_277_100, wi_277_101, wi_277_104, wi_277_107, wi_277_108, wi_277_111, wi_277_113, wi_277_114, wi_277_115, wi_277_116, wi_277_118, wi_277_120, wi_277_123, wi_277_125, wi_277_126, wi_277_127, wi_277_128, wi_277_131, wi_277_132, wi_277_133, wi_277_134, wi_277_136, wi_277_137, wi_277_140, wi_277_142, wi_277_143, wi_277_144, wi_277_146, wi_277_148, wi_277_149, wi_277_150, wi_277_152, wi_277_153, wi_277_154, wi_277_157, wi_277_158, wi_277_159, wi_277_160, io_add_o, io_sub_o, io_mul_o, io_neg_o, io_and_r, io_or_r, io_xor_r, io_nd_r, io_shr_r, io_shl1, io_i2b_r, io_i2l_o, io_l2i_o, il_add_o, il_sub_o, il_mul_o, il_neg_o, ib_bit, Int.toNat_natCast, true_implies, false_implies, implies_true, and_true, true_and, and_self, not_true_eq_false, not_false_eq_true, wa_0, wa_1, il_cmp_o, il_cmp0, il_cmp1, il_cmp2, io_bit1, ibt0, ibt1, ibt00, ibt11, ibt10, ibt01, Int.ofNat_lt, Int.ofNat_le, Int.ofNat_inj, Nat.lt_irrefl, Int.lt_irrefl, Int.toNat_one, Int.toNat_zero, Bool.false_eq_true, reduceIte, reduceCtorEq, Nat.reduceAdd, Nat.reduceMul, Nat.reduceSub, Nat.reduceLT, Nat.reduceLeDiff, Nat.reduceEqDiff, Int.reduceNeg, Int.reduceAdd, Int.reduceMul, Int.reduceSub, Int.reduceLT, Int.reduceLE, Int.reduceEq, Int.reduceToNat, Int.reduceNatCast, icl, ico, inz, hk', it57, hPv, eP]
      refine hfin M' (fun _ _ => rfl) (fun _ _ => rfl) (fun u hu => ?_)
      rw [ho _ (by omega), hPa u hu]
      unfold qup qswp
      by_cases e : u = v
      · rw [if_pos e]
        by_cases e2 : qP G v = -1
        · rw [if_pos e2, e, e2]
        · rw [if_neg e2, e, show qP G v = 0 by omega]
          show (0 : Int) = ((qsh (qM G) 0 b : Nat) : Int)
          rw [qsh_0]
          rfl
      · rw [if_neg e]
end SG
