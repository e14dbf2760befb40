/-! the class asks about sets -/
/-- the table of all sets is not laid, or is the graph's -/
def qs_S (M : gg_M) (G : q_G) : Prop := M 78 4 = 0 ∨ (M 78 4 = 1 ∧ ∀ s, s < 2 ^ qK G → M 83 s = (qnu G s : Int) ∧ M 84 s = (qev G s : Int))
theorem qs_S_e {M M' : gg_M} {G : q_G} (h : qs_S M G) (h1 : M' 78 = M 78) (h2 : M' 83 = M 83) (h3 : M' 84 = M 84) : qs_S M' G := by
  unfold qs_S
  rw [h1, h2, h3]
  exact h
theorem two_le {n : Nat} (h : n ≤ 12) : 2 ^ n ≤ 4096 := Nat.pow_le_pow_right (j := 12) (by decide) h
section SG
variable {N : Nat} {xs : Nat → Int32} {d : Nat} {M : gg_M} {cc cs : Nat} {Q : gg_O → Prop} {g : Nat} {G : q_G}
theorem wp_split (hg : gs_G g) (hG : q_ok G) (hC : q_C M g G) {s : Nat} (hs : s < 4096) (hQ : ∀ M' : gg_M, (∀ j, j < 79 ∨ 81 < j → M' j = M j) → q_D M' 79 (qN G) (qPs G s) → Q ((1, gr 79), (gk_R, M', 142, cc, cs))) :
    wp N xs (d + 2) 62 0 [gr 78, gr g, (0, (s : Int)), (3, 0)] [] (gk_R, M, 142, cc, cs) Q := by
  have hgp := gs_GP hg gs_P79
  have hok := fun {a : Nat} (ha : a ≤ qK G) => pok_s hG s ha
  obtain ⟨⟨h1, h2, h3, h4, h5⟩, hF, hT, hA, hW, hP, hO⟩ := id hC
  obtain ⟨⟨k1, k2, k3, k4, k5, k6, k7, k8⟩, hk, hp, hp2⟩ := id hG
  simp (contextual := true) (disch := first | assumption | omega | exact il_cqA _ _ | exact il_cqB _ _) only [wi_62_0, wi_62_1, wi_62_4, wi_62_5, wi_62_8, wi_62_9, wi_62_11, wi_62_12, wi_62_15, wi_62_18, wi_62_19, wi_62_20, wi_62_21, wi_62_22, wi_62_23, wi_62_26, wi_62_27, wi_62_30, wi_62_31, wi_62_32, wi_62_35, wi_62_38, wi_62_41, wi_62_42, wi_62_45, io_add_o, io_sub_o, io_mul_o, io_neg_o, io_and_r, io_or_r, io_xor_r, io_nd_r, io_shr_r, io_shl1, io_i2b_r, io_i2l_o, io_l2i_o, il_add_o, il_sub_o, il_mul_o, il_neg_o, ib_bit, Int.toNat_natCast, true_implies, false_implies, implies_true, and_true, true_and, and_self, not_true_eq_false, not_false_eq_true, wa_0, wa_1, il_cmp_o, il_cmp0, il_cmp1, il_cmp2, io_bit1, ibt0, ibt1, ibt00, ibt11, ibt10, ibt01, Int.ofNat_lt, Int.ofNat_le, Int.ofNat_inj, Nat.lt_irrefl, Int.lt_irrefl, Int.toNat_one, Int.toNat_zero, Bool.false_eq_true, reduceIte, reduceCtorEq, Nat.reduceAdd, Nat.reduceMul, Nat.reduceSub, Nat.reduceLT, Nat.reduceLeDiff, Nat.reduceEqDiff, Int.reduceNeg, Int.reduceAdd, Int.reduceMul, Int.reduceSub, Int.reduceLT, Int.reduceLE, Int.reduceEq, Int.reduceToNat, Int.reduceNatCast, icl, ico, inz]
  refine wp_pbegin gs_P79 hg h1 k2 (fun M1 hM1 hD1 => ?_)
  simp (contextual := true) (disch := first | assumption | omega | exact il_cqA _ _ | exact il_cqB _ _) only [wi_62_0, wi_62_1, wi_62_4, wi_62_5, wi_62_8, wi_62_9, wi_62_11, wi_62_12, wi_62_15, wi_62_18, wi_62_19, wi_62_20, wi_62_21, wi_62_22, wi_62_23, wi_62_26, wi_62_27, wi_62_30, wi_62_31, wi_62_32, wi_62_35, wi_62_38, wi_62_41, wi_62_42, wi_62_45, io_add_o, io_sub_o, io_mul_o, io_neg_o, io_and_r, io_or_r, io_xor_r, io_nd_r, io_shr_r, io_shl1, io_i2b_r, io_i2l_o, io_l2i_o, il_add_o, il_sub_o, il_mul_o, il_neg_o, ib_bit, Int.toNat_natCast, true_implies, false_implies, implies_true, and_true, true_and, and_self, not_true_eq_false, not_false_eq_true, wa_0, wa_1, il_cmp_o, il_cmp0, il_cmp1, il_cmp2, io_bit1, ibt0, ibt1, ibt00, ibt11, ibt10, ibt01, Int.ofNat_lt, Int.ofNat_le, Int.ofNat_inj, Nat.lt_irrefl, Int.lt_irrefl, Int.toNat_one, Int.toNat_zero, Bool.false_eq_true, reduceIte, reduceCtorEq, Nat.reduceAdd, Nat.reduceMul, Nat.reduceSub, Nat.reduceLT, Nat.reduceLeDiff, Nat.reduceEqDiff, Int.reduceNeg, Int.reduceAdd, Int.reduceMul, Int.reduceSub, Int.reduceLT, Int.reduceLE, Int.reduceEq, Int.reduceToNat, Int.reduceNatCast, icl, ico, inz]
  refine wl_i (P := fun i I => ∀ M' : gg_M, (∀ j, j < 79 ∨ 81 < j → M' j = M j) → q_D M' 79 (qN G) (ps G s i) → wp N xs (d + 1 + 1) 62 10 [gr 78, gr g, (0, (s : Int)), (0, I)] [] (gk_R, M', 142, cc, cs) Q) (qK G) (fun i hi ih M' hM hD => ?_) (fun M' hM hD => ?_) M1 hM1 hD1
  · have e0 : M' g = M g := hM g (by omega)
    rw [wi_62_10]
    cases hb : s.testBit i
    · simp (contextual := true) (disch := first | assumption | omega | exact il_cqA _ _ | exact il_cqB _ _) only [wi_62_0, wi_62_1, wi_62_4, wi_62_5, wi_62_8, wi_62_9, wi_62_11, wi_62_12, wi_62_15, wi_62_18, wi_62_19, wi_62_20, wi_62_21, wi_62_22, wi_62_23, wi_62_26, wi_62_27, wi_62_30, wi_62_31, wi_62_32, wi_62_35, wi_62_38, wi_62_41, wi_62_42, wi_62_45, io_add_o, io_sub_o, io_mul_o, io_neg_o, io_and_r, io_or_r, io_xor_r, io_nd_r, io_shr_r, io_shl1, io_i2b_r, io_i2l_o, io_l2i_o, il_add_o, il_sub_o, il_mul_o, il_neg_o, ib_bit, Int.toNat_natCast, true_implies, false_implies, implies_true, and_true, true_and, and_self, not_true_eq_false, not_false_eq_true, wa_0, wa_1, il_cmp_o, il_cmp0, il_cmp1, il_cmp2, io_bit1, ibt0, ibt1, ibt00, ibt11, ibt10, ibt01, Int.ofNat_lt, Int.ofNat_le, Int.ofNat_inj, Nat.lt_irrefl, Int.lt_irrefl, Int.toNat_one, Int.toNat_zero, Bool.false_eq_true, reduceIte, reduceCtorEq, Nat.reduceAdd, Nat.reduceMul, Nat.reduceSub, Nat.reduceLT, Nat.reduceLeDiff, Nat.reduceEqDiff, Int.reduceNeg, Int.reduceAdd, Int.reduceMul, Int.reduceSub, Int.reduceLT, Int.reduceLE, Int.reduceEq, Int.reduceToNat, Int.reduceNatCast, icl, ico, inz, hi, e0, h3, hb]
      refine ih M' hM ?_
      rw [ps, hb]
      exact hD
    · simp (contextual := true) (disch := first | assumption | omega | exact il_cqA _ _ | exact il_cqB _ _) only [wi_62_0, wi_62_1, wi_62_4, wi_62_5, wi_62_8, wi_62_9, wi_62_11, wi_62_12, wi_62_15, wi_62_18, wi_62_19, wi_62_20, wi_62_21, wi_62_22, wi_62_23, wi_62_26, wi_62_27, wi_62_30, wi_62_31, wi_62_32, wi_62_35, wi_62_38, wi_62_41, wi_62_42, wi_62_45, io_add_o, io_sub_o, io_mul_o, io_neg_o, io_and_r, io_or_r, io_xor_r, io_nd_r, io_shr_r, io_shl1, io_i2b_r, io_i2l_o, io_l2i_o, il_add_o, il_sub_o, il_mul_o, il_neg_o, ib_bit, Int.toNat_natCast, true_implies, false_implies, implies_true, and_true, true_and, and_self, not_true_eq_false, not_false_eq_true, wa_0, wa_1, il_cmp_o, il_cmp0, il_cmp1, il_cmp2, io_bit1, ibt0, ibt1, ibt00, ibt11, ibt10, ibt01, Int.ofNat_lt, Int.ofNat_le, Int.ofNat_inj, Nat.lt_irrefl, Int.lt_irrefl, Int.toNat_one, Int.toNat_zero, Bool.false_eq_true, reduceIte, reduceCtorEq, Nat.reduceAdd, Nat.reduceMul, Nat.reduceSub, Nat.reduceLT, Nat.reduceLeDiff, Nat.reduceEqDiff, Int.reduceNeg, Int.reduceAdd, Int.reduceMul, Int.reduceSub, Int.reduceLT, Int.reduceLE, Int.reduceEq, Int.reduceToNat, Int.reduceNatCast, icl, ico, inz, hi, e0, h3, hb]
      refine wp_padd gs_P79 hg hG (q_C_e hC fun j h1 h2 => hM j (by omega)) (hok (by omega)) hD hi (fun M2 hM2 hD2 => ?_)
      simp (contextual := true) (disch := first | assumption | omega | exact il_cqA _ _ | exact il_cqB _ _) only [wi_62_0, wi_62_1, wi_62_4, wi_62_5, wi_62_8, wi_62_9, wi_62_11, wi_62_12, wi_62_15, wi_62_18, wi_62_19, wi_62_20, wi_62_21, wi_62_22, wi_62_23, wi_62_26, wi_62_27, wi_62_30, wi_62_31, wi_62_32, wi_62_35, wi_62_38, wi_62_41, wi_62_42, wi_62_45, io_add_o, io_sub_o, io_mul_o, io_neg_o, io_and_r, io_or_r, io_xor_r, io_nd_r, io_shr_r, io_shl1, io_i2b_r, io_i2l_o, io_l2i_o, il_add_o, il_sub_o, il_mul_o, il_neg_o, ib_bit, Int.toNat_natCast, true_implies, false_implies, implies_true, and_true, true_and, and_self, not_true_eq_false, not_false_eq_true, wa_0, wa_1, il_cmp_o, il_cmp0, il_cmp1, il_cmp2, io_bit1, ibt0, ibt1, ibt00, ibt11, ibt10, ibt01, Int.ofNat_lt, Int.ofNat_le, Int.ofNat_inj, Nat.lt_irrefl, Int.lt_irrefl, Int.toNat_one, Int.toNat_zero, Bool.false_eq_true, reduceIte, reduceCtorEq, Nat.reduceAdd, Nat.reduceMul, Nat.reduceSub, Nat.reduceLT, Nat.reduceLeDiff, Nat.reduceEqDiff, Int.reduceNeg, Int.reduceAdd, Int.reduceMul, Int.reduceSub, Int.reduceLT, Int.reduceLE, Int.reduceEq, Int.reduceToNat, Int.reduceNatCast, icl, ico, inz]
      refine ih M2 (fun j hj => by rw [hM2 j (by omega), hM j hj]) ?_
      rw [ps, hb]
      exact hD2
  · have e0 : M' g = M g := hM g (by omega)
    rw [wi_62_10]
    simp (contextual := true) (disch := first | assumption | omega | exact il_cqA _ _ | exact il_cqB _ _) only [wi_62_0, wi_62_1, wi_62_4, wi_62_5, wi_62_8, wi_62_9, wi_62_11, wi_62_12, wi_62_15, wi_62_18, wi_62_19, wi_62_20, wi_62_21, wi_62_22, wi_62_23, wi_62_26, wi_62_27, wi_62_30, wi_62_31, wi_62_32, wi_62_35, wi_62_38, wi_62_41, wi_62_42, wi_62_45, io_add_o, io_sub_o, io_mul_o, io_neg_o, io_and_r, io_or_r, io_xor_r, io_nd_r, io_shr_r, io_shl1, io_i2b_r, io_i2l_o, io_l2i_o, il_add_o, il_sub_o, il_mul_o, il_neg_o, ib_bit, Int.toNat_natCast, true_implies, false_implies, implies_true, and_true, true_and, and_self, not_true_eq_false, not_false_eq_true, wa_0, wa_1, il_cmp_o, il_cmp0, il_cmp1, il_cmp2, io_bit1, ibt0, ibt1, ibt00, ibt11, ibt10, ibt01, Int.ofNat_lt, Int.ofNat_le, Int.ofNat_inj, Nat.lt_irrefl, Int.lt_irrefl, Int.toNat_one, Int.toNat_zero, Bool.false_eq_true, reduceIte, reduceCtorEq, Nat.reduceAdd, Nat.reduceMul, Nat.reduceSub, Nat.reduceLT, Nat.reduceLeDiff, Nat.reduceEqDiff, Int.reduceNeg, Int.reduceAdd, Int.reduceMul, Int.reduceSub, Int.reduceLT, Int.reduceLE, Int.reduceEq, Int.reduceToNat, Int.reduceNatCast, icl, ico, inz, e0, h3]
    exact hQ M' hM hD
theorem wp_spread (hg : gs_G g) (hG : q_ok G) (k : Nat) : ∀ (a s d : Nat) (M : gg_M) (Q : gg_O → Prop), a + k = qK G → s < 2 ^ a → q_C M g G → q_D M (87 + 3 * a) (qN G) (ps G s a) → (∀ M' : gg_M, (∀ j, j ≠ 83 → j ≠ 84 → j < 87 + 3 * (a + 1) ∨ 125 < j → M' j = M j) → (∀ t, t < 2 ^ qK G → t % 2 ^ a = s → M' 83 t = (qnu G t : Int) ∧ M' 84 t = (qev G t : Int)) → (∀ t, t % 2 ^ a ≠ s → M' 83 t = M 83 t ∧ M' 84 t = M 84 t) → Q ((0, (3, 0)), (gk_R, M', 142, cc, cs))) →
    wp N xs (d + k + 3) 64 0 [gr 78, gr g, (0, (a : Int)), (0, (s : Int)), (3, 0), (3, 0)] [] (gk_R, M, 142, cc, cs) Q := by
  have hgr := gs_Gr hg
  induction k with
  | zero =>
    intro a s d M Q hak hs hC hD hQ
    obtain ⟨⟨h1, h2, h3, h4, h5⟩, hF, hT, hA, hW, hP, hO⟩ := id hC
    obtain ⟨⟨k1, k2, k3, k4, k5, k6, k7, k8⟩, hk, hp, hp2⟩ := id hG
    obtain ⟨⟨d1, d2, d3⟩, dl, dh⟩ := hD
    have hpa : gs_P (87 + 3 * a) := gs_p82 (by omega)
    have ha : a = qK G := by omega
    have hs2 : s < 4096 := Nat.lt_of_lt_of_le hs (two_le (by omega))
    have n1 := pnum_le (qN G) (ps G s a)
    have n2 := pev_le (qN G) (ps G s a)
    have hlt : ¬ a < qK G := by omega
    rw [wi_64_0]
    simp (contextual := true) (disch := first | assumption | omega | exact il_cqA _ _ | exact il_cqB _ _) only [wi_64_1, wi_64_4, wi_64_5, wi_64_6, wi_64_8, wi_64_9, wi_64_10, wi_64_13, wi_64_16, wi_64_17, wi_64_19, wi_64_22, wi_64_23, wi_64_26, wi_64_27, wi_64_29, wi_64_32, wi_64_33, wi_64_34, wi_64_35, wi_64_38, wi_64_39, wi_64_41, wi_64_44, wi_64_45, wi_64_46, wi_64_47, wi_64_48, wi_64_51, wi_64_52, wi_64_53, wi_64_54, wi_64_55, wi_64_57, wi_64_59, wi_64_61, wi_64_64, wi_64_65, wi_64_66, wi_64_67, wi_64_68, wi_64_69, wi_64_70, wi_64_73, wi_64_75, wi_64_76, wi_64_77, wi_64_80, wi_64_81, wi_64_82, wi_64_83, wi_64_84, wi_64_85, wi_64_86, wi_64_87, wi_64_88, wi_64_89, wi_64_90, wi_64_93, io_add_o, io_sub_o, io_mul_o, io_neg_o, io_and_r, io_or_r, io_xor_r, io_nd_r, io_shr_r, io_shl1, io_i2b_r, io_i2l_o, io_l2i_o, il_add_o, il_sub_o, il_mul_o, il_neg_o, ib_bit, Int.toNat_natCast, true_implies, false_implies, implies_true, and_true, true_and, and_self, not_true_eq_false, not_false_eq_true, wa_0, wa_1, il_cmp_o, il_cmp0, il_cmp1, il_cmp2, io_bit1, ibt0, ibt1, ibt00, ibt11, ibt10, ibt01, Int.ofNat_lt, Int.ofNat_le, Int.ofNat_inj, Nat.lt_irrefl, Int.lt_irrefl, Int.toNat_one, Int.toNat_zero, Bool.false_eq_true, reduceIte, reduceCtorEq, Nat.reduceAdd, Nat.reduceMul, Nat.reduceSub, Nat.reduceLT, Nat.reduceLeDiff, Nat.reduceEqDiff, Int.reduceNeg, Int.reduceAdd, Int.reduceMul, Int.reduceSub, Int.reduceLT, Int.reduceLE, Int.reduceEq, Int.reduceToNat, Int.reduceNatCast, icl, ico, inz, h3, hlt, d1, d2, gu_n]
    refine hQ _ (fun j h1 h2 _ => by rw [gu_n h2, gu_n h1]) (fun t ht hts => ?_) (fun t hts => ?_)
    · have e : t = s := by
        rw [← hts, ha, Nat.mod_eq_of_lt ht]
      subst e
      rw [gu_n (by decide), gu_e, gu_e, ha]
      exact ⟨rfl, rfl⟩
    · have e : t ≠ s := by
        rintro rfl
        exact hts (Nat.mod_eq_of_lt hs)
      rw [gu_n (by decide), gu_s e, gu_s e, gu_n (by decide)]
      exact ⟨rfl, rfl⟩
  | succ k ih =>
    intro a s d M Q hak hs hC hD hQ
    obtain ⟨⟨h1, h2, h3, h4, h5⟩, hF, hT, hA, hW, hP, hO⟩ := id hC
    obtain ⟨⟨k1, k2, k3, k4, k5, k6, k7, k8⟩, hk, hp, hp2⟩ := id hG
    have hD0 := hD
    obtain ⟨⟨d1, d2, d3⟩, dl, dh⟩ := hD
    have hpa : gs_P (87 + 3 * a) := gs_p82 (by omega)
    have hpb : gs_P (87 + 3 * (a + 1)) := gs_p82 (by omega)
    have hlt : a < qK G := by omega
    have hlt2 : a < 12 := by omega
    have hs2 : s < 4096 := Nat.lt_of_lt_of_le hs (two_le (by omega))
    have hp2 : 2 ^ a ≤ 4096 := two_le (by omega)
    have hp1 : 1 ≤ 2 ^ a := Nat.one_le_two_pow
    have hps : 2 ^ (a + 1) = 2 ^ a + 2 ^ a := by rw [Nat.pow_succ]; omega
    have hsa : s.testBit a = false := Nat.testBit_lt_two_pow hs
    have hor : s ||| 2 ^ a = s + 2 ^ a := by
      have := Nat.two_pow_add_eq_or_of_lt hs 1
      rw [Nat.mul_one] at this
      rw [Nat.or_comm, ← this]
      omega
    have hs3 : s ||| 2 ^ a < 2 ^ (a + 1) := by omega
    have e1 : ps G s (a + 1) = ps G s a := by rw [ps, hsa]; rfl
    have e2 : ps G (s ||| 2 ^ a) (a + 1) = pj G (ps G s a) a := by
      rw [ps, Nat.testBit_or, Nat.testBit_two_pow, decide_eq_true rfl, Bool.or_true, if_pos rfl]
      rw [ps_congr (t := s) fun i hi => by rw [Nat.testBit_or, Nat.testBit_two_pow, decide_eq_false (by omega : ¬ a = i), Bool.or_false]]
    have dep : d + (k + 1) + 3 = (d + k + 3) + 1 := by omega
    rw [dep]
    rw [wi_64_0]
    simp (contextual := true) (disch := first | assumption | omega | exact il_cqA _ _ | exact il_cqB _ _) only [wi_64_1, wi_64_4, wi_64_5, wi_64_6, wi_64_8, wi_64_9, wi_64_10, wi_64_13, wi_64_16, wi_64_17, wi_64_19, wi_64_22, wi_64_23, wi_64_26, wi_64_27, wi_64_29, wi_64_32, wi_64_33, wi_64_34, wi_64_35, wi_64_38, wi_64_39, wi_64_41, wi_64_44, wi_64_45, wi_64_46, wi_64_47, wi_64_48, wi_64_51, wi_64_52, wi_64_53, wi_64_54, wi_64_55, wi_64_57, wi_64_59, wi_64_61, wi_64_64, wi_64_65, wi_64_66, wi_64_67, wi_64_68, wi_64_69, wi_64_70, wi_64_73, wi_64_75, wi_64_76, wi_64_77, wi_64_80, wi_64_81, wi_64_82, wi_64_83, wi_64_84, wi_64_85, wi_64_86, wi_64_87, wi_64_88, wi_64_89, wi_64_90, wi_64_93, io_add_o, io_sub_o, io_mul_o, io_neg_o, io_and_r, io_or_r, io_xor_r, io_nd_r, io_shr_r, io_shl1, io_i2b_r, io_i2l_o, io_l2i_o, il_add_o, il_sub_o, il_mul_o, il_neg_o, ib_bit, Int.toNat_natCast, true_implies, false_implies, implies_true, and_true, true_and, and_self, not_true_eq_false, not_false_eq_true, wa_0, wa_1, il_cmp_o, il_cmp0, il_cmp1, il_cmp2, io_bit1, ibt0, ibt1, ibt00, ibt11, ibt10, ibt01, Int.ofNat_lt, Int.ofNat_le, Int.ofNat_inj, Nat.lt_irrefl, Int.lt_irrefl, Int.toNat_one, Int.toNat_zero, Bool.false_eq_true, reduceIte, reduceCtorEq, Nat.reduceAdd, Nat.reduceMul, Nat.reduceSub, Nat.reduceLT, Nat.reduceLeDiff, Nat.reduceEqDiff, Int.reduceNeg, Int.reduceAdd, Int.reduceMul, Int.reduceSub, Int.reduceLT, Int.reduceLE, Int.reduceEq, Int.reduceToNat, Int.reduceNatCast, icl, ico, inz, h3, hlt, hlt2, it1, gu_n]
    refine wp_pcopy hpb hpa (by omega) k2 hD0 (fun M1 hM1 hD1 => ?_)
    simp (contextual := true) (disch := first | assumption | omega | exact il_cqA _ _ | exact il_cqB _ _) only [wi_64_1, wi_64_4, wi_64_5, wi_64_6, wi_64_8, wi_64_9, wi_64_10, wi_64_13, wi_64_16, wi_64_17, wi_64_19, wi_64_22, wi_64_23, wi_64_26, wi_64_27, wi_64_29, wi_64_32, wi_64_33, wi_64_34, wi_64_35, wi_64_38, wi_64_39, wi_64_41, wi_64_44, wi_64_45, wi_64_46, wi_64_47, wi_64_48, wi_64_51, wi_64_52, wi_64_53, wi_64_54, wi_64_55, wi_64_57, wi_64_59, wi_64_61, wi_64_64, wi_64_65, wi_64_66, wi_64_67, wi_64_68, wi_64_69, wi_64_70, wi_64_73, wi_64_75, wi_64_76, wi_64_77, wi_64_80, wi_64_81, wi_64_82, wi_64_83, wi_64_84, wi_64_85, wi_64_86, wi_64_87, wi_64_88, wi_64_89, wi_64_90, wi_64_93, io_add_o, io_sub_o, io_mul_o, io_neg_o, io_and_r, io_or_r, io_xor_r, io_nd_r, io_shr_r, io_shl1, io_i2b_r, io_i2l_o, io_l2i_o, il_add_o, il_sub_o, il_mul_o, il_neg_o, ib_bit, Int.toNat_natCast, true_implies, false_implies, implies_true, and_true, true_and, and_self, not_true_eq_false, not_false_eq_true, wa_0, wa_1, il_cmp_o, il_cmp0, il_cmp1, il_cmp2, io_bit1, ibt0, ibt1, ibt00, ibt11, ibt10, ibt01, Int.ofNat_lt, Int.ofNat_le, Int.ofNat_inj, Nat.lt_irrefl, Int.lt_irrefl, Int.toNat_one, Int.toNat_zero, Bool.false_eq_true, reduceIte, reduceCtorEq, Nat.reduceAdd, Nat.reduceMul, Nat.reduceSub, Nat.reduceLT, Nat.reduceLeDiff, Nat.reduceEqDiff, Int.reduceNeg, Int.reduceAdd, Int.reduceMul, Int.reduceSub, Int.reduceLT, Int.reduceLE, Int.reduceEq, Int.reduceToNat, Int.reduceNatCast, icl, ico, inz, it1]
    refine ih (a + 1) s d M1 _ (by omega) (by omega) (q_C_e hC fun j h1 h2 => hM1 j (by omega)) (by rw [e1]; exact hD1) (fun M2 hM2 hY2 hN2 => ?_)
    simp (contextual := true) (disch := first | assumption | omega | exact il_cqA _ _ | exact il_cqB _ _) only [wi_64_1, wi_64_4, wi_64_5, wi_64_6, wi_64_8, wi_64_9, wi_64_10, wi_64_13, wi_64_16, wi_64_17, wi_64_19, wi_64_22, wi_64_23, wi_64_26, wi_64_27, wi_64_29, wi_64_32, wi_64_33, wi_64_34, wi_64_35, wi_64_38, wi_64_39, wi_64_41, wi_64_44, wi_64_45, wi_64_46, wi_64_47, wi_64_48, wi_64_51, wi_64_52, wi_64_53, wi_64_54, wi_64_55, wi_64_57, wi_64_59, wi_64_61, wi_64_64, wi_64_65, wi_64_66, wi_64_67, wi_64_68, wi_64_69, wi_64_70, wi_64_73, wi_64_75, wi_64_76, wi_64_77, wi_64_80, wi_64_81, wi_64_82, wi_64_83, wi_64_84, wi_64_85, wi_64_86, wi_64_87, wi_64_88, wi_64_89, wi_64_90, wi_64_93, io_add_o, io_sub_o, io_mul_o, io_neg_o, io_and_r, io_or_r, io_xor_r, io_nd_r, io_shr_r, io_shl1, io_i2b_r, io_i2l_o, io_l2i_o, il_add_o, il_sub_o, il_mul_o, il_neg_o, ib_bit, Int.toNat_natCast, true_implies, false_implies, implies_true, and_true, true_and, and_self, not_true_eq_false, not_false_eq_true, wa_0, wa_1, il_cmp_o, il_cmp0, il_cmp1, il_cmp2, io_bit1, ibt0, ibt1, ibt00, ibt11, ibt10, ibt01, Int.ofNat_lt, Int.ofNat_le, Int.ofNat_inj, Nat.lt_irrefl, Int.lt_irrefl, Int.toNat_one, Int.toNat_zero, Bool.false_eq_true, reduceIte, reduceCtorEq, Nat.reduceAdd, Nat.reduceMul, Nat.reduceSub, Nat.reduceLT, Nat.reduceLeDiff, Nat.reduceEqDiff, Int.reduceNeg, Int.reduceAdd, Int.reduceMul, Int.reduceSub, Int.reduceLT, Int.reduceLE, Int.reduceEq, Int.reduceToNat, Int.reduceNatCast, icl, ico, inz, it1]
    refine wp_padd hpb hg hG (q_C_e hC fun j h1 h2 => by rw [hM2 j (by omega) (by omega) (by omega), hM1 j (by omega)]) (pok_s hG s (by omega)) (q_D_e hD1 fun j h1 h2 => hM2 j (by omega) (by omega) (by omega)) hlt (fun M3 hM3 hD3 => ?_)
    simp (contextual := true) (disch := first | assumption | omega | exact il_cqA _ _ | exact il_cqB _ _) only [wi_64_1, wi_64_4, wi_64_5, wi_64_6, wi_64_8, wi_64_9, wi_64_10, wi_64_13, wi_64_16, wi_64_17, wi_64_19, wi_64_22, wi_64_23, wi_64_26, wi_64_27, wi_64_29, wi_64_32, wi_64_33, wi_64_34, wi_64_35, wi_64_38, wi_64_39, wi_64_41, wi_64_44, wi_64_45, wi_64_46, wi_64_47, wi_64_48, wi_64_51, wi_64_52, wi_64_53, wi_64_54, wi_64_55, wi_64_57, wi_64_59, wi_64_61, wi_64_64, wi_64_65, wi_64_66, wi_64_67, wi_64_68, wi_64_69, wi_64_70, wi_64_73, wi_64_75, wi_64_76, wi_64_77, wi_64_80, wi_64_81, wi_64_82, wi_64_83, wi_64_84, wi_64_85, wi_64_86, wi_64_87, wi_64_88, wi_64_89, wi_64_90, wi_64_93, io_add_o, io_sub_o, io_mul_o, io_neg_o, io_and_r, io_or_r, io_xor_r, io_nd_r, io_shr_r, io_shl1, io_i2b_r, io_i2l_o, io_l2i_o, il_add_o, il_sub_o, il_mul_o, il_neg_o, ib_bit, Int.toNat_natCast, true_implies, false_implies, implies_true, and_true, true_and, and_self, not_true_eq_false, not_false_eq_true, wa_0, wa_1, il_cmp_o, il_cmp0, il_cmp1, il_cmp2, io_bit1, ibt0, ibt1, ibt00, ibt11, ibt10, ibt01, Int.ofNat_lt, Int.ofNat_le, Int.ofNat_inj, Nat.lt_irrefl, Int.lt_irrefl, Int.toNat_one, Int.toNat_zero, Bool.false_eq_true, reduceIte, reduceCtorEq, Nat.reduceAdd, Nat.reduceMul, Nat.reduceSub, Nat.reduceLT, Nat.reduceLeDiff, Nat.reduceEqDiff, Int.reduceNeg, Int.reduceAdd, Int.reduceMul, Int.reduceSub, Int.reduceLT, Int.reduceLE, Int.reduceEq, Int.reduceToNat, Int.reduceNatCast, icl, ico, inz, it1]
    refine ih (a + 1) (s ||| 2 ^ a) d M3 _ (by omega) hs3 (q_C_e hC fun j h1 h2 => by rw [hM3 j (by omega), hM2 j (by omega) (by omega) (by omega), hM1 j (by omega)]) (by rw [e2]; exact hD3) (fun M4 hM4 hY4 hN4 => ?_)
    simp (contextual := true) (disch := first | assumption | omega | exact il_cqA _ _ | exact il_cqB _ _) only [wi_64_1, wi_64_4, wi_64_5, wi_64_6, wi_64_8, wi_64_9, wi_64_10, wi_64_13, wi_64_16, wi_64_17, wi_64_19, wi_64_22, wi_64_23, wi_64_26, wi_64_27, wi_64_29, wi_64_32, wi_64_33, wi_64_34, wi_64_35, wi_64_38, wi_64_39, wi_64_41, wi_64_44, wi_64_45, wi_64_46, wi_64_47, wi_64_48, wi_64_51, wi_64_52, wi_64_53, wi_64_54, wi_64_55, wi_64_57, wi_64_59, wi_64_61, wi_64_64, wi_64_65, wi_64_66, wi_64_67, wi_64_68, wi_64_69, wi_64_70, wi_64_73, wi_64_75, wi_64_76, wi_64_77, wi_64_80, wi_64_81, wi_64_82, wi_64_83, wi_64_84, wi_64_85, wi_64_86, wi_64_87, wi_64_88, wi_64_89, wi_64_90, wi_64_93, io_add_o, io_sub_o, io_mul_o, io_neg_o, io_and_r, io_or_r, io_xor_r, io_nd_r, io_shr_r, io_shl1, io_i2b_r, io_i2l_o, io_l2i_o, il_add_o, il_sub_o, il_mul_o, il_neg_o, ib_bit, Int.toNat_natCast, true_implies, false_implies, implies_true, and_true, true_and, and_self, not_true_eq_false, not_false_eq_true, wa_0, wa_1, il_cmp_o, il_cmp0, il_cmp1, il_cmp2, io_bit1, ibt0, ibt1, ibt00, ibt11, ibt10, ibt01, Int.ofNat_lt, Int.ofNat_le, Int.ofNat_inj, Nat.lt_irrefl, Int.lt_irrefl, Int.toNat_one, Int.toNat_zero, Bool.false_eq_true, reduceIte, reduceCtorEq, Nat.reduceAdd, Nat.reduceMul, Nat.reduceSub, Nat.reduceLT, Nat.reduceLeDiff, Nat.reduceEqDiff, Int.reduceNeg, Int.reduceAdd, Int.reduceMul, Int.reduceSub, Int.reduceLT, Int.reduceLE, Int.reduceEq, Int.reduceToNat, Int.reduceNatCast, icl, ico, inz]
    have hmod : ∀ t, t % 2 ^ (a + 1) = t % 2 ^ a + 2 ^ a * (t / 2 ^ a % 2) := fun t => Nat.mod_pow_succ
    refine hQ M4 (fun j h1 h2 h3 => ?_) (fun t ht hts => ?_) (fun t hts => ?_)
    · rw [hM4 j h1 h2 (by omega), hM3 j (by omega), hM2 j h1 h2 (by omega), hM1 j (by omega)]
    · have h9 := hmod t
      rcases Nat.mod_two_eq_zero_or_one (t / 2 ^ a) with h8 | h8
      · rw [h8, hts] at h9
        have a1 := hY2 t ht (by omega)
        have a2 := hN4 t (by omega)
        rw [a2.1, a2.2, hM3 83 (by omega), hM3 84 (by omega)]
        exact a1
      · rw [h8, hts] at h9
        exact hY4 t ht (by omega)
    · have h9 := hmod t
      have a1 : t % 2 ^ (a + 1) ≠ s := by
        intro h
        rcases Nat.mod_two_eq_zero_or_one (t / 2 ^ a) with h8 | h8
        · rw [h8] at h9
          omega
        · rw [h8] at h9
          omega
      have a3 := Nat.mod_lt t (show 2 ^ a > 0 by omega)
      have a2 : t % 2 ^ (a + 1) ≠ s ||| 2 ^ a := by
        intro h
        rcases Nat.mod_two_eq_zero_or_one (t / 2 ^ a) with h8 | h8
        · rw [h8] at h9
          omega
        · rw [h8] at h9
          omega
      have b1 := hN2 t a1
      have b2 := hN4 t a2
      rw [b2.1, b2.2, hM3 83 (by omega), hM3 84 (by omega), b1.1, b1.2, hM1 83 (by omega), hM1 84 (by omega)]
      exact ⟨rfl, rfl⟩
theorem wp_survey (hg : gs_G g) (hG : q_ok G) (hC : q_C M g G) (hS : qs_S M G) (hQ : ∀ M' : gg_M, (∀ j, j < 78 ∨ 125 < j → M' j = M j) → M' 78 4 = 1 → qs_S M' G → Q ((0, (3, 0)), (gk_R, M', 142, cc, cs))) :
    wp N xs (d + 16) 63 0 [gr 78, gr g] [] (gk_R, M, 142, cc, cs) Q := by
  have hgr := gs_Gr hg
  have k5 := hG.1.2.2.2.2.1
  rcases hS with hS | hS
  · have hp87 : gs_P (87 + 3 * 0) := gs_p82 (by decide)
    simp (contextual := true) (disch := first | assumption | omega | exact il_cqA _ _ | exact il_cqB _ _) only [wi_63_0, wi_63_1, wi_63_4, wi_63_7, wi_63_8, wi_63_11, wi_63_12, wi_63_13, wi_63_14, wi_63_17, wi_63_18, wi_63_19, wi_63_20, wi_63_21, wi_63_24, wi_63_25, wi_63_26, wi_63_29, io_add_o, io_sub_o, io_mul_o, io_neg_o, io_and_r, io_or_r, io_xor_r, io_nd_r, io_shr_r, io_shl1, io_i2b_r, io_i2l_o, io_l2i_o, il_add_o, il_sub_o, il_mul_o, il_neg_o, ib_bit, Int.toNat_natCast, true_implies, false_implies, implies_true, and_true, true_and, and_self, not_true_eq_false, not_false_eq_true, wa_0, wa_1, il_cmp_o, il_cmp0, il_cmp1, il_cmp2, io_bit1, ibt0, ibt1, ibt00, ibt11, ibt10, ibt01, Int.ofNat_lt, Int.ofNat_le, Int.ofNat_inj, Nat.lt_irrefl, Int.lt_irrefl, Int.toNat_one, Int.toNat_zero, Bool.false_eq_true, reduceIte, reduceCtorEq, Nat.reduceAdd, Nat.reduceMul, Nat.reduceSub, Nat.reduceLT, Nat.reduceLeDiff, Nat.reduceEqDiff, Int.reduceNeg, Int.reduceAdd, Int.reduceMul, Int.reduceSub, Int.reduceLT, Int.reduceLE, Int.reduceEq, Int.reduceToNat, Int.reduceNatCast, icl, ico, inz, hS]
    refine wp_pbegin hp87 hg hC.1.1 hG.1.2.1 (fun M1 hM1 hD1 => ?_)
    simp (contextual := true) (disch := first | assumption | omega | exact il_cqA _ _ | exact il_cqB _ _) only [wi_63_0, wi_63_1, wi_63_4, wi_63_7, wi_63_8, wi_63_11, wi_63_12, wi_63_13, wi_63_14, wi_63_17, wi_63_18, wi_63_19, wi_63_20, wi_63_21, wi_63_24, wi_63_25, wi_63_26, wi_63_29, io_add_o, io_sub_o, io_mul_o, io_neg_o, io_and_r, io_or_r, io_xor_r, io_nd_r, io_shr_r, io_shl1, io_i2b_r, io_i2l_o, io_l2i_o, il_add_o, il_sub_o, il_mul_o, il_neg_o, ib_bit, Int.toNat_natCast, true_implies, false_implies, implies_true, and_true, true_and, and_self, not_true_eq_false, not_false_eq_true, wa_0, wa_1, il_cmp_o, il_cmp0, il_cmp1, il_cmp2, io_bit1, ibt0, ibt1, ibt00, ibt11, ibt10, ibt01, Int.ofNat_lt, Int.ofNat_le, Int.ofNat_inj, Nat.lt_irrefl, Int.lt_irrefl, Int.toNat_one, Int.toNat_zero, Bool.false_eq_true, reduceIte, reduceCtorEq, Nat.reduceAdd, Nat.reduceMul, Nat.reduceSub, Nat.reduceLT, Nat.reduceLeDiff, Nat.reduceEqDiff, Int.reduceNeg, Int.reduceAdd, Int.reduceMul, Int.reduceSub, Int.reduceLT, Int.reduceLE, Int.reduceEq, Int.reduceToNat, Int.reduceNatCast, icl, ico, inz]
    have dep : d + 15 = (d + (12 - qK G)) + qK G + 3 := by omega
    rw [dep]
    refine wp_spread hg hG (qK G) 0 0 _ M1 _ (by omega) (by decide) (q_C_e hC fun j h1 h2 => hM1 j (by omega)) hD1 (fun M2 hM2 hY2 hN2 => ?_)
    simp (contextual := true) (disch := first | assumption | omega | exact il_cqA _ _ | exact il_cqB _ _) only [wi_63_0, wi_63_1, wi_63_4, wi_63_7, wi_63_8, wi_63_11, wi_63_12, wi_63_13, wi_63_14, wi_63_17, wi_63_18, wi_63_19, wi_63_20, wi_63_21, wi_63_24, wi_63_25, wi_63_26, wi_63_29, io_add_o, io_sub_o, io_mul_o, io_neg_o, io_and_r, io_or_r, io_xor_r, io_nd_r, io_shr_r, io_shl1, io_i2b_r, io_i2l_o, io_l2i_o, il_add_o, il_sub_o, il_mul_o, il_neg_o, ib_bit, Int.toNat_natCast, true_implies, false_implies, implies_true, and_true, true_and, and_self, not_true_eq_false, not_false_eq_true, wa_0, wa_1, il_cmp_o, il_cmp0, il_cmp1, il_cmp2, io_bit1, ibt0, ibt1, ibt00, ibt11, ibt10, ibt01, Int.ofNat_lt, Int.ofNat_le, Int.ofNat_inj, Nat.lt_irrefl, Int.lt_irrefl, Int.toNat_one, Int.toNat_zero, Bool.false_eq_true, reduceIte, reduceCtorEq, Nat.reduceAdd, Nat.reduceMul, Nat.reduceSub, Nat.reduceLT, Nat.reduceLeDiff, Nat.reduceEqDiff, Int.reduceNeg, Int.reduceAdd, Int.reduceMul, Int.reduceSub, Int.reduceLT, Int.reduceLE, Int.reduceEq, Int.reduceToNat, Int.reduceNatCast, icl, ico, inz]
    refine hQ _ (fun j hj => ?_) gu_e (Or.inr ⟨gu_e, fun s hs => ?_⟩)
    · rw [gu_n (by omega), hM2 j (by omega) (by omega) (by omega), hM1 j (by omega)]
    · rw [gu_n (by decide), gu_n (by decide)]
      exact hY2 s hs (Nat.mod_one s)
  · simp (contextual := true) (disch := first | assumption | omega | exact il_cqA _ _ | exact il_cqB _ _) only [wi_63_0, wi_63_1, wi_63_4, wi_63_7, wi_63_8, wi_63_11, wi_63_12, wi_63_13, wi_63_14, wi_63_17, wi_63_18, wi_63_19, wi_63_20, wi_63_21, wi_63_24, wi_63_25, wi_63_26, wi_63_29, io_add_o, io_sub_o, io_mul_o, io_neg_o, io_and_r, io_or_r, io_xor_r, io_nd_r, io_shr_r, io_shl1, io_i2b_r, io_i2l_o, io_l2i_o, il_add_o, il_sub_o, il_mul_o, il_neg_o, ib_bit, Int.toNat_natCast, true_implies, false_implies, implies_true, and_true, true_and, and_self, not_true_eq_false, not_false_eq_true, wa_0, wa_1, il_cmp_o, il_cmp0, il_cmp1, il_cmp2, io_bit1, ibt0, ibt1, ibt00, ibt11, ibt10, ibt01, Int.ofNat_lt, Int.ofNat_le, Int.ofNat_inj, Nat.lt_irrefl, Int.lt_irrefl, Int.toNat_one, Int.toNat_zero, Bool.false_eq_true, reduceIte, reduceCtorEq, Nat.reduceAdd, Nat.reduceMul, Nat.reduceSub, Nat.reduceLT, Nat.reduceLeDiff, Nat.reduceEqDiff, Int.reduceNeg, Int.reduceAdd, Int.reduceMul, Int.reduceSub, Int.reduceLT, Int.reduceLE, Int.reduceEq, Int.reduceToNat, Int.reduceNatCast, icl, ico, inz, hS.1]
    exact hQ M (fun _ _ => rfl) hS.1 (Or.inr hS)
theorem wp_rankOf (hg : gs_G g) (hG : q_ok G) (hC : q_C M g G) (hS : qs_S M G) {s : Nat} (hs : s < 2 ^ qK G) (hQ : ∀ M' : gg_M, (∀ j, j < 79 ∨ 81 < j → M' j = M j) → Q ((1, (0, (qrk G s : Int))), (gk_R, M', 142, cc, cs))) :
    wp N xs (d + 3) 67 0 [gr 78, gr g, (0, (s : Int))] [] (gk_R, M, 142, cc, cs) Q := by
  have hs2 : s < 4096 := Nat.lt_of_lt_of_le hs (two_le hG.1.2.2.2.2.1)
  have hp79 := gs_P79
  have h1 := hC.1.1
  have k2 := hG.1.2.1
  have h9 := qev_le G s
  have e9 : (qN G : Int) - (qev G s : Int) = (qrk G s : Int) := by
    unfold qrk
    omega
  rcases hS with hS | hS
  · simp (contextual := true) (disch := first | assumption | omega | exact il_cqA _ _ | exact il_cqB _ _) only [wi_67_0, wi_67_1, wi_67_4, wi_67_5, wi_67_8, wi_67_11, wi_67_12, wi_67_15, wi_67_16, wi_67_17, wi_67_20, wi_67_21, wi_67_22, wi_67_23, wi_67_26, wi_67_29, wi_67_30, io_add_o, io_sub_o, io_mul_o, io_neg_o, io_and_r, io_or_r, io_xor_r, io_nd_r, io_shr_r, io_shl1, io_i2b_r, io_i2l_o, io_l2i_o, il_add_o, il_sub_o, il_mul_o, il_neg_o, ib_bit, Int.toNat_natCast, true_implies, false_implies, implies_true, and_true, true_and, and_self, not_true_eq_false, not_false_eq_true, wa_0, wa_1, il_cmp_o, il_cmp0, il_cmp1, il_cmp2, io_bit1, ibt0, ibt1, ibt00, ibt11, ibt10, ibt01, Int.ofNat_lt, Int.ofNat_le, Int.ofNat_inj, Nat.lt_irrefl, Int.lt_irrefl, Int.toNat_one, Int.toNat_zero, Bool.false_eq_true, reduceIte, reduceCtorEq, Nat.reduceAdd, Nat.reduceMul, Nat.reduceSub, Nat.reduceLT, Nat.reduceLeDiff, Nat.reduceEqDiff, Int.reduceNeg, Int.reduceAdd, Int.reduceMul, Int.reduceSub, Int.reduceLT, Int.reduceLE, Int.reduceEq, Int.reduceToNat, Int.reduceNatCast, icl, ico, inz, hS, h1]
    refine wp_split hg hG hC hs2 (fun M' hM' hD => ?_)
    have d1 : M' 79 3 = (qev G s : Int) := hD.1.2.1
    simp (contextual := true) (disch := first | assumption | omega | exact il_cqA _ _ | exact il_cqB _ _) only [wi_67_0, wi_67_1, wi_67_4, wi_67_5, wi_67_8, wi_67_11, wi_67_12, wi_67_15, wi_67_16, wi_67_17, wi_67_20, wi_67_21, wi_67_22, wi_67_23, wi_67_26, wi_67_29, wi_67_30, io_add_o, io_sub_o, io_mul_o, io_neg_o, io_and_r, io_or_r, io_xor_r, io_nd_r, io_shr_r, io_shl1, io_i2b_r, io_i2l_o, io_l2i_o, il_add_o, il_sub_o, il_mul_o, il_neg_o, ib_bit, Int.toNat_natCast, true_implies, false_implies, implies_true, and_true, true_and, and_self, not_true_eq_false, not_false_eq_true, wa_0, wa_1, il_cmp_o, il_cmp0, il_cmp1, il_cmp2, io_bit1, ibt0, ibt1, ibt00, ibt11, ibt10, ibt01, Int.ofNat_lt, Int.ofNat_le, Int.ofNat_inj, Nat.lt_irrefl, Int.lt_irrefl, Int.toNat_one, Int.toNat_zero, Bool.false_eq_true, reduceIte, reduceCtorEq, Nat.reduceAdd, Nat.reduceMul, Nat.reduceSub, Nat.reduceLT, Nat.reduceLeDiff, Nat.reduceEqDiff, Int.reduceNeg, Int.reduceAdd, Int.reduceMul, Int.reduceSub, Int.reduceLT, Int.reduceLE, Int.reduceEq, Int.reduceToNat, Int.reduceNatCast, icl, ico, inz, d1, e9]
    exact hQ M' hM'
  · simp (contextual := true) (disch := first | assumption | omega | exact il_cqA _ _ | exact il_cqB _ _) only [wi_67_0, wi_67_1, wi_67_4, wi_67_5, wi_67_8, wi_67_11, wi_67_12, wi_67_15, wi_67_16, wi_67_17, wi_67_20, wi_67_21, wi_67_22, wi_67_23, wi_67_26, wi_67_29, wi_67_30, io_add_o, io_sub_o, io_mul_o, io_neg_o, io_and_r, io_or_r, io_xor_r, io_nd_r, io_shr_r, io_shl1, io_i2b_r, io_i2l_o, io_l2i_o, il_add_o, il_sub_o, il_mul_o, il_neg_o, ib_bit, Int.toNat_natCast, true_implies, false_implies, implies_true, and_true, true_and, and_self, not_true_eq_false, not_false_eq_true, wa_0, wa_1, il_cmp_o, il_cmp0, il_cmp1, il_cmp2, io_bit1, ibt0, ibt1, ibt00, ibt11, ibt10, ibt01, Int.ofNat_lt, Int.ofNat_le, Int.ofNat_inj, Nat.lt_irrefl, Int.lt_irrefl, Int.toNat_one, Int.toNat_zero, Bool.false_eq_true, reduceIte, reduceCtorEq, Nat.reduceAdd, Nat.reduceMul, Nat.reduceSub, Nat.reduceLT, Nat.reduceLeDiff, Nat.reduceEqDiff, Int.reduceNeg, Int.reduceAdd, Int.reduceMul, Int.reduceSub, Int.reduceLT, Int.reduceLE, Int.reduceEq, Int.reduceToNat, Int.reduceNatCast, icl, ico, inz, hS.1, (hS.2 s hs).2, h1, e9]
    exact hQ M (fun _ _ => rfl)
theorem wp_isFree (hg : gs_G g) (hG : q_ok G) (hC : q_C M g G) (hS : qs_S M G) {s : Nat} (hs : s < 2 ^ qK G) (hQ : ∀ M' : gg_M, (∀ j, j < 79 ∨ 81 < j → M' j = M j) → Q ((1, (0, ((qfr G s).toNat : Int))), (gk_R, M', 142, cc, cs))) :
    wp N xs (d + 4) 68 0 [gr 78, gr g, (0, (s : Int))] [] (gk_R, M, 142, cc, cs) Q := by
  have hs2 : s < 4096 := Nat.lt_of_lt_of_le hs (two_le hG.1.2.2.2.2.1)
  have k2 := hG.1.2.1
  have h8 : qrk G s ≤ 8 := by unfold qrk; omega
  have h9 := qcnt_le s.testBit 12
  have e9 := qsz_12 hG hs
  simp (contextual := true) (disch := first | assumption | omega | exact il_cqA _ _ | exact il_cqB _ _) only [wi_68_0, wi_68_1, wi_68_2, wi_68_3, wi_68_6, wi_68_7, wi_68_10, wi_68_13, wi_68_14, wi_68_17, wi_68_18, io_add_o, io_sub_o, io_mul_o, io_neg_o, io_and_r, io_or_r, io_xor_r, io_nd_r, io_shr_r, io_shl1, io_i2b_r, io_i2l_o, io_l2i_o, il_add_o, il_sub_o, il_mul_o, il_neg_o, ib_bit, Int.toNat_natCast, true_implies, false_implies, implies_true, and_true, true_and, and_self, not_true_eq_false, not_false_eq_true, wa_0, wa_1, il_cmp_o, il_cmp0, il_cmp1, il_cmp2, io_bit1, ibt0, ibt1, ibt00, ibt11, ibt10, ibt01, Int.ofNat_lt, Int.ofNat_le, Int.ofNat_inj, Nat.lt_irrefl, Int.lt_irrefl, Int.toNat_one, Int.toNat_zero, Bool.false_eq_true, reduceIte, reduceCtorEq, Nat.reduceAdd, Nat.reduceMul, Nat.reduceSub, Nat.reduceLT, Nat.reduceLeDiff, Nat.reduceEqDiff, Int.reduceNeg, Int.reduceAdd, Int.reduceMul, Int.reduceSub, Int.reduceLT, Int.reduceLE, Int.reduceEq, Int.reduceToNat, Int.reduceNatCast, icl, ico, inz]
  refine wp_rankOf hg hG hC hS hs (fun M' hM' => ?_)
  by_cases e : qrk G s = qsz G s
  · rw [show qfr G s = true from decide_eq_true e] at hQ
    rw [← e9] at e
    simp (contextual := true) (disch := first | assumption | omega | exact il_cqA _ _ | exact il_cqB _ _) only [wi_68_0, wi_68_1, wi_68_2, wi_68_3, wi_68_6, wi_68_7, wi_68_10, wi_68_13, wi_68_14, wi_68_17, wi_68_18, io_add_o, io_sub_o, io_mul_o, io_neg_o, io_and_r, io_or_r, io_xor_r, io_nd_r, io_shr_r, io_shl1, io_i2b_r, io_i2l_o, io_l2i_o, il_add_o, il_sub_o, il_mul_o, il_neg_o, ib_bit, Int.toNat_natCast, true_implies, false_implies, implies_true, and_true, true_and, and_self, not_true_eq_false, not_false_eq_true, wa_0, wa_1, il_cmp_o, il_cmp0, il_cmp1, il_cmp2, io_bit1, ibt0, ibt1, ibt00, ibt11, ibt10, ibt01, Int.ofNat_lt, Int.ofNat_le, Int.ofNat_inj, Nat.lt_irrefl, Int.lt_irrefl, Int.toNat_one, Int.toNat_zero, Bool.false_eq_true, reduceIte, reduceCtorEq, Nat.reduceAdd, Nat.reduceMul, Nat.reduceSub, Nat.reduceLT, Nat.reduceLeDiff, Nat.reduceEqDiff, Int.reduceNeg, Int.reduceAdd, Int.reduceMul, Int.reduceSub, Int.reduceLT, Int.reduceLE, Int.reduceEq, Int.reduceToNat, Int.reduceNatCast, icl, ico, inz, wp_bitCount, e]
    exact hQ M' hM'
  · rw [show qfr G s = false from decide_eq_false e] at hQ
    rw [← e9] at e
    simp (contextual := true) (disch := first | assumption | omega | exact il_cqA _ _ | exact il_cqB _ _) only [wi_68_0, wi_68_1, wi_68_2, wi_68_3, wi_68_6, wi_68_7, wi_68_10, wi_68_13, wi_68_14, wi_68_17, wi_68_18, io_add_o, io_sub_o, io_mul_o, io_neg_o, io_and_r, io_or_r, io_xor_r, io_nd_r, io_shr_r, io_shl1, io_i2b_r, io_i2l_o, io_l2i_o, il_add_o, il_sub_o, il_mul_o, il_neg_o, ib_bit, Int.toNat_natCast, true_implies, false_implies, implies_true, and_true, true_and, and_self, not_true_eq_false, not_false_eq_true, wa_0, wa_1, il_cmp_o, il_cmp0, il_cmp1, il_cmp2, io_bit1, ibt0, ibt1, ibt00, ibt11, ibt10, ibt01, Int.ofNat_lt, Int.ofNat_le, Int.ofNat_inj, Nat.lt_irrefl, Int.lt_irrefl, Int.toNat_one, Int.toNat_zero, Bool.false_eq_true, reduceIte, reduceCtorEq, Nat.reduceAdd, Nat.reduceMul, Nat.reduceSub, Nat.reduceLT, Nat.reduceLeDiff, Nat.reduceEqDiff, Int.reduceNeg, Int.reduceAdd, Int.reduceMul, Int.reduceSub, Int.reduceLT, Int.reduceLE, Int.reduceEq, Int.reduceToNat, Int.reduceNatCast, icl, ico, inz, wp_bitCount, e]
    exact hQ M' hM'
end SG
