/-! the model contracts, finishes -/
theorem q_R_setP {R R' : Nat → Int} {G : q_G} {v : Nat} {x : Int} (hG : q_ok G) (h : q_R R G) (h1 : ∀ p, p ≠ 57 + v → R' p = R p) (h2 : R' (57 + v) = x) : q_R R' (qsetP G v x) := by
  have k5 := hG.1.2.2.2.2.1
  obtain ⟨⟨g1, g2, g3, g4, g5⟩, hF, hT, hA, hW, hPa, hO⟩ := h
  refine ⟨⟨?_, ?_, ?_, ?_, ?_⟩, fun a ha => ?_, fun a ha => ?_, fun a ha => ?_, fun a ha => ?_, fun u hu => ?_, fun t ht => ?_⟩
  · rw [h1 0 (by omega)]; exact g1
  · rw [h1 1 (by omega)]; exact g2
  · rw [h1 2 (by omega)]; exact g3
  · rw [h1 3 (by omega)]; exact g4
  · rw [h1 4 (by omega)]; exact g5
  · have ha' : a < qK G := ha
    rw [h1 (9 + a) (by omega)]; exact hF a ha
  · have ha' : a < qK G := ha
    rw [h1 (21 + a) (by omega)]; exact hT a ha
  · have ha' : a < qK G := ha
    rw [h1 (33 + a) (by omega)]; exact hA a ha
  · have ha' : a < qK G := ha
    rw [h1 (45 + a) (by omega)]; exact hW a ha
  · show _ = qup (qP G) v x u
    unfold qup
    by_cases e : u = v
    · rw [if_pos e, e, h2]
    · rw [if_neg e, h1 (57 + u) (by omega)]
      exact hPa u hu
  · rw [h1 (5 + t) (by omega)]; exact hO t ht
section SG
variable {N : Nat} {xs : Nat → Int32} {d : Nat} {M : gg_M} {cc cs : Nat} {Q : gg_O → Prop} {G : q_G}
theorem wp_merged {v kept gone : Nat} (hv : v ≤ 100) (hk : kept ≤ 100) (hg : gone ≤ 100) (hne : kept ≠ gone) :
    wp N xs d 280 0 [(0, (v : Int)), (0, (kept : Int)), (0, (gone : Int)), (3, 0)] [] (gk_R, M, 158, cc, cs) Q ↔ Q ((1, (0, (qren kept gone v : Int))), (gk_R, M, 158, cc, cs)) := by
  refine wp_det ?_
  unfold qren
  by_cases e : v = gone
  · rw [if_pos e]
    by_cases e2 : gone < kept
    · rw [if_pos e2, show ((kept - 1 : Nat) : Int) = (kept : Int) - 1 by omega]
      simp (disch := first | assumption | omega | exact il_cqA _ _ | exact il_cqB _ _) only [wi_280_0, wi_280_1, wi_280_2, wi_280_5, wi_280_6, wi_280_9, wi_280_10, wi_280_11, wi_280_12, wi_280_13, wi_280_16, wi_280_17, wi_280_18, wi_280_19, wi_280_22, wi_280_23, io_add_o, io_sub_o, io_mul_o, io_neg_o, io_and_r, io_or_r, io_xor_r, io_nd_r, io_shr_r, io_shl1, io_i2b_r, io_i2l_o, io_l2i_o, il_add_o, il_sub_o, il_mul_o, il_neg_o, ib_bit, Int.toNat_natCast, true_implies, false_implies, implies_true, and_true, true_and, and_self, not_true_eq_false, not_false_eq_true, wa_0, wa_1, il_cmp_o, il_cmp0, il_cmp1, il_cmp2, io_bit1, ibt0, ibt1, ibt00, ibt11, ibt10, ibt01, Int.ofNat_lt, Int.ofNat_le, Int.ofNat_inj, Nat.lt_irrefl, Int.lt_irrefl, Int.toNat_one, Int.toNat_zero, Bool.false_eq_true, reduceIte, reduceCtorEq, Nat.reduceAdd, Nat.reduceMul, Nat.reduceSub, Nat.reduceLT, Nat.reduceLeDiff, Nat.reduceEqDiff, Int.reduceNeg, Int.reduceAdd, Int.reduceMul, Int.reduceSub, Int.reduceLT, Int.reduceLE, Int.reduceEq, Int.reduceToNat, Int.reduceNatCast, icl, ico, inz, e, e2]
    · rw [if_neg e2]
      simp (disch := first | assumption | omega | exact il_cqA _ _ | exact il_cqB _ _) only [wi_280_0, wi_280_1, wi_280_2, wi_280_5, wi_280_6, wi_280_9, wi_280_10, wi_280_11, wi_280_12, wi_280_13, wi_280_16, wi_280_17, wi_280_18, wi_280_19, wi_280_22, wi_280_23, io_add_o, io_sub_o, io_mul_o, io_neg_o, io_and_r, io_or_r, io_xor_r, io_nd_r, io_shr_r, io_shl1, io_i2b_r, io_i2l_o, io_l2i_o, il_add_o, il_sub_o, il_mul_o, il_neg_o, ib_bit, Int.toNat_natCast, true_implies, false_implies, implies_true, and_true, true_and, and_self, not_true_eq_false, not_false_eq_true, wa_0, wa_1, il_cmp_o, il_cmp0, il_cmp1, il_cmp2, io_bit1, ibt0, ibt1, ibt00, ibt11, ibt10, ibt01, Int.ofNat_lt, Int.ofNat_le, Int.ofNat_inj, Nat.lt_irrefl, Int.lt_irrefl, Int.toNat_one, Int.toNat_zero, Bool.false_eq_true, reduceIte, reduceCtorEq, Nat.reduceAdd, Nat.reduceMul, Nat.reduceSub, Nat.reduceLT, Nat.reduceLeDiff, Nat.reduceEqDiff, Int.reduceNeg, Int.reduceAdd, Int.reduceMul, Int.reduceSub, Int.reduceLT, Int.reduceLE, Int.reduceEq, Int.reduceToNat, Int.reduceNatCast, icl, ico, inz, e, e2]
  · rw [if_neg e]
    by_cases e2 : gone < v
    · rw [if_pos e2, show ((v - 1 : Nat) : Int) = (v : Int) - 1 by omega]
      simp (disch := first | assumption | omega | exact il_cqA _ _ | exact il_cqB _ _) only [wi_280_0, wi_280_1, wi_280_2, wi_280_5, wi_280_6, wi_280_9, wi_280_10, wi_280_11, wi_280_12, wi_280_13, wi_280_16, wi_280_17, wi_280_18, wi_280_19, wi_280_22, wi_280_23, io_add_o, io_sub_o, io_mul_o, io_neg_o, io_and_r, io_or_r, io_xor_r, io_nd_r, io_shr_r, io_shl1, io_i2b_r, io_i2l_o, io_l2i_o, il_add_o, il_sub_o, il_mul_o, il_neg_o, ib_bit, Int.toNat_natCast, true_implies, false_implies, implies_true, and_true, true_and, and_self, not_true_eq_false, not_false_eq_true, wa_0, wa_1, il_cmp_o, il_cmp0, il_cmp1, il_cmp2, io_bit1, ibt0, ibt1, ibt00, ibt11, ibt10, ibt01, Int.ofNat_lt, Int.ofNat_le, Int.ofNat_inj, Nat.lt_irrefl, Int.lt_irrefl, Int.toNat_one, Int.toNat_zero, Bool.false_eq_true, reduceIte, reduceCtorEq, Nat.reduceAdd, Nat.reduceMul, Nat.reduceSub, Nat.reduceLT, Nat.reduceLeDiff, Nat.reduceEqDiff, Int.reduceNeg, Int.reduceAdd, Int.reduceMul, Int.reduceSub, Int.reduceLT, Int.reduceLE, Int.reduceEq, Int.reduceToNat, Int.reduceNatCast, icl, ico, inz, e, e2]
    · rw [if_neg e2]
      simp (disch := first | assumption | omega | exact il_cqA _ _ | exact il_cqB _ _) only [wi_280_0, wi_280_1, wi_280_2, wi_280_5, wi_280_6, wi_280_9, wi_280_10, wi_280_11, wi_280_12, wi_280_13, wi_280_16, wi_280_17, wi_280_18, wi_280_19, wi_280_22, wi_280_23, io_add_o, io_sub_o, io_mul_o, io_neg_o, io_and_r, io_or_r, io_xor_r, io_nd_r, io_shr_r, io_shl1, io_i2b_r, io_i2l_o, io_l2i_o, il_add_o, il_sub_o, il_mul_o, il_neg_o, ib_bit, Int.toNat_natCast, true_implies, false_implies, implies_true, and_true, true_and, and_self, not_true_eq_false, not_false_eq_true, wa_0, wa_1, il_cmp_o, il_cmp0, il_cmp1, il_cmp2, io_bit1, ibt0, ibt1, ibt00, ibt11, ibt10, ibt01, Int.ofNat_lt, Int.ofNat_le, Int.ofNat_inj, Nat.lt_irrefl, Int.lt_irrefl, Int.toNat_one, Int.toNat_zero, Bool.false_eq_true, reduceIte, reduceCtorEq, Nat.reduceAdd, Nat.reduceMul, Nat.reduceSub, Nat.reduceLT, Nat.reduceLeDiff, Nat.reduceEqDiff, Int.reduceNeg, Int.reduceAdd, Int.reduceMul, Int.reduceSub, Int.reduceLT, Int.reduceLE, Int.reduceEq, Int.reduceToNat, Int.reduceNatCast, icl, ico, inz, e, e2]
theorem wp_mmerges (hG : q_ok G) (hR : q_R (M 143) G) {a : Nat} (ha : a < qK G) (hl : qF G a ≠ qT G a) (hQ : ∀ M' : gg_M, (∀ j, j ≠ 143 → M' j = M j) → q_R (M' 143) (qmrg G a) → Q ((0, (3, 0)), (gk_R, M', 158, cc, cs))) :
    wp N xs (d + 2) 279 0 [gr 142, (0, (a : Int)), (3, 0), (3, 0), (3, 0), (3, 0)] [] (gk_R, M, 158, cc, cs) Q := by
  obtain ⟨a1, a2, a3, _⟩ := hG.2.1 a ha
  have hm0 := qmi_lt (m := qM G) (a := 0) (by omega) a3
  have hN8 := hG.1.2.1
  have hM12 := hG.1.2.2.2.1
  have hK12 := hG.1.2.2.2.2.1
  have hGs := qok_sw hG (v := qT G a) (b := qmi (qM G) 0 (qA G a)) a2 hm0
  have hH := qok_drop hGs (a := a) ha
  have hKH : qK (qdrop (qsw G (qT G a) (qmi (qM G) 0 (qA G a))) a) = qK G - 1 := rfl
  have hNH : qN (qdrop (qsw G (qT G a) (qmi (qM G) 0 (qA G a))) a) = qN G := rfl
  have e1 := hR.2.1 a ha
  have e2 := hR.2.2.1 a ha
  have e3 := hR.2.2.2.1 a ha
  have e4 := hR.1.2.1
  have mn : (-(qA G a : Int)) % (qM G : Int) = (qmi (qM G) 0 (qA G a) : Int) := by
    rw [← em_mi (a := 0) (by omega) a3]
    congr 1
    omega
  simp (disch := first | assumption | omega | exact il_cqA _ _ | exact il_cqB _ _) only [wi_279_0, wi_279_1, wi_279_4, wi_279_6, wi_279_7, wi_279_8, wi_279_9, wi_279_10, wi_279_11, wi_279_14, wi_279_16, wi_279_17, wi_279_18, wi_279_19, wi_279_20, wi_279_21, wi_279_22, wi_279_23, wi_279_24, wi_279_27, wi_279_29, wi_279_30, wi_279_31, wi_279_32, wi_279_33, wi_279_36, wi_279_39, wi_279_41, wi_279_42, wi_279_43, wi_279_46, wi_279_47, wi_279_51, wi_279_52, wi_279_55, wi_279_56, wi_279_57, wi_279_60, wi_279_61, wi_279_64, wi_279_66, wi_279_68, wi_279_69, wi_279_70, wi_279_73, wi_279_75, wi_279_77, wi_279_78, wi_279_79, wi_279_80, wi_279_81, wi_279_84, wi_279_85, wi_279_86, wi_279_89, wi_279_91, wi_279_93, wi_279_94, wi_279_95, wi_279_98, wi_279_100, wi_279_102, wi_279_103, wi_279_104, wi_279_105, wi_279_106, wi_279_109, wi_279_110, wi_279_113, wi_279_116, wi_279_117, wi_279_120, wi_279_121, wi_279_122, wi_279_123, wi_279_124, wi_279_125, wi_279_126, wi_279_127, wi_279_131, wi_279_132, wi_279_135, wi_279_136, wi_279_137, wi_279_140, wi_279_141, wi_279_144, wi_279_146, wi_279_148, wi_279_149, wi_279_150, wi_279_153, wi_279_155, wi_279_157, wi_279_158, wi_279_159, wi_279_160, wi_279_161, wi_279_162, wi_279_165, wi_279_168, wi_279_169, wi_279_172, wi_279_174, wi_279_175, wi_279_178, wi_279_179, wi_279_180, wi_279_181, wi_279_182, wi_279_183, io_add_o, io_sub_o, io_mul_o, io_neg_o, io_and_r, io_or_r, io_xor_r, io_nd_r, io_shr_r, io_shl1, io_i2b_r, io_i2l_o, io_l2i_o, il_add_o, il_sub_o, il_mul_o, il_neg_o, ib_bit, Int.toNat_natCast, true_implies, false_implies, implies_true, and_true, true_and, and_self, not_true_eq_false, not_false_eq_true, wa_0, wa_1, il_cmp_o, il_cmp0, il_cmp1, il_cmp2, io_bit1, ibt0, ibt1, ibt00, ibt11, ibt10, ibt01, Int.ofNat_lt, Int.ofNat_le, Int.ofNat_inj, Nat.lt_irrefl, Int.lt_irrefl, Int.toNat_one, Int.toNat_zero, Bool.false_eq_true, reduceIte, reduceCtorEq, Nat.reduceAdd, Nat.reduceMul, Nat.reduceSub, Nat.reduceLT, Nat.reduceLeDiff, Nat.reduceEqDiff, Int.reduceNeg, Int.reduceAdd, Int.reduceMul, Int.reduceSub, Int.reduceLT, Int.reduceLE, Int.reduceEq, Int.reduceToNat, Int.reduceNatCast, icl, ico, inz, it9, it21, it33, e1, e2, e3, wp_rest (M := M) e4 hG.1.2.2.1 hM12, mn]
  refine wp_mswitches hG hR a2 hm0 (fun M1 hM1 hR1 => ?_)
  simp (disch := first | assumption | omega | exact il_cqA _ _ | exact il_cqB _ _) only [wi_279_0, wi_279_1, wi_279_4, wi_279_6, wi_279_7, wi_279_8, wi_279_9, wi_279_10, wi_279_11, wi_279_14, wi_279_16, wi_279_17, wi_279_18, wi_279_19, wi_279_20, wi_279_21, wi_279_22, wi_279_23, wi_279_24, wi_279_27, wi_279_29, wi_279_30, wi_279_31, wi_279_32, wi_279_33, wi_279_36, wi_279_39, wi_279_41, wi_279_42, wi_279_43, wi_279_46, wi_279_47, wi_279_51, wi_279_52, wi_279_55, wi_279_56, wi_279_57, wi_279_60, wi_279_61, wi_279_64, wi_279_66, wi_279_68, wi_279_69, wi_279_70, wi_279_73, wi_279_75, wi_279_77, wi_279_78, wi_279_79, wi_279_80, wi_279_81, wi_279_84, wi_279_85, wi_279_86, wi_279_89, wi_279_91, wi_279_93, wi_279_94, wi_279_95, wi_279_98, wi_279_100, wi_279_102, wi_279_103, wi_279_104, wi_279_105, wi_279_106, wi_279_109, wi_279_110, wi_279_113, wi_279_116, wi_279_117, wi_279_120, wi_279_121, wi_279_122, wi_279_123, wi_279_124, wi_279_125, wi_279_126, wi_279_127, wi_279_131, wi_279_132, wi_279_135, wi_279_136, wi_279_137, wi_279_140, wi_279_141, wi_279_144, wi_279_146, wi_279_148, wi_279_149, wi_279_150, wi_279_153, wi_279_155, wi_279_157, wi_279_158, wi_279_159, wi_279_160, wi_279_161, wi_279_162, wi_279_165, wi_279_168, wi_279_169, wi_279_172, wi_279_174, wi_279_175, wi_279_178, wi_279_179, wi_279_180, wi_279_181, wi_279_182, wi_279_183, io_add_o, io_sub_o, io_mul_o, io_neg_o, io_and_r, io_or_r, io_xor_r, io_nd_r, io_shr_r, io_shl1, io_i2b_r, io_i2l_o, io_l2i_o, il_add_o, il_sub_o, il_mul_o, il_neg_o, ib_bit, Int.toNat_natCast, true_implies, false_implies, implies_true, and_true, true_and, and_self, not_true_eq_false, not_false_eq_true, wa_0, wa_1, il_cmp_o, il_cmp0, il_cmp1, il_cmp2, io_bit1, ibt0, ibt1, ibt00, ibt11, ibt10, ibt01, Int.ofNat_lt, Int.ofNat_le, Int.ofNat_inj, Nat.lt_irrefl, Int.lt_irrefl, Int.toNat_one, Int.toNat_zero, Bool.false_eq_true, reduceIte, reduceCtorEq, Nat.reduceAdd, Nat.reduceMul, Nat.reduceSub, Nat.reduceLT, Nat.reduceLeDiff, Nat.reduceEqDiff, Int.reduceNeg, Int.reduceAdd, Int.reduceMul, Int.reduceSub, Int.reduceLT, Int.reduceLE, Int.reduceEq, Int.reduceToNat, Int.reduceNatCast, icl, ico, inz]
  refine wp_mdrops hGs hR1 ha (fun M2 hM2 hR2 => ?_)
  simp (disch := first | assumption | omega | exact il_cqA _ _ | exact il_cqB _ _) only [wi_279_0, wi_279_1, wi_279_4, wi_279_6, wi_279_7, wi_279_8, wi_279_9, wi_279_10, wi_279_11, wi_279_14, wi_279_16, wi_279_17, wi_279_18, wi_279_19, wi_279_20, wi_279_21, wi_279_22, wi_279_23, wi_279_24, wi_279_27, wi_279_29, wi_279_30, wi_279_31, wi_279_32, wi_279_33, wi_279_36, wi_279_39, wi_279_41, wi_279_42, wi_279_43, wi_279_46, wi_279_47, wi_279_51, wi_279_52, wi_279_55, wi_279_56, wi_279_57, wi_279_60, wi_279_61, wi_279_64, wi_279_66, wi_279_68, wi_279_69, wi_279_70, wi_279_73, wi_279_75, wi_279_77, wi_279_78, wi_279_79, wi_279_80, wi_279_81, wi_279_84, wi_279_85, wi_279_86, wi_279_89, wi_279_91, wi_279_93, wi_279_94, wi_279_95, wi_279_98, wi_279_100, wi_279_102, wi_279_103, wi_279_104, wi_279_105, wi_279_106, wi_279_109, wi_279_110, wi_279_113, wi_279_116, wi_279_117, wi_279_120, wi_279_121, wi_279_122, wi_279_123, wi_279_124, wi_279_125, wi_279_126, wi_279_127, wi_279_131, wi_279_132, wi_279_135, wi_279_136, wi_279_137, wi_279_140, wi_279_141, wi_279_144, wi_279_146, wi_279_148, wi_279_149, wi_279_150, wi_279_153, wi_279_155, wi_279_157, wi_279_158, wi_279_159, wi_279_160, wi_279_161, wi_279_162, wi_279_165, wi_279_168, wi_279_169, wi_279_172, wi_279_174, wi_279_175, wi_279_178, wi_279_179, wi_279_180, wi_279_181, wi_279_182, wi_279_183, io_add_o, io_sub_o, io_mul_o, io_neg_o, io_and_r, io_or_r, io_xor_r, io_nd_r, io_shr_r, io_shl1, io_i2b_r, io_i2l_o, io_l2i_o, il_add_o, il_sub_o, il_mul_o, il_neg_o, ib_bit, Int.toNat_natCast, true_implies, false_implies, implies_true, and_true, true_and, and_self, not_true_eq_false, not_false_eq_true, wa_0, wa_1, il_cmp_o, il_cmp0, il_cmp1, il_cmp2, io_bit1, ibt0, ibt1, ibt00, ibt11, ibt10, ibt01, Int.ofNat_lt, Int.ofNat_le, Int.ofNat_inj, Nat.lt_irrefl, Int.lt_irrefl, Int.toNat_one, Int.toNat_zero, Bool.false_eq_true, reduceIte, reduceCtorEq, Nat.reduceAdd, Nat.reduceMul, Nat.reduceSub, Nat.reduceLT, Nat.reduceLeDiff, Nat.reduceEqDiff, Int.reduceNeg, Int.reduceAdd, Int.reduceMul, Int.reduceSub, Int.reduceLT, Int.reduceLE, Int.reduceEq, Int.reduceToNat, Int.reduceNatCast, icl, ico, inz]
  generalize hHd : qdrop (qsw G (qT G a) (qmi (qM G) 0 (qA G a))) a = H at *
  obtain ⟨⟨h1, h2, h3, h4, h5⟩, hF, hT, hA, hW, hPa, hO⟩ := id hR2
  have hmr : qmrg G a = qmk (qN G - 1) (qM G) (qK H) (qS H) (qL G) (fun k => qren (qF G a) (qT G a) (qF H k)) (fun k => qren (qF G a) (qT G a) (qT H k)) (qA H) (qW H) (fun v => if qN G - 1 ≤ v then -1 else qov (qP H) (qT G a) v) (qO G) := by
    rw [← hHd]
    rfl
  have hLM : qL H = qL G ∧ qM H = qM G ∧ ∀ t, qO H t = qO G t := by
    rw [← hHd]
    exact ⟨rfl, rfl, fun _ => rfl⟩
  rw [hmr] at hQ
  have hF2 : ∀ j, j ≠ 143 → M2 j = M j := fun j hj => by rw [hM2 j hj, hM1 j hj]
  have hKH2 : qK H ≤ 12 := hH.1.2.2.2.2.1
  refine wl_i (P := fun i I => ∀ M' : gg_M, (∀ r, r ≠ 143 → M' r = M2 r) → (∀ k, k < qK H → M' 143 (9 + k) = ((if k < i then qren (qF G a) (qT G a) (qF H k) else qF H k : Nat) : Int) ∧ M' 143 (21 + k) = ((if k < i then qren (qF G a) (qT G a) (qT H k) else qT H k : Nat) : Int)) → (∀ p, p < 9 ∨ 33 ≤ p → M' 143 p = M2 143 p) → ∀ l4 : Int, wp N xs (d + 2) 279 49 [gr 142, (0, (a : Int)), (0, (qF G a : Int)), (0, (qT G a : Int)), (0, l4), (0, I)] [] (gk_R, M', 158, cc, cs) Q) (qK H) (fun i hi ih M' hM hv ho l4 => ?_) (fun M' hM hv ho l4 => ?_) M2 (fun _ _ => rfl) (fun k hk => ⟨by rw [if_neg (Nat.not_lt_zero k)]; exact hF k hk, by rw [if_neg (Nat.not_lt_zero k)]; exact hT k hk⟩) (fun _ _ => rfl) _
  · have g3 : M' 143 2 = (qK H : Int) := by rw [ho 2 (by decide)]; exact h3
    obtain ⟨v1, v2⟩ := hv i hi
    rw [if_neg (Nat.lt_irrefl i)] at v1 v2
    obtain ⟨b1, b2, _⟩ := hH.2.1 i hi
    rw [hNH] at b1 b2
    rw [wi_279_49]
    simp (disch := first | assumption | omega | exact il_cqA _ _ | exact il_cqB _ _) only [wi_279_0, wi_279_1, wi_279_4, wi_279_6, wi_279_7, wi_279_8, wi_279_9, wi_279_10, wi_279_11, wi_279_14, wi_279_16, wi_279_17, wi_279_18, wi_279_19, wi_279_20, wi_279_21, wi_279_22, wi_279_23, wi_279_24, wi_279_27, wi_279_29, wi_279_30, wi_279_31, wi_279_32, wi_279_33, wi_279_36, wi_279_39, wi_279_41, wi_279_42, wi_279_43, wi_279_46, wi_279_47, wi_279_51, wi_279_52, wi_279_55, wi_279_56, wi_279_57, wi_279_60, wi_279_61, wi_279_64, wi_279_66, wi_279_68, wi_279_69, wi_279_70, wi_279_73, wi_279_75, wi_279_77, wi_279_78, wi_279_79, wi_279_80, wi_279_81, wi_279_84, wi_279_85, wi_279_86, wi_279_89, wi_279_91, wi_279_93, wi_279_94, wi_279_95, wi_279_98, wi_279_100, wi_279_102, wi_279_103, wi_279_104, wi_279_105, wi_279_106, wi_279_109, wi_279_110, wi_279_113, wi_279_116, wi_279_117, wi_279_120, wi_279_121, wi_279_122, wi_279_123, wi_279_124, wi_279_125, wi_279_126, wi_279_127, wi_279_131, wi_279_132, wi_279_135, wi_279_136, wi_279_137, wi_279_140, wi_279_141, wi_279_144, wi_279_146, wi_279_148, wi_279_149, wi_279_150, wi_279_153, wi_279_155, wi_279_157, wi_279_158, wi_279_159, wi_279_160, wi_279_161, wi_279_162, wi_279_165, wi_279_168, wi_279_169, wi_279_172, wi_279_174, wi_279_175, wi_279_178, wi_279_179, wi_279_180, wi_279_181, wi_279_182, wi_279_183, io_add_o, io_sub_o, io_mul_o, io_neg_o, io_and_r, io_or_r, io_xor_r, io_nd_r, io_shr_r, io_shl1, io_i2b_r, io_i2l_o, io_l2i_o, il_add_o, il_sub_o, il_mul_o, il_neg_o, ib_bit, Int.toNat_natCast, true_implies, false_implies, implies_true, and_true, true_and, and_self, not_true_eq_false, not_false_eq_true, wa_0, wa_1, il_cmp_o, il_cmp0, il_cmp1, il_cmp2, io_bit1, ibt0, ibt1, ibt00, ibt11, ibt10, ibt01, Int.ofNat_lt, Int.ofNat_le, Int.ofNat_inj, Nat.lt_irrefl, Int.lt_irrefl, Int.toNat_one, Int.toNat_zero, Bool.false_eq_true, reduceIte, reduceCtorEq, Nat.reduceAdd, Nat.reduceMul, Nat.reduceSub, Nat.reduceLT, Nat.reduceLeDiff, Nat.reduceEqDiff, Int.reduceNeg, Int.reduceAdd, Int.reduceMul, Int.reduceSub, Int.reduceLT, Int.reduceLE, Int.reduceEq, Int.reduceToNat, Int.reduceNatCast, icl, ico, inz, hi, g3, it9, it21, v1, v2, gu_s, wp_merged]
    refine ih _ (fun r hr => by rw [gu_n hr, gu_n hr, hM r hr]) (fun k hk => ?_) (fun p hp => by rw [gu_s (by omega), gu_s (by omega), ho p hp]) _
    obtain ⟨w1, w2⟩ := hv k hk
    by_cases e : k = i
    · subst e
      rw [gu_s (by omega), gu_e, gu_e, if_pos (by omega), if_pos (by omega)]
      exact ⟨rfl, rfl⟩
    · rw [gu_s (by omega), gu_s (by omega), gu_s (by omega), gu_s (by omega), w1, w2]
      by_cases e2 : k < i
      · rw [if_pos e2, if_pos e2, if_pos (by omega), if_pos (by omega)]
        exact ⟨rfl, rfl⟩
      · rw [if_neg e2, if_neg e2, if_neg (by omega), if_neg (by omega)]
        exact ⟨rfl, rfl⟩
  · have g3 : M' 143 2 = (qK H : Int) := by rw [ho 2 (by decide)]; exact h3
    have g1 : M' 143 0 = (qN G : Int) := by rw [ho 0 (by decide), h1, hNH]
    have e6 : (qN G : Int) - 1 = ((qN G - 1 : Nat) : Int) := by omega
    rw [wi_279_49]
    simp (disch := first | assumption | omega | exact il_cqA _ _ | exact il_cqB _ _) only [wi_279_0, wi_279_1, wi_279_4, wi_279_6, wi_279_7, wi_279_8, wi_279_9, wi_279_10, wi_279_11, wi_279_14, wi_279_16, wi_279_17, wi_279_18, wi_279_19, wi_279_20, wi_279_21, wi_279_22, wi_279_23, wi_279_24, wi_279_27, wi_279_29, wi_279_30, wi_279_31, wi_279_32, wi_279_33, wi_279_36, wi_279_39, wi_279_41, wi_279_42, wi_279_43, wi_279_46, wi_279_47, wi_279_51, wi_279_52, wi_279_55, wi_279_56, wi_279_57, wi_279_60, wi_279_61, wi_279_64, wi_279_66, wi_279_68, wi_279_69, wi_279_70, wi_279_73, wi_279_75, wi_279_77, wi_279_78, wi_279_79, wi_279_80, wi_279_81, wi_279_84, wi_279_85, wi_279_86, wi_279_89, wi_279_91, wi_279_93, wi_279_94, wi_279_95, wi_279_98, wi_279_100, wi_279_102, wi_279_103, wi_279_104, wi_279_105, wi_279_106, wi_279_109, wi_279_110, wi_279_113, wi_279_116, wi_279_117, wi_279_120, wi_279_121, wi_279_122, wi_279_123, wi_279_124, wi_279_125, wi_279_126, wi_279_127, wi_279_131, wi_279_132, wi_279_135, wi_279_136, wi_279_137, wi_279_140, wi_279_141, wi_279_144, wi_279_146, wi_279_148, wi_279_149, wi_279_150, wi_279_153, wi_279_155, wi_279_157, wi_279_158, wi_279_159, wi_279_160, wi_279_161, wi_279_162, wi_279_165, wi_279_168, wi_279_169, wi_279_172, wi_279_174, wi_279_175, wi_279_178, wi_279_179, wi_279_180, wi_279_181, wi_279_182, wi_279_183, io_add_o, io_sub_o, io_mul_o, io_neg_o, io_and_r, io_or_r, io_xor_r, io_nd_r, io_shr_r, io_shl1, io_i2b_r, io_i2l_o, io_l2i_o, il_add_o, il_sub_o, il_mul_o, il_neg_o, ib_bit, Int.toNat_natCast, true_implies, false_implies, implies_true, and_true, true_and, and_self, not_true_eq_false, not_false_eq_true, wa_0, wa_1, il_cmp_o, il_cmp0, il_cmp1, il_cmp2, io_bit1, ibt0, ibt1, ibt00, ibt11, ibt10, ibt01, Int.ofNat_lt, Int.ofNat_le, Int.ofNat_inj, Nat.lt_irrefl, Int.lt_irrefl, Int.toNat_one, Int.toNat_zero, Bool.false_eq_true, reduceIte, reduceCtorEq, Nat.reduceAdd, Nat.reduceMul, Nat.reduceSub, Nat.reduceLT, Nat.reduceLeDiff, Nat.reduceEqDiff, Int.reduceNeg, Int.reduceAdd, Int.reduceMul, Int.reduceSub, Int.reduceLT, Int.reduceLE, Int.reduceEq, Int.reduceToNat, Int.reduceNatCast, icl, ico, inz, g3, g1, e6]
    refine wl_for (P := fun j => ∀ M3 : gg_M, (∀ r, r ≠ 143 → M3 r = M' r) → M3 143 0 = ((qN G - 1 : Nat) : Int) → (∀ v, v < 8 → M3 143 (57 + v) = if v < qT G a + j then qov (qP H) (qT G a) v else qP H v) → (∀ p, p ≠ 0 → p < 57 → M3 143 p = M' 143 p) → ∀ l4 : Int, wp N xs (d + 2) 279 129 [gr 142, (0, (a : Int)), (0, (qF G a : Int)), (0, (qT G a : Int)), (0, l4), (0, ((qT G a + j : Nat) : Int))] [] (gk_R, M3, 158, cc, cs) Q) (qN G - 1 - qT G a) (fun j hj ih M3 hM3 hn3 hv3 ho3 l4 => ?_) (fun M3 hM3 hn3 hv3 ho3 l4 => ?_) (gg_up M' 143 0 ((qN G - 1 : Nat) : Int)) (fun r hr => gu_n hr) gu_e (fun v hv' => ?_) (fun p hp _ => gu_s hp) _
    · have w1 := hv3 (qT G a + j + 1) (by omega)
      rw [if_neg (by omega)] at w1
      have e8 : ((qT G a + (j + 1) : Nat) : Int) = ((qT G a + j : Nat) : Int) + 1 := by omega
      have e7 : qT G a + (j + 1) = (qT G a + j) + 1 := by omega
      have ov : qov (qP H) (qT G a) (qT G a + j) = qP H (qT G a + j + 1) := if_neg (by omega)
      simp only [e8, e7] at ih
      rw [wi_279_129]
      have hlt : ((qT G a + j : Nat) : Int) < ((qN G - 1 : Nat) : Int) := by omega
      generalize qT G a + j = kk at *
      have t1 : ((57 : Int) + (kk : Int) + 1).toNat = 57 + (kk + 1) := by omega
      simp (disch := first | assumption | omega | exact il_cqA _ _ | exact il_cqB _ _) only [wi_279_0, wi_279_1, wi_279_4, wi_279_6, wi_279_7, wi_279_8, wi_279_9, wi_279_10, wi_279_11, wi_279_14, wi_279_16, wi_279_17, wi_279_18, wi_279_19, wi_279_20, wi_279_21, wi_279_22, wi_279_23, wi_279_24, wi_279_27, wi_279_29, wi_279_30, wi_279_31, wi_279_32, wi_279_33, wi_279_36, wi_279_39, wi_279_41, wi_279_42, wi_279_43, wi_279_46, wi_279_47, wi_279_51, wi_279_52, wi_279_55, wi_279_56, wi_279_57, wi_279_60, wi_279_61, wi_279_64, wi_279_66, wi_279_68, wi_279_69, wi_279_70, wi_279_73, wi_279_75, wi_279_77, wi_279_78, wi_279_79, wi_279_80, wi_279_81, wi_279_84, wi_279_85, wi_279_86, wi_279_89, wi_279_91, wi_279_93, wi_279_94, wi_279_95, wi_279_98, wi_279_100, wi_279_102, wi_279_103, wi_279_104, wi_279_105, wi_279_106, wi_279_109, wi_279_110, wi_279_113, wi_279_116, wi_279_117, wi_279_120, wi_279_121, wi_279_122, wi_279_123, wi_279_124, wi_279_125, wi_279_126, wi_279_127, wi_279_131, wi_279_132, wi_279_135, wi_279_136, wi_279_137, wi_279_140, wi_279_141, wi_279_144, wi_279_146, wi_279_148, wi_279_149, wi_279_150, wi_279_153, wi_279_155, wi_279_157, wi_279_158, wi_279_159, wi_279_160, wi_279_161, wi_279_162, wi_279_165, wi_279_168, wi_279_169, wi_279_172, wi_279_174, wi_279_175, wi_279_178, wi_279_179, wi_279_180, wi_279_181, wi_279_182, wi_279_183, io_add_o, io_sub_o, io_mul_o, io_neg_o, io_and_r, io_or_r, io_xor_r, io_nd_r, io_shr_r, io_shl1, io_i2b_r, io_i2l_o, io_l2i_o, il_add_o, il_sub_o, il_mul_o, il_neg_o, ib_bit, Int.toNat_natCast, true_implies, false_implies, implies_true, and_true, true_and, and_self, not_true_eq_false, not_false_eq_true, wa_0, wa_1, il_cmp_o, il_cmp0, il_cmp1, il_cmp2, io_bit1, ibt0, ibt1, ibt00, ibt11, ibt10, ibt01, Int.ofNat_lt, Int.ofNat_le, Int.ofNat_inj, Nat.lt_irrefl, Int.lt_irrefl, Int.toNat_one, Int.toNat_zero, Bool.false_eq_true, reduceIte, reduceCtorEq, Nat.reduceAdd, Nat.reduceMul, Nat.reduceSub, Nat.reduceLT, Nat.reduceLeDiff, Nat.reduceEqDiff, Int.reduceNeg, Int.reduceAdd, Int.reduceMul, Int.reduceSub, Int.reduceLT, Int.reduceLE, Int.reduceEq, Int.reduceToNat, Int.reduceNatCast, icl, ico, inz, hn3, hlt, it57, t1, w1]
      refine ih _ (fun r hr => by rw [gu_n hr, hM3 r hr]) (by rw [gu_s (by omega)]; exact hn3) (fun v hv' => ?_) (fun p hp hp2 => by rw [gu_s (by omega), ho3 p hp hp2]) _
      by_cases e : v = kk
      · subst e
        rw [gu_e, if_pos (by omega), ov]
      · rw [gu_s (by omega), hv3 v hv']
        by_cases e2 : v < kk
        · rw [if_pos e2, if_pos (by omega)]
        · rw [if_neg e2, if_neg (by omega)]
    · have hkk : qT G a + (qN G - 1 - qT G a) = qN G - 1 := by omega
      rw [hkk] at hv3 ⊢
      rw [wi_279_129]
      simp (disch := first | assumption | omega | exact il_cqA _ _ | exact il_cqB _ _) only [wi_279_0, wi_279_1, wi_279_4, wi_279_6, wi_279_7, wi_279_8, wi_279_9, wi_279_10, wi_279_11, wi_279_14, wi_279_16, wi_279_17, wi_279_18, wi_279_19, wi_279_20, wi_279_21, wi_279_22, wi_279_23, wi_279_24, wi_279_27, wi_279_29, wi_279_30, wi_279_31, wi_279_32, wi_279_33, wi_279_36, wi_279_39, wi_279_41, wi_279_42, wi_279_43, wi_279_46, wi_279_47, wi_279_51, wi_279_52, wi_279_55, wi_279_56, wi_279_57, wi_279_60, wi_279_61, wi_279_64, wi_279_66, wi_279_68, wi_279_69, wi_279_70, wi_279_73, wi_279_75, wi_279_77, wi_279_78, wi_279_79, wi_279_80, wi_279_81, wi_279_84, wi_279_85, wi_279_86, wi_279_89, wi_279_91, wi_279_93, wi_279_94, wi_279_95, wi_279_98, wi_279_100, wi_279_102, wi_279_103, wi_279_104, wi_279_105, wi_279_106, wi_279_109, wi_279_110, wi_279_113, wi_279_116, wi_279_117, wi_279_120, wi_279_121, wi_279_122, wi_279_123, wi_279_124, wi_279_125, wi_279_126, wi_279_127, wi_279_131, wi_279_132, wi_279_135, wi_279_136, wi_279_137, wi_279_140, wi_279_141, wi_279_144, wi_279_146, wi_279_148, wi_279_149, wi_279_150, wi_279_153, wi_279_155, wi_279_157, wi_279_158, wi_279_159, wi_279_160, wi_279_161, wi_279_162, wi_279_165, wi_279_168, wi_279_169, wi_279_172, wi_279_174, wi_279_175, wi_279_178, wi_279_179, wi_279_180, wi_279_181, wi_279_182, wi_279_183, io_add_o, io_sub_o, io_mul_o, io_neg_o, io_and_r, io_or_r, io_xor_r, io_nd_r, io_shr_r, io_shl1, io_i2b_r, io_i2l_o, io_l2i_o, il_add_o, il_sub_o, il_mul_o, il_neg_o, ib_bit, Int.toNat_natCast, true_implies, false_implies, implies_true, and_true, true_and, and_self, not_true_eq_false, not_false_eq_true, wa_0, wa_1, il_cmp_o, il_cmp0, il_cmp1, il_cmp2, io_bit1, ibt0, ibt1, ibt00, ibt11, ibt10, ibt01, Int.ofNat_lt, Int.ofNat_le, Int.ofNat_inj, Nat.lt_irrefl, Int.lt_irrefl, Int.toNat_one, Int.toNat_zero, Bool.false_eq_true, reduceIte, reduceCtorEq, Nat.reduceAdd, Nat.reduceMul, Nat.reduceSub, Nat.reduceLT, Nat.reduceLeDiff, Nat.reduceEqDiff, Int.reduceNeg, Int.reduceAdd, Int.reduceMul, Int.reduceSub, Int.reduceLT, Int.reduceLE, Int.reduceEq, Int.reduceToNat, Int.reduceNatCast, icl, ico, inz, hn3, it57]
      have hFF : ∀ p, p ≠ 0 → (p < 9 ∨ 33 ≤ p ∧ p < 57) → gg_up M3 143 (57 + (qN G - 1)) (-1) 143 p = M2 143 p := fun p p0 p1 => by rw [gu_s (by omega), ho3 p p0 (by omega), ho p (by omega)]
      refine hQ _ (fun j hj => by rw [gu_n hj, hM3 j hj, hM j hj, hF2 j hj]) ⟨⟨?_, ?_, ?_, ?_, ?_⟩, fun k hk => ?_, fun k hk => ?_, fun k hk => ?_, fun k hk => ?_, fun v hv' => ?_, fun t ht => ?_⟩
      · rw [gu_s (by omega)]; exact hn3
      · rw [hFF 1 (by decide) (by decide), h2, hLM.2.1]; rfl
      · rw [hFF 2 (by decide) (by decide), h3]; rfl
      · rw [hFF 3 (by decide) (by decide), h4]; rfl
      · rw [hFF 4 (by decide) (by decide), h5, hLM.1]; rfl
      · have hk' : k < qK H := hk
        rw [gu_s (by omega), ho3 _ (by omega) (by omega), (hv k hk').1, if_pos hk']
        rfl
      · have hk' : k < qK H := hk
        rw [gu_s (by omega), ho3 _ (by omega) (by omega), (hv k hk').2, if_pos hk']
        rfl
      · have hk' : k < qK H := hk
        rw [hFF _ (by omega) (by omega)]
        exact hA k hk
      · have hk' : k < qK H := hk
        rw [hFF _ (by omega) (by omega)]
        exact hW k hk
      · show _ = (if qN G - 1 ≤ v then (-1 : Int) else qov (qP H) (qT G a) v)
        by_cases e : v = qN G - 1
        · subst e
          rw [gu_e, if_pos (Nat.le_refl _)]
        · rw [gu_s (by omega), hv3 v hv']
          by_cases e2 : v < qN G - 1
          · rw [if_pos e2, if_neg (by omega)]
          · rw [if_neg e2, if_pos (by omega)]
            exact hH.2.2.2 v (by rw [hNH]; omega) hv'
      · rw [hFF _ (by omega) (by omega), hO t ht, hLM.2.2]
        rfl
    · rw [gu_s (by omega), ho _ (by omega), hPa v hv']
      split
      · exact (if_pos (by omega)).symm
      · rfl
theorem wp_mpainted (hR : q_R (M 143) G) (hG : q_ok G) :
    wp N xs d 191 0 [gr 142, (3, 0), (3, 0)] [] (gk_R, M, 158, cc, cs) Q ↔ Q ((1, (0, (qcnt (fun v => decide (qP G v ≠ -1)) (qN G) : Int))), (gk_R, M, 158, cc, cs)) := by
  refine wp_det ?_
  obtain ⟨⟨h1, h2, h3, h4, h5⟩, hF, hT, hA, hW, hPa, hO⟩ := id hR
  obtain ⟨⟨k1, k2, k3, k4, k5, k6, k7, k8⟩, hk, hp, hp2⟩ := id hG
  have hml := Nat.mul_le_mul k4 k8
  simp (disch := first | assumption | omega | exact il_cqA _ _ | exact il_cqB _ _) only [wi_191_0, wi_191_1, wi_191_2, wi_191_3, wi_191_5, wi_191_6, wi_191_9, wi_191_10, wi_191_11, wi_191_14, wi_191_15, wi_191_16, wi_191_19, wi_191_21, wi_191_22, wi_191_23, wi_191_24, wi_191_25, wi_191_28, wi_191_29, wi_191_32, wi_191_33, wi_191_34, wi_191_35, wi_191_38, wi_191_41, wi_191_42, io_add_o, io_sub_o, io_mul_o, io_neg_o, io_and_r, io_or_r, io_xor_r, io_nd_r, io_shr_r, io_shl1, io_i2b_r, io_i2l_o, io_l2i_o, il_add_o, il_sub_o, il_mul_o, il_neg_o, ib_bit, Int.toNat_natCast, true_implies, false_implies, implies_true, and_true, true_and, and_self, not_true_eq_false, not_false_eq_true, wa_0, wa_1, il_cmp_o, il_cmp0, il_cmp1, il_cmp2, io_bit1, ibt0, ibt1, ibt00, ibt11, ibt10, ibt01, Int.ofNat_lt, Int.ofNat_le, Int.ofNat_inj, Nat.lt_irrefl, Int.lt_irrefl, Int.toNat_one, Int.toNat_zero, Bool.false_eq_true, reduceIte, reduceCtorEq, Nat.reduceAdd, Nat.reduceMul, Nat.reduceSub, Nat.reduceLT, Nat.reduceLeDiff, Nat.reduceEqDiff, Int.reduceNeg, Int.reduceAdd, Int.reduceMul, Int.reduceSub, Int.reduceLT, Int.reduceLE, Int.reduceEq, Int.reduceToNat, Int.reduceNatCast, icl, ico, inz]
  refine wl_i (P := fun i I => wp N xs d 191 4 [gr 142, (0, (qcnt (fun v => decide (qP G v ≠ -1)) i : Int)), (0, I)] [] (gk_R, M, 158, cc, cs) _) (qN G) (fun i hi ih => ?_) ?_
  · have hpi := hp i (by omega)
    have hPi := hPa i (by omega)
    have hl := qcnt_le (fun v => decide (qP G v ≠ -1)) i
    rw [qcnt] at ih
    rw [wi_191_4]
    by_cases e : qP G i = -1
    · rw [decide_eq_false (fun h => h e)] at ih
      simp (disch := first | assumption | omega | exact il_cqA _ _ | exact il_cqB _ _) only [wi_191_0, wi_191_1, wi_191_2, wi_191_3, wi_191_5, wi_191_6, wi_191_9, wi_191_10, wi_191_11, wi_191_14, wi_191_15, wi_191_16, wi_191_19, wi_191_21, wi_191_22, wi_191_23, wi_191_24, wi_191_25, wi_191_28, wi_191_29, wi_191_32, wi_191_33, wi_191_34, wi_191_35, wi_191_38, wi_191_41, wi_191_42, io_add_o, io_sub_o, io_mul_o, io_neg_o, io_and_r, io_or_r, io_xor_r, io_nd_r, io_shr_r, io_shl1, io_i2b_r, io_i2l_o, io_l2i_o, il_add_o, il_sub_o, il_mul_o, il_neg_o, ib_bit, Int.toNat_natCast, true_implies, false_implies, implies_true, and_true, true_and, and_self, not_true_eq_false, not_false_eq_true, wa_0, wa_1, il_cmp_o, il_cmp0, il_cmp1, il_cmp2, io_bit1, ibt0, ibt1, ibt00, ibt11, ibt10, ibt01, Int.ofNat_lt, Int.ofNat_le, Int.ofNat_inj, Nat.lt_irrefl, Int.lt_irrefl, Int.toNat_one, Int.toNat_zero, Bool.false_eq_true, reduceIte, reduceCtorEq, Nat.reduceAdd, Nat.reduceMul, Nat.reduceSub, Nat.reduceLT, Nat.reduceLeDiff, Nat.reduceEqDiff, Int.reduceNeg, Int.reduceAdd, Int.reduceMul, Int.reduceSub, Int.reduceLT, Int.reduceLE, Int.reduceEq, Int.reduceToNat, Int.reduceNatCast, icl, ico, inz, hi, h1, it57, hPi, e, Int.add_zero]
      exact ih
    · rw [decide_eq_true e] at ih
      simp (disch := first | assumption | omega | exact il_cqA _ _ | exact il_cqB _ _) only [wi_191_0, wi_191_1, wi_191_2, wi_191_3, wi_191_5, wi_191_6, wi_191_9, wi_191_10, wi_191_11, wi_191_14, wi_191_15, wi_191_16, wi_191_19, wi_191_21, wi_191_22, wi_191_23, wi_191_24, wi_191_25, wi_191_28, wi_191_29, wi_191_32, wi_191_33, wi_191_34, wi_191_35, wi_191_38, wi_191_41, wi_191_42, io_add_o, io_sub_o, io_mul_o, io_neg_o, io_and_r, io_or_r, io_xor_r, io_nd_r, io_shr_r, io_shl1, io_i2b_r, io_i2l_o, io_l2i_o, il_add_o, il_sub_o, il_mul_o, il_neg_o, ib_bit, Int.toNat_natCast, true_implies, false_implies, implies_true, and_true, true_and, and_self, not_true_eq_false, not_false_eq_true, wa_0, wa_1, il_cmp_o, il_cmp0, il_cmp1, il_cmp2, io_bit1, ibt0, ibt1, ibt00, ibt11, ibt10, ibt01, Int.ofNat_lt, Int.ofNat_le, Int.ofNat_inj, Nat.lt_irrefl, Int.lt_irrefl, Int.toNat_one, Int.toNat_zero, Bool.false_eq_true, reduceIte, reduceCtorEq, Nat.reduceAdd, Nat.reduceMul, Nat.reduceSub, Nat.reduceLT, Nat.reduceLeDiff, Nat.reduceEqDiff, Int.reduceNeg, Int.reduceAdd, Int.reduceMul, Int.reduceSub, Int.reduceLT, Int.reduceLE, Int.reduceEq, Int.reduceToNat, Int.reduceNatCast, icl, ico, inz, hi, h1, it57, hPi, e]
      exact ih
  · rw [wi_191_4]
    simp (disch := first | assumption | omega | exact il_cqA _ _ | exact il_cqB _ _) only [wi_191_0, wi_191_1, wi_191_2, wi_191_3, wi_191_5, wi_191_6, wi_191_9, wi_191_10, wi_191_11, wi_191_14, wi_191_15, wi_191_16, wi_191_19, wi_191_21, wi_191_22, wi_191_23, wi_191_24, wi_191_25, wi_191_28, wi_191_29, wi_191_32, wi_191_33, wi_191_34, wi_191_35, wi_191_38, wi_191_41, wi_191_42, io_add_o, io_sub_o, io_mul_o, io_neg_o, io_and_r, io_or_r, io_xor_r, io_nd_r, io_shr_r, io_shl1, io_i2b_r, io_i2l_o, io_l2i_o, il_add_o, il_sub_o, il_mul_o, il_neg_o, ib_bit, Int.toNat_natCast, true_implies, false_implies, implies_true, and_true, true_and, and_self, not_true_eq_false, not_false_eq_true, wa_0, wa_1, il_cmp_o, il_cmp0, il_cmp1, il_cmp2, io_bit1, ibt0, ibt1, ibt00, ibt11, ibt10, ibt01, Int.ofNat_lt, Int.ofNat_le, Int.ofNat_inj, Nat.lt_irrefl, Int.lt_irrefl, Int.toNat_one, Int.toNat_zero, Bool.false_eq_true, reduceIte, reduceCtorEq, Nat.reduceAdd, Nat.reduceMul, Nat.reduceSub, Nat.reduceLT, Nat.reduceLeDiff, Nat.reduceEqDiff, Int.reduceNeg, Int.reduceAdd, Int.reduceMul, Int.reduceSub, Int.reduceLT, Int.reduceLE, Int.reduceEq, Int.reduceToNat, Int.reduceNatCast, icl, ico, inz, h1]
/-- finish, behind what is kept -/
theorem wp_mfinish (hR : q_R (M 143) G) (hG : q_ok G) (hQ : ∀ M' : gg_M, (∀ j, j ≠ 143 → j ≠ 153 → M' j = M j) → q_R (M' 143) (qfin G (qN G)) → Q ((1, (0, (qcnt (fun v => decide (qP (qfin G (qN G)) v ≠ -1)) (qN G) : Int))), (gk_R, M', 158, cc, cs))) (l2 : gg_V) :
    wp N xs (d + 3) 260 11 [gr 142, (0, 0), l2] [] (gk_R, M, 158, cc, cs) Q := by
  have hN8 := hG.1.2.1
  refine wl_i (P := fun i I => ∀ M' : gg_M, (∀ j, j ≠ 143 → j ≠ 153 → M' j = M j) → q_R (M' 143) (qfin G i) → ∀ l2 : gg_V, wp N xs (d + 3) 260 11 [gr 142, (0, I), l2] [] (gk_R, M', 158, cc, cs) Q) (qN G) (fun i hi ih M' hM hR' l2 => ?_) (fun M' hM hR' l2 => ?_) M (fun _ _ _ => rfl) hR l2
  · obtain ⟨hGi, n1, n2, n3, n4⟩ := qok_fin hG i (by omega)
    obtain ⟨⟨h1, h2, h3, h4, h5⟩, hF, hT, hA, hW, hPa, hO⟩ := id hR'
    obtain ⟨⟨k1, k2, k3, k4, k5, k6, k7, k8⟩, hk, hp, hp2⟩ := id hGi
    rw [n1] at h1
    rw [n2] at h2 k4
    rw [n3] at h5 k8
    have hml := Nat.mul_le_mul k4 k8
    have en : (qM G : Int) * (qL G : Int) + 1 = ((qM G * qL G + 1 : Nat) : Int) := by omega
    have emul : (qM G : Int) * (qL G : Int) ≤ 60 := by
      have : ((qM G * qL G : Nat) : Int) ≤ 60 := by omega
      exact this
    have emul0 : 0 ≤ (qM G : Int) * (qL G : Int) := by
      have : (0 : Int) ≤ ((qM G * qL G : Nat) : Int) := by omega
      exact this
    rw [wi_260_11]
    simp (disch := first | assumption | omega | exact il_cqA _ _ | exact il_cqB _ _) only [wi_260_0, wi_260_1, wi_260_2, wi_260_5, wi_260_6, wi_260_9, wi_260_10, wi_260_12, wi_260_13, wi_260_16, wi_260_17, wi_260_18, wi_260_21, wi_260_22, wi_260_25, wi_260_26, wi_260_28, wi_260_29, wi_260_32, wi_260_35, wi_260_36, wi_260_39, wi_260_41, wi_260_42, wi_260_43, wi_260_44, wi_260_45, wi_260_48, wi_260_49, wi_260_50, wi_260_51, wi_260_54, wi_260_55, wi_260_58, wi_260_59, wi_260_62, wi_260_64, wi_260_65, wi_260_66, wi_260_67, wi_260_68, wi_260_71, wi_260_74, wi_260_77, wi_260_80, wi_260_81, wi_260_84, io_add_o, io_sub_o, io_mul_o, io_neg_o, io_and_r, io_or_r, io_xor_r, io_nd_r, io_shr_r, io_shl1, io_i2b_r, io_i2l_o, io_l2i_o, il_add_o, il_sub_o, il_mul_o, il_neg_o, ib_bit, Int.toNat_natCast, true_implies, false_implies, implies_true, and_true, true_and, and_self, not_true_eq_false, not_false_eq_true, wa_0, wa_1, il_cmp_o, il_cmp0, il_cmp1, il_cmp2, io_bit1, ibt0, ibt1, ibt00, ibt11, ibt10, ibt01, Int.ofNat_lt, Int.ofNat_le, Int.ofNat_inj, Nat.lt_irrefl, Int.lt_irrefl, Int.toNat_one, Int.toNat_zero, Bool.false_eq_true, reduceIte, reduceCtorEq, Nat.reduceAdd, Nat.reduceMul, Nat.reduceSub, Nat.reduceLT, Nat.reduceLeDiff, Nat.reduceEqDiff, Int.reduceNeg, Int.reduceAdd, Int.reduceMul, Int.reduceSub, Int.reduceLT, Int.reduceLE, Int.reduceEq, Int.reduceToNat, Int.reduceNatCast, icl, ico, inz, hi, h1]
    refine wp_triesPaint hR' hGi (fun M2 hM2 hT2 => ?_)
    have e143 : M2 143 = M' 143 := hM2 143 (by decide)
    have hF2 : ∀ j, j ≠ 143 → j ≠ 153 → M2 j = M j := fun j j1 j2 => by rw [hM2 j j2, hM j j1 j2]
    have hPi : M2 143 (57 + i) = qP (qfin G i) i := by rw [e143]; exact hPa i (by omega)
    have hpi := hp i (by omega)
    rw [n2, n3] at hpi
    have h2' : M2 143 1 = (qM G : Int) := by rw [e143]; exact h2
    have h5' : M2 143 4 = (qL G : Int) := by rw [e143]; exact h5
    simp (disch := first | assumption | omega | exact il_cqA _ _ | exact il_cqB _ _) only [wi_260_0, wi_260_1, wi_260_2, wi_260_5, wi_260_6, wi_260_9, wi_260_10, wi_260_12, wi_260_13, wi_260_16, wi_260_17, wi_260_18, wi_260_21, wi_260_22, wi_260_25, wi_260_26, wi_260_28, wi_260_29, wi_260_32, wi_260_35, wi_260_36, wi_260_39, wi_260_41, wi_260_42, wi_260_43, wi_260_44, wi_260_45, wi_260_48, wi_260_49, wi_260_50, wi_260_51, wi_260_54, wi_260_55, wi_260_58, wi_260_59, wi_260_62, wi_260_64, wi_260_65, wi_260_66, wi_260_67, wi_260_68, wi_260_71, wi_260_74, wi_260_77, wi_260_80, wi_260_81, wi_260_84, io_add_o, io_sub_o, io_mul_o, io_neg_o, io_and_r, io_or_r, io_xor_r, io_nd_r, io_shr_r, io_shl1, io_i2b_r, io_i2l_o, io_l2i_o, il_add_o, il_sub_o, il_mul_o, il_neg_o, ib_bit, Int.toNat_natCast, true_implies, false_implies, implies_true, and_true, true_and, and_self, not_true_eq_false, not_false_eq_true, wa_0, wa_1, il_cmp_o, il_cmp0, il_cmp1, il_cmp2, io_bit1, ibt0, ibt1, ibt00, ibt11, ibt10, ibt01, Int.ofNat_lt, Int.ofNat_le, Int.ofNat_inj, Nat.lt_irrefl, Int.lt_irrefl, Int.toNat_one, Int.toNat_zero, Bool.false_eq_true, reduceIte, reduceCtorEq, Nat.reduceAdd, Nat.reduceMul, Nat.reduceSub, Nat.reduceLT, Nat.reduceLeDiff, Nat.reduceEqDiff, Int.reduceNeg, Int.reduceAdd, Int.reduceMul, Int.reduceSub, Int.reduceLT, Int.reduceLE, Int.reduceEq, Int.reduceToNat, Int.reduceNatCast, icl, ico, inz]
    by_cases e : qP (qfin G i) i = -1
    · have efin : qfin G (i + 1) = qsetP (qfin G i) i (qfst (qopen G (qP (qfin G i)) i) (qM G * qL G + 1)) := by
        rw [qfin, if_pos e]
        rfl
      rw [efin] at ih
      have hop : ∀ x, qopen (qfin G i) (qP (qfin G i)) i x = qopen G (qP (qfin G i)) i x := fun x => by
        unfold qopen
        rw [qhit_fin, n4]
      refine wl_i (P := fun c I => (∀ y, y < c → qopen G (qP (qfin G i)) i y = false) → wp N xs (d + 3) 260 27 [gr 142, (0, (i : Int)), (0, I)] [] (gk_R, M2, 158, cc, cs) Q) (qM G * qL G + 1) (fun c hc ihc hno => ?_) (fun hno => ?_) (fun y hy => absurd hy (Nat.not_lt_zero y))
      · have hcI : (c : Int) < ((qM G * qL G + 1 : Nat) : Int) := by omega
        have hfr := qfst_rg (qhit (qfin G i) (qP (qfin G i)) i (c : Nat)) (qK (qfin G i))
        have hclash : ∀ Q' : gg_O → Prop, wp N xs (d + 2) 240 0 [gr 142, (0, (i : Int)), (0, (c : Int)), (3, 0), (3, 0), (3, 0), (3, 0)] [] (gk_R, M2, 158, cc, cs) Q' ↔ Q' ((1, (0, qfst (qhit (qfin G i) (qP (qfin G i)) i (c : Nat)) (qK (qfin G i)))), (gk_R, M2, 158, cc, cs)) := fun Q' => wp_clashOf (M := M2) (G := qfin G i) (c := qP (qfin G i)) (Q := Q') (by rw [e143]; exact hR') hGi (fun u hu => hT2 u (by omega)) (fun u hu => by
          have := hp u (by omega)
          rw [n2, n3] at this
          omega) (by omega) (by omega)
        rw [wi_260_27]
        cases ho : qopen G (qP (qfin G i)) i c
        · have hf : ¬ qfst (qhit (qfin G i) (qP (qfin G i)) i (c : Nat)) (qK (qfin G i)) = -1 := by
            rw [qfst_open, hop, ho]
            decide
          simp (disch := first | assumption | omega | exact il_cqA _ _ | exact il_cqB _ _) only [wi_260_0, wi_260_1, wi_260_2, wi_260_5, wi_260_6, wi_260_9, wi_260_10, wi_260_12, wi_260_13, wi_260_16, wi_260_17, wi_260_18, wi_260_21, wi_260_22, wi_260_25, wi_260_26, wi_260_28, wi_260_29, wi_260_32, wi_260_35, wi_260_36, wi_260_39, wi_260_41, wi_260_42, wi_260_43, wi_260_44, wi_260_45, wi_260_48, wi_260_49, wi_260_50, wi_260_51, wi_260_54, wi_260_55, wi_260_58, wi_260_59, wi_260_62, wi_260_64, wi_260_65, wi_260_66, wi_260_67, wi_260_68, wi_260_71, wi_260_74, wi_260_77, wi_260_80, wi_260_81, wi_260_84, wi_250_0, wi_250_1, wi_250_2, wi_250_5, wi_250_6, wi_250_7, wi_250_10, wi_235_0, wi_235_1, wi_235_4, wi_235_5, wi_235_6, wi_235_7, wi_235_8, wi_235_9, wi_235_10, io_add_o, io_sub_o, io_mul_o, io_neg_o, io_and_r, io_or_r, io_xor_r, io_nd_r, io_shr_r, io_shl1, io_i2b_r, io_i2l_o, io_l2i_o, il_add_o, il_sub_o, il_mul_o, il_neg_o, ib_bit, Int.toNat_natCast, true_implies, false_implies, implies_true, and_true, true_and, and_self, not_true_eq_false, not_false_eq_true, wa_0, wa_1, il_cmp_o, il_cmp0, il_cmp1, il_cmp2, io_bit1, ibt0, ibt1, ibt00, ibt11, ibt10, ibt01, Int.ofNat_lt, Int.ofNat_le, Int.ofNat_inj, Nat.lt_irrefl, Int.lt_irrefl, Int.toNat_one, Int.toNat_zero, Bool.false_eq_true, reduceIte, reduceCtorEq, Nat.reduceAdd, Nat.reduceMul, Nat.reduceSub, Nat.reduceLT, Nat.reduceLeDiff, Nat.reduceEqDiff, Int.reduceNeg, Int.reduceAdd, Int.reduceMul, Int.reduceSub, Int.reduceLT, Int.reduceLE, Int.reduceEq, Int.reduceToNat, Int.reduceNatCast, icl, ico, inz, h2', h5', en, hcI, it57, hPi, e, hclash, hf]
          refine ihc fun y hy => ?_
          by_cases e2 : y = c
          · subst e2
            exact ho
          · exact hno y (by omega)
        · have hf : qfst (qhit (qfin G i) (qP (qfin G i)) i (c : Nat)) (qK (qfin G i)) = -1 := by
            rw [qfst_open, hop, ho]
          have hres : qfst (qopen G (qP (qfin G i)) i) (qM G * qL G + 1) = (c : Int) := qfst_hit hc ho hno
          rw [hres] at ih
          have hnx := ih (gg_up M2 143 (57 + i) (c : Int)) (fun j j1 j2 => by rw [gu_n j1, hF2 j j1 j2]) (q_R_setP hGi (by rw [← e143] at hR'; exact hR') (fun p hp => gu_s hp) gu_e)
          have hc1 : ¬ (c : Int) = -1 := by omega
          simp (disch := first | assumption | omega | exact il_cqA _ _ | exact il_cqB _ _) only [wi_260_0, wi_260_1, wi_260_2, wi_260_5, wi_260_6, wi_260_9, wi_260_10, wi_260_12, wi_260_13, wi_260_16, wi_260_17, wi_260_18, wi_260_21, wi_260_22, wi_260_25, wi_260_26, wi_260_28, wi_260_29, wi_260_32, wi_260_35, wi_260_36, wi_260_39, wi_260_41, wi_260_42, wi_260_43, wi_260_44, wi_260_45, wi_260_48, wi_260_49, wi_260_50, wi_260_51, wi_260_54, wi_260_55, wi_260_58, wi_260_59, wi_260_62, wi_260_64, wi_260_65, wi_260_66, wi_260_67, wi_260_68, wi_260_71, wi_260_74, wi_260_77, wi_260_80, wi_260_81, wi_260_84, wi_250_0, wi_250_1, wi_250_2, wi_250_5, wi_250_6, wi_250_7, wi_250_10, wi_235_0, wi_235_1, wi_235_4, wi_235_5, wi_235_6, wi_235_7, wi_235_8, wi_235_9, wi_235_10, io_add_o, io_sub_o, io_mul_o, io_neg_o, io_and_r, io_or_r, io_xor_r, io_nd_r, io_shr_r, io_shl1, io_i2b_r, io_i2l_o, io_l2i_o, il_add_o, il_sub_o, il_mul_o, il_neg_o, ib_bit, Int.toNat_natCast, true_implies, false_implies, implies_true, and_true, true_and, and_self, not_true_eq_false, not_false_eq_true, wa_0, wa_1, il_cmp_o, il_cmp0, il_cmp1, il_cmp2, io_bit1, ibt0, ibt1, ibt00, ibt11, ibt10, ibt01, Int.ofNat_lt, Int.ofNat_le, Int.ofNat_inj, Nat.lt_irrefl, Int.lt_irrefl, Int.toNat_one, Int.toNat_zero, Bool.false_eq_true, reduceIte, reduceCtorEq, Nat.reduceAdd, Nat.reduceMul, Nat.reduceSub, Nat.reduceLT, Nat.reduceLeDiff, Nat.reduceEqDiff, Int.reduceNeg, Int.reduceAdd, Int.reduceMul, Int.reduceSub, Int.reduceLT, Int.reduceLE, Int.reduceEq, Int.reduceToNat, Int.reduceNatCast, icl, ico, inz, h2', h5', en, hcI, it57, hPi, e, hclash, hf]
          rw [wi_260_27]
          by_cases e4 : (c : Int) + 1 < ((qM G * qL G + 1 : Nat) : Int)
          · simp (disch := first | assumption | omega | exact il_cqA _ _ | exact il_cqB _ _) only [wi_260_0, wi_260_1, wi_260_2, wi_260_5, wi_260_6, wi_260_9, wi_260_10, wi_260_12, wi_260_13, wi_260_16, wi_260_17, wi_260_18, wi_260_21, wi_260_22, wi_260_25, wi_260_26, wi_260_28, wi_260_29, wi_260_32, wi_260_35, wi_260_36, wi_260_39, wi_260_41, wi_260_42, wi_260_43, wi_260_44, wi_260_45, wi_260_48, wi_260_49, wi_260_50, wi_260_51, wi_260_54, wi_260_55, wi_260_58, wi_260_59, wi_260_62, wi_260_64, wi_260_65, wi_260_66, wi_260_67, wi_260_68, wi_260_71, wi_260_74, wi_260_77, wi_260_80, wi_260_81, wi_260_84, wi_250_0, wi_250_1, wi_250_2, wi_250_5, wi_250_6, wi_250_7, wi_250_10, wi_235_0, wi_235_1, wi_235_4, wi_235_5, wi_235_6, wi_235_7, wi_235_8, wi_235_9, wi_235_10, io_add_o, io_sub_o, io_mul_o, io_neg_o, io_and_r, io_or_r, io_xor_r, io_nd_r, io_shr_r, io_shl1, io_i2b_r, io_i2l_o, io_l2i_o, il_add_o, il_sub_o, il_mul_o, il_neg_o, ib_bit, Int.toNat_natCast, true_implies, false_implies, implies_true, and_true, true_and, and_self, not_true_eq_false, not_false_eq_true, wa_0, wa_1, il_cmp_o, il_cmp0, il_cmp1, il_cmp2, io_bit1, ibt0, ibt1, ibt00, ibt11, ibt10, ibt01, Int.ofNat_lt, Int.ofNat_le, Int.ofNat_inj, Nat.lt_irrefl, Int.lt_irrefl, Int.toNat_one, Int.toNat_zero, Bool.false_eq_true, reduceIte, reduceCtorEq, Nat.reduceAdd, Nat.reduceMul, Nat.reduceSub, Nat.reduceLT, Nat.reduceLeDiff, Nat.reduceEqDiff, Int.reduceNeg, Int.reduceAdd, Int.reduceMul, Int.reduceSub, Int.reduceLT, Int.reduceLE, Int.reduceEq, Int.reduceToNat, Int.reduceNatCast, icl, ico, inz, gu_s, gu_e, h2', h5', en, it57, e4, hc1]
            exact hnx _
          · simp (disch := first | assumption | omega | exact il_cqA _ _ | exact il_cqB _ _) only [wi_260_0, wi_260_1, wi_260_2, wi_260_5, wi_260_6, wi_260_9, wi_260_10, wi_260_12, wi_260_13, wi_260_16, wi_260_17, wi_260_18, wi_260_21, wi_260_22, wi_260_25, wi_260_26, wi_260_28, wi_260_29, wi_260_32, wi_260_35, wi_260_36, wi_260_39, wi_260_41, wi_260_42, wi_260_43, wi_260_44, wi_260_45, wi_260_48, wi_260_49, wi_260_50, wi_260_51, wi_260_54, wi_260_55, wi_260_58, wi_260_59, wi_260_62, wi_260_64, wi_260_65, wi_260_66, wi_260_67, wi_260_68, wi_260_71, wi_260_74, wi_260_77, wi_260_80, wi_260_81, wi_260_84, wi_250_0, wi_250_1, wi_250_2, wi_250_5, wi_250_6, wi_250_7, wi_250_10, wi_235_0, wi_235_1, wi_235_4, wi_235_5, wi_235_6, wi_235_7, wi_235_8, wi_235_9, wi_235_10, io_add_o, io_sub_o, io_mul_o, io_neg_o, io_and_r, io_or_r, io_xor_r, io_nd_r, io_shr_r, io_shl1, io_i2b_r, io_i2l_o, io_l2i_o, il_add_o, il_sub_o, il_mul_o, il_neg_o, ib_bit, Int.toNat_natCast, true_implies, false_implies, implies_true, and_true, true_and, and_self, not_true_eq_false, not_false_eq_true, wa_0, wa_1, il_cmp_o, il_cmp0, il_cmp1, il_cmp2, io_bit1, ibt0, ibt1, ibt00, ibt11, ibt10, ibt01, Int.ofNat_lt, Int.ofNat_le, Int.ofNat_inj, Nat.lt_irrefl, Int.lt_irrefl, Int.toNat_one, Int.toNat_zero, Bool.false_eq_true, reduceIte, reduceCtorEq, Nat.reduceAdd, Nat.reduceMul, Nat.reduceSub, Nat.reduceLT, Nat.reduceLeDiff, Nat.reduceEqDiff, Int.reduceNeg, Int.reduceAdd, Int.reduceMul, Int.reduceSub, Int.reduceLT, Int.reduceLE, Int.reduceEq, Int.reduceToNat, Int.reduceNatCast, icl, ico, inz, gu_s, gu_e, h2', h5', en, it57, e4, hc1]
            exact hnx _
      · have hres : qfst (qopen G (qP (qfin G i)) i) (qM G * qL G + 1) = -1 := qfst_none.2 hno
        rw [hres] at ih
        have hnx := ih M2 hF2 (q_R_setP hGi (by rw [← e143] at hR'; exact hR') (fun p hp => rfl) (by rw [hPi, e]))
        rw [wi_260_27]
        simp (disch := first | assumption | omega | exact il_cqA _ _ | exact il_cqB _ _) only [wi_260_0, wi_260_1, wi_260_2, wi_260_5, wi_260_6, wi_260_9, wi_260_10, wi_260_12, wi_260_13, wi_260_16, wi_260_17, wi_260_18, wi_260_21, wi_260_22, wi_260_25, wi_260_26, wi_260_28, wi_260_29, wi_260_32, wi_260_35, wi_260_36, wi_260_39, wi_260_41, wi_260_42, wi_260_43, wi_260_44, wi_260_45, wi_260_48, wi_260_49, wi_260_50, wi_260_51, wi_260_54, wi_260_55, wi_260_58, wi_260_59, wi_260_62, wi_260_64, wi_260_65, wi_260_66, wi_260_67, wi_260_68, wi_260_71, wi_260_74, wi_260_77, wi_260_80, wi_260_81, wi_260_84, wi_250_0, wi_250_1, wi_250_2, wi_250_5, wi_250_6, wi_250_7, wi_250_10, wi_235_0, wi_235_1, wi_235_4, wi_235_5, wi_235_6, wi_235_7, wi_235_8, wi_235_9, wi_235_10, io_add_o, io_sub_o, io_mul_o, io_neg_o, io_and_r, io_or_r, io_xor_r, io_nd_r, io_shr_r, io_shl1, io_i2b_r, io_i2l_o, io_l2i_o, il_add_o, il_sub_o, il_mul_o, il_neg_o, ib_bit, Int.toNat_natCast, true_implies, false_implies, implies_true, and_true, true_and, and_self, not_true_eq_false, not_false_eq_true, wa_0, wa_1, il_cmp_o, il_cmp0, il_cmp1, il_cmp2, io_bit1, ibt0, ibt1, ibt00, ibt11, ibt10, ibt01, Int.ofNat_lt, Int.ofNat_le, Int.ofNat_inj, Nat.lt_irrefl, Int.lt_irrefl, Int.toNat_one, Int.toNat_zero, Bool.false_eq_true, reduceIte, reduceCtorEq, Nat.reduceAdd, Nat.reduceMul, Nat.reduceSub, Nat.reduceLT, Nat.reduceLeDiff, Nat.reduceEqDiff, Int.reduceNeg, Int.reduceAdd, Int.reduceMul, Int.reduceSub, Int.reduceLT, Int.reduceLE, Int.reduceEq, Int.reduceToNat, Int.reduceNatCast, icl, ico, inz, h2', h5', en]
        exact hnx _
    · have efin : qfin G (i + 1) = qfin G i := by rw [qfin, if_neg e]
      rw [efin] at ih
      have hnx := ih M2 hF2 (by rw [e143]; exact hR')
      have e0 : (0 : Int) < ((qM G * qL G + 1 : Nat) : Int) := by omega
      rw [wi_260_27]
      simp (disch := first | assumption | omega | exact il_cqA _ _ | exact il_cqB _ _) only [wi_260_0, wi_260_1, wi_260_2, wi_260_5, wi_260_6, wi_260_9, wi_260_10, wi_260_12, wi_260_13, wi_260_16, wi_260_17, wi_260_18, wi_260_21, wi_260_22, wi_260_25, wi_260_26, wi_260_28, wi_260_29, wi_260_32, wi_260_35, wi_260_36, wi_260_39, wi_260_41, wi_260_42, wi_260_43, wi_260_44, wi_260_45, wi_260_48, wi_260_49, wi_260_50, wi_260_51, wi_260_54, wi_260_55, wi_260_58, wi_260_59, wi_260_62, wi_260_64, wi_260_65, wi_260_66, wi_260_67, wi_260_68, wi_260_71, wi_260_74, wi_260_77, wi_260_80, wi_260_81, wi_260_84, wi_250_0, wi_250_1, wi_250_2, wi_250_5, wi_250_6, wi_250_7, wi_250_10, wi_235_0, wi_235_1, wi_235_4, wi_235_5, wi_235_6, wi_235_7, wi_235_8, wi_235_9, wi_235_10, io_add_o, io_sub_o, io_mul_o, io_neg_o, io_and_r, io_or_r, io_xor_r, io_nd_r, io_shr_r, io_shl1, io_i2b_r, io_i2l_o, io_l2i_o, il_add_o, il_sub_o, il_mul_o, il_neg_o, ib_bit, Int.toNat_natCast, true_implies, false_implies, implies_true, and_true, true_and, and_self, not_true_eq_false, not_false_eq_true, wa_0, wa_1, il_cmp_o, il_cmp0, il_cmp1, il_cmp2, io_bit1, ibt0, ibt1, ibt00, ibt11, ibt10, ibt01, Int.ofNat_lt, Int.ofNat_le, Int.ofNat_inj, Nat.lt_irrefl, Int.lt_irrefl, Int.toNat_one, Int.toNat_zero, Bool.false_eq_true, reduceIte, reduceCtorEq, Nat.reduceAdd, Nat.reduceMul, Nat.reduceSub, Nat.reduceLT, Nat.reduceLeDiff, Nat.reduceEqDiff, Int.reduceNeg, Int.reduceAdd, Int.reduceMul, Int.reduceSub, Int.reduceLT, Int.reduceLE, Int.reduceEq, Int.reduceToNat, Int.reduceNatCast, icl, ico, inz, h2', h5', en, e0, it57, hPi, e]
      exact hnx _
  · obtain ⟨hGi, n1, n2, n3, n4⟩ := qok_fin hG (qN G) (Nat.le_refl _)
    have h1 := hR'.1.1
    rw [n1] at h1
    rw [wi_260_11]
    simp (disch := first | assumption | omega | exact il_cqA _ _ | exact il_cqB _ _) only [wi_260_0, wi_260_1, wi_260_2, wi_260_5, wi_260_6, wi_260_9, wi_260_10, wi_260_12, wi_260_13, wi_260_16, wi_260_17, wi_260_18, wi_260_21, wi_260_22, wi_260_25, wi_260_26, wi_260_28, wi_260_29, wi_260_32, wi_260_35, wi_260_36, wi_260_39, wi_260_41, wi_260_42, wi_260_43, wi_260_44, wi_260_45, wi_260_48, wi_260_49, wi_260_50, wi_260_51, wi_260_54, wi_260_55, wi_260_58, wi_260_59, wi_260_62, wi_260_64, wi_260_65, wi_260_66, wi_260_67, wi_260_68, wi_260_71, wi_260_74, wi_260_77, wi_260_80, wi_260_81, wi_260_84, io_add_o, io_sub_o, io_mul_o, io_neg_o, io_and_r, io_or_r, io_xor_r, io_nd_r, io_shr_r, io_shl1, io_i2b_r, io_i2l_o, io_l2i_o, il_add_o, il_sub_o, il_mul_o, il_neg_o, ib_bit, Int.toNat_natCast, true_implies, false_implies, implies_true, and_true, true_and, and_self, not_true_eq_false, not_false_eq_true, wa_0, wa_1, il_cmp_o, il_cmp0, il_cmp1, il_cmp2, io_bit1, ibt0, ibt1, ibt00, ibt11, ibt10, ibt01, Int.ofNat_lt, Int.ofNat_le, Int.ofNat_inj, Nat.lt_irrefl, Int.lt_irrefl, Int.toNat_one, Int.toNat_zero, Bool.false_eq_true, reduceIte, reduceCtorEq, Nat.reduceAdd, Nat.reduceMul, Nat.reduceSub, Nat.reduceLT, Nat.reduceLeDiff, Nat.reduceEqDiff, Int.reduceNeg, Int.reduceAdd, Int.reduceMul, Int.reduceSub, Int.reduceLT, Int.reduceLE, Int.reduceEq, Int.reduceToNat, Int.reduceNatCast, icl, ico, inz, h1, wp_mpainted (M := M') hR' hGi]
    rw [n1]
    exact hQ M' hM hR'
end SG
