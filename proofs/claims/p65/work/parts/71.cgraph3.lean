/-! the class contracts, finishes, keeps and takes back -/
theorem qhit_fin (G : q_G) (v : Nat) : qhit (qfin G v) = qhit G := by
  induction v with
  | zero => rfl
  | succ v ih =>
    unfold qfin
    split
    · exact ih
    · exact ih
section SG
variable {N : Nat} {xs : Nat → Int32} {d : Nat} {M : gg_M} {cc cs : Nat} {Q : gg_O → Prop} {g : Nat} {G : q_G}
theorem wp_renumbered {v kept gone : Nat} (hv : v ≤ 100) (hk : kept ≤ 100) (hg : gone ≤ 100) (hne : kept ≠ gone) :
    wp N xs d 16 0 [(0, (v : Int)), (0, (kept : Int)), (0, (gone : Int)), (3, 0)] [] (gk_R, M, 142, cc, cs) Q ↔ Q ((1, (0, (qren kept gone v : Int))), (gk_R, M, 142, cc, cs)) := by
  refine wp_det ?_
  unfold qren
  by_cases e : v = gone
  · rw [if_pos e]
    by_cases e2 : gone < kept
    · rw [if_pos e2, show ((kept - 1 : Nat) : Int) = (kept : Int) - 1 by omega]
      simp (disch := first | assumption | omega | exact il_cqA _ _ | exact il_cqB _ _) only [wi_16_0, wi_16_1, wi_16_2, wi_16_5, wi_16_6, wi_16_9, wi_16_10, wi_16_11, wi_16_12, wi_16_13, wi_16_16, wi_16_17, wi_16_18, wi_16_19, wi_16_22, wi_16_23, io_add_o, io_sub_o, io_mul_o, io_neg_o, io_and_r, io_or_r, io_xor_r, io_nd_r, io_shr_r, io_shl1, io_i2b_r, io_i2l_o, io_l2i_o, il_add_o, il_sub_o, il_mul_o, il_neg_o, ib_bit, Int.toNat_natCast, true_implies, false_implies, implies_true, and_true, true_and, and_self, not_true_eq_false, not_false_eq_true, wa_0, wa_1, il_cmp_o, il_cmp0, il_cmp1, il_cmp2, io_bit1, ibt0, ibt1, ibt00, ibt11, ibt10, ibt01, Int.ofNat_lt, Int.ofNat_le, Int.ofNat_inj, Nat.lt_irrefl, Int.lt_irrefl, Int.toNat_one, Int.toNat_zero, Bool.false_eq_true, reduceIte, reduceCtorEq, Nat.reduceAdd, Nat.reduceMul, Nat.reduceSub, Nat.reduceLT, Nat.reduceLeDiff, Nat.reduceEqDiff, Int.reduceNeg, Int.reduceAdd, Int.reduceMul, Int.reduceSub, Int.reduceLT, Int.reduceLE, Int.reduceEq, Int.reduceToNat, Int.reduceNatCast, icl, ico, inz, e, e2]
    · rw [if_neg e2]
      simp (disch := first | assumption | omega | exact il_cqA _ _ | exact il_cqB _ _) only [wi_16_0, wi_16_1, wi_16_2, wi_16_5, wi_16_6, wi_16_9, wi_16_10, wi_16_11, wi_16_12, wi_16_13, wi_16_16, wi_16_17, wi_16_18, wi_16_19, wi_16_22, wi_16_23, io_add_o, io_sub_o, io_mul_o, io_neg_o, io_and_r, io_or_r, io_xor_r, io_nd_r, io_shr_r, io_shl1, io_i2b_r, io_i2l_o, io_l2i_o, il_add_o, il_sub_o, il_mul_o, il_neg_o, ib_bit, Int.toNat_natCast, true_implies, false_implies, implies_true, and_true, true_and, and_self, not_true_eq_false, not_false_eq_true, wa_0, wa_1, il_cmp_o, il_cmp0, il_cmp1, il_cmp2, io_bit1, ibt0, ibt1, ibt00, ibt11, ibt10, ibt01, Int.ofNat_lt, Int.ofNat_le, Int.ofNat_inj, Nat.lt_irrefl, Int.lt_irrefl, Int.toNat_one, Int.toNat_zero, Bool.false_eq_true, reduceIte, reduceCtorEq, Nat.reduceAdd, Nat.reduceMul, Nat.reduceSub, Nat.reduceLT, Nat.reduceLeDiff, Nat.reduceEqDiff, Int.reduceNeg, Int.reduceAdd, Int.reduceMul, Int.reduceSub, Int.reduceLT, Int.reduceLE, Int.reduceEq, Int.reduceToNat, Int.reduceNatCast, icl, ico, inz, e, e2]
  · rw [if_neg e]
    by_cases e2 : gone < v
    · rw [if_pos e2, show ((v - 1 : Nat) : Int) = (v : Int) - 1 by omega]
      simp (disch := first | assumption | omega | exact il_cqA _ _ | exact il_cqB _ _) only [wi_16_0, wi_16_1, wi_16_2, wi_16_5, wi_16_6, wi_16_9, wi_16_10, wi_16_11, wi_16_12, wi_16_13, wi_16_16, wi_16_17, wi_16_18, wi_16_19, wi_16_22, wi_16_23, io_add_o, io_sub_o, io_mul_o, io_neg_o, io_and_r, io_or_r, io_xor_r, io_nd_r, io_shr_r, io_shl1, io_i2b_r, io_i2l_o, io_l2i_o, il_add_o, il_sub_o, il_mul_o, il_neg_o, ib_bit, Int.toNat_natCast, true_implies, false_implies, implies_true, and_true, true_and, and_self, not_true_eq_false, not_false_eq_true, wa_0, wa_1, il_cmp_o, il_cmp0, il_cmp1, il_cmp2, io_bit1, ibt0, ibt1, ibt00, ibt11, ibt10, ibt01, Int.ofNat_lt, Int.ofNat_le, Int.ofNat_inj, Nat.lt_irrefl, Int.lt_irrefl, Int.toNat_one, Int.toNat_zero, Bool.false_eq_true, reduceIte, reduceCtorEq, Nat.reduceAdd, Nat.reduceMul, Nat.reduceSub, Nat.reduceLT, Nat.reduceLeDiff, Nat.reduceEqDiff, Int.reduceNeg, Int.reduceAdd, Int.reduceMul, Int.reduceSub, Int.reduceLT, Int.reduceLE, Int.reduceEq, Int.reduceToNat, Int.reduceNatCast, icl, ico, inz, e, e2]
    · rw [if_neg e2]
      simp (disch := first | assumption | omega | exact il_cqA _ _ | exact il_cqB _ _) only [wi_16_0, wi_16_1, wi_16_2, wi_16_5, wi_16_6, wi_16_9, wi_16_10, wi_16_11, wi_16_12, wi_16_13, wi_16_16, wi_16_17, wi_16_18, wi_16_19, wi_16_22, wi_16_23, io_add_o, io_sub_o, io_mul_o, io_neg_o, io_and_r, io_or_r, io_xor_r, io_nd_r, io_shr_r, io_shl1, io_i2b_r, io_i2l_o, io_l2i_o, il_add_o, il_sub_o, il_mul_o, il_neg_o, ib_bit, Int.toNat_natCast, true_implies, false_implies, implies_true, and_true, true_and, and_self, not_true_eq_false, not_false_eq_true, wa_0, wa_1, il_cmp_o, il_cmp0, il_cmp1, il_cmp2, io_bit1, ibt0, ibt1, ibt00, ibt11, ibt10, ibt01, Int.ofNat_lt, Int.ofNat_le, Int.ofNat_inj, Nat.lt_irrefl, Int.lt_irrefl, Int.toNat_one, Int.toNat_zero, Bool.false_eq_true, reduceIte, reduceCtorEq, Nat.reduceAdd, Nat.reduceMul, Nat.reduceSub, Nat.reduceLT, Nat.reduceLeDiff, Nat.reduceEqDiff, Int.reduceNeg, Int.reduceAdd, Int.reduceMul, Int.reduceSub, Int.reduceLT, Int.reduceLE, Int.reduceEq, Int.reduceToNat, Int.reduceNatCast, icl, ico, inz, e, e2]
theorem wp_mergeEnds (hg : gs_G g) (hG : q_ok G) (h : q_C M g G) {a : Nat} (ha : a < qK G) (hl : qF G a ≠ qT G a) (hQ : ∀ M' : gg_M, (∀ j, j < g ∨ g + 6 < j → M' j = M j) → q_C M' g (qmrg G a) → Q ((0, (3, 0)), (gk_R, M', 142, cc, cs))) :
    wp N xs (d + 3) 15 0 [gr g, (0, (a : Int)), (3, 0), (3, 0), (3, 0)] [] (gk_R, M, 142, cc, cs) Q := by
  obtain ⟨a1, a2, a3, _⟩ := hG.2.1 a ha
  have hm0 := qmi_lt (m := qM G) (a := 0) (by omega) a3
  have hN8 := hG.1.2.1
  have hGs := qok_sw hG (v := qT G a) (b := qmi (qM G) 0 (qA G a)) a2 hm0
  have hH := qok_drop hGs (a := a) ha
  have hKH : qK (qdrop (qsw G (qT G a) (qmi (qM G) 0 (qA G a))) a) = qK G - 1 := rfl
  have hNH : qN (qdrop (qsw G (qT G a) (qmi (qM G) 0 (qA G a))) a) = qN G := rfl
  have e1 := h.2.1 a ha
  have e2 := h.2.2.1 a ha
  have e3 := h.2.2.2.1 a ha
  have e4 := h.1.2.1
  have hK := hG.1.2.2.2.2.1
  have hM12 := hG.1.2.2.2.1
  simp (contextual := true) (disch := first | assumption | omega | exact il_cqA _ _ | exact il_cqB _ _) only [wi_15_0, wi_15_1, wi_15_4, wi_15_5, wi_15_6, wi_15_7, wi_15_8, wi_15_11, wi_15_12, wi_15_13, wi_15_14, wi_15_15, wi_15_16, wi_15_17, wi_15_18, wi_15_19, wi_15_22, wi_15_23, wi_15_24, wi_15_27, wi_15_30, wi_15_31, wi_15_32, wi_15_33, wi_15_36, wi_15_37, wi_15_41, wi_15_42, wi_15_45, wi_15_48, wi_15_49, wi_15_52, wi_15_54, wi_15_55, wi_15_58, wi_15_60, wi_15_61, wi_15_62, wi_15_63, wi_15_66, wi_15_67, wi_15_68, wi_15_71, wi_15_73, wi_15_74, wi_15_77, wi_15_79, wi_15_80, wi_15_81, wi_15_82, wi_15_85, wi_15_86, wi_15_89, wi_15_92, wi_15_93, wi_15_97, wi_15_98, wi_15_99, wi_15_100, wi_15_103, wi_15_106, wi_15_107, wi_15_110, wi_15_112, wi_15_113, wi_15_116, wi_15_118, wi_15_119, wi_15_120, wi_15_121, wi_15_122, wi_15_125, wi_15_128, wi_15_129, wi_15_130, wi_15_133, wi_15_134, wi_15_135, wi_15_138, wi_15_139, wi_15_142, wi_15_143, wi_15_146, wi_15_147, wi_15_148, io_add_o, io_sub_o, io_mul_o, io_neg_o, io_and_r, io_or_r, io_xor_r, io_nd_r, io_shr_r, io_shl1, io_i2b_r, io_i2l_o, io_l2i_o, il_add_o, il_sub_o, il_mul_o, il_neg_o, ib_bit, Int.toNat_natCast, true_implies, false_implies, implies_true, and_true, true_and, and_self, not_true_eq_false, not_false_eq_true, wa_0, wa_1, il_cmp_o, il_cmp0, il_cmp1, il_cmp2, io_bit1, ibt0, ibt1, ibt00, ibt11, ibt10, ibt01, Int.ofNat_lt, Int.ofNat_le, Int.ofNat_inj, Nat.lt_irrefl, Int.lt_irrefl, Int.toNat_one, Int.toNat_zero, Bool.false_eq_true, reduceIte, reduceCtorEq, Nat.reduceAdd, Nat.reduceMul, Nat.reduceSub, Nat.reduceLT, Nat.reduceLeDiff, Nat.reduceEqDiff, Int.reduceNeg, Int.reduceAdd, Int.reduceMul, Int.reduceSub, Int.reduceLT, Int.reduceLE, Int.reduceEq, Int.reduceToNat, Int.reduceNatCast, icl, ico, inz, e1, e2, e3, wp_minus (M := M) hg e4 hM12]
  refine wp_shiftVertex hg hG h a2 hm0 (fun M1 hM1 hC1 => ?_)
  simp (contextual := true) (disch := first | assumption | omega | exact il_cqA _ _ | exact il_cqB _ _) only [wi_15_0, wi_15_1, wi_15_4, wi_15_5, wi_15_6, wi_15_7, wi_15_8, wi_15_11, wi_15_12, wi_15_13, wi_15_14, wi_15_15, wi_15_16, wi_15_17, wi_15_18, wi_15_19, wi_15_22, wi_15_23, wi_15_24, wi_15_27, wi_15_30, wi_15_31, wi_15_32, wi_15_33, wi_15_36, wi_15_37, wi_15_41, wi_15_42, wi_15_45, wi_15_48, wi_15_49, wi_15_52, wi_15_54, wi_15_55, wi_15_58, wi_15_60, wi_15_61, wi_15_62, wi_15_63, wi_15_66, wi_15_67, wi_15_68, wi_15_71, wi_15_73, wi_15_74, wi_15_77, wi_15_79, wi_15_80, wi_15_81, wi_15_82, wi_15_85, wi_15_86, wi_15_89, wi_15_92, wi_15_93, wi_15_97, wi_15_98, wi_15_99, wi_15_100, wi_15_103, wi_15_106, wi_15_107, wi_15_110, wi_15_112, wi_15_113, wi_15_116, wi_15_118, wi_15_119, wi_15_120, wi_15_121, wi_15_122, wi_15_125, wi_15_128, wi_15_129, wi_15_130, wi_15_133, wi_15_134, wi_15_135, wi_15_138, wi_15_139, wi_15_142, wi_15_143, wi_15_146, wi_15_147, wi_15_148, io_add_o, io_sub_o, io_mul_o, io_neg_o, io_and_r, io_or_r, io_xor_r, io_nd_r, io_shr_r, io_shl1, io_i2b_r, io_i2l_o, io_l2i_o, il_add_o, il_sub_o, il_mul_o, il_neg_o, ib_bit, Int.toNat_natCast, true_implies, false_implies, implies_true, and_true, true_and, and_self, not_true_eq_false, not_false_eq_true, wa_0, wa_1, il_cmp_o, il_cmp0, il_cmp1, il_cmp2, io_bit1, ibt0, ibt1, ibt00, ibt11, ibt10, ibt01, Int.ofNat_lt, Int.ofNat_le, Int.ofNat_inj, Nat.lt_irrefl, Int.lt_irrefl, Int.toNat_one, Int.toNat_zero, Bool.false_eq_true, reduceIte, reduceCtorEq, Nat.reduceAdd, Nat.reduceMul, Nat.reduceSub, Nat.reduceLT, Nat.reduceLeDiff, Nat.reduceEqDiff, Int.reduceNeg, Int.reduceAdd, Int.reduceMul, Int.reduceSub, Int.reduceLT, Int.reduceLE, Int.reduceEq, Int.reduceToNat, Int.reduceNatCast, icl, ico, inz]
  refine wp_takeOut hg hGs hC1 ha (fun M2 hM2 hC2 => ?_)
  simp (contextual := true) (disch := first | assumption | omega | exact il_cqA _ _ | exact il_cqB _ _) only [wi_15_0, wi_15_1, wi_15_4, wi_15_5, wi_15_6, wi_15_7, wi_15_8, wi_15_11, wi_15_12, wi_15_13, wi_15_14, wi_15_15, wi_15_16, wi_15_17, wi_15_18, wi_15_19, wi_15_22, wi_15_23, wi_15_24, wi_15_27, wi_15_30, wi_15_31, wi_15_32, wi_15_33, wi_15_36, wi_15_37, wi_15_41, wi_15_42, wi_15_45, wi_15_48, wi_15_49, wi_15_52, wi_15_54, wi_15_55, wi_15_58, wi_15_60, wi_15_61, wi_15_62, wi_15_63, wi_15_66, wi_15_67, wi_15_68, wi_15_71, wi_15_73, wi_15_74, wi_15_77, wi_15_79, wi_15_80, wi_15_81, wi_15_82, wi_15_85, wi_15_86, wi_15_89, wi_15_92, wi_15_93, wi_15_97, wi_15_98, wi_15_99, wi_15_100, wi_15_103, wi_15_106, wi_15_107, wi_15_110, wi_15_112, wi_15_113, wi_15_116, wi_15_118, wi_15_119, wi_15_120, wi_15_121, wi_15_122, wi_15_125, wi_15_128, wi_15_129, wi_15_130, wi_15_133, wi_15_134, wi_15_135, wi_15_138, wi_15_139, wi_15_142, wi_15_143, wi_15_146, wi_15_147, wi_15_148, io_add_o, io_sub_o, io_mul_o, io_neg_o, io_and_r, io_or_r, io_xor_r, io_nd_r, io_shr_r, io_shl1, io_i2b_r, io_i2l_o, io_l2i_o, il_add_o, il_sub_o, il_mul_o, il_neg_o, ib_bit, Int.toNat_natCast, true_implies, false_implies, implies_true, and_true, true_and, and_self, not_true_eq_false, not_false_eq_true, wa_0, wa_1, il_cmp_o, il_cmp0, il_cmp1, il_cmp2, io_bit1, ibt0, ibt1, ibt00, ibt11, ibt10, ibt01, Int.ofNat_lt, Int.ofNat_le, Int.ofNat_inj, Nat.lt_irrefl, Int.lt_irrefl, Int.toNat_one, Int.toNat_zero, Bool.false_eq_true, reduceIte, reduceCtorEq, Nat.reduceAdd, Nat.reduceMul, Nat.reduceSub, Nat.reduceLT, Nat.reduceLeDiff, Nat.reduceEqDiff, Int.reduceNeg, Int.reduceAdd, Int.reduceMul, Int.reduceSub, Int.reduceLT, Int.reduceLE, Int.reduceEq, Int.reduceToNat, Int.reduceNatCast, icl, ico, inz]
  generalize hHd : qdrop (qsw G (qT G a) (qmi (qM G) 0 (qA G a))) a = H at *
  obtain ⟨⟨h1, h2, h3, h4, h5⟩, hF, hT, hA, hW, hP, hO⟩ := id hC2
  have hmr : qmrg G a = qmk (qN G - 1) (qM G) (qK H) (qS H) (qL G) (fun k => qren (qF G a) (qT G a) (qF H k)) (fun k => qren (qF G a) (qT G a) (qT H k)) (qA H) (qW H) (fun v => if qN G - 1 ≤ v then -1 else qov (qP H) (qT G a) v) (qO G) := by
    rw [← hHd]
    rfl
  have hLM : qL H = qL G ∧ qM H = qM G ∧ ∀ t, qO H t = qO G t := by
    rw [← hHd]
    exact ⟨rfl, rfl, fun _ => rfl⟩
  rw [hmr] at hQ
  have hF2 : ∀ j, j < g ∨ g + 6 < j → M2 j = M j := fun j hj => by rw [hM2 j hj, hM1 j hj]
  refine wl_i (P := fun i I => ∀ M' : gg_M, (∀ r, r ≠ g + 1 → r ≠ g + 2 → M' r = M2 r) → (∀ k, k < qK H → M' (g + 1) k = ((if k < i then qren (qF G a) (qT G a) (qF H k) else qF H k : Nat) : Int) ∧ M' (g + 2) k = ((if k < i then qren (qF G a) (qT G a) (qT H k) else qT H k : Nat) : Int)) → wp N xs (d + 3) 15 39 [gr g, (0, (a : Int)), (0, (qF G a : Int)), (0, (qT G a : Int)), (0, I)] [] (gk_R, M', 142, cc, cs) Q) (qK H) (fun i hi ih M' hM hv => ?_) (fun M' hM hv => ?_) M2 (fun _ _ _ => rfl) (fun k hk => ⟨by rw [if_neg (Nat.not_lt_zero k)]; exact hF k hk, by rw [if_neg (Nat.not_lt_zero k)]; exact hT k hk⟩)
  · have e0 : M' g = M2 g := hM g (by omega) (by omega)
    obtain ⟨v1, v2⟩ := hv i hi
    rw [if_neg (Nat.lt_irrefl i)] at v1 v2
    obtain ⟨b1, b2, _⟩ := hH.2.1 i hi
    rw [hNH] at b1 b2
    have hKH2 : qK H ≤ 12 := hH.1.2.2.2.2.1
    rw [wi_15_39]
    simp (contextual := true) (disch := first | assumption | omega | exact il_cqA _ _ | exact il_cqB _ _) only [wi_15_0, wi_15_1, wi_15_4, wi_15_5, wi_15_6, wi_15_7, wi_15_8, wi_15_11, wi_15_12, wi_15_13, wi_15_14, wi_15_15, wi_15_16, wi_15_17, wi_15_18, wi_15_19, wi_15_22, wi_15_23, wi_15_24, wi_15_27, wi_15_30, wi_15_31, wi_15_32, wi_15_33, wi_15_36, wi_15_37, wi_15_41, wi_15_42, wi_15_45, wi_15_48, wi_15_49, wi_15_52, wi_15_54, wi_15_55, wi_15_58, wi_15_60, wi_15_61, wi_15_62, wi_15_63, wi_15_66, wi_15_67, wi_15_68, wi_15_71, wi_15_73, wi_15_74, wi_15_77, wi_15_79, wi_15_80, wi_15_81, wi_15_82, wi_15_85, wi_15_86, wi_15_89, wi_15_92, wi_15_93, wi_15_97, wi_15_98, wi_15_99, wi_15_100, wi_15_103, wi_15_106, wi_15_107, wi_15_110, wi_15_112, wi_15_113, wi_15_116, wi_15_118, wi_15_119, wi_15_120, wi_15_121, wi_15_122, wi_15_125, wi_15_128, wi_15_129, wi_15_130, wi_15_133, wi_15_134, wi_15_135, wi_15_138, wi_15_139, wi_15_142, wi_15_143, wi_15_146, wi_15_147, wi_15_148, io_add_o, io_sub_o, io_mul_o, io_neg_o, io_and_r, io_or_r, io_xor_r, io_nd_r, io_shr_r, io_shl1, io_i2b_r, io_i2l_o, io_l2i_o, il_add_o, il_sub_o, il_mul_o, il_neg_o, ib_bit, Int.toNat_natCast, true_implies, false_implies, implies_true, and_true, true_and, and_self, not_true_eq_false, not_false_eq_true, wa_0, wa_1, il_cmp_o, il_cmp0, il_cmp1, il_cmp2, io_bit1, ibt0, ibt1, ibt00, ibt11, ibt10, ibt01, Int.ofNat_lt, Int.ofNat_le, Int.ofNat_inj, Nat.lt_irrefl, Int.lt_irrefl, Int.toNat_one, Int.toNat_zero, Bool.false_eq_true, reduceIte, reduceCtorEq, Nat.reduceAdd, Nat.reduceMul, Nat.reduceSub, Nat.reduceLT, Nat.reduceLeDiff, Nat.reduceEqDiff, Int.reduceNeg, Int.reduceAdd, Int.reduceMul, Int.reduceSub, Int.reduceLT, Int.reduceLE, Int.reduceEq, Int.reduceToNat, Int.reduceNatCast, icl, ico, inz, hi, e0, h3, v1, v2, gu_n, wp_renumbered]
    refine ih _ (fun r h1 h2 => by rw [gu_n h2, gu_n h1, hM r h1 h2]) (fun k hk => ?_)
    obtain ⟨w1, w2⟩ := hv k hk
    by_cases e : k = i
    · subst e
      rw [gu_n (by omega), gu_e, gu_e, if_pos (by omega), if_pos (by omega)]
      exact ⟨rfl, rfl⟩
    · simp only [gu, e, and_false, if_false]
      rw [w1, w2]
      by_cases e2 : k < i
      · rw [if_pos e2, if_pos e2, if_pos (by omega), if_pos (by omega)]
        exact ⟨rfl, rfl⟩
      · rw [if_neg e2, if_neg e2, if_neg (by omega), if_neg (by omega)]
        exact ⟨rfl, rfl⟩
  · have e0 : M' g = M2 g := hM g (by omega) (by omega)
    have hKH2 : qK H ≤ 12 := hH.1.2.2.2.2.1
    rw [hNH] at h1
    rw [wi_15_39]
    simp (contextual := true) (disch := first | assumption | omega | exact il_cqA _ _ | exact il_cqB _ _) only [wi_15_0, wi_15_1, wi_15_4, wi_15_5, wi_15_6, wi_15_7, wi_15_8, wi_15_11, wi_15_12, wi_15_13, wi_15_14, wi_15_15, wi_15_16, wi_15_17, wi_15_18, wi_15_19, wi_15_22, wi_15_23, wi_15_24, wi_15_27, wi_15_30, wi_15_31, wi_15_32, wi_15_33, wi_15_36, wi_15_37, wi_15_41, wi_15_42, wi_15_45, wi_15_48, wi_15_49, wi_15_52, wi_15_54, wi_15_55, wi_15_58, wi_15_60, wi_15_61, wi_15_62, wi_15_63, wi_15_66, wi_15_67, wi_15_68, wi_15_71, wi_15_73, wi_15_74, wi_15_77, wi_15_79, wi_15_80, wi_15_81, wi_15_82, wi_15_85, wi_15_86, wi_15_89, wi_15_92, wi_15_93, wi_15_97, wi_15_98, wi_15_99, wi_15_100, wi_15_103, wi_15_106, wi_15_107, wi_15_110, wi_15_112, wi_15_113, wi_15_116, wi_15_118, wi_15_119, wi_15_120, wi_15_121, wi_15_122, wi_15_125, wi_15_128, wi_15_129, wi_15_130, wi_15_133, wi_15_134, wi_15_135, wi_15_138, wi_15_139, wi_15_142, wi_15_143, wi_15_146, wi_15_147, wi_15_148, io_add_o, io_sub_o, io_mul_o, io_neg_o, io_and_r, io_or_r, io_xor_r, io_nd_r, io_shr_r, io_shl1, io_i2b_r, io_i2l_o, io_l2i_o, il_add_o, il_sub_o, il_mul_o, il_neg_o, ib_bit, Int.toNat_natCast, true_implies, false_implies, implies_true, and_true, true_and, and_self, not_true_eq_false, not_false_eq_true, wa_0, wa_1, il_cmp_o, il_cmp0, il_cmp1, il_cmp2, io_bit1, ibt0, ibt1, ibt00, ibt11, ibt10, ibt01, Int.ofNat_lt, Int.ofNat_le, Int.ofNat_inj, Nat.lt_irrefl, Int.lt_irrefl, Int.toNat_one, Int.toNat_zero, Bool.false_eq_true, reduceIte, reduceCtorEq, Nat.reduceAdd, Nat.reduceMul, Nat.reduceSub, Nat.reduceLT, Nat.reduceLeDiff, Nat.reduceEqDiff, Int.reduceNeg, Int.reduceAdd, Int.reduceMul, Int.reduceSub, Int.reduceLT, Int.reduceLE, Int.reduceEq, Int.reduceToNat, Int.reduceNatCast, icl, ico, inz, e0, h3]
    refine wl_for (P := fun j => ∀ M3 : gg_M, (∀ r, r ≠ g + 5 → M3 r = M' r) → (∀ v, v < 8 → M3 (g + 5) v = if v < qT G a + j then qov (qP H) (qT G a) v else qP H v) → wp N xs (d + 3) 15 95 [gr g, (0, (a : Int)), (0, (qF G a : Int)), (0, (qT G a : Int)), (0, ((qT G a + j : Nat) : Int))] [] (gk_R, M3, 142, cc, cs) Q) (qN G - 1 - qT G a) (fun j hj ih M3 hM3 hv3 => ?_) (fun M3 hM3 hv3 => ?_) M' (fun _ _ => rfl) (fun v hv' => ?_)
    · have e9 : M3 g = M2 g := by rw [hM3 g (by omega), e0]
      have w1 := hv3 (qT G a + j + 1) (by omega)
      rw [if_neg (by omega)] at w1
      have e8 : ((qT G a + (j + 1) : Nat) : Int) = ((qT G a + j : Nat) : Int) + 1 := by omega
      have e7 : qT G a + (j + 1) = (qT G a + j) + 1 := by omega
      have ov : qov (qP H) (qT G a) (qT G a + j) = qP H (qT G a + j + 1) := if_neg (by omega)
      simp only [e8, e7] at ih
      rw [wi_15_95]
      have hlt : ((qT G a + j : Nat) : Int) + 1 < (qN G : Int) := by omega
      generalize qT G a + j = kk at *
      simp (contextual := true) (disch := first | assumption | omega | exact il_cqA _ _ | exact il_cqB _ _) only [wi_15_0, wi_15_1, wi_15_4, wi_15_5, wi_15_6, wi_15_7, wi_15_8, wi_15_11, wi_15_12, wi_15_13, wi_15_14, wi_15_15, wi_15_16, wi_15_17, wi_15_18, wi_15_19, wi_15_22, wi_15_23, wi_15_24, wi_15_27, wi_15_30, wi_15_31, wi_15_32, wi_15_33, wi_15_36, wi_15_37, wi_15_41, wi_15_42, wi_15_45, wi_15_48, wi_15_49, wi_15_52, wi_15_54, wi_15_55, wi_15_58, wi_15_60, wi_15_61, wi_15_62, wi_15_63, wi_15_66, wi_15_67, wi_15_68, wi_15_71, wi_15_73, wi_15_74, wi_15_77, wi_15_79, wi_15_80, wi_15_81, wi_15_82, wi_15_85, wi_15_86, wi_15_89, wi_15_92, wi_15_93, wi_15_97, wi_15_98, wi_15_99, wi_15_100, wi_15_103, wi_15_106, wi_15_107, wi_15_110, wi_15_112, wi_15_113, wi_15_116, wi_15_118, wi_15_119, wi_15_120, wi_15_121, wi_15_122, wi_15_125, wi_15_128, wi_15_129, wi_15_130, wi_15_133, wi_15_134, wi_15_135, wi_15_138, wi_15_139, wi_15_142, wi_15_143, wi_15_146, wi_15_147, wi_15_148, io_add_o, io_sub_o, io_mul_o, io_neg_o, io_and_r, io_or_r, io_xor_r, io_nd_r, io_shr_r, io_shl1, io_i2b_r, io_i2l_o, io_l2i_o, il_add_o, il_sub_o, il_mul_o, il_neg_o, ib_bit, Int.toNat_natCast, true_implies, false_implies, implies_true, and_true, true_and, and_self, not_true_eq_false, not_false_eq_true, wa_0, wa_1, il_cmp_o, il_cmp0, il_cmp1, il_cmp2, io_bit1, ibt0, ibt1, ibt00, ibt11, ibt10, ibt01, Int.ofNat_lt, Int.ofNat_le, Int.ofNat_inj, Nat.lt_irrefl, Int.lt_irrefl, Int.toNat_one, Int.toNat_zero, Bool.false_eq_true, reduceIte, reduceCtorEq, Nat.reduceAdd, Nat.reduceMul, Nat.reduceSub, Nat.reduceLT, Nat.reduceLeDiff, Nat.reduceEqDiff, Int.reduceNeg, Int.reduceAdd, Int.reduceMul, Int.reduceSub, Int.reduceLT, Int.reduceLE, Int.reduceEq, Int.reduceToNat, Int.reduceNatCast, icl, ico, inz, e9, h1, hlt, it1, w1]
      refine ih _ (fun r hr => by rw [gu_n hr, hM3 r hr]) (fun v hv' => ?_)
      by_cases e : v = kk
      · subst e
        rw [gu_e, if_pos (by omega), ov]
      · rw [gu_s e, hv3 v hv']
        by_cases e2 : v < kk
        · rw [if_pos e2, if_pos (by omega)]
        · rw [if_neg e2, if_neg (by omega)]
    · have e9 : M3 g = M2 g := by rw [hM3 g (by omega), e0]
      have hkk : qT G a + (qN G - 1 - qT G a) = qN G - 1 := by omega
      rw [hkk] at hv3 ⊢
      have hlt : ¬ ((qN G - 1 : Nat) : Int) + 1 < (qN G : Int) := by omega
      have e6 : (qN G : Int) - 1 = ((qN G - 1 : Nat) : Int) := by omega
      rw [wi_15_95]
      simp (contextual := true) (disch := first | assumption | omega | exact il_cqA _ _ | exact il_cqB _ _) only [wi_15_0, wi_15_1, wi_15_4, wi_15_5, wi_15_6, wi_15_7, wi_15_8, wi_15_11, wi_15_12, wi_15_13, wi_15_14, wi_15_15, wi_15_16, wi_15_17, wi_15_18, wi_15_19, wi_15_22, wi_15_23, wi_15_24, wi_15_27, wi_15_30, wi_15_31, wi_15_32, wi_15_33, wi_15_36, wi_15_37, wi_15_41, wi_15_42, wi_15_45, wi_15_48, wi_15_49, wi_15_52, wi_15_54, wi_15_55, wi_15_58, wi_15_60, wi_15_61, wi_15_62, wi_15_63, wi_15_66, wi_15_67, wi_15_68, wi_15_71, wi_15_73, wi_15_74, wi_15_77, wi_15_79, wi_15_80, wi_15_81, wi_15_82, wi_15_85, wi_15_86, wi_15_89, wi_15_92, wi_15_93, wi_15_97, wi_15_98, wi_15_99, wi_15_100, wi_15_103, wi_15_106, wi_15_107, wi_15_110, wi_15_112, wi_15_113, wi_15_116, wi_15_118, wi_15_119, wi_15_120, wi_15_121, wi_15_122, wi_15_125, wi_15_128, wi_15_129, wi_15_130, wi_15_133, wi_15_134, wi_15_135, wi_15_138, wi_15_139, wi_15_142, wi_15_143, wi_15_146, wi_15_147, wi_15_148, io_add_o, io_sub_o, io_mul_o, io_neg_o, io_and_r, io_or_r, io_xor_r, io_nd_r, io_shr_r, io_shl1, io_i2b_r, io_i2l_o, io_l2i_o, il_add_o, il_sub_o, il_mul_o, il_neg_o, ib_bit, Int.toNat_natCast, true_implies, false_implies, implies_true, and_true, true_and, and_self, not_true_eq_false, not_false_eq_true, wa_0, wa_1, il_cmp_o, il_cmp0, il_cmp1, il_cmp2, io_bit1, ibt0, ibt1, ibt00, ibt11, ibt10, ibt01, Int.ofNat_lt, Int.ofNat_le, Int.ofNat_inj, Nat.lt_irrefl, Int.lt_irrefl, Int.toNat_one, Int.toNat_zero, Bool.false_eq_true, reduceIte, reduceCtorEq, Nat.reduceAdd, Nat.reduceMul, Nat.reduceSub, Nat.reduceLT, Nat.reduceLeDiff, Nat.reduceEqDiff, Int.reduceNeg, Int.reduceAdd, Int.reduceMul, Int.reduceSub, Int.reduceLT, Int.reduceLE, Int.reduceEq, Int.reduceToNat, Int.reduceNatCast, icl, ico, inz, e9, h1, hlt, e6, gu_s, gu_e]
      refine hQ _ (fun j hj => ?_) ⟨⟨?_, ?_, ?_, ?_, ?_⟩, fun k hk => ?_, fun k hk => ?_, fun k hk => ?_, fun k hk => ?_, fun v hv' => ?_, fun t ht => ?_⟩
      · rw [gu_n (by omega), gu_n (by omega), hM3 j (by omega), hM j (by omega) (by omega), hF2 j hj]
      · rw [gu_n (by omega), gu_e]; rfl
      · rw [gu_n (by omega), gu_s (by decide), e9, h2, hLM.2.1]; rfl
      · rw [gu_n (by omega), gu_s (by decide), e9, h3]; rfl
      · rw [gu_n (by omega), gu_s (by decide), e9, h4]; rfl
      · rw [gu_n (by omega), gu_s (by decide), e9, h5, hLM.1]; rfl
      · have hk' : k < qK H := hk
        rw [gu_n (by omega), gu_n (by omega), hM3 (g + 1) (by omega), (hv k hk').1, if_pos hk']
        rfl
      · have hk' : k < qK H := hk
        rw [gu_n (by omega), gu_n (by omega), hM3 (g + 2) (by omega), (hv k hk').2, if_pos hk']
        rfl
      · rw [gu_n (by omega), gu_n (by omega), hM3 (g + 3) (by omega), hM (g + 3) (by omega) (by omega)]
        exact hA k hk
      · rw [gu_n (by omega), gu_n (by omega), hM3 (g + 4) (by omega), hM (g + 4) (by omega) (by omega)]
        exact hW k hk
      · show _ = (if qN G - 1 ≤ v then (-1 : Int) else qov (qP H) (qT G a) v)
        by_cases e : v = qN G - 1
        · subst e
          rw [gu_e, if_pos (Nat.le_refl _)]
        · rw [gu_s e, gu_n (by omega), hv3 v hv']
          by_cases e2 : v < qN G - 1
          · rw [if_pos e2, if_neg (by omega)]
          · rw [if_neg e2, if_pos (by omega)]
            exact hH.2.2.2 v (by rw [hNH]; omega) hv'
      · rw [gu_n (by omega), gu_n (by omega), hM3 (g + 6) (by omega), hM (g + 6) (by omega) (by omega), hO t ht, hLM.2.2]
        rfl
    · rw [hM (g + 5) (by omega) (by omega), hP v hv']
      split
      · exact (if_pos (by omega)).symm
      · rfl
theorem wp_paintTheRest (hg : gs_G g) (hG : q_ok G) (h : q_C M g G) (hQ : ∀ M' : gg_M, (∀ j, j < g ∨ g + 6 < j → M' j = M j) → q_C M' g (qfin G (qN G)) → Q ((0, (3, 0)), (gk_R, M', 142, cc, cs))) :
    wp N xs (d + 3) 25 0 [gr g, (3, 0), (3, 0)] [] (gk_R, M, 142, cc, cs) Q := by
  obtain ⟨⟨h1, h2, h3, h4, h5⟩, hF, hT, hA, hW, hP, hO⟩ := id h
  obtain ⟨⟨k1, k2, k3, k4, k5, k6, k7, k8⟩, hk, hp, hp2⟩ := id hG
  have hml := Nat.mul_le_mul k4 k8
  have en : (qM G : Int) * (qL G : Int) + 1 = ((qM G * qL G + 1 : Nat) : Int) := by omega
  have emul : (qM G : Int) * (qL G : Int) ≤ 60 := by
    have : ((qM G * qL G : Nat) : Int) ≤ 60 := by omega
    exact this
  have emul0 : 0 ≤ (qM G : Int) * (qL G : Int) := by
    have : (0 : Int) ≤ ((qM G * qL G : Nat) : Int) := by omega
    exact this
  simp (contextual := true) (disch := first | assumption | omega | exact il_cqA _ _ | exact il_cqB _ _) only [wi_25_0, wi_25_1, wi_25_2, wi_25_5, wi_25_8, wi_25_9, wi_25_10, wi_25_12, wi_25_13, wi_25_16, wi_25_19, wi_25_20, wi_25_23, wi_25_24, wi_25_25, wi_25_26, wi_25_29, wi_25_30, wi_25_33, wi_25_34, wi_25_35, wi_25_36, wi_25_39, wi_25_40, wi_25_41, wi_25_44, wi_25_47, wi_25_48, wi_25_51, wi_25_54, wi_17_0, wi_17_1, wi_17_4, wi_17_5, wi_17_6, wi_17_7, wi_17_8, io_add_o, io_sub_o, io_mul_o, io_neg_o, io_and_r, io_or_r, io_xor_r, io_nd_r, io_shr_r, io_shl1, io_i2b_r, io_i2l_o, io_l2i_o, il_add_o, il_sub_o, il_mul_o, il_neg_o, ib_bit, Int.toNat_natCast, true_implies, false_implies, implies_true, and_true, true_and, and_self, not_true_eq_false, not_false_eq_true, wa_0, wa_1, il_cmp_o, il_cmp0, il_cmp1, il_cmp2, io_bit1, ibt0, ibt1, ibt00, ibt11, ibt10, ibt01, Int.ofNat_lt, Int.ofNat_le, Int.ofNat_inj, Nat.lt_irrefl, Int.lt_irrefl, Int.toNat_one, Int.toNat_zero, Bool.false_eq_true, reduceIte, reduceCtorEq, Nat.reduceAdd, Nat.reduceMul, Nat.reduceSub, Nat.reduceLT, Nat.reduceLeDiff, Nat.reduceEqDiff, Int.reduceNeg, Int.reduceAdd, Int.reduceMul, Int.reduceSub, Int.reduceLT, Int.reduceLE, Int.reduceEq, Int.reduceToNat, Int.reduceNatCast, icl, ico, inz, h2, h5, en]
  refine wl_i (P := fun i I => ∀ M' : gg_M, (∀ j, j < g ∨ g + 6 < j → M' j = M j) → q_C M' g (qfin G i) → wp N xs (d + 3) 25 11 [gr g, (0, ((qM G * qL G + 1 : Nat) : Int)), (0, I)] [] (gk_R, M', 142, cc, cs) Q) (qN G) (fun i hi ih M' hM hC => ?_) (fun M' hM hC => ?_) M (fun _ _ => rfl) h
  · obtain ⟨hGi, n1, n2, n3, n4⟩ := qok_fin hG i (by omega)
    obtain ⟨⟨h1', h2', h3', h4', h5'⟩, hF', hT', hA', hW', hP', hO'⟩ := id hC
    have hPi := hP' i (by omega)
    have hpi := hGi.2.2.1 i (by omega)
    rw [n2, n3] at hpi
    have hN' : M' g 0 = (qN G : Int) := by rw [h1', n1]
    have hca : gs_a (g + 5) 1 8 := gs_G5 hg
    rw [wi_25_11]
    by_cases e : qP (qfin G i) i = -1
    · have hop : ∀ Q' : gg_O → Prop, wp N xs (d + 2) 20 0 [gr g, gr (g + 5), (0, (i : Int)), (0, ((qM G * qL G + 1 : Nat) : Int)), (3, 0), (3, 0), (3, 0), (3, 0), (3, 0)] [] (gk_R, M', 142, cc, cs) Q' ↔ Q' ((1, (1, (qbits (qopen G (qP (qfin G i)) i) (qM G * qL G + 1) : Int))), (gk_R, M', 142, cc, cs)) := by
        intro Q'
        have := wp_openColors (N := N) (xs := xs) (d := d) (M := M') (cc := cc) (cs := cs) (Q := Q') (c := qP (qfin G i)) hg hGi hC hca (fun v hv => hP' v (by omega)) (l := qL (qfin G i)) (by omega) (fun v hv => hGi.2.2.1 v (by omega)) i (qM G * qL G + 1) (by omega) (by omega)
        rw [qhit_fin, n4] at this
        exact this
      have hbl : qbits (qopen G (qP (qfin G i)) i) (qM G * qL G + 1) < 2305843009213693952 := Nat.lt_of_lt_of_le (qbits_lt _ _) (Nat.pow_le_pow_right (j := 61) (by decide) (by omega))
      have hfb := qfst_bits (f := qopen G (qP (qfin G i)) i) (n := qM G * qL G + 1) (m := 61) (by omega)
      have efin : qfin G (i + 1) = qsetP (qfin G i) i (qfst (qopen G (qP (qfin G i)) i) (qM G * qL G + 1)) := by
        rw [qfin, if_pos e]
        rfl
      rw [efin] at ih
      simp (disch := first | assumption | omega | exact il_cqA _ _ | exact il_cqB _ _) only [wi_25_0, wi_25_1, wi_25_2, wi_25_5, wi_25_8, wi_25_9, wi_25_10, wi_25_12, wi_25_13, wi_25_16, wi_25_19, wi_25_20, wi_25_23, wi_25_24, wi_25_25, wi_25_26, wi_25_29, wi_25_30, wi_25_33, wi_25_34, wi_25_35, wi_25_36, wi_25_39, wi_25_40, wi_25_41, wi_25_44, wi_25_47, wi_25_48, wi_25_51, wi_25_54, io_add_o, io_sub_o, io_mul_o, io_neg_o, io_and_r, io_or_r, io_xor_r, io_nd_r, io_shr_r, io_shl1, io_i2b_r, io_i2l_o, io_l2i_o, il_add_o, il_sub_o, il_mul_o, il_neg_o, ib_bit, Int.toNat_natCast, true_implies, false_implies, implies_true, and_true, true_and, and_self, not_true_eq_false, not_false_eq_true, wa_0, wa_1, il_cmp_o, il_cmp0, il_cmp1, il_cmp2, io_bit1, ibt0, ibt1, ibt00, ibt11, ibt10, ibt01, Int.ofNat_lt, Int.ofNat_le, Int.ofNat_inj, Nat.lt_irrefl, Int.lt_irrefl, Int.toNat_one, Int.toNat_zero, Bool.false_eq_true, reduceIte, reduceCtorEq, Nat.reduceAdd, Nat.reduceMul, Nat.reduceSub, Nat.reduceLT, Nat.reduceLeDiff, Nat.reduceEqDiff, Int.reduceNeg, Int.reduceAdd, Int.reduceMul, Int.reduceSub, Int.reduceLT, Int.reduceLE, Int.reduceEq, Int.reduceToNat, Int.reduceNatCast, icl, ico, inz, hi, hN', hPi, e, hop, wp_lowestBit, hfb]
      refine ih _ (fun j hj => by rw [gu_n (by omega), hM j hj]) ⟨⟨?_, ?_, ?_, ?_, ?_⟩, fun a ha => ?_, fun a ha => ?_, fun a ha => ?_, fun a ha => ?_, fun v hv => ?_, fun t ht => ?_⟩
      · rw [gu_n (by omega)]; exact h1'
      · rw [gu_n (by omega)]; exact h2'
      · rw [gu_n (by omega)]; exact h3'
      · rw [gu_n (by omega)]; exact h4'
      · rw [gu_n (by omega)]; exact h5'
      · rw [gu_n (by omega)]; exact hF' a ha
      · rw [gu_n (by omega)]; exact hT' a ha
      · rw [gu_n (by omega)]; exact hA' a ha
      · rw [gu_n (by omega)]; exact hW' a ha
      · show _ = qup (qP (qfin G i)) i _ v
        unfold qup
        by_cases e2 : v = i
        · subst e2
          rw [gu_e, if_pos rfl]
        · rw [gu_s e2, if_neg e2]
          exact hP' v hv
      · rw [gu_n (by omega)]; exact hO' t ht
    · have efin : qfin G (i + 1) = qfin G i := by rw [qfin, if_neg e]
      rw [efin] at ih
      simp (disch := first | assumption | omega | exact il_cqA _ _ | exact il_cqB _ _) only [wi_25_0, wi_25_1, wi_25_2, wi_25_5, wi_25_8, wi_25_9, wi_25_10, wi_25_12, wi_25_13, wi_25_16, wi_25_19, wi_25_20, wi_25_23, wi_25_24, wi_25_25, wi_25_26, wi_25_29, wi_25_30, wi_25_33, wi_25_34, wi_25_35, wi_25_36, wi_25_39, wi_25_40, wi_25_41, wi_25_44, wi_25_47, wi_25_48, wi_25_51, wi_25_54, io_add_o, io_sub_o, io_mul_o, io_neg_o, io_and_r, io_or_r, io_xor_r, io_nd_r, io_shr_r, io_shl1, io_i2b_r, io_i2l_o, io_l2i_o, il_add_o, il_sub_o, il_mul_o, il_neg_o, ib_bit, Int.toNat_natCast, true_implies, false_implies, implies_true, and_true, true_and, and_self, not_true_eq_false, not_false_eq_true, wa_0, wa_1, il_cmp_o, il_cmp0, il_cmp1, il_cmp2, io_bit1, ibt0, ibt1, ibt00, ibt11, ibt10, ibt01, Int.ofNat_lt, Int.ofNat_le, Int.ofNat_inj, Nat.lt_irrefl, Int.lt_irrefl, Int.toNat_one, Int.toNat_zero, Bool.false_eq_true, reduceIte, reduceCtorEq, Nat.reduceAdd, Nat.reduceMul, Nat.reduceSub, Nat.reduceLT, Nat.reduceLeDiff, Nat.reduceEqDiff, Int.reduceNeg, Int.reduceAdd, Int.reduceMul, Int.reduceSub, Int.reduceLT, Int.reduceLE, Int.reduceEq, Int.reduceToNat, Int.reduceNatCast, icl, ico, inz, hi, hN', hPi, e]
      exact ih M' hM hC
  · obtain ⟨hGi, n1, n2, n3, n4⟩ := qok_fin hG (qN G) (Nat.le_refl _)
    have hN' : M' g 0 = (qN G : Int) := by rw [hC.1.1, n1]
    rw [wi_25_11]
    simp (contextual := true) (disch := first | assumption | omega | exact il_cqA _ _ | exact il_cqB _ _) only [wi_25_0, wi_25_1, wi_25_2, wi_25_5, wi_25_8, wi_25_9, wi_25_10, wi_25_12, wi_25_13, wi_25_16, wi_25_19, wi_25_20, wi_25_23, wi_25_24, wi_25_25, wi_25_26, wi_25_29, wi_25_30, wi_25_33, wi_25_34, wi_25_35, wi_25_36, wi_25_39, wi_25_40, wi_25_41, wi_25_44, wi_25_47, wi_25_48, wi_25_51, wi_25_54, io_add_o, io_sub_o, io_mul_o, io_neg_o, io_and_r, io_or_r, io_xor_r, io_nd_r, io_shr_r, io_shl1, io_i2b_r, io_i2l_o, io_l2i_o, il_add_o, il_sub_o, il_mul_o, il_neg_o, ib_bit, Int.toNat_natCast, true_implies, false_implies, implies_true, and_true, true_and, and_self, not_true_eq_false, not_false_eq_true, wa_0, wa_1, il_cmp_o, il_cmp0, il_cmp1, il_cmp2, io_bit1, ibt0, ibt1, ibt00, ibt11, ibt10, ibt01, Int.ofNat_lt, Int.ofNat_le, Int.ofNat_inj, Nat.lt_irrefl, Int.lt_irrefl, Int.toNat_one, Int.toNat_zero, Bool.false_eq_true, reduceIte, reduceCtorEq, Nat.reduceAdd, Nat.reduceMul, Nat.reduceSub, Nat.reduceLT, Nat.reduceLeDiff, Nat.reduceEqDiff, Int.reduceNeg, Int.reduceAdd, Int.reduceMul, Int.reduceSub, Int.reduceLT, Int.reduceLE, Int.reduceEq, Int.reduceToNat, Int.reduceNatCast, icl, ico, inz, hN']
    exact hQ M' hM hC
end SG
