/-! the class changes a graph -/
theorem icl {n k : Nat} : ((n : Int) < (no_index (OfNat.ofNat k) : Int)) ↔ n < no_index (OfNat.ofNat k) := by
  show (n : Int) < ((k : Nat) : Int) ↔ n < k
  omega
theorem gs_GG {g h : Nat} (hg : gs_G g) (hh : gs_G h) (hne : g ≠ h) : g + 6 < h ∨ h + 6 < g :=
  (by decide +kernel : ∀ g ∈ [2, 9, 18, 25, 32, 39, 46, 53, 60, 67, 128, 135], ∀ h ∈ [2, 9, 18, 25, 32, 39, 46, 53, 60, 67, 128, 135], g ≠ h → g + 6 < h ∨ h + 6 < g) g (List.contains_iff_mem.mp hg) h (List.contains_iff_mem.mp hh) hne
section SG
variable {N : Nat} {xs : Nat → Int32} {d : Nat} {M : gg_M} {cc cs : Nat} {Q : gg_O → Prop} {g : Nat} {G : q_G}
theorem wp_unpaint (hg : gs_G g) (hQ : ∀ M' : gg_M, (∀ j, j ≠ g + 5 → M' j = M j) → (∀ v, v < 8 → M' (g + 5) v = -1) → Q ((0, (3, 0)), (gk_R, M', 142, cc, cs))) :
    wp N xs d 23 0 [gr g, (3, 0)] [] (gk_R, M, 142, cc, cs) Q := by
  simp (contextual := true) (disch := first | assumption | omega | exact il_cqA _ _ | exact il_cqB _ _) only [wi_23_0, wi_23_1, wi_23_3, wi_23_5, wi_23_8, wi_23_9, wi_23_12, wi_23_13, wi_23_14, wi_23_15, wi_23_18, wi_23_21, io_add_o, io_sub_o, io_mul_o, io_neg_o, io_and_r, io_or_r, io_xor_r, io_nd_r, io_shr_r, io_shl1, io_i2b_r, io_i2l_o, io_l2i_o, il_add_o, il_sub_o, il_mul_o, il_neg_o, ib_bit, Int.toNat_natCast, true_implies, false_implies, implies_true, and_true, true_and, and_self, not_true_eq_false, not_false_eq_true, wa_0, wa_1, il_cmp_o, il_cmp0, il_cmp1, il_cmp2, io_bit1, ibt0, ibt1, ibt00, ibt11, ibt10, ibt01, Int.ofNat_lt, Int.ofNat_le, Int.ofNat_inj, Nat.lt_irrefl, Int.lt_irrefl, Int.toNat_one, Int.toNat_zero, Bool.false_eq_true, reduceIte, reduceCtorEq, Nat.reduceAdd, Nat.reduceMul, Nat.reduceSub, Nat.reduceLT, Nat.reduceLeDiff, Nat.reduceEqDiff, Int.reduceNeg, Int.reduceAdd, Int.reduceMul, Int.reduceSub, Int.reduceLT, Int.reduceLE, Int.reduceEq, Int.reduceToNat, Int.reduceNatCast, icl, ico, inz]
  refine wl_i (P := fun i I => ∀ M' : gg_M, (∀ j, j ≠ g + 5 → M' j = M j) → (∀ v, v < i → M' (g + 5) v = -1) → wp N xs d 23 2 [gr g, (0, I)] [] (gk_R, M', 142, cc, cs) Q) 8 (fun i hi ih M' hM hv => ?_) (fun M' hM hv => ?_) M (fun j _ => rfl) (fun v hv => absurd hv (Nat.not_lt_zero v))
  · rw [wi_23_2]
    simp (contextual := true) (disch := first | assumption | omega | exact il_cqA _ _ | exact il_cqB _ _) only [wi_23_0, wi_23_1, wi_23_3, wi_23_5, wi_23_8, wi_23_9, wi_23_12, wi_23_13, wi_23_14, wi_23_15, wi_23_18, wi_23_21, io_add_o, io_sub_o, io_mul_o, io_neg_o, io_and_r, io_or_r, io_xor_r, io_nd_r, io_shr_r, io_shl1, io_i2b_r, io_i2l_o, io_l2i_o, il_add_o, il_sub_o, il_mul_o, il_neg_o, ib_bit, Int.toNat_natCast, true_implies, false_implies, implies_true, and_true, true_and, and_self, not_true_eq_false, not_false_eq_true, wa_0, wa_1, il_cmp_o, il_cmp0, il_cmp1, il_cmp2, io_bit1, ibt0, ibt1, ibt00, ibt11, ibt10, ibt01, Int.ofNat_lt, Int.ofNat_le, Int.ofNat_inj, Nat.lt_irrefl, Int.lt_irrefl, Int.toNat_one, Int.toNat_zero, Bool.false_eq_true, reduceIte, reduceCtorEq, Nat.reduceAdd, Nat.reduceMul, Nat.reduceSub, Nat.reduceLT, Nat.reduceLeDiff, Nat.reduceEqDiff, Int.reduceNeg, Int.reduceAdd, Int.reduceMul, Int.reduceSub, Int.reduceLT, Int.reduceLE, Int.reduceEq, Int.reduceToNat, Int.reduceNatCast, icl, ico, inz, hi]
    refine ih _ (fun j h1 => by rw [gu_n h1, hM j h1]) (fun v hv' => ?_)
    rw [gu]
    have := hv v
    grind
  · rw [wi_23_2]
    simp (contextual := true) (disch := first | assumption | omega | exact il_cqA _ _ | exact il_cqB _ _) only [wi_23_0, wi_23_1, wi_23_3, wi_23_5, wi_23_8, wi_23_9, wi_23_12, wi_23_13, wi_23_14, wi_23_15, wi_23_18, wi_23_21, io_add_o, io_sub_o, io_mul_o, io_neg_o, io_and_r, io_or_r, io_xor_r, io_nd_r, io_shr_r, io_shl1, io_i2b_r, io_i2l_o, io_l2i_o, il_add_o, il_sub_o, il_mul_o, il_neg_o, ib_bit, Int.toNat_natCast, true_implies, false_implies, implies_true, and_true, true_and, and_self, not_true_eq_false, not_false_eq_true, wa_0, wa_1, il_cmp_o, il_cmp0, il_cmp1, il_cmp2, io_bit1, ibt0, ibt1, ibt00, ibt11, ibt10, ibt01, Int.ofNat_lt, Int.ofNat_le, Int.ofNat_inj, Nat.lt_irrefl, Int.lt_irrefl, Int.toNat_one, Int.toNat_zero, Bool.false_eq_true, reduceIte, reduceCtorEq, Nat.reduceAdd, Nat.reduceMul, Nat.reduceSub, Nat.reduceLT, Nat.reduceLeDiff, Nat.reduceEqDiff, Int.reduceNeg, Int.reduceAdd, Int.reduceMul, Int.reduceSub, Int.reduceLT, Int.reduceLE, Int.reduceEq, Int.reduceToNat, Int.reduceNatCast, icl, ico, inz, ico]
    exact hQ M' hM hv
theorem wp_begin (hg : gs_G g) {n m : Nat} (hQ : ∀ M' : gg_M, (∀ j, j < g ∨ g + 6 < j → M' j = M j) → q_C M' g (qnew n m) → Q ((0, (3, 0)), (gk_R, M', 142, cc, cs))) :
    wp N xs (d + 1) 1 0 [gr g, (0, (n : Int)), (0, (m : Int)), (3, 0)] [] (gk_R, M, 142, cc, cs) Q := by
  simp (contextual := true) (disch := first | assumption | omega | exact il_cqA _ _ | exact il_cqB _ _) only [wi_1_0, wi_1_1, wi_1_2, wi_1_5, wi_1_6, wi_1_7, wi_1_10, wi_1_11, wi_1_12, wi_1_15, wi_1_16, wi_1_17, wi_1_20, wi_1_21, wi_1_22, wi_1_25, wi_1_26, wi_1_29, wi_1_30, wi_1_32, wi_1_33, wi_1_36, wi_1_37, wi_1_40, wi_1_41, wi_1_42, wi_1_43, wi_1_46, wi_1_49, io_add_o, io_sub_o, io_mul_o, io_neg_o, io_and_r, io_or_r, io_xor_r, io_nd_r, io_shr_r, io_shl1, io_i2b_r, io_i2l_o, io_l2i_o, il_add_o, il_sub_o, il_mul_o, il_neg_o, ib_bit, Int.toNat_natCast, true_implies, false_implies, implies_true, and_true, true_and, and_self, not_true_eq_false, not_false_eq_true, wa_0, wa_1, il_cmp_o, il_cmp0, il_cmp1, il_cmp2, io_bit1, ibt0, ibt1, ibt00, ibt11, ibt10, ibt01, Int.ofNat_lt, Int.ofNat_le, Int.ofNat_inj, Nat.lt_irrefl, Int.lt_irrefl, Int.toNat_one, Int.toNat_zero, Bool.false_eq_true, reduceIte, reduceCtorEq, Nat.reduceAdd, Nat.reduceMul, Nat.reduceSub, Nat.reduceLT, Nat.reduceLeDiff, Nat.reduceEqDiff, Int.reduceNeg, Int.reduceAdd, Int.reduceMul, Int.reduceSub, Int.reduceLT, Int.reduceLE, Int.reduceEq, Int.reduceToNat, Int.reduceNatCast, icl, ico, inz]
  refine wp_unpaint hg (fun M1 hM1 hP1 => ?_)
  simp (contextual := true) (disch := first | assumption | omega | exact il_cqA _ _ | exact il_cqB _ _) only [wi_1_0, wi_1_1, wi_1_2, wi_1_5, wi_1_6, wi_1_7, wi_1_10, wi_1_11, wi_1_12, wi_1_15, wi_1_16, wi_1_17, wi_1_20, wi_1_21, wi_1_22, wi_1_25, wi_1_26, wi_1_29, wi_1_30, wi_1_32, wi_1_33, wi_1_36, wi_1_37, wi_1_40, wi_1_41, wi_1_42, wi_1_43, wi_1_46, wi_1_49, io_add_o, io_sub_o, io_mul_o, io_neg_o, io_and_r, io_or_r, io_xor_r, io_nd_r, io_shr_r, io_shl1, io_i2b_r, io_i2l_o, io_l2i_o, il_add_o, il_sub_o, il_mul_o, il_neg_o, ib_bit, Int.toNat_natCast, true_implies, false_implies, implies_true, and_true, true_and, and_self, not_true_eq_false, not_false_eq_true, wa_0, wa_1, il_cmp_o, il_cmp0, il_cmp1, il_cmp2, io_bit1, ibt0, ibt1, ibt00, ibt11, ibt10, ibt01, Int.ofNat_lt, Int.ofNat_le, Int.ofNat_inj, Nat.lt_irrefl, Int.lt_irrefl, Int.toNat_one, Int.toNat_zero, Bool.false_eq_true, reduceIte, reduceCtorEq, Nat.reduceAdd, Nat.reduceMul, Nat.reduceSub, Nat.reduceLT, Nat.reduceLeDiff, Nat.reduceEqDiff, Int.reduceNeg, Int.reduceAdd, Int.reduceMul, Int.reduceSub, Int.reduceLT, Int.reduceLE, Int.reduceEq, Int.reduceToNat, Int.reduceNatCast, icl, ico, inz]
  refine wl_i (P := fun i I => ∀ M' : gg_M, (∀ j, j ≠ g + 6 → M' j = M1 j) → (∀ v, v < i → M' (g + 6) v = 0) → wp N xs (d + 1) 1 31 [gr g, (0, (n : Int)), (0, (m : Int)), (0, I)] [] (gk_R, M', 142, cc, cs) Q) 4 (fun i hi ih M' hM hv => ?_) (fun M' hM hv => ?_) M1 (fun j _ => rfl) (fun v hv => absurd hv (Nat.not_lt_zero v))
  · rw [wi_1_31]
    simp (contextual := true) (disch := first | assumption | omega | exact il_cqA _ _ | exact il_cqB _ _) only [wi_1_0, wi_1_1, wi_1_2, wi_1_5, wi_1_6, wi_1_7, wi_1_10, wi_1_11, wi_1_12, wi_1_15, wi_1_16, wi_1_17, wi_1_20, wi_1_21, wi_1_22, wi_1_25, wi_1_26, wi_1_29, wi_1_30, wi_1_32, wi_1_33, wi_1_36, wi_1_37, wi_1_40, wi_1_41, wi_1_42, wi_1_43, wi_1_46, wi_1_49, io_add_o, io_sub_o, io_mul_o, io_neg_o, io_and_r, io_or_r, io_xor_r, io_nd_r, io_shr_r, io_shl1, io_i2b_r, io_i2l_o, io_l2i_o, il_add_o, il_sub_o, il_mul_o, il_neg_o, ib_bit, Int.toNat_natCast, true_implies, false_implies, implies_true, and_true, true_and, and_self, not_true_eq_false, not_false_eq_true, wa_0, wa_1, il_cmp_o, il_cmp0, il_cmp1, il_cmp2, io_bit1, ibt0, ibt1, ibt00, ibt11, ibt10, ibt01, Int.ofNat_lt, Int.ofNat_le, Int.ofNat_inj, Nat.lt_irrefl, Int.lt_irrefl, Int.toNat_one, Int.toNat_zero, Bool.false_eq_true, reduceIte, reduceCtorEq, Nat.reduceAdd, Nat.reduceMul, Nat.reduceSub, Nat.reduceLT, Nat.reduceLeDiff, Nat.reduceEqDiff, Int.reduceNeg, Int.reduceAdd, Int.reduceMul, Int.reduceSub, Int.reduceLT, Int.reduceLE, Int.reduceEq, Int.reduceToNat, Int.reduceNatCast, icl, ico, inz, hi]
    refine ih _ (fun j h1 => by rw [gu_n h1, hM j h1]) (fun v hv' => ?_)
    rw [gu]
    have := hv v
    grind
  · rw [wi_1_31]
    simp (contextual := true) (disch := first | assumption | omega | exact il_cqA _ _ | exact il_cqB _ _) only [wi_1_0, wi_1_1, wi_1_2, wi_1_5, wi_1_6, wi_1_7, wi_1_10, wi_1_11, wi_1_12, wi_1_15, wi_1_16, wi_1_17, wi_1_20, wi_1_21, wi_1_22, wi_1_25, wi_1_26, wi_1_29, wi_1_30, wi_1_32, wi_1_33, wi_1_36, wi_1_37, wi_1_40, wi_1_41, wi_1_42, wi_1_43, wi_1_46, wi_1_49, io_add_o, io_sub_o, io_mul_o, io_neg_o, io_and_r, io_or_r, io_xor_r, io_nd_r, io_shr_r, io_shl1, io_i2b_r, io_i2l_o, io_l2i_o, il_add_o, il_sub_o, il_mul_o, il_neg_o, ib_bit, Int.toNat_natCast, true_implies, false_implies, implies_true, and_true, true_and, and_self, not_true_eq_false, not_false_eq_true, wa_0, wa_1, il_cmp_o, il_cmp0, il_cmp1, il_cmp2, io_bit1, ibt0, ibt1, ibt00, ibt11, ibt10, ibt01, Int.ofNat_lt, Int.ofNat_le, Int.ofNat_inj, Nat.lt_irrefl, Int.lt_irrefl, Int.toNat_one, Int.toNat_zero, Bool.false_eq_true, reduceIte, reduceCtorEq, Nat.reduceAdd, Nat.reduceMul, Nat.reduceSub, Nat.reduceLT, Nat.reduceLeDiff, Nat.reduceEqDiff, Int.reduceNeg, Int.reduceAdd, Int.reduceMul, Int.reduceSub, Int.reduceLT, Int.reduceLE, Int.reduceEq, Int.reduceToNat, Int.reduceNatCast, icl, ico, inz, ico]
    have e0 : M' g = M1 g := hM g (by omega)
    have e1 := hM1 g (by omega)
    refine hQ M' (fun j hj => ?_) ⟨⟨?_, ?_, ?_, ?_, ?_⟩, fun a ha => absurd ha (Nat.not_lt_zero a), fun a ha => absurd ha (Nat.not_lt_zero a), fun a ha => absurd ha (Nat.not_lt_zero a), fun a ha => absurd ha (Nat.not_lt_zero a), fun v hv' => ?_, fun t ht => hv t ht⟩
    · rw [hM j (by omega), hM1 j (by omega), gu_n (by omega), gu_n (by omega), gu_n (by omega), gu_n (by omega), gu_n (by omega)]
    · rw [e0, e1]; simp [gu]; rfl
    · rw [e0, e1]; simp [gu]; rfl
    · rw [e0, e1]; simp [gu]; rfl
    · rw [e0, e1]; simp [gu]; rfl
    · rw [e0, e1]; simp [gu]; rfl
    · rw [hM (g + 5) (by omega), hP1 v hv']
      rfl
theorem wp_copyFrom {h : Nat} (hg : gs_G g) (hh : gs_G h) (hne : g ≠ h) (hG : q_ok G) (hC : q_C M h G) (hQ : ∀ M' : gg_M, (∀ j, j < g ∨ g + 6 < j → M' j = M j) → q_C M' g G → Q ((0, (3, 0)), (gk_R, M', 142, cc, cs))) :
    wp N xs d 2 0 [gr g, gr h] [] (gk_R, M, 142, cc, cs) Q := by
  have hgh := gs_GG hg hh hne
  obtain ⟨⟨h1, h2, h3, h4, h5⟩, hF, hT, hA, hW, hP, hO⟩ := id hC
  obtain ⟨⟨k1, k2, k3, k4, k5, k6, k7, k8⟩, hk, hp, hp2⟩ := id hG
  simp (contextual := true) (disch := first | assumption | omega | exact il_cqA _ _ | exact il_cqB _ _) only [wi_2_0, wi_2_1, wi_2_2, wi_2_5, wi_2_8, wi_2_9, wi_2_10, wi_2_13, wi_2_16, wi_2_17, wi_2_18, wi_2_21, wi_2_24, wi_2_25, wi_2_26, wi_2_29, wi_2_32, wi_2_33, wi_2_34, wi_2_37, wi_2_40, wi_2_41, wi_2_44, wi_2_45, wi_2_46, wi_2_49, wi_2_50, wi_2_52, wi_2_55, wi_2_56, wi_2_59, wi_2_60, wi_2_61, wi_2_64, wi_2_65, wi_2_67, wi_2_70, wi_2_71, wi_2_74, wi_2_75, wi_2_76, wi_2_79, wi_2_80, wi_2_82, wi_2_85, wi_2_86, wi_2_89, wi_2_90, wi_2_91, wi_2_94, wi_2_95, wi_2_97, wi_2_100, wi_2_101, wi_2_104, wi_2_105, wi_2_106, wi_2_109, wi_2_110, wi_2_112, wi_2_115, wi_2_116, wi_2_119, wi_2_120, wi_2_121, wi_2_124, wi_2_125, wi_2_126, wi_2_129, io_add_o, io_sub_o, io_mul_o, io_neg_o, io_and_r, io_or_r, io_xor_r, io_nd_r, io_shr_r, io_shl1, io_i2b_r, io_i2l_o, io_l2i_o, il_add_o, il_sub_o, il_mul_o, il_neg_o, ib_bit, Int.toNat_natCast, true_implies, false_implies, implies_true, and_true, true_and, and_self, not_true_eq_false, not_false_eq_true, wa_0, wa_1, il_cmp_o, il_cmp0, il_cmp1, il_cmp2, io_bit1, ibt0, ibt1, ibt00, ibt11, ibt10, ibt01, Int.ofNat_lt, Int.ofNat_le, Int.ofNat_inj, Nat.lt_irrefl, Int.lt_irrefl, Int.toNat_one, Int.toNat_zero, Bool.false_eq_true, reduceIte, reduceCtorEq, Nat.reduceAdd, Nat.reduceMul, Nat.reduceSub, Nat.reduceLT, Nat.reduceLeDiff, Nat.reduceEqDiff, Int.reduceNeg, Int.reduceAdd, Int.reduceMul, Int.reduceSub, Int.reduceLT, Int.reduceLE, Int.reduceEq, Int.reduceToNat, Int.reduceNatCast, icl, ico, inz, gu_n, gc_n, h1, h2, h3, h4, h5]
  refine hQ _ (fun j hj => ?_) ⟨⟨?_, ?_, ?_, ?_, ?_⟩, fun a ha => ?_, fun a ha => ?_, fun a ha => ?_, fun a ha => ?_, fun v hv => ?_, fun t ht => ?_⟩
  · rw [gc_n (by omega), gc_n (by omega), gc_n (by omega), gc_n (by omega), gc_n (by omega), gc_n (by omega), gu_n (by omega), gu_n (by omega), gu_n (by omega), gu_n (by omega), gu_n (by omega)]
  · rw [gc_n (by omega), gc_n (by omega), gc_n (by omega), gc_n (by omega), gc_n (by omega), gc_n (by omega)]; simp [gu]
  · rw [gc_n (by omega), gc_n (by omega), gc_n (by omega), gc_n (by omega), gc_n (by omega), gc_n (by omega)]; simp [gu]
  · rw [gc_n (by omega), gc_n (by omega), gc_n (by omega), gc_n (by omega), gc_n (by omega), gc_n (by omega)]; simp [gu]
  · rw [gc_n (by omega), gc_n (by omega), gc_n (by omega), gc_n (by omega), gc_n (by omega), gc_n (by omega)]; simp [gu]
  · rw [gc_n (by omega), gc_n (by omega), gc_n (by omega), gc_n (by omega), gc_n (by omega), gc_n (by omega)]; simp [gu]
  · rw [gc_n (by omega), gc_n (by omega), gc_n (by omega), gc_n (by omega), gc_n (by omega), gc_e (by omega), gu_n (by omega), gu_n (by omega), gu_n (by omega), gu_n (by omega), gu_n (by omega), hF a ha]
  · rw [gc_n (by omega), gc_n (by omega), gc_n (by omega), gc_n (by omega), gc_e (by omega), gc_n (by omega), gu_n (by omega), gu_n (by omega), gu_n (by omega), gu_n (by omega), gu_n (by omega), hT a ha]
  · rw [gc_n (by omega), gc_n (by omega), gc_n (by omega), gc_e (by omega), gc_n (by omega), gc_n (by omega), gu_n (by omega), gu_n (by omega), gu_n (by omega), gu_n (by omega), gu_n (by omega), hA a ha]
  · rw [gc_n (by omega), gc_n (by omega), gc_e (by omega), gc_n (by omega), gc_n (by omega), gc_n (by omega), gu_n (by omega), gu_n (by omega), gu_n (by omega), gu_n (by omega), gu_n (by omega), hW a ha]
  · rw [gc_n (by omega), gc_e (by omega), gc_n (by omega), gc_n (by omega), gc_n (by omega), gc_n (by omega), gu_n (by omega), gu_n (by omega), gu_n (by omega), gu_n (by omega), gu_n (by omega), hP v hv]
  · rw [gc_e (by omega), gc_n (by omega), gc_n (by omega), gc_n (by omega), gc_n (by omega), gc_n (by omega), gu_n (by omega), gu_n (by omega), gu_n (by omega), gu_n (by omega), gu_n (by omega), hO t ht]
theorem wp_putArc (hg : gs_G g) (hG : q_ok G) (h : q_C M g G) {f t a w : Nat} (hK : qK G < 12) (hQ : ∀ M' : gg_M, (∀ j, j < g ∨ g + 6 < j → M' j = M j) → q_C M' g (qput G f t a w) → Q ((0, (3, 0)), (gk_R, M', 142, cc, cs))) :
    wp N xs d 11 0 [gr g, (0, (f : Int)), (0, (t : Int)), (0, (a : Int)), (0, (w : Int))] [] (gk_R, M, 142, cc, cs) Q := by
  obtain ⟨⟨h1, h2, h3, h4, h5⟩, hF, hT, hA, hW, hP, hO⟩ := id h
  obtain ⟨⟨k1, k2, k3, k4, k5, k6, k7, k8⟩, hk, hp, hp2⟩ := id hG
  simp (contextual := true) (disch := first | assumption | omega | exact il_cqA _ _ | exact il_cqB _ _) only [wi_11_0, wi_11_1, wi_11_4, wi_11_6, wi_11_9, wi_11_10, wi_11_13, wi_11_14, wi_11_17, wi_11_18, wi_11_19, wi_11_20, wi_11_23, wi_11_24, wi_11_27, wi_11_28, wi_11_29, wi_11_30, wi_11_33, wi_11_34, wi_11_37, wi_11_38, wi_11_39, wi_11_40, wi_11_43, wi_11_44, wi_11_47, wi_11_49, wi_11_50, wi_11_51, wi_11_52, wi_11_55, wi_11_56, wi_11_57, wi_11_60, io_add_o, io_sub_o, io_mul_o, io_neg_o, io_and_r, io_or_r, io_xor_r, io_nd_r, io_shr_r, io_shl1, io_i2b_r, io_i2l_o, io_l2i_o, il_add_o, il_sub_o, il_mul_o, il_neg_o, ib_bit, Int.toNat_natCast, true_implies, false_implies, implies_true, and_true, true_and, and_self, not_true_eq_false, not_false_eq_true, wa_0, wa_1, il_cmp_o, il_cmp0, il_cmp1, il_cmp2, io_bit1, ibt0, ibt1, ibt00, ibt11, ibt10, ibt01, Int.ofNat_lt, Int.ofNat_le, Int.ofNat_inj, Nat.lt_irrefl, Int.lt_irrefl, Int.toNat_one, Int.toNat_zero, Bool.false_eq_true, reduceIte, reduceCtorEq, Nat.reduceAdd, Nat.reduceMul, Nat.reduceSub, Nat.reduceLT, Nat.reduceLeDiff, Nat.reduceEqDiff, Int.reduceNeg, Int.reduceAdd, Int.reduceMul, Int.reduceSub, Int.reduceLT, Int.reduceLE, Int.reduceEq, Int.reduceToNat, Int.reduceNatCast, icl, ico, inz, gu_n, h3, hK]
  refine hQ _ (fun j hj => ?_) ⟨⟨?_, ?_, ?_, ?_, ?_⟩, fun b hb => ?_, fun b hb => ?_, fun b hb => ?_, fun b hb => ?_, fun v hv => ?_, fun t ht => ?_⟩
  · rw [gu_n (by omega), gu_n (by omega), gu_n (by omega), gu_n (by omega), gu_n (by omega)]
  · simp [gu]; exact h1
  · simp [gu]; exact h2
  · simp [gu]; rfl
  · simp [gu]; exact h4
  · simp [gu]; exact h5
  · have hb' : b < qK G + 1 := hb
    show _ = ((qup (qF G) (qK G) f b : Nat) : Int)
    have := hF b
    simp [gu, qup]
    split <;> first | rfl | exact this (by omega)
  · have hb' : b < qK G + 1 := hb
    show _ = ((qup (qT G) (qK G) t b : Nat) : Int)
    have := hT b
    simp [gu, qup]
    split <;> first | rfl | exact this (by omega)
  · have hb' : b < qK G + 1 := hb
    show _ = ((qup (qA G) (qK G) a b : Nat) : Int)
    have := hA b
    simp [gu, qup]
    split <;> first | rfl | exact this (by omega)
  · have hb' : b < qK G + 1 := hb
    show _ = ((qup (qW G) (qK G) w b : Nat) : Int)
    have := hW b
    simp [gu, qup]
    split <;> first | rfl | exact this (by omega)
  · simp [gu]; exact hP v hv
  · simp [gu]; exact hO t ht
theorem wp_turnRound (hg : gs_G g) (hG : q_ok G) (h : q_C M g G) {a : Nat} (ha : a < qK G) (hQ : ∀ M' : gg_M, (∀ j, j < g ∨ g + 6 < j → M' j = M j) → q_C M' g (qturn G a) → Q ((0, (3, 0)), (gk_R, M', 142, cc, cs))) :
    wp N xs (d + 1) 13 0 [gr g, (0, (a : Int)), (3, 0)] [] (gk_R, M, 142, cc, cs) Q := by
  obtain ⟨⟨h1, h2, h3, h4, h5⟩, hF, hT, hA, hW, hP, hO⟩ := id h
  obtain ⟨⟨k1, k2, k3, k4, k5, k6, k7, k8⟩, hk, hp, hp2⟩ := id hG
  obtain ⟨a1, a2, a3, _⟩ := hk a ha
  have e1 := hF a ha
  have e2 := hT a ha
  have e3 := hA a ha
  have hm : gg_up (gg_up M (g + 1) a (qT G a : Int)) (g + 2) a (qF G a : Int) g 1 = (qM G : Int) := by
    rw [gu_n (by omega), gu_n (by omega)]
    exact h2
  simp (contextual := true) (disch := first | assumption | omega | exact il_cqA _ _ | exact il_cqB _ _) only [wi_13_0, wi_13_1, wi_13_4, wi_13_5, wi_13_6, wi_13_7, wi_13_8, wi_13_11, wi_13_12, wi_13_13, wi_13_16, wi_13_17, wi_13_18, wi_13_19, wi_13_20, wi_13_23, wi_13_24, wi_13_25, wi_13_26, wi_13_27, wi_13_30, wi_13_31, wi_13_32, wi_13_33, wi_13_34, wi_13_37, wi_13_38, wi_13_39, wi_13_42, wi_13_43, io_add_o, io_sub_o, io_mul_o, io_neg_o, io_and_r, io_or_r, io_xor_r, io_nd_r, io_shr_r, io_shl1, io_i2b_r, io_i2l_o, io_l2i_o, il_add_o, il_sub_o, il_mul_o, il_neg_o, ib_bit, Int.toNat_natCast, true_implies, false_implies, implies_true, and_true, true_and, and_self, not_true_eq_false, not_false_eq_true, wa_0, wa_1, il_cmp_o, il_cmp0, il_cmp1, il_cmp2, io_bit1, ibt0, ibt1, ibt00, ibt11, ibt10, ibt01, Int.ofNat_lt, Int.ofNat_le, Int.ofNat_inj, Nat.lt_irrefl, Int.lt_irrefl, Int.toNat_one, Int.toNat_zero, Bool.false_eq_true, reduceIte, reduceCtorEq, Nat.reduceAdd, Nat.reduceMul, Nat.reduceSub, Nat.reduceLT, Nat.reduceLeDiff, Nat.reduceEqDiff, Int.reduceNeg, Int.reduceAdd, Int.reduceMul, Int.reduceSub, Int.reduceLT, Int.reduceLE, Int.reduceEq, Int.reduceToNat, Int.reduceNatCast, icl, ico, inz, gu_n, e1, e2, e3, wp_minus (M := gg_up (gg_up M (g + 1) a (qT G a : Int)) (g + 2) a (qF G a : Int)) hg hm k4]
  refine hQ _ (fun j hj => ?_) ⟨⟨?_, ?_, ?_, ?_, ?_⟩, fun b hb => ?_, fun b hb => ?_, fun b hb => ?_, fun b hb => ?_, fun v hv => ?_, fun t ht => ?_⟩
  · rw [gu_n (by omega), gu_n (by omega), gu_n (by omega)]
  · simp [gu]; exact h1
  · simp [gu]; exact h2
  · simp [gu]; exact h3
  · simp [gu]; exact h4
  · simp [gu]; exact h5
  · show _ = ((qup (qF G) a (qT G a) b : Nat) : Int)
    have := hF b hb
    simp [gu, qup]
    split <;> first | rfl | exact this
  · show _ = ((qup (qT G) a (qF G a) b : Nat) : Int)
    have := hT b hb
    simp [gu, qup]
    split <;> first | rfl | exact this
  · show _ = ((qup (qA G) a (qmi (qM G) 0 (qA G a)) b : Nat) : Int)
    have := hA b hb
    simp [gu, qup]
    split <;> first | rfl | exact this
  · simp [gu]; exact hW b hb
  · simp [gu]; exact hP v hv
  · simp [gu]; exact hO t ht
end SG
