/-! append -/
theorem qmore_0 {w : Int} {k : Nat} (h : qbn w k = 0) : qmore w (k + 1) = qmore w k := by
  unfold qmore
  rw [qcnt, h]
  rfl
theorem qmore_1 {w : Int} {k : Nat} (h : ¬ qbn w k = 0) : qmore w (k + 1) = qmore w k + 1 := by
  unfold qmore
  rw [qcnt, decide_eq_true h]
  rfl
theorem qmore_mo (w : Int) (k j : Nat) : qmore w k ≤ qmore w (k + j) := by
  induction j with
  | zero => exact Nat.le_refl _
  | succ j ih =>
    by_cases e : qbn w (k + j) = 0
    · rw [← Nat.add_assoc, qmore_0 e]
      exact ih
    · rw [← Nat.add_assoc, qmore_1 e]
      omega
theorem qmore_8 (w : Int) (k : Nat) : qmore w k ≤ k := qcnt_le _ _
def qappA (A : q_A) (w : Int) : q_A := if aB A + qmore w 8 ≤ 400 then (aG A, (aN A, aH A), aV A, qapp (aX A) (aB A) w 8, (aE A, aS A)) else A
def qappV (A : q_A) (w : Int) : Int := if aB A + qmore w 8 ≤ 400 then ((aB A + qmore w 8 : Nat) : Int) else -2
section SG
variable {N : Nat} {xs : Nat → Int32} {d : Nat} {M : gg_M} {cc cs : Nat} {A : q_A}
theorem cq_87 (hI : q_I M A) {w : Int} : q_cS N xs (d + 31) 87 [(1, w), (3, 0)] M (qappA A w) cc cs 0 0 (qappV A w) := by
  intro Q h0 _
  have h0 := h0 rfl
  unfold qappA qappV at h0
  obtain ⟨t1, t2, t3, t4⟩ := id hI.2.2.2.2.1
  have q8 := qmore_8 w 8
  simp (disch := first | assumption | omega | exact il_cqA _ _ | exact il_cqB _ _) only [wi_87_0, wi_87_1, wi_87_4, wi_87_5, wi_87_8, wi_38_0, wi_38_1, wi_38_2, wi_38_4, wi_38_8, wi_38_11, wi_38_12, wi_38_13, wi_38_15, wi_38_16, wi_38_19, wi_38_20, wi_38_21, wi_38_22, wi_38_25, wi_38_26, wi_38_29, wi_38_30, wi_38_31, wi_38_32, wi_38_35, wi_38_38, wi_38_39, wi_38_42, wi_38_43, wi_38_44, wi_38_47, wi_38_50, wi_38_52, wi_38_53, wi_38_55, wi_38_59, wi_38_62, wi_38_63, wi_38_65, wi_38_66, wi_38_69, wi_38_70, wi_38_71, wi_38_73, wi_38_75, wi_38_78, wi_38_79, wi_38_82, wi_38_85, wi_38_88, wi_38_89, wi_38_92, wi_38_93, wi_38_96, wi_38_98, wi_38_99, wi_38_100, wi_38_101, wi_38_104, wi_38_105, wi_38_106, wi_38_109, wi_38_112, wi_38_115, wi_38_116, wi_38_119, io_add_o, io_sub_o, io_mul_o, io_neg_o, io_and_r, io_or_r, io_xor_r, io_nd_r, io_shr_r, io_shl1, io_i2b_r, io_i2l_o, io_l2i_o, il_add_o, il_sub_o, il_mul_o, il_neg_o, ib_bit, Int.toNat_natCast, true_implies, false_implies, implies_true, and_true, true_and, and_self, not_true_eq_false, not_false_eq_true, wa_0, wa_1, il_cmp_o, il_cmp0, il_cmp1, il_cmp2, io_bit1, ibt0, ibt1, ibt00, ibt11, ibt10, ibt01, Int.ofNat_lt, Int.ofNat_le, Int.ofNat_inj, Nat.lt_irrefl, Int.lt_irrefl, Int.toNat_one, Int.toNat_zero, Bool.false_eq_true, reduceIte, reduceCtorEq, Nat.reduceAdd, Nat.reduceMul, Nat.reduceSub, Nat.reduceLT, Nat.reduceLeDiff, Nat.reduceEqDiff, Int.reduceNeg, Int.reduceAdd, Int.reduceMul, Int.reduceSub, Int.reduceLT, Int.reduceLE, Int.reduceEq, Int.reduceToNat, Int.reduceNatCast, icl, ico, inz, Nat.not_lt_zero]
  refine wl_for (P := fun k => ∀ m : Nat, m = qmore w k → wp N xs (d + 30) 38 6 [gr 76, (1, w), (3, 0), (0, (m : Int)), (0, 56 - 8 * (k : Int)), (3, 0)] [] (gk_R, M, 142, cc, cs) (wa N xs (d + 30 + 1) 87 5 [gr 1, (1, w), (3, 0)] [] Q)) 8 (fun k hk ih m hm => ?_) (fun m hm => ?_) 0 rfl
  · obtain ⟨b1, b2⟩ := qbn_eq w k
    have n0 : ¬ 56 - 8 * (k : Int) < 0 := by omega
    have en : 56 - 8 * (k : Int) + -8 = 56 - 8 * ((k + 1 : Nat) : Int) := by omega
    have m8 := qmore_8 w k
    rw [wi_38_6]
    by_cases e : qbn w k = 0
    · have e2 : (qbn w k : Int) = 0 := by omega
      simp (disch := first | assumption | omega | exact il_cqA _ _ | exact il_cqB _ _) only [wi_38_0, wi_38_1, wi_38_2, wi_38_4, wi_38_8, wi_38_11, wi_38_12, wi_38_13, wi_38_15, wi_38_16, wi_38_19, wi_38_20, wi_38_21, wi_38_22, wi_38_25, wi_38_26, wi_38_29, wi_38_30, wi_38_31, wi_38_32, wi_38_35, wi_38_38, wi_38_39, wi_38_42, wi_38_43, wi_38_44, wi_38_47, wi_38_50, wi_38_52, wi_38_53, wi_38_55, wi_38_59, wi_38_62, wi_38_63, wi_38_65, wi_38_66, wi_38_69, wi_38_70, wi_38_71, wi_38_73, wi_38_75, wi_38_78, wi_38_79, wi_38_82, wi_38_85, wi_38_88, wi_38_89, wi_38_92, wi_38_93, wi_38_96, wi_38_98, wi_38_99, wi_38_100, wi_38_101, wi_38_104, wi_38_105, wi_38_106, wi_38_109, wi_38_112, wi_38_115, wi_38_116, wi_38_119, io_add_o, io_sub_o, io_mul_o, io_neg_o, io_and_r, io_or_r, io_xor_r, io_nd_r, io_shr_r, io_shl1, io_i2b_r, io_i2l_o, io_l2i_o, il_add_o, il_sub_o, il_mul_o, il_neg_o, ib_bit, Int.toNat_natCast, true_implies, false_implies, implies_true, and_true, true_and, and_self, not_true_eq_false, not_false_eq_true, wa_0, wa_1, il_cmp_o, il_cmp0, il_cmp1, il_cmp2, io_bit1, ibt0, ibt1, ibt00, ibt11, ibt10, ibt01, Int.ofNat_lt, Int.ofNat_le, Int.ofNat_inj, Nat.lt_irrefl, Int.lt_irrefl, Int.toNat_one, Int.toNat_zero, Bool.false_eq_true, reduceIte, reduceCtorEq, Nat.reduceAdd, Nat.reduceMul, Nat.reduceSub, Nat.reduceLT, Nat.reduceLeDiff, Nat.reduceEqDiff, Int.reduceNeg, Int.reduceAdd, Int.reduceMul, Int.reduceSub, Int.reduceLT, Int.reduceLE, Int.reduceEq, Int.reduceToNat, Int.reduceNatCast, icl, ico, inz, Nat.not_lt_zero, n0, b1, il_cmp_o, il_cmp0, e2, en, Int.add_zero]
      exact ih m (by rw [qmore_0 e]; exact hm)
    · have e2 : ¬ (qbn w k : Int) = 0 := by omega
      simp (disch := first | assumption | omega | exact il_cqA _ _ | exact il_cqB _ _) only [wi_38_0, wi_38_1, wi_38_2, wi_38_4, wi_38_8, wi_38_11, wi_38_12, wi_38_13, wi_38_15, wi_38_16, wi_38_19, wi_38_20, wi_38_21, wi_38_22, wi_38_25, wi_38_26, wi_38_29, wi_38_30, wi_38_31, wi_38_32, wi_38_35, wi_38_38, wi_38_39, wi_38_42, wi_38_43, wi_38_44, wi_38_47, wi_38_50, wi_38_52, wi_38_53, wi_38_55, wi_38_59, wi_38_62, wi_38_63, wi_38_65, wi_38_66, wi_38_69, wi_38_70, wi_38_71, wi_38_73, wi_38_75, wi_38_78, wi_38_79, wi_38_82, wi_38_85, wi_38_88, wi_38_89, wi_38_92, wi_38_93, wi_38_96, wi_38_98, wi_38_99, wi_38_100, wi_38_101, wi_38_104, wi_38_105, wi_38_106, wi_38_109, wi_38_112, wi_38_115, wi_38_116, wi_38_119, io_add_o, io_sub_o, io_mul_o, io_neg_o, io_and_r, io_or_r, io_xor_r, io_nd_r, io_shr_r, io_shl1, io_i2b_r, io_i2l_o, io_l2i_o, il_add_o, il_sub_o, il_mul_o, il_neg_o, ib_bit, Int.toNat_natCast, true_implies, false_implies, implies_true, and_true, true_and, and_self, not_true_eq_false, not_false_eq_true, wa_0, wa_1, il_cmp_o, il_cmp0, il_cmp1, il_cmp2, io_bit1, ibt0, ibt1, ibt00, ibt11, ibt10, ibt01, Int.ofNat_lt, Int.ofNat_le, Int.ofNat_inj, Nat.lt_irrefl, Int.lt_irrefl, Int.toNat_one, Int.toNat_zero, Bool.false_eq_true, reduceIte, reduceCtorEq, Nat.reduceAdd, Nat.reduceMul, Nat.reduceSub, Nat.reduceLT, Nat.reduceLeDiff, Nat.reduceEqDiff, Int.reduceNeg, Int.reduceAdd, Int.reduceMul, Int.reduceSub, Int.reduceLT, Int.reduceLE, Int.reduceEq, Int.reduceToNat, Int.reduceNatCast, icl, ico, inz, Nat.not_lt_zero, n0, b1, il_cmp_o, il_cmp0, e, e2, en]
      exact ih (m + 1) (by rw [qmore_1 e, hm])
  · rw [show (56 : Int) - 8 * ((8 : Nat) : Int) = -8 by rfl]
    rw [wi_38_6]
    by_cases e : aB A + qmore w 8 ≤ 400
    · rw [if_pos e, if_pos e] at h0
      have e2 : ¬ (400 : Int) < (aB A : Int) + (m : Int) := by omega
      simp (disch := first | assumption | omega | exact il_cqA _ _ | exact il_cqB _ _) only [wi_38_0, wi_38_1, wi_38_2, wi_38_4, wi_38_8, wi_38_11, wi_38_12, wi_38_13, wi_38_15, wi_38_16, wi_38_19, wi_38_20, wi_38_21, wi_38_22, wi_38_25, wi_38_26, wi_38_29, wi_38_30, wi_38_31, wi_38_32, wi_38_35, wi_38_38, wi_38_39, wi_38_42, wi_38_43, wi_38_44, wi_38_47, wi_38_50, wi_38_52, wi_38_53, wi_38_55, wi_38_59, wi_38_62, wi_38_63, wi_38_65, wi_38_66, wi_38_69, wi_38_70, wi_38_71, wi_38_73, wi_38_75, wi_38_78, wi_38_79, wi_38_82, wi_38_85, wi_38_88, wi_38_89, wi_38_92, wi_38_93, wi_38_96, wi_38_98, wi_38_99, wi_38_100, wi_38_101, wi_38_104, wi_38_105, wi_38_106, wi_38_109, wi_38_112, wi_38_115, wi_38_116, wi_38_119, io_add_o, io_sub_o, io_mul_o, io_neg_o, io_and_r, io_or_r, io_xor_r, io_nd_r, io_shr_r, io_shl1, io_i2b_r, io_i2l_o, io_l2i_o, il_add_o, il_sub_o, il_mul_o, il_neg_o, ib_bit, Int.toNat_natCast, true_implies, false_implies, implies_true, and_true, true_and, and_self, not_true_eq_false, not_false_eq_true, wa_0, wa_1, il_cmp_o, il_cmp0, il_cmp1, il_cmp2, io_bit1, ibt0, ibt1, ibt00, ibt11, ibt10, ibt01, Int.ofNat_lt, Int.ofNat_le, Int.ofNat_inj, Nat.lt_irrefl, Int.lt_irrefl, Int.toNat_one, Int.toNat_zero, Bool.false_eq_true, reduceIte, reduceCtorEq, Nat.reduceAdd, Nat.reduceMul, Nat.reduceSub, Nat.reduceLT, Nat.reduceLeDiff, Nat.reduceEqDiff, Int.reduceNeg, Int.reduceAdd, Int.reduceMul, Int.reduceSub, Int.reduceLT, Int.reduceLE, Int.reduceEq, Int.reduceToNat, Int.reduceNatCast, icl, ico, inz, Nat.not_lt_zero, t1, e2]
      refine wl_for (P := fun k => ∀ (M' : gg_M) (l5 : gg_V), (∀ j, j ≠ 76 → j ≠ 77 → M' j = M j) → (∀ f, f ≠ 1 → M' 76 f = M 76 f) → M' 76 1 = ((qapp (aX A) (aB A) w k).1 : Int) → (∀ i, i < (qapp (aX A) (aB A) w k).1 → M' 77 i = ((qapp (aX A) (aB A) w k).2 i : Int)) → wp N xs (d + 30) 38 57 [gr 76, (1, w), (3, 0), (0, (m : Int)), (0, 56 - 8 * (k : Int)), l5] [] (gk_R, M', 142, cc, cs) (wa N xs (d + 30 + 1) 87 5 [gr 1, (1, w), (3, 0)] [] Q)) 8 (fun k hk ih M' l5 f1 f2 f3 f4 => ?_) (fun M' l5 f1 f2 f3 f4 => ?_) M _ (fun _ _ _ => rfl) (fun _ _ => rfl) t1 t4
      · obtain ⟨b1, b2⟩ := qbn_eq w k
        have n0 : ¬ 56 - 8 * (k : Int) < 0 := by omega
        have en : 56 - 8 * (k : Int) + -8 = 56 - 8 * ((k + 1 : Nat) : Int) := by omega
        have hB := qapp_B (aX A) (aB A) w k
        rw [qapp] at ih
        rw [wi_38_57]
        by_cases e3 : qbn w k = 0
        · have e4 : (qbn w k : Int) = 0 := by omega
          rw [if_pos e3] at ih
          simp (disch := first | assumption | omega | exact il_cqA _ _ | exact il_cqB _ _) only [wi_38_0, wi_38_1, wi_38_2, wi_38_4, wi_38_8, wi_38_11, wi_38_12, wi_38_13, wi_38_15, wi_38_16, wi_38_19, wi_38_20, wi_38_21, wi_38_22, wi_38_25, wi_38_26, wi_38_29, wi_38_30, wi_38_31, wi_38_32, wi_38_35, wi_38_38, wi_38_39, wi_38_42, wi_38_43, wi_38_44, wi_38_47, wi_38_50, wi_38_52, wi_38_53, wi_38_55, wi_38_59, wi_38_62, wi_38_63, wi_38_65, wi_38_66, wi_38_69, wi_38_70, wi_38_71, wi_38_73, wi_38_75, wi_38_78, wi_38_79, wi_38_82, wi_38_85, wi_38_88, wi_38_89, wi_38_92, wi_38_93, wi_38_96, wi_38_98, wi_38_99, wi_38_100, wi_38_101, wi_38_104, wi_38_105, wi_38_106, wi_38_109, wi_38_112, wi_38_115, wi_38_116, wi_38_119, io_add_o, io_sub_o, io_mul_o, io_neg_o, io_and_r, io_or_r, io_xor_r, io_nd_r, io_shr_r, io_shl1, io_i2b_r, io_i2l_o, io_l2i_o, il_add_o, il_sub_o, il_mul_o, il_neg_o, ib_bit, Int.toNat_natCast, true_implies, false_implies, implies_true, and_true, true_and, and_self, not_true_eq_false, not_false_eq_true, wa_0, wa_1, il_cmp_o, il_cmp0, il_cmp1, il_cmp2, io_bit1, ibt0, ibt1, ibt00, ibt11, ibt10, ibt01, Int.ofNat_lt, Int.ofNat_le, Int.ofNat_inj, Nat.lt_irrefl, Int.lt_irrefl, Int.toNat_one, Int.toNat_zero, Bool.false_eq_true, reduceIte, reduceCtorEq, Nat.reduceAdd, Nat.reduceMul, Nat.reduceSub, Nat.reduceLT, Nat.reduceLeDiff, Nat.reduceEqDiff, Int.reduceNeg, Int.reduceAdd, Int.reduceMul, Int.reduceSub, Int.reduceLT, Int.reduceLE, Int.reduceEq, Int.reduceToNat, Int.reduceNatCast, icl, ico, inz, Nat.not_lt_zero, n0, b1, e4, en]
          exact ih M' _ f1 f2 f3 f4
        · have e4 : ¬ (qbn w k : Int) = 0 := by omega
          have m9 := qmore_mo w (k + 1) (7 - k)
          rw [show k + 1 + (7 - k) = 8 by omega, qmore_1 e3] at m9
          have l4 : (qapp (aX A) (aB A) w k).1 < 400 := by omega
          rw [if_neg e3] at ih
          simp (disch := first | assumption | omega | exact il_cqA _ _ | exact il_cqB _ _) only [wi_38_0, wi_38_1, wi_38_2, wi_38_4, wi_38_8, wi_38_11, wi_38_12, wi_38_13, wi_38_15, wi_38_16, wi_38_19, wi_38_20, wi_38_21, wi_38_22, wi_38_25, wi_38_26, wi_38_29, wi_38_30, wi_38_31, wi_38_32, wi_38_35, wi_38_38, wi_38_39, wi_38_42, wi_38_43, wi_38_44, wi_38_47, wi_38_50, wi_38_52, wi_38_53, wi_38_55, wi_38_59, wi_38_62, wi_38_63, wi_38_65, wi_38_66, wi_38_69, wi_38_70, wi_38_71, wi_38_73, wi_38_75, wi_38_78, wi_38_79, wi_38_82, wi_38_85, wi_38_88, wi_38_89, wi_38_92, wi_38_93, wi_38_96, wi_38_98, wi_38_99, wi_38_100, wi_38_101, wi_38_104, wi_38_105, wi_38_106, wi_38_109, wi_38_112, wi_38_115, wi_38_116, wi_38_119, io_add_o, io_sub_o, io_mul_o, io_neg_o, io_and_r, io_or_r, io_xor_r, io_nd_r, io_shr_r, io_shl1, io_i2b_r, io_i2l_o, io_l2i_o, il_add_o, il_sub_o, il_mul_o, il_neg_o, ib_bit, Int.toNat_natCast, true_implies, false_implies, implies_true, and_true, true_and, and_self, not_true_eq_false, not_false_eq_true, wa_0, wa_1, il_cmp_o, il_cmp0, il_cmp1, il_cmp2, io_bit1, ibt0, ibt1, ibt00, ibt11, ibt10, ibt01, Int.ofNat_lt, Int.ofNat_le, Int.ofNat_inj, Nat.lt_irrefl, Int.lt_irrefl, Int.toNat_one, Int.toNat_zero, Bool.false_eq_true, reduceIte, reduceCtorEq, Nat.reduceAdd, Nat.reduceMul, Nat.reduceSub, Nat.reduceLT, Nat.reduceLeDiff, Nat.reduceEqDiff, Int.reduceNeg, Int.reduceAdd, Int.reduceMul, Int.reduceSub, Int.reduceLT, Int.reduceLE, Int.reduceEq, Int.reduceToNat, Int.reduceNatCast, icl, ico, inz, Nat.not_lt_zero, n0, b1, e3, e4, en, f3, l4, gu_n]
          refine ih _ _ (fun j j1 j2 => by rw [gu_n j1, gu_n j2]; exact f1 j j1 j2) (fun f hf => by rw [gu_s hf, gu_n (by decide)]; exact f2 f hf) (by rw [gu_e]; rfl) (fun i hi => ?_)
          rw [gu_n (by decide)]
          show gg_up M' 77 (qapp (aX A) (aB A) w k).1 (qbn w k : Int) 77 i = ((if i = (qapp (aX A) (aB A) w k).1 then qbn w k else (qapp (aX A) (aB A) w k).2 i : Nat) : Int)
          by_cases e5 : i = (qapp (aX A) (aB A) w k).1
          · rw [if_pos e5, e5, gu_e]
          · rw [if_neg e5, gu_s e5]
            have hi2 : i < (qapp (aX A) (aB A) w k).1 + 1 := hi
            exact f4 i (by omega)
      · rw [show (56 : Int) - 8 * ((8 : Nat) : Int) = -8 by rfl]
        rw [wi_38_57]
        have hB := qapp_B (aX A) (aB A) w 8
        rw [hB] at f3
        simp (disch := first | assumption | omega | exact il_cqA _ _ | exact il_cqB _ _) only [wi_38_0, wi_38_1, wi_38_2, wi_38_4, wi_38_8, wi_38_11, wi_38_12, wi_38_13, wi_38_15, wi_38_16, wi_38_19, wi_38_20, wi_38_21, wi_38_22, wi_38_25, wi_38_26, wi_38_29, wi_38_30, wi_38_31, wi_38_32, wi_38_35, wi_38_38, wi_38_39, wi_38_42, wi_38_43, wi_38_44, wi_38_47, wi_38_50, wi_38_52, wi_38_53, wi_38_55, wi_38_59, wi_38_62, wi_38_63, wi_38_65, wi_38_66, wi_38_69, wi_38_70, wi_38_71, wi_38_73, wi_38_75, wi_38_78, wi_38_79, wi_38_82, wi_38_85, wi_38_88, wi_38_89, wi_38_92, wi_38_93, wi_38_96, wi_38_98, wi_38_99, wi_38_100, wi_38_101, wi_38_104, wi_38_105, wi_38_106, wi_38_109, wi_38_112, wi_38_115, wi_38_116, wi_38_119, wi_87_0, wi_87_1, wi_87_4, wi_87_5, wi_87_8, io_add_o, io_sub_o, io_mul_o, io_neg_o, io_and_r, io_or_r, io_xor_r, io_nd_r, io_shr_r, io_shl1, io_i2b_r, io_i2l_o, io_l2i_o, il_add_o, il_sub_o, il_mul_o, il_neg_o, ib_bit, Int.toNat_natCast, true_implies, false_implies, implies_true, and_true, true_and, and_self, not_true_eq_false, not_false_eq_true, wa_0, wa_1, il_cmp_o, il_cmp0, il_cmp1, il_cmp2, io_bit1, ibt0, ibt1, ibt00, ibt11, ibt10, ibt01, Int.ofNat_lt, Int.ofNat_le, Int.ofNat_inj, Nat.lt_irrefl, Int.lt_irrefl, Int.toNat_one, Int.toNat_zero, Bool.false_eq_true, reduceIte, reduceCtorEq, Nat.reduceAdd, Nat.reduceMul, Nat.reduceSub, Nat.reduceLT, Nat.reduceLeDiff, Nat.reduceEqDiff, Int.reduceNeg, Int.reduceAdd, Int.reduceMul, Int.reduceSub, Int.reduceLT, Int.reduceLE, Int.reduceEq, Int.reduceToNat, Int.reduceNatCast, icl, ico, inz, Nat.not_lt_zero, f3]
        obtain ⟨g1, g2, g3, g4, g5, g6, g7⟩ := hI
        refine h0 M' (fun j hj => f1 j (by omega) (by omega)) ⟨q_C_e g1 fun j j1 j2 => f1 j (by omega) (by omega), ?_, qs_H_e g3 (fun j j1 j2 => f1 j (by omega) (by omega)), fun s hs => ?_, ⟨by rw [f3]; exact congrArg _ hB.symm, by show (qapp (aX A) (aB A) w 8).1 ≤ 400; omega, qapp_X t3 8, f4⟩, by rw [f2 2 (by decide)]; exact g6, fun h => by rw [f2 4 (by decide)]; exact g7 h⟩
        · unfold qs_S
          rw [f1 78 (by decide) (by decide), f1 83 (by decide) (by decide), f1 84 (by decide) (by decide)]
          exact g2
        · have := g4 s hs
          show match aV A s with | some G => M' 75 s = 1 ∧ q_C M' (128 + 7 * s) G | none => M' 75 s = 0
          cases hv : aV A s with
          | none =>
            rw [hv] at this
            rw [f1 75 (by decide) (by decide)]
            exact this
          | some G =>
            rw [hv] at this
            exact ⟨by rw [f1 75 (by decide) (by decide)]; exact this.1, q_C_e this.2 fun i i1 i2 => f1 i (by omega) (by omega)⟩
    · rw [if_neg e, if_neg e] at h0
      have e2 : (400 : Int) < (aB A : Int) + (m : Int) := by omega
      simp (disch := first | assumption | omega | exact il_cqA _ _ | exact il_cqB _ _) only [wi_38_0, wi_38_1, wi_38_2, wi_38_4, wi_38_8, wi_38_11, wi_38_12, wi_38_13, wi_38_15, wi_38_16, wi_38_19, wi_38_20, wi_38_21, wi_38_22, wi_38_25, wi_38_26, wi_38_29, wi_38_30, wi_38_31, wi_38_32, wi_38_35, wi_38_38, wi_38_39, wi_38_42, wi_38_43, wi_38_44, wi_38_47, wi_38_50, wi_38_52, wi_38_53, wi_38_55, wi_38_59, wi_38_62, wi_38_63, wi_38_65, wi_38_66, wi_38_69, wi_38_70, wi_38_71, wi_38_73, wi_38_75, wi_38_78, wi_38_79, wi_38_82, wi_38_85, wi_38_88, wi_38_89, wi_38_92, wi_38_93, wi_38_96, wi_38_98, wi_38_99, wi_38_100, wi_38_101, wi_38_104, wi_38_105, wi_38_106, wi_38_109, wi_38_112, wi_38_115, wi_38_116, wi_38_119, wi_87_0, wi_87_1, wi_87_4, wi_87_5, wi_87_8, io_add_o, io_sub_o, io_mul_o, io_neg_o, io_and_r, io_or_r, io_xor_r, io_nd_r, io_shr_r, io_shl1, io_i2b_r, io_i2l_o, io_l2i_o, il_add_o, il_sub_o, il_mul_o, il_neg_o, ib_bit, Int.toNat_natCast, true_implies, false_implies, implies_true, and_true, true_and, and_self, not_true_eq_false, not_false_eq_true, wa_0, wa_1, il_cmp_o, il_cmp0, il_cmp1, il_cmp2, io_bit1, ibt0, ibt1, ibt00, ibt11, ibt10, ibt01, Int.ofNat_lt, Int.ofNat_le, Int.ofNat_inj, Nat.lt_irrefl, Int.lt_irrefl, Int.toNat_one, Int.toNat_zero, Bool.false_eq_true, reduceIte, reduceCtorEq, Nat.reduceAdd, Nat.reduceMul, Nat.reduceSub, Nat.reduceLT, Nat.reduceLeDiff, Nat.reduceEqDiff, Int.reduceNeg, Int.reduceAdd, Int.reduceMul, Int.reduceSub, Int.reduceLT, Int.reduceLE, Int.reduceEq, Int.reduceToNat, Int.reduceNatCast, icl, ico, inz, Nat.not_lt_zero, t1, e2]
      exact h0 M (fun _ _ => rfl) hI
end SG
