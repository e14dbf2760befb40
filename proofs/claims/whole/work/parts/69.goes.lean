/-! the model goes through colorings -/
theorem qfst_open {G : q_G} {c : Nat → Int} {v x : Nat} : (qfst (qhit G c v (x : Nat)) (qK G) = -1) = (qopen G c v x = true) := by
  refine propext ?_
  unfold qopen
  rw [Bool.not_eq_true', qany_f, qfst_none]
section SG
variable {N : Nat} {xs : Nat → Int32} {d : Nat} {M : gg_M} {cc cs : Nat} {Q : gg_O → Prop} {G : q_G}
theorem wp_goes (hG : q_ok G) {n l : Nat} (hl : l ≤ 5) (hn : n = qM G * l + 1) (k : Nat) : ∀ (d : Nat) (M : gg_M) (c : Nat → Int) (left : Nat) (Q : gg_O → Prop), k ≤ qN G → q_R (M 143) G → (∀ u, u < qN G → M 153 u = c u) → (∀ u, qN G - k ≤ u → u < qN G → M 154 u = ((decide (c u = -1)).toNat : Int)) → (∀ u, u < qN G → -1 ≤ c u ∧ c u ≤ ((qM G * l : Nat) : Int)) → 1 ≤ left → left ≤ 2147483647 → qW_ G n k c ≤ 200000 →
    (qW_ G n k c < left → Q ((1, (0, ((left - qW_ G n k c : Nat) : Int))), (gk_R, M, 158, cc, cs))) →
    (left ≤ qW_ G n k c → ∀ M' : gg_M, (∀ j, j ≠ 153 → M' j = M j) → (∀ u, u < qN G → M' 153 u = qpick G n k c (left - 1) u) → Q ((1, (0, 0)), (gk_R, M', 158, cc, cs))) →
    wp N xs (d + k + 3) 244 0 [gr 142, (0, (qun G c k : Int)), (0, (n : Int)), (0, (left : Int)), (3, 0), (3, 0)] [] (gk_R, M, 158, cc, cs) Q := by
  induction k using Nat.strongRecOn with
  | ind k ihk =>
    intro d M c left Q hkN hR hc ho hcr hl1 hl2 hWW hQ1 hQ2
    obtain ⟨⟨h1, h2, h3, h4, h5⟩, hF, hT, hA, hW, hPa, hO⟩ := id hR
    obtain ⟨⟨k1, k2, k3, k4, k5, k6, k7, k8⟩, hk, hp, hp2⟩ := id hG
    have hml := Nat.mul_le_mul k4 hl
    have hcr100 : ∀ u, u < qN G → -1 ≤ c u ∧ c u ≤ 100 := fun u hu => by
      have := hcr u hu
      omega
    obtain ⟨u1, u2, u3, u4, u5⟩ := qun_W (G := G) (n := n) (c := c) k hkN
    rw [wi_244_0]
    by_cases eN : qun G c k = qN G
    · have e2 := qW_1 (G := G) (n := n) (c := c) (k := k) hkN eN
      rw [e2] at hQ1 hQ2
      rw [eN]
      by_cases e3 : left = 1
      · have e4 : (left : Int) - 1 = 0 := by omega
        have hq := hQ2 (by omega) M (fun _ _ => rfl) (fun u hu => by
          rw [hc u hu, qpick_un _ _ _ hkN, eN, Nat.sub_self]
          rfl)
        simp (contextual := true) (disch := first | assumption | omega | exact il_cqA _ _ | exact il_cqB _ _) only [wi_244_1, wi_244_2, wi_244_5, wi_244_6, wi_244_7, wi_244_10, wi_244_11, wi_244_12, wi_244_13, wi_244_14, wi_244_15, wi_244_17, wi_244_18, wi_244_22, wi_244_23, wi_244_26, wi_244_28, wi_244_31, wi_244_32, wi_244_33, wi_244_35, wi_244_38, wi_244_39, wi_244_42, wi_244_43, wi_244_46, wi_244_47, wi_244_49, wi_244_50, wi_244_51, wi_244_52, wi_244_53, wi_244_54, wi_244_55, wi_244_58, wi_244_59, wi_244_61, wi_244_64, wi_244_66, wi_244_68, wi_244_71, wi_244_72, wi_244_75, wi_244_76, wi_244_77, wi_244_78, wi_244_81, wi_244_84, wi_244_86, io_add_o, io_sub_o, io_mul_o, io_neg_o, io_and_r, io_or_r, io_xor_r, io_nd_r, io_shr_r, io_shl1, io_i2b_r, io_i2l_o, io_l2i_o, il_add_o, il_sub_o, il_mul_o, il_neg_o, ib_bit, Int.toNat_natCast, true_implies, false_implies, implies_true, and_true, true_and, and_self, not_true_eq_false, not_false_eq_true, wa_0, wa_1, il_cmp_o, il_cmp0, il_cmp1, il_cmp2, io_bit1, ibt0, ibt1, ibt00, ibt11, ibt10, ibt01, Int.ofNat_lt, Int.ofNat_le, Int.ofNat_inj, Nat.lt_irrefl, Int.lt_irrefl, Int.toNat_one, Int.toNat_zero, Bool.false_eq_true, reduceIte, reduceCtorEq, Nat.reduceAdd, Nat.reduceMul, Nat.reduceSub, Nat.reduceLT, Nat.reduceLeDiff, Nat.reduceEqDiff, Int.reduceNeg, Int.reduceAdd, Int.reduceMul, Int.reduceSub, Int.reduceLT, Int.reduceLE, Int.reduceEq, Int.reduceToNat, Int.reduceNatCast, icl, ico, inz, h1, e4]
        exact hq
      · have hq := hQ1 (by omega)
        have e4 : ((left - 1 : Nat) : Int) = (left : Int) - 1 := by omega
        rw [e4] at hq
        simp (contextual := true) (disch := first | assumption | omega | exact il_cqA _ _ | exact il_cqB _ _) only [wi_244_1, wi_244_2, wi_244_5, wi_244_6, wi_244_7, wi_244_10, wi_244_11, wi_244_12, wi_244_13, wi_244_14, wi_244_15, wi_244_17, wi_244_18, wi_244_22, wi_244_23, wi_244_26, wi_244_28, wi_244_31, wi_244_32, wi_244_33, wi_244_35, wi_244_38, wi_244_39, wi_244_42, wi_244_43, wi_244_46, wi_244_47, wi_244_49, wi_244_50, wi_244_51, wi_244_52, wi_244_53, wi_244_54, wi_244_55, wi_244_58, wi_244_59, wi_244_61, wi_244_64, wi_244_66, wi_244_68, wi_244_71, wi_244_72, wi_244_75, wi_244_76, wi_244_77, wi_244_78, wi_244_81, wi_244_84, wi_244_86, io_add_o, io_sub_o, io_mul_o, io_neg_o, io_and_r, io_or_r, io_xor_r, io_nd_r, io_shr_r, io_shl1, io_i2b_r, io_i2l_o, io_l2i_o, il_add_o, il_sub_o, il_mul_o, il_neg_o, ib_bit, Int.toNat_natCast, true_implies, false_implies, implies_true, and_true, true_and, and_self, not_true_eq_false, not_false_eq_true, wa_0, wa_1, il_cmp_o, il_cmp0, il_cmp1, il_cmp2, io_bit1, ibt0, ibt1, ibt00, ibt11, ibt10, ibt01, Int.ofNat_lt, Int.ofNat_le, Int.ofNat_inj, Nat.lt_irrefl, Int.lt_irrefl, Int.toNat_one, Int.toNat_zero, Bool.false_eq_true, reduceIte, reduceCtorEq, Nat.reduceAdd, Nat.reduceMul, Nat.reduceSub, Nat.reduceLT, Nat.reduceLeDiff, Nat.reduceEqDiff, Int.reduceNeg, Int.reduceAdd, Int.reduceMul, Int.reduceSub, Int.reduceLT, Int.reduceLE, Int.reduceEq, Int.reduceToNat, Int.reduceNatCast, icl, ico, inz, h1]
        exact hq
    · obtain ⟨p, hp_⟩ : ∃ p, p = qun G c k := ⟨_, rfl⟩
      rw [← hp_] at u1 u2 u3 u4 u5 eN
      rw [← hp_]
      have hpN : p < qN G := by omega
      obtain ⟨k1_, hk1⟩ : ∃ k1_, k1_ = qN G - (p + 1) := ⟨_, rfl⟩
      have ek : qN G - p = k1_ + 1 := by omega
      have ep : qN G - (k1_ + 1) = p := by omega
      have hpk : (p + 1) + k1_ = qN G := by omega
      rw [ek] at u3
      have hcp := u4 hpN
      have hWs := qW_s (G := G) (n := n) (k := k1_) (c := c) (by rw [ep]; exact hcp)
      have hwd : ∀ x, qw_ G n k1_ c x = if qopen G c p x then qW_ G n k1_ (qwith c p (x : Nat)) else 0 := fun x => by unfold qw_; rw [ep]
      have hpick : qpick G n k c (left - 1) = qpick G n (k1_ + 1) c (left - 1) := by
        rw [qpick_un _ _ _ hkN, ← hp_, ek]
      rw [u3, hWs] at hWW hQ1 hQ2
      rw [hpick] at hQ2
      have hM0 : gg_up M 153 p (-1) = M := gu_id (by rw [hc p hpN]; exact hcp)
      have hdep2 : d + k + 2 = (d + (k - k1_ - 1)) + k1_ + 3 := by omega
      simp (contextual := true) (disch := first | assumption | omega | exact il_cqA _ _ | exact il_cqB _ _) only [wi_244_1, wi_244_2, wi_244_5, wi_244_6, wi_244_7, wi_244_10, wi_244_11, wi_244_12, wi_244_13, wi_244_14, wi_244_15, wi_244_17, wi_244_18, wi_244_22, wi_244_23, wi_244_26, wi_244_28, wi_244_31, wi_244_32, wi_244_33, wi_244_35, wi_244_38, wi_244_39, wi_244_42, wi_244_43, wi_244_46, wi_244_47, wi_244_49, wi_244_50, wi_244_51, wi_244_52, wi_244_53, wi_244_54, wi_244_55, wi_244_58, wi_244_59, wi_244_61, wi_244_64, wi_244_66, wi_244_68, wi_244_71, wi_244_72, wi_244_75, wi_244_76, wi_244_77, wi_244_78, wi_244_81, wi_244_84, wi_244_86, io_add_o, io_sub_o, io_mul_o, io_neg_o, io_and_r, io_or_r, io_xor_r, io_nd_r, io_shr_r, io_shl1, io_i2b_r, io_i2l_o, io_l2i_o, il_add_o, il_sub_o, il_mul_o, il_neg_o, ib_bit, Int.toNat_natCast, true_implies, false_implies, implies_true, and_true, true_and, and_self, not_true_eq_false, not_false_eq_true, wa_0, wa_1, il_cmp_o, il_cmp0, il_cmp1, il_cmp2, io_bit1, ibt0, ibt1, ibt00, ibt11, ibt10, ibt01, Int.ofNat_lt, Int.ofNat_le, Int.ofNat_inj, Nat.lt_irrefl, Int.lt_irrefl, Int.toNat_one, Int.toNat_zero, Bool.false_eq_true, reduceIte, reduceCtorEq, Nat.reduceAdd, Nat.reduceMul, Nat.reduceSub, Nat.reduceLT, Nat.reduceLeDiff, Nat.reduceEqDiff, Int.reduceNeg, Int.reduceAdd, Int.reduceMul, Int.reduceSub, Int.reduceLT, Int.reduceLE, Int.reduceEq, Int.reduceToNat, Int.reduceNatCast, icl, ico, inz, h1, eN]
      refine wl_i (P := fun i I => qsm (qw_ G n k1_ c) i < left → wp N xs (d + k + 3) 244 20 [gr 142, (0, (p : Int)), (0, (n : Int)), (0, (left : Int)), (0, ((left - qsm (qw_ G n k1_ c) i : Nat) : Int)), (0, I)] [] (gk_R, M, 158, cc, cs) Q) n (fun i hi ih hS => ?_) (fun hS => ?_) (show 0 < left by omega)
      · have hS1 := qsm_mono (f := qw_ G n k1_ c) (show i + 1 ≤ n by omega)
        have hSs : qsm (qw_ G n k1_ c) (i + 1) = qsm (qw_ G n k1_ c) i + qw_ G n k1_ c i := rfl
        have hwi := hwd i
        have hpos : (0 : Int) < ((left - qsm (qw_ G n k1_ c) i : Nat) : Int) := by omega
        have hfr := qfst_rg (qhit G c p (i : Nat)) (qK G)
        rw [wi_244_20]
        cases hop : qopen G c p i
        · rw [hop, if_neg (by decide)] at hwi
          rw [hwi, Nat.add_zero] at hSs
          have hf : ¬ qfst (qhit G c p (i : Nat)) (qK G) = -1 := by
            rw [qfst_open, hop]
            decide
          simp (disch := first | assumption | omega | exact il_cqA _ _ | exact il_cqB _ _) only [wi_244_1, wi_244_2, wi_244_5, wi_244_6, wi_244_7, wi_244_10, wi_244_11, wi_244_12, wi_244_13, wi_244_14, wi_244_15, wi_244_17, wi_244_18, wi_244_22, wi_244_23, wi_244_26, wi_244_28, wi_244_31, wi_244_32, wi_244_33, wi_244_35, wi_244_38, wi_244_39, wi_244_42, wi_244_43, wi_244_46, wi_244_47, wi_244_49, wi_244_50, wi_244_51, wi_244_52, wi_244_53, wi_244_54, wi_244_55, wi_244_58, wi_244_59, wi_244_61, wi_244_64, wi_244_66, wi_244_68, wi_244_71, wi_244_72, wi_244_75, wi_244_76, wi_244_77, wi_244_78, wi_244_81, wi_244_84, wi_244_86, io_add_o, io_sub_o, io_mul_o, io_neg_o, io_and_r, io_or_r, io_xor_r, io_nd_r, io_shr_r, io_shl1, io_i2b_r, io_i2l_o, io_l2i_o, il_add_o, il_sub_o, il_mul_o, il_neg_o, ib_bit, Int.toNat_natCast, true_implies, false_implies, implies_true, and_true, true_and, and_self, not_true_eq_false, not_false_eq_true, wa_0, wa_1, il_cmp_o, il_cmp0, il_cmp1, il_cmp2, io_bit1, ibt0, ibt1, ibt00, ibt11, ibt10, ibt01, Int.ofNat_lt, Int.ofNat_le, Int.ofNat_inj, Nat.lt_irrefl, Int.lt_irrefl, Int.toNat_one, Int.toNat_zero, Bool.false_eq_true, reduceIte, reduceCtorEq, Nat.reduceAdd, Nat.reduceMul, Nat.reduceSub, Nat.reduceLT, Nat.reduceLeDiff, Nat.reduceEqDiff, Int.reduceNeg, Int.reduceAdd, Int.reduceMul, Int.reduceSub, Int.reduceLT, Int.reduceLE, Int.reduceEq, Int.reduceToNat, Int.reduceNatCast, icl, ico, inz, hi, hpos, wp_clashOf hR hG hc hcr100, hf]
          rw [hSs] at ih
          exact ih hS
        · rw [hop, if_pos rfl] at hwi
          have hf : qfst (qhit G c p (i : Nat)) (qK G) = -1 := by
            rw [qfst_open, hop]
          have hof : ∀ Q' : gg_O → Prop, wp N xs (d + k + 2) 243 0 [gr 142, (0, (p : Int) + 1), (3, 0)] [] (gk_R, gg_up M 153 p (i : Int), 158, cc, cs) Q' ↔ Q' ((1, (0, (qun G (qwith c p (i : Nat)) k1_ : Int))), (gk_R, gg_up M 153 p (i : Int), 158, cc, cs)) := by
            intro Q'
            refine wp_openFrom (v := p + 1) (by rw [gu_n (by decide)]; exact hR) hG hpk (fun u hu1 hu2 => ?_)
            rw [gu_n (by decide), qwith_n (by omega)]
            exact ho u (by omega) hu2
          simp (disch := first | assumption | omega | exact il_cqA _ _ | exact il_cqB _ _) only [wi_244_1, wi_244_2, wi_244_5, wi_244_6, wi_244_7, wi_244_10, wi_244_11, wi_244_12, wi_244_13, wi_244_14, wi_244_15, wi_244_17, wi_244_18, wi_244_22, wi_244_23, wi_244_26, wi_244_28, wi_244_31, wi_244_32, wi_244_33, wi_244_35, wi_244_38, wi_244_39, wi_244_42, wi_244_43, wi_244_46, wi_244_47, wi_244_49, wi_244_50, wi_244_51, wi_244_52, wi_244_53, wi_244_54, wi_244_55, wi_244_58, wi_244_59, wi_244_61, wi_244_64, wi_244_66, wi_244_68, wi_244_71, wi_244_72, wi_244_75, wi_244_76, wi_244_77, wi_244_78, wi_244_81, wi_244_84, wi_244_86, io_add_o, io_sub_o, io_mul_o, io_neg_o, io_and_r, io_or_r, io_xor_r, io_nd_r, io_shr_r, io_shl1, io_i2b_r, io_i2l_o, io_l2i_o, il_add_o, il_sub_o, il_mul_o, il_neg_o, ib_bit, Int.toNat_natCast, true_implies, false_implies, implies_true, and_true, true_and, and_self, not_true_eq_false, not_false_eq_true, wa_0, wa_1, il_cmp_o, il_cmp0, il_cmp1, il_cmp2, io_bit1, ibt0, ibt1, ibt00, ibt11, ibt10, ibt01, Int.ofNat_lt, Int.ofNat_le, Int.ofNat_inj, Nat.lt_irrefl, Int.lt_irrefl, Int.toNat_one, Int.toNat_zero, Bool.false_eq_true, reduceIte, reduceCtorEq, Nat.reduceAdd, Nat.reduceMul, Nat.reduceSub, Nat.reduceLT, Nat.reduceLeDiff, Nat.reduceEqDiff, Int.reduceNeg, Int.reduceAdd, Int.reduceMul, Int.reduceSub, Int.reduceLT, Int.reduceLE, Int.reduceEq, Int.reduceToNat, Int.reduceNatCast, icl, ico, inz, hi, hpos, wp_clashOf hR hG hc hcr100, hf, hof]
          rw [hdep2]
          refine ihk k1_ (by omega) _ _ (qwith c p (i : Nat)) (left - qsm (qw_ G n k1_ c) i) _ (by omega) (by rw [gu_n (by decide)]; exact hR) (fun u hu => ?_) (fun u hu1 hu2 => ?_) (fun u hu => ?_) (by omega) (by omega) (by rw [← hwi]; omega) (fun hlt => ?_) (fun hle M' hM' hv => ?_)
          · rw [gu]
            unfold qwith
            by_cases e : u = p
            · rw [if_pos ⟨rfl, e⟩, if_pos e]
            · rw [if_neg (fun h => e h.2), if_neg e]
              exact hc u hu
          · rw [gu_n (by decide), qwith_n (by omega)]
            exact ho u (by omega) hu2
          · unfold qwith
            split
            · omega
            · exact hcr u hu
          · rw [← hwi] at hlt ⊢
            have e5 : left - qsm (qw_ G n k1_ c) i - qw_ G n k1_ c i = left - qsm (qw_ G n k1_ c) (i + 1) := by omega
            have e6 : (0 : Int) < ((left - qsm (qw_ G n k1_ c) (i + 1) : Nat) : Int) := by omega
            rw [e5]
            simp (disch := first | assumption | omega | exact il_cqA _ _ | exact il_cqB _ _) only [wi_244_1, wi_244_2, wi_244_5, wi_244_6, wi_244_7, wi_244_10, wi_244_11, wi_244_12, wi_244_13, wi_244_14, wi_244_15, wi_244_17, wi_244_18, wi_244_22, wi_244_23, wi_244_26, wi_244_28, wi_244_31, wi_244_32, wi_244_33, wi_244_35, wi_244_38, wi_244_39, wi_244_42, wi_244_43, wi_244_46, wi_244_47, wi_244_49, wi_244_50, wi_244_51, wi_244_52, wi_244_53, wi_244_54, wi_244_55, wi_244_58, wi_244_59, wi_244_61, wi_244_64, wi_244_66, wi_244_68, wi_244_71, wi_244_72, wi_244_75, wi_244_76, wi_244_77, wi_244_78, wi_244_81, wi_244_84, wi_244_86, io_add_o, io_sub_o, io_mul_o, io_neg_o, io_and_r, io_or_r, io_xor_r, io_nd_r, io_shr_r, io_shl1, io_i2b_r, io_i2l_o, io_l2i_o, il_add_o, il_sub_o, il_mul_o, il_neg_o, ib_bit, Int.toNat_natCast, true_implies, false_implies, implies_true, and_true, true_and, and_self, not_true_eq_false, not_false_eq_true, wa_0, wa_1, il_cmp_o, il_cmp0, il_cmp1, il_cmp2, io_bit1, ibt0, ibt1, ibt00, ibt11, ibt10, ibt01, Int.ofNat_lt, Int.ofNat_le, Int.ofNat_inj, Nat.lt_irrefl, Int.lt_irrefl, Int.toNat_one, Int.toNat_zero, Bool.false_eq_true, reduceIte, reduceCtorEq, Nat.reduceAdd, Nat.reduceMul, Nat.reduceSub, Nat.reduceLT, Nat.reduceLeDiff, Nat.reduceEqDiff, Int.reduceNeg, Int.reduceAdd, Int.reduceMul, Int.reduceSub, Int.reduceLT, Int.reduceLE, Int.reduceEq, Int.reduceToNat, Int.reduceNatCast, icl, ico, inz, e6, gu_gu, hM0]
            rw [← hdep2]
            exact ih (by omega)
          · rw [← hwi] at hle
            have hq := hQ2 (by omega) M' (fun j hj => by rw [hM' j hj, gu_n hj]) (fun u hu => by
              rw [hv u hu]
              have hps := qpick_s (G := G) (n := n) (k := k1_) (c := c) (L := left - 1) (x := i) (by rw [ep]; exact hcp) hi (by omega) (by omega)
              rw [ep] at hps
              rw [hps]
              rw [show left - qsm (qw_ G n k1_ c) i - 1 = left - 1 - qsm (qw_ G n k1_ c) i by omega])
            have e7 : ¬ (0 : Int) < 0 := by omega
            by_cases e8 : (i : Int) + 1 < (n : Int)
            · simp (disch := first | assumption | omega | exact il_cqA _ _ | exact il_cqB _ _) only [wi_244_1, wi_244_2, wi_244_5, wi_244_6, wi_244_7, wi_244_10, wi_244_11, wi_244_12, wi_244_13, wi_244_14, wi_244_15, wi_244_17, wi_244_18, wi_244_22, wi_244_23, wi_244_26, wi_244_28, wi_244_31, wi_244_32, wi_244_33, wi_244_35, wi_244_38, wi_244_39, wi_244_42, wi_244_43, wi_244_46, wi_244_47, wi_244_49, wi_244_50, wi_244_51, wi_244_52, wi_244_53, wi_244_54, wi_244_55, wi_244_58, wi_244_59, wi_244_61, wi_244_64, wi_244_66, wi_244_68, wi_244_71, wi_244_72, wi_244_75, wi_244_76, wi_244_77, wi_244_78, wi_244_81, wi_244_84, wi_244_86, io_add_o, io_sub_o, io_mul_o, io_neg_o, io_and_r, io_or_r, io_xor_r, io_nd_r, io_shr_r, io_shl1, io_i2b_r, io_i2l_o, io_l2i_o, il_add_o, il_sub_o, il_mul_o, il_neg_o, ib_bit, Int.toNat_natCast, true_implies, false_implies, implies_true, and_true, true_and, and_self, not_true_eq_false, not_false_eq_true, wa_0, wa_1, il_cmp_o, il_cmp0, il_cmp1, il_cmp2, io_bit1, ibt0, ibt1, ibt00, ibt11, ibt10, ibt01, Int.ofNat_lt, Int.ofNat_le, Int.ofNat_inj, Nat.lt_irrefl, Int.lt_irrefl, Int.toNat_one, Int.toNat_zero, Bool.false_eq_true, reduceIte, reduceCtorEq, Nat.reduceAdd, Nat.reduceMul, Nat.reduceSub, Nat.reduceLT, Nat.reduceLeDiff, Nat.reduceEqDiff, Int.reduceNeg, Int.reduceAdd, Int.reduceMul, Int.reduceSub, Int.reduceLT, Int.reduceLE, Int.reduceEq, Int.reduceToNat, Int.reduceNatCast, icl, ico, inz, e7, e8]
              rw [wi_244_20]
              simp (disch := first | assumption | omega | exact il_cqA _ _ | exact il_cqB _ _) only [wi_244_1, wi_244_2, wi_244_5, wi_244_6, wi_244_7, wi_244_10, wi_244_11, wi_244_12, wi_244_13, wi_244_14, wi_244_15, wi_244_17, wi_244_18, wi_244_22, wi_244_23, wi_244_26, wi_244_28, wi_244_31, wi_244_32, wi_244_33, wi_244_35, wi_244_38, wi_244_39, wi_244_42, wi_244_43, wi_244_46, wi_244_47, wi_244_49, wi_244_50, wi_244_51, wi_244_52, wi_244_53, wi_244_54, wi_244_55, wi_244_58, wi_244_59, wi_244_61, wi_244_64, wi_244_66, wi_244_68, wi_244_71, wi_244_72, wi_244_75, wi_244_76, wi_244_77, wi_244_78, wi_244_81, wi_244_84, wi_244_86, io_add_o, io_sub_o, io_mul_o, io_neg_o, io_and_r, io_or_r, io_xor_r, io_nd_r, io_shr_r, io_shl1, io_i2b_r, io_i2l_o, io_l2i_o, il_add_o, il_sub_o, il_mul_o, il_neg_o, ib_bit, Int.toNat_natCast, true_implies, false_implies, implies_true, and_true, true_and, and_self, not_true_eq_false, not_false_eq_true, wa_0, wa_1, il_cmp_o, il_cmp0, il_cmp1, il_cmp2, io_bit1, ibt0, ibt1, ibt00, ibt11, ibt10, ibt01, Int.ofNat_lt, Int.ofNat_le, Int.ofNat_inj, Nat.lt_irrefl, Int.lt_irrefl, Int.toNat_one, Int.toNat_zero, Bool.false_eq_true, reduceIte, reduceCtorEq, Nat.reduceAdd, Nat.reduceMul, Nat.reduceSub, Nat.reduceLT, Nat.reduceLeDiff, Nat.reduceEqDiff, Int.reduceNeg, Int.reduceAdd, Int.reduceMul, Int.reduceSub, Int.reduceLT, Int.reduceLE, Int.reduceEq, Int.reduceToNat, Int.reduceNatCast, icl, ico, inz, e7, e8]
              exact hq
            · simp (disch := first | assumption | omega | exact il_cqA _ _ | exact il_cqB _ _) only [wi_244_1, wi_244_2, wi_244_5, wi_244_6, wi_244_7, wi_244_10, wi_244_11, wi_244_12, wi_244_13, wi_244_14, wi_244_15, wi_244_17, wi_244_18, wi_244_22, wi_244_23, wi_244_26, wi_244_28, wi_244_31, wi_244_32, wi_244_33, wi_244_35, wi_244_38, wi_244_39, wi_244_42, wi_244_43, wi_244_46, wi_244_47, wi_244_49, wi_244_50, wi_244_51, wi_244_52, wi_244_53, wi_244_54, wi_244_55, wi_244_58, wi_244_59, wi_244_61, wi_244_64, wi_244_66, wi_244_68, wi_244_71, wi_244_72, wi_244_75, wi_244_76, wi_244_77, wi_244_78, wi_244_81, wi_244_84, wi_244_86, io_add_o, io_sub_o, io_mul_o, io_neg_o, io_and_r, io_or_r, io_xor_r, io_nd_r, io_shr_r, io_shl1, io_i2b_r, io_i2l_o, io_l2i_o, il_add_o, il_sub_o, il_mul_o, il_neg_o, ib_bit, Int.toNat_natCast, true_implies, false_implies, implies_true, and_true, true_and, and_self, not_true_eq_false, not_false_eq_true, wa_0, wa_1, il_cmp_o, il_cmp0, il_cmp1, il_cmp2, io_bit1, ibt0, ibt1, ibt00, ibt11, ibt10, ibt01, Int.ofNat_lt, Int.ofNat_le, Int.ofNat_inj, Nat.lt_irrefl, Int.lt_irrefl, Int.toNat_one, Int.toNat_zero, Bool.false_eq_true, reduceIte, reduceCtorEq, Nat.reduceAdd, Nat.reduceMul, Nat.reduceSub, Nat.reduceLT, Nat.reduceLeDiff, Nat.reduceEqDiff, Int.reduceNeg, Int.reduceAdd, Int.reduceMul, Int.reduceSub, Int.reduceLT, Int.reduceLE, Int.reduceEq, Int.reduceToNat, Int.reduceNatCast, icl, ico, inz, e7, e8]
              rw [wi_244_20]
              simp (disch := first | assumption | omega | exact il_cqA _ _ | exact il_cqB _ _) only [wi_244_1, wi_244_2, wi_244_5, wi_244_6, wi_244_7, wi_244_10, wi_244_11, wi_244_12, wi_244_13, wi_244_14, wi_244_15, wi_244_17, wi_244_18, wi_244_22, wi_244_23, wi_244_26, wi_244_28, wi_244_31, wi_244_32, wi_244_33, wi_244_35, wi_244_38, wi_244_39, wi_244_42, wi_244_43, wi_244_46, wi_244_47, wi_244_49, wi_244_50, wi_244_51, wi_244_52, wi_244_53, wi_244_54, wi_244_55, wi_244_58, wi_244_59, wi_244_61, wi_244_64, wi_244_66, wi_244_68, wi_244_71, wi_244_72, wi_244_75, wi_244_76, wi_244_77, wi_244_78, wi_244_81, wi_244_84, wi_244_86, io_add_o, io_sub_o, io_mul_o, io_neg_o, io_and_r, io_or_r, io_xor_r, io_nd_r, io_shr_r, io_shl1, io_i2b_r, io_i2l_o, io_l2i_o, il_add_o, il_sub_o, il_mul_o, il_neg_o, ib_bit, Int.toNat_natCast, true_implies, false_implies, implies_true, and_true, true_and, and_self, not_true_eq_false, not_false_eq_true, wa_0, wa_1, il_cmp_o, il_cmp0, il_cmp1, il_cmp2, io_bit1, ibt0, ibt1, ibt00, ibt11, ibt10, ibt01, Int.ofNat_lt, Int.ofNat_le, Int.ofNat_inj, Nat.lt_irrefl, Int.lt_irrefl, Int.toNat_one, Int.toNat_zero, Bool.false_eq_true, reduceIte, reduceCtorEq, Nat.reduceAdd, Nat.reduceMul, Nat.reduceSub, Nat.reduceLT, Nat.reduceLeDiff, Nat.reduceEqDiff, Int.reduceNeg, Int.reduceAdd, Int.reduceMul, Int.reduceSub, Int.reduceLT, Int.reduceLE, Int.reduceEq, Int.reduceToNat, Int.reduceNatCast, icl, ico, inz, e7, e8]
              exact hq
      · have hpos : (0 : Int) < ((left - qsm (qw_ G n k1_ c) n : Nat) : Int) := by omega
        rw [wi_244_20]
        simp (disch := first | assumption | omega | exact il_cqA _ _ | exact il_cqB _ _) only [wi_244_1, wi_244_2, wi_244_5, wi_244_6, wi_244_7, wi_244_10, wi_244_11, wi_244_12, wi_244_13, wi_244_14, wi_244_15, wi_244_17, wi_244_18, wi_244_22, wi_244_23, wi_244_26, wi_244_28, wi_244_31, wi_244_32, wi_244_33, wi_244_35, wi_244_38, wi_244_39, wi_244_42, wi_244_43, wi_244_46, wi_244_47, wi_244_49, wi_244_50, wi_244_51, wi_244_52, wi_244_53, wi_244_54, wi_244_55, wi_244_58, wi_244_59, wi_244_61, wi_244_64, wi_244_66, wi_244_68, wi_244_71, wi_244_72, wi_244_75, wi_244_76, wi_244_77, wi_244_78, wi_244_81, wi_244_84, wi_244_86, io_add_o, io_sub_o, io_mul_o, io_neg_o, io_and_r, io_or_r, io_xor_r, io_nd_r, io_shr_r, io_shl1, io_i2b_r, io_i2l_o, io_l2i_o, il_add_o, il_sub_o, il_mul_o, il_neg_o, ib_bit, Int.toNat_natCast, true_implies, false_implies, implies_true, and_true, true_and, and_self, not_true_eq_false, not_false_eq_true, wa_0, wa_1, il_cmp_o, il_cmp0, il_cmp1, il_cmp2, io_bit1, ibt0, ibt1, ibt00, ibt11, ibt10, ibt01, Int.ofNat_lt, Int.ofNat_le, Int.ofNat_inj, Nat.lt_irrefl, Int.lt_irrefl, Int.toNat_one, Int.toNat_zero, Bool.false_eq_true, reduceIte, reduceCtorEq, Nat.reduceAdd, Nat.reduceMul, Nat.reduceSub, Nat.reduceLT, Nat.reduceLeDiff, Nat.reduceEqDiff, Int.reduceNeg, Int.reduceAdd, Int.reduceMul, Int.reduceSub, Int.reduceLT, Int.reduceLE, Int.reduceEq, Int.reduceToNat, Int.reduceNatCast, icl, ico, inz, hpos]
        exact hQ1 hS
end SG
