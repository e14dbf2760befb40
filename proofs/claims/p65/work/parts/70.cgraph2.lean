/-! the class changes a graph: dropped, switched, contracted, finished -/
theorem qdrop_S {S a K : Nat} (ha : a < K) (hS : S < 2 ^ K) : (S &&& (2 ^ a - 1)) ||| gnd (S >>> 1) (2 ^ a - 1) = qbits (qov S.testBit a) (K - 1) := by
  refine qbits_eq fun i => ?_
  rw [Nat.testBit_or, Nat.testBit_and, gnd_bit, Nat.testBit_two_pow_sub_one, Nat.testBit_shiftRight]
  unfold qov
  by_cases e : i < a
  · rw [if_pos e, decide_eq_true e, decide_eq_true (show i < K - 1 by omega)]
    simp
  · rw [if_neg e, decide_eq_false e, Nat.add_comm 1 i]
    by_cases e2 : i < K - 1
    · rw [decide_eq_true e2]
      simp
    · rw [Nat.testBit_lt_two_pow (Nat.lt_of_lt_of_le hS (Nat.pow_le_pow_right (by decide) (show K ≤ i + 1 by omega)))]
      simp
section SG
variable {N : Nat} {xs : Nat → Int32} {d : Nat} {M : gg_M} {cc cs : Nat} {Q : gg_O → Prop} {g : Nat} {G : q_G}
theorem wp_takeOut (hg : gs_G g) (hG : q_ok G) (h : q_C M g G) {a : Nat} (ha : a < qK G) (hQ : ∀ M' : gg_M, (∀ j, j < g ∨ g + 6 < j → M' j = M j) → q_C M' g (qdrop G a) → Q ((0, (3, 0)), (gk_R, M', 142, cc, cs))) :
    wp N xs d 12 0 [gr g, (0, (a : Int)), (3, 0)] [] (gk_R, M, 142, cc, cs) Q := by
  obtain ⟨⟨h1, h2, h3, h4, h5⟩, hF, hT, hA, hW, hP, hO⟩ := id h
  obtain ⟨⟨k1, k2, k3, k4, k5, k6, k7, k8⟩, hk, hp, hp2⟩ := id hG
  simp (contextual := true) (disch := first | assumption | omega | exact il_cqA _ _ | exact il_cqB _ _) only [wi_12_0, wi_12_1, wi_12_3, wi_12_4, wi_12_5, wi_12_6, wi_12_9, wi_12_12, wi_12_13, wi_12_16, wi_12_17, wi_12_18, wi_12_21, wi_12_22, wi_12_23, wi_12_24, wi_12_25, wi_12_26, wi_12_27, wi_12_30, wi_12_31, wi_12_32, wi_12_35, wi_12_36, wi_12_37, wi_12_38, wi_12_39, wi_12_40, wi_12_41, wi_12_44, wi_12_45, wi_12_46, wi_12_49, wi_12_50, wi_12_51, wi_12_52, wi_12_53, wi_12_54, wi_12_55, wi_12_58, wi_12_59, wi_12_60, wi_12_63, wi_12_64, wi_12_65, wi_12_66, wi_12_67, wi_12_68, wi_12_71, wi_12_74, wi_12_75, wi_12_76, wi_12_79, wi_12_80, wi_12_81, wi_12_84, wi_12_85, wi_12_86, wi_12_87, wi_12_88, wi_12_89, wi_12_90, wi_12_91, wi_12_92, wi_12_95, wi_12_96, wi_12_97, wi_12_98, wi_12_101, wi_12_102, wi_12_103, wi_12_104, wi_12_105, wi_12_106, wi_12_107, wi_12_108, wi_12_111, io_add_o, io_sub_o, io_mul_o, io_neg_o, io_and_r, io_or_r, io_xor_r, io_nd_r, io_shr_r, io_shl1, io_i2b_r, io_i2l_o, io_l2i_o, il_add_o, il_sub_o, il_mul_o, il_neg_o, ib_bit, Int.toNat_natCast, true_implies, false_implies, implies_true, and_true, true_and, and_self, not_true_eq_false, not_false_eq_true, wa_0, wa_1, il_cmp_o, il_cmp0, il_cmp1, il_cmp2, io_bit1, ibt0, ibt1, ibt00, ibt11, ibt10, ibt01, Int.ofNat_lt, Int.ofNat_le, Int.ofNat_inj, Nat.lt_irrefl, Int.lt_irrefl, Int.toNat_one, Int.toNat_zero, Bool.false_eq_true, reduceIte, reduceCtorEq, Nat.reduceAdd, Nat.reduceMul, Nat.reduceSub, Nat.reduceLT, Nat.reduceLeDiff, Nat.reduceEqDiff, Int.reduceNeg, Int.reduceAdd, Int.reduceMul, Int.reduceSub, Int.reduceLT, Int.reduceLE, Int.reduceEq, Int.reduceToNat, Int.reduceNatCast, icl, ico, inz]
  refine wl_for (P := fun j => ∀ M' : gg_M, (∀ r, r < g + 1 ∨ g + 4 < r → M' r = M r) → (∀ b, b < qK G → M' (g + 1) b = ((if b < a + j then qov (qF G) a b else qF G b : Nat) : Int) ∧ M' (g + 2) b = ((if b < a + j then qov (qT G) a b else qT G b : Nat) : Int) ∧ M' (g + 3) b = ((if b < a + j then qov (qA G) a b else qA G b : Nat) : Int) ∧ M' (g + 4) b = ((if b < a + j then qov (qW G) a b else qW G b : Nat) : Int)) → wp N xs d 12 2 [gr g, (0, (a : Int)), (0, ((a + j : Nat) : Int))] [] (gk_R, M', 142, cc, cs) Q) (qK G - 1 - a) (fun j hj ih M' hM hv => ?_) (fun M' hM hv => ?_) M (fun _ _ => rfl) (fun b hb => ?_)
  · have e0 : M' g = M g := hM g (by omega)
    have hlt : (a + j) + 1 < qK G := by omega
    obtain ⟨w1, w2, w3, w4⟩ := hv (a + j + 1) hlt
    rw [if_neg (by omega)] at w1 w2 w3 w4
    have ov : ∀ {α : Type} (f : Nat → α), qov f a (a + j) = f (a + j + 1) := fun f => if_neg (by omega)
    rw [wi_12_2]
    generalize hkk : a + j = kk at *
    have hltI : (kk : Int) + 1 < (qK G : Int) := by omega
    simp (contextual := true) (disch := first | assumption | omega | exact il_cqA _ _ | exact il_cqB _ _) only [wi_12_0, wi_12_1, wi_12_3, wi_12_4, wi_12_5, wi_12_6, wi_12_9, wi_12_12, wi_12_13, wi_12_16, wi_12_17, wi_12_18, wi_12_21, wi_12_22, wi_12_23, wi_12_24, wi_12_25, wi_12_26, wi_12_27, wi_12_30, wi_12_31, wi_12_32, wi_12_35, wi_12_36, wi_12_37, wi_12_38, wi_12_39, wi_12_40, wi_12_41, wi_12_44, wi_12_45, wi_12_46, wi_12_49, wi_12_50, wi_12_51, wi_12_52, wi_12_53, wi_12_54, wi_12_55, wi_12_58, wi_12_59, wi_12_60, wi_12_63, wi_12_64, wi_12_65, wi_12_66, wi_12_67, wi_12_68, wi_12_71, wi_12_74, wi_12_75, wi_12_76, wi_12_79, wi_12_80, wi_12_81, wi_12_84, wi_12_85, wi_12_86, wi_12_87, wi_12_88, wi_12_89, wi_12_90, wi_12_91, wi_12_92, wi_12_95, wi_12_96, wi_12_97, wi_12_98, wi_12_101, wi_12_102, wi_12_103, wi_12_104, wi_12_105, wi_12_106, wi_12_107, wi_12_108, wi_12_111, io_add_o, io_sub_o, io_mul_o, io_neg_o, io_and_r, io_or_r, io_xor_r, io_nd_r, io_shr_r, io_shl1, io_i2b_r, io_i2l_o, io_l2i_o, il_add_o, il_sub_o, il_mul_o, il_neg_o, ib_bit, Int.toNat_natCast, true_implies, false_implies, implies_true, and_true, true_and, and_self, not_true_eq_false, not_false_eq_true, wa_0, wa_1, il_cmp_o, il_cmp0, il_cmp1, il_cmp2, io_bit1, ibt0, ibt1, ibt00, ibt11, ibt10, ibt01, Int.ofNat_lt, Int.ofNat_le, Int.ofNat_inj, Nat.lt_irrefl, Int.lt_irrefl, Int.toNat_one, Int.toNat_zero, Bool.false_eq_true, reduceIte, reduceCtorEq, Nat.reduceAdd, Nat.reduceMul, Nat.reduceSub, Nat.reduceLT, Nat.reduceLeDiff, Nat.reduceEqDiff, Int.reduceNeg, Int.reduceAdd, Int.reduceMul, Int.reduceSub, Int.reduceLT, Int.reduceLE, Int.reduceEq, Int.reduceToNat, Int.reduceNatCast, icl, ico, inz, e0, h3, hltI, it1, w1, w2, w3, w4, gu_n]
    have e8 : ((a + (j + 1) : Nat) : Int) = (kk : Int) + 1 := by omega
    simp only [e8] at ih
    refine ih _ (fun r hr => by rw [gu_n (by omega), gu_n (by omega), gu_n (by omega), gu_n (by omega), hM r hr]) (fun b hb => ?_)
    obtain ⟨v1, v2, v3, v4⟩ := hv b hb
    have e9 : a + (j + 1) = kk + 1 := by omega
    rw [e9]
    by_cases e : b = kk
    · subst e
      rw [gu_n (by omega), gu_n (by omega), gu_n (by omega), gu_e, gu_n (by omega), gu_n (by omega), gu_e, gu_n (by omega), gu_e, gu_e, if_pos (by omega), if_pos (by omega), if_pos (by omega), if_pos (by omega), ov, ov, ov, ov]
      exact ⟨rfl, rfl, rfl, rfl⟩
    · simp only [gu, e, and_false, if_false]
      by_cases e2 : b < kk
      · rw [if_pos e2] at v1 v2 v3 v4
        rw [if_pos (by omega), if_pos (by omega), if_pos (by omega), if_pos (by omega)]
        exact ⟨v1, v2, v3, v4⟩
      · rw [if_neg e2] at v1 v2 v3 v4
        rw [if_neg (by omega), if_neg (by omega), if_neg (by omega), if_neg (by omega)]
        exact ⟨v1, v2, v3, v4⟩
  · have e0 : M' g = M g := hM g (by omega)
    have hkk : a + (qK G - 1 - a) = qK G - 1 := by omega
    rw [hkk] at hv ⊢
    have hlt : ¬ ((qK G - 1 : Nat) : Int) + 1 < (qK G : Int) := by omega
    have x1 : 2 ^ a ≤ 2 ^ 11 := Nat.pow_le_pow_right (by decide) (by omega)
    have x1p : 1 ≤ 2 ^ a := Nat.one_le_two_pow
    have x2 : 2 ^ qK G ≤ 2 ^ 12 := Nat.pow_le_pow_right (by decide) k5
    have e1 : ((2 ^ a : Nat) : Int) - 1 = ((2 ^ a - 1 : Nat) : Int) := by omega
    have e2 := qdrop_S ha k6
    have x3 : qS G >>> 1 < 2 ^ 12 := by rw [Nat.shiftRight_eq_div_pow]; omega
    have x4 : gnd (qS G >>> 1) (2 ^ a - 1) < 2 ^ 12 := gnd_lt x3
    have x5 : qS G &&& (2 ^ a - 1) ≤ qS G := Nat.and_le_left
    have e3 : (qK G : Int) - 1 = ((qK G - 1 : Nat) : Int) := by omega
    rw [wi_12_2]
    simp (disch := first | assumption | omega | exact il_cqA _ _ | exact il_cqB _ _) only [wi_12_0, wi_12_1, wi_12_3, wi_12_4, wi_12_5, wi_12_6, wi_12_9, wi_12_12, wi_12_13, wi_12_16, wi_12_17, wi_12_18, wi_12_21, wi_12_22, wi_12_23, wi_12_24, wi_12_25, wi_12_26, wi_12_27, wi_12_30, wi_12_31, wi_12_32, wi_12_35, wi_12_36, wi_12_37, wi_12_38, wi_12_39, wi_12_40, wi_12_41, wi_12_44, wi_12_45, wi_12_46, wi_12_49, wi_12_50, wi_12_51, wi_12_52, wi_12_53, wi_12_54, wi_12_55, wi_12_58, wi_12_59, wi_12_60, wi_12_63, wi_12_64, wi_12_65, wi_12_66, wi_12_67, wi_12_68, wi_12_71, wi_12_74, wi_12_75, wi_12_76, wi_12_79, wi_12_80, wi_12_81, wi_12_84, wi_12_85, wi_12_86, wi_12_87, wi_12_88, wi_12_89, wi_12_90, wi_12_91, wi_12_92, wi_12_95, wi_12_96, wi_12_97, wi_12_98, wi_12_101, wi_12_102, wi_12_103, wi_12_104, wi_12_105, wi_12_106, wi_12_107, wi_12_108, wi_12_111, io_add_o, io_sub_o, io_mul_o, io_neg_o, io_and_r, io_or_r, io_xor_r, io_nd_r, io_shr_r, io_shl1, io_i2b_r, io_i2l_o, io_l2i_o, il_add_o, il_sub_o, il_mul_o, il_neg_o, ib_bit, Int.toNat_natCast, true_implies, false_implies, implies_true, and_true, true_and, and_self, not_true_eq_false, not_false_eq_true, wa_0, wa_1, il_cmp_o, il_cmp0, il_cmp1, il_cmp2, io_bit1, ibt0, ibt1, ibt00, ibt11, ibt10, ibt01, Int.ofNat_lt, Int.ofNat_le, Int.ofNat_inj, Nat.lt_irrefl, Int.lt_irrefl, Int.toNat_one, Int.toNat_zero, Bool.false_eq_true, reduceIte, reduceCtorEq, Nat.reduceAdd, Nat.reduceMul, Nat.reduceSub, Nat.reduceLT, Nat.reduceLeDiff, Nat.reduceEqDiff, Int.reduceNeg, Int.reduceAdd, Int.reduceMul, Int.reduceSub, Int.reduceLT, Int.reduceLE, Int.reduceEq, Int.reduceToNat, Int.reduceNatCast, icl, ico, inz, e0, h3, h4, hlt, gu_s, gu_e, e1, e2, e3]
    refine hQ _ (fun j hj => ?_) ⟨⟨?_, ?_, ?_, ?_, ?_⟩, fun b hb => ?_, fun b hb => ?_, fun b hb => ?_, fun b hb => ?_, fun v hv' => ?_, fun t ht => ?_⟩
    · rw [gu_n (by omega), gu_n (by omega), hM j (by omega)]
    · rw [gu_s (by decide), gu_s (by decide), e0]; exact h1
    · rw [gu_s (by decide), gu_s (by decide), e0]; exact h2
    · rw [gu_s (by decide), gu_e]; rfl
    · rw [gu_e]; rfl
    · rw [gu_s (by decide), gu_s (by decide), e0]; exact h5
    · have hb' : b < qK G - 1 := hb
      rw [gu_n (by omega), gu_n (by omega), (hv b (by omega)).1, if_pos hb']
      rfl
    · have hb' : b < qK G - 1 := hb
      rw [gu_n (by omega), gu_n (by omega), (hv b (by omega)).2.1, if_pos hb']
      rfl
    · have hb' : b < qK G - 1 := hb
      rw [gu_n (by omega), gu_n (by omega), (hv b (by omega)).2.2.1, if_pos hb']
      rfl
    · have hb' : b < qK G - 1 := hb
      rw [gu_n (by omega), gu_n (by omega), (hv b (by omega)).2.2.2, if_pos hb']
      rfl
    · rw [gu_n (by omega), gu_n (by omega), hM (g + 5) (by omega)]
      exact hP v hv'
    · rw [gu_n (by omega), gu_n (by omega), hM (g + 6) (by omega)]
      exact hO t ht
  · have ov : ∀ f : Nat → Nat, (if b < a + 0 then qov f a b else f b) = f b := fun f => by
      split
      · exact if_pos (by omega)
      · rfl
    rw [ov, ov, ov, ov]
    exact ⟨hF b hb, hT b hb, hA b hb, hW b hb⟩
theorem qpl_eq {m x b : Nat} (hx : x < m) (hb : b < m) : qpl m x b = x ↔ b = 0 := qg_3 hx hb
theorem qmi_eq {m x b : Nat} (hx : x < m) (hb : b < m) : qmi m x b = x ↔ b = 0 := by
  unfold qmi
  split <;> omega
theorem wp_shiftVertex (hg : gs_G g) (hG : q_ok G) (h : q_C M g G) {v b : Nat} (hv : v < qN G) (hb : b < qM G) (hQ : ∀ M' : gg_M, (∀ j, j < g ∨ g + 6 < j → M' j = M j) → q_C M' g (qsw G v b) → Q ((1, (0, (qcnt (qswc G v b) (qK G) : Int))), (gk_R, M', 142, cc, cs))) :
    wp N xs (d + 2) 14 0 [gr g, (0, (v : Int)), (0, (b : Int)), (3, 0), (3, 0), (3, 0)] [] (gk_R, M, 142, cc, cs) Q := by
  obtain ⟨⟨h1, h2, h3, h4, h5⟩, hF, hT, hA, hW, hP, hO⟩ := id h
  obtain ⟨⟨k1, k2, k3, k4, k5, k6, k7, k8⟩, hk, hp, hp2⟩ := id hG
  simp (contextual := true) (disch := first | assumption | omega | exact il_cqA _ _ | exact il_cqB _ _) only [wi_14_0, wi_14_1, wi_14_2, wi_14_3, wi_14_7, wi_14_8, wi_14_11, wi_14_14, wi_14_15, wi_14_17, wi_14_18, wi_14_21, wi_14_24, wi_14_25, wi_14_27, wi_14_30, wi_14_33, wi_14_34, wi_14_37, wi_14_39, wi_14_40, wi_14_42, wi_14_43, wi_14_46, wi_14_48, wi_14_49, wi_14_52, wi_14_54, wi_14_55, wi_14_56, wi_14_59, wi_14_60, wi_14_62, wi_14_63, wi_14_66, wi_14_69, wi_14_70, wi_14_72, wi_14_73, wi_14_76, wi_14_77, wi_14_78, wi_14_79, wi_14_82, wi_14_84, wi_14_85, wi_14_87, wi_14_90, wi_14_91, wi_14_94, wi_14_95, wi_14_96, wi_14_97, wi_14_100, wi_14_103, wi_14_104, wi_14_107, wi_14_108, wi_14_109, wi_14_110, wi_14_113, wi_14_114, wi_14_117, wi_14_118, wi_14_119, wi_14_120, wi_14_123, wi_14_124, wi_14_125, wi_14_126, wi_14_129, wi_14_130, wi_14_131, io_add_o, io_sub_o, io_mul_o, io_neg_o, io_and_r, io_or_r, io_xor_r, io_nd_r, io_shr_r, io_shl1, io_i2b_r, io_i2l_o, io_l2i_o, il_add_o, il_sub_o, il_mul_o, il_neg_o, ib_bit, Int.toNat_natCast, true_implies, false_implies, implies_true, and_true, true_and, and_self, not_true_eq_false, not_false_eq_true, wa_0, wa_1, il_cmp_o, il_cmp0, il_cmp1, il_cmp2, io_bit1, ibt0, ibt1, ibt00, ibt11, ibt10, ibt01, Int.ofNat_lt, Int.ofNat_le, Int.ofNat_inj, Nat.lt_irrefl, Int.lt_irrefl, Int.toNat_one, Int.toNat_zero, Bool.false_eq_true, reduceIte, reduceCtorEq, Nat.reduceAdd, Nat.reduceMul, Nat.reduceSub, Nat.reduceLT, Nat.reduceLeDiff, Nat.reduceEqDiff, Int.reduceNeg, Int.reduceAdd, Int.reduceMul, Int.reduceSub, Int.reduceLT, Int.reduceLE, Int.reduceEq, Int.reduceToNat, Int.reduceNatCast, icl, ico, inz]
  refine wl_i (P := fun i I => ∀ M' : gg_M, (∀ r, r ≠ g + 3 → M' r = M r) → (∀ a, a < qK G → M' (g + 3) a = ((if a < i then qswg G v b a else qA G a : Nat) : Int)) → ∀ l5 : gg_V, wp N xs (d + 2) 14 5 [gr g, (0, (v : Int)), (0, (b : Int)), (0, (qcnt (qswc G v b) i : Int)), (0, I), l5] [] (gk_R, M', 142, cc, cs) Q) (qK G) (fun i hi ih M' hM ha l5 => ?_) (fun M' hM ha l5 => ?_) M (fun _ _ => rfl) (fun a ha => by rw [if_neg (Nat.not_lt_zero a)]; exact hA a ha) _
  · have e0 : M' g = M g := hM g (by omega)
    have e1 : M' (g + 1) = M (g + 1) := hM (g + 1) (by omega)
    have e2 : M' (g + 2) = M (g + 2) := hM (g + 2) (by omega)
    obtain ⟨a1, a2, a3, _⟩ := hk i hi
    have hF := hF i hi
    have hT := hT i hi
    have hAi := ha i hi
    rw [if_neg (Nat.lt_irrefl i)] at hAi
    have hm' : M' g 1 = (qM G : Int) := by rw [e0]; exact h2
    have hl := qcnt_le (qswc G v b) i
    have c1 := qpl_lt a3 hb
    have c2 := qmi_lt a3 hb
    have hsame : qswg G v b i = qA G i → qswc G v b i = false → ∀ l5 : gg_V, wp N xs (d + 2) 14 5 [gr g, (0, (v : Int)), (0, (b : Int)), (0, (qcnt (qswc G v b) i : Int)), (0, (i : Int) + 1), l5] [] (gk_R, M', 142, cc, cs) Q := fun hs hc => by
      have := ih M' hM (fun a ha' => by
        rw [ha a ha']
        by_cases e : a = i
        · subst e
          rw [if_neg (Nat.lt_irrefl a), if_pos (by omega), hs]
        · by_cases e3 : a < i
          · rw [if_pos e3, if_pos (by omega)]
          · rw [if_neg e3, if_neg (by omega)])
      rw [qcnt, hc] at this
      exact this
    have hnew : ∀ x : Nat, x = qswg G v b i → ∀ l5 : gg_V, wp N xs (d + 2) 14 5 [gr g, (0, (v : Int)), (0, (b : Int)), (0, ((qcnt (qswc G v b) i + (qswc G v b i).toNat : Nat) : Int)), (0, (i : Int) + 1), l5] [] (gk_R, gg_up M' (g + 3) i (x : Int), 142, cc, cs) Q := fun x hx => ih _ (fun r hr => by rw [gu_n hr, hM r hr]) (fun a ha' => by
      by_cases e : a = i
      · subst e
        rw [gu_e, if_pos (by omega), hx]
      · rw [gu_s e, ha a ha']
        by_cases e3 : a < i
        · rw [if_pos e3, if_pos (by omega)]
        · rw [if_neg e3, if_neg (by omega)])
    rw [wi_14_5]
    by_cases eL : qF G i = qT G i
    · have hs1 : qswg G v b i = qA G i := if_pos eL
      have hs2 : qswc G v b i = false := by
        unfold qswc
        rw [decide_eq_false (fun h => h eL)]
        rfl
      by_cases eT : qT G i = v
      · simp (disch := first | assumption | omega | exact il_cqA _ _ | exact il_cqB _ _) only [wi_14_0, wi_14_1, wi_14_2, wi_14_3, wi_14_7, wi_14_8, wi_14_11, wi_14_14, wi_14_15, wi_14_17, wi_14_18, wi_14_21, wi_14_24, wi_14_25, wi_14_27, wi_14_30, wi_14_33, wi_14_34, wi_14_37, wi_14_39, wi_14_40, wi_14_42, wi_14_43, wi_14_46, wi_14_48, wi_14_49, wi_14_52, wi_14_54, wi_14_55, wi_14_56, wi_14_59, wi_14_60, wi_14_62, wi_14_63, wi_14_66, wi_14_69, wi_14_70, wi_14_72, wi_14_73, wi_14_76, wi_14_77, wi_14_78, wi_14_79, wi_14_82, wi_14_84, wi_14_85, wi_14_87, wi_14_90, wi_14_91, wi_14_94, wi_14_95, wi_14_96, wi_14_97, wi_14_100, wi_14_103, wi_14_104, wi_14_107, wi_14_108, wi_14_109, wi_14_110, wi_14_113, wi_14_114, wi_14_117, wi_14_118, wi_14_119, wi_14_120, wi_14_123, wi_14_124, wi_14_125, wi_14_126, wi_14_129, wi_14_130, wi_14_131, wi_4_0, wi_4_1, wi_4_4, wi_4_5, wi_4_6, wi_4_7, wi_4_10, wi_4_11, wi_4_12, wi_4_15, wi_4_16, wi_4_19, wi_4_20, wi_5_0, wi_5_1, wi_5_4, wi_5_5, wi_5_6, wi_5_7, wi_5_10, wi_5_11, wi_5_14, wi_5_15, wi_5_16, wi_5_17, wi_5_20, wi_5_21, wi_5_24, wi_5_25, io_add_o, io_sub_o, io_mul_o, io_neg_o, io_and_r, io_or_r, io_xor_r, io_nd_r, io_shr_r, io_shl1, io_i2b_r, io_i2l_o, io_l2i_o, il_add_o, il_sub_o, il_mul_o, il_neg_o, ib_bit, Int.toNat_natCast, true_implies, false_implies, implies_true, and_true, true_and, and_self, not_true_eq_false, not_false_eq_true, wa_0, wa_1, il_cmp_o, il_cmp0, il_cmp1, il_cmp2, io_bit1, ibt0, ibt1, ibt00, ibt11, ibt10, ibt01, Int.ofNat_lt, Int.ofNat_le, Int.ofNat_inj, Nat.lt_irrefl, Int.lt_irrefl, Int.toNat_one, Int.toNat_zero, Bool.false_eq_true, reduceIte, reduceCtorEq, Nat.reduceAdd, Nat.reduceMul, Nat.reduceSub, Nat.reduceLT, Nat.reduceLeDiff, Nat.reduceEqDiff, Int.reduceNeg, Int.reduceAdd, Int.reduceMul, Int.reduceSub, Int.reduceLT, Int.reduceLE, Int.reduceEq, Int.reduceToNat, Int.reduceNatCast, icl, ico, inz, hi, e0, h3, e1, e2, hF, hT, eL, eT]
        exact hsame hs1 hs2 _
      · simp (disch := first | assumption | omega | exact il_cqA _ _ | exact il_cqB _ _) only [wi_14_0, wi_14_1, wi_14_2, wi_14_3, wi_14_7, wi_14_8, wi_14_11, wi_14_14, wi_14_15, wi_14_17, wi_14_18, wi_14_21, wi_14_24, wi_14_25, wi_14_27, wi_14_30, wi_14_33, wi_14_34, wi_14_37, wi_14_39, wi_14_40, wi_14_42, wi_14_43, wi_14_46, wi_14_48, wi_14_49, wi_14_52, wi_14_54, wi_14_55, wi_14_56, wi_14_59, wi_14_60, wi_14_62, wi_14_63, wi_14_66, wi_14_69, wi_14_70, wi_14_72, wi_14_73, wi_14_76, wi_14_77, wi_14_78, wi_14_79, wi_14_82, wi_14_84, wi_14_85, wi_14_87, wi_14_90, wi_14_91, wi_14_94, wi_14_95, wi_14_96, wi_14_97, wi_14_100, wi_14_103, wi_14_104, wi_14_107, wi_14_108, wi_14_109, wi_14_110, wi_14_113, wi_14_114, wi_14_117, wi_14_118, wi_14_119, wi_14_120, wi_14_123, wi_14_124, wi_14_125, wi_14_126, wi_14_129, wi_14_130, wi_14_131, wi_4_0, wi_4_1, wi_4_4, wi_4_5, wi_4_6, wi_4_7, wi_4_10, wi_4_11, wi_4_12, wi_4_15, wi_4_16, wi_4_19, wi_4_20, wi_5_0, wi_5_1, wi_5_4, wi_5_5, wi_5_6, wi_5_7, wi_5_10, wi_5_11, wi_5_14, wi_5_15, wi_5_16, wi_5_17, wi_5_20, wi_5_21, wi_5_24, wi_5_25, io_add_o, io_sub_o, io_mul_o, io_neg_o, io_and_r, io_or_r, io_xor_r, io_nd_r, io_shr_r, io_shl1, io_i2b_r, io_i2l_o, io_l2i_o, il_add_o, il_sub_o, il_mul_o, il_neg_o, ib_bit, Int.toNat_natCast, true_implies, false_implies, implies_true, and_true, true_and, and_self, not_true_eq_false, not_false_eq_true, wa_0, wa_1, il_cmp_o, il_cmp0, il_cmp1, il_cmp2, io_bit1, ibt0, ibt1, ibt00, ibt11, ibt10, ibt01, Int.ofNat_lt, Int.ofNat_le, Int.ofNat_inj, Nat.lt_irrefl, Int.lt_irrefl, Int.toNat_one, Int.toNat_zero, Bool.false_eq_true, reduceIte, reduceCtorEq, Nat.reduceAdd, Nat.reduceMul, Nat.reduceSub, Nat.reduceLT, Nat.reduceLeDiff, Nat.reduceEqDiff, Int.reduceNeg, Int.reduceAdd, Int.reduceMul, Int.reduceSub, Int.reduceLT, Int.reduceLE, Int.reduceEq, Int.reduceToNat, Int.reduceNatCast, icl, ico, inz, hi, e0, h3, e1, e2, hF, hT, eL, eT]
        exact hsame hs1 hs2 _
    · by_cases eT : qT G i = v
      · have eF : ¬ qF G i = v := fun h => eL (h.trans eT.symm)
        have hs1 : qpl (qM G) (qA G i) b = qswg G v b i := by
          unfold qswg
          rw [if_neg eL, if_pos eT]
        have hn := hnew _ hs1
        have hs2 : qswc G v b i = decide (b ≠ 0) := by
          unfold qswc
          rw [decide_eq_true eL, decide_eq_true eT]
          rfl
        rw [hs2] at hn
        by_cases eb : b = 0
        · have e9 := (qpl_eq a3 hb).2 eb
          rw [decide_eq_false (fun h => h eb), e9] at hn
          simp (disch := first | assumption | omega | exact il_cqA _ _ | exact il_cqB _ _) only [wi_14_0, wi_14_1, wi_14_2, wi_14_3, wi_14_7, wi_14_8, wi_14_11, wi_14_14, wi_14_15, wi_14_17, wi_14_18, wi_14_21, wi_14_24, wi_14_25, wi_14_27, wi_14_30, wi_14_33, wi_14_34, wi_14_37, wi_14_39, wi_14_40, wi_14_42, wi_14_43, wi_14_46, wi_14_48, wi_14_49, wi_14_52, wi_14_54, wi_14_55, wi_14_56, wi_14_59, wi_14_60, wi_14_62, wi_14_63, wi_14_66, wi_14_69, wi_14_70, wi_14_72, wi_14_73, wi_14_76, wi_14_77, wi_14_78, wi_14_79, wi_14_82, wi_14_84, wi_14_85, wi_14_87, wi_14_90, wi_14_91, wi_14_94, wi_14_95, wi_14_96, wi_14_97, wi_14_100, wi_14_103, wi_14_104, wi_14_107, wi_14_108, wi_14_109, wi_14_110, wi_14_113, wi_14_114, wi_14_117, wi_14_118, wi_14_119, wi_14_120, wi_14_123, wi_14_124, wi_14_125, wi_14_126, wi_14_129, wi_14_130, wi_14_131, wi_4_0, wi_4_1, wi_4_4, wi_4_5, wi_4_6, wi_4_7, wi_4_10, wi_4_11, wi_4_12, wi_4_15, wi_4_16, wi_4_19, wi_4_20, wi_5_0, wi_5_1, wi_5_4, wi_5_5, wi_5_6, wi_5_7, wi_5_10, wi_5_11, wi_5_14, wi_5_15, wi_5_16, wi_5_17, wi_5_20, wi_5_21, wi_5_24, wi_5_25, io_add_o, io_sub_o, io_mul_o, io_neg_o, io_and_r, io_or_r, io_xor_r, io_nd_r, io_shr_r, io_shl1, io_i2b_r, io_i2l_o, io_l2i_o, il_add_o, il_sub_o, il_mul_o, il_neg_o, ib_bit, Int.toNat_natCast, true_implies, false_implies, implies_true, and_true, true_and, and_self, not_true_eq_false, not_false_eq_true, wa_0, wa_1, il_cmp_o, il_cmp0, il_cmp1, il_cmp2, io_bit1, ibt0, ibt1, ibt00, ibt11, ibt10, ibt01, Int.ofNat_lt, Int.ofNat_le, Int.ofNat_inj, Nat.lt_irrefl, Int.lt_irrefl, Int.toNat_one, Int.toNat_zero, Bool.false_eq_true, reduceIte, reduceCtorEq, Nat.reduceAdd, Nat.reduceMul, Nat.reduceSub, Nat.reduceLT, Nat.reduceLeDiff, Nat.reduceEqDiff, Int.reduceNeg, Int.reduceAdd, Int.reduceMul, Int.reduceSub, Int.reduceLT, Int.reduceLE, Int.reduceEq, Int.reduceToNat, Int.reduceNatCast, icl, ico, inz, hi, e0, h3, e1, e2, hF, hT, eF, eT, hAi, wp_plus (M := M') hg hm' k4, e9, gu_e, Int.add_zero]
          exact hn _
        · have e9 : ¬ qpl (qM G) (qA G i) b = qA G i := fun h => eb ((qpl_eq a3 hb).1 h)
          rw [decide_eq_true eb] at hn
          simp (disch := first | assumption | omega | exact il_cqA _ _ | exact il_cqB _ _) only [wi_14_0, wi_14_1, wi_14_2, wi_14_3, wi_14_7, wi_14_8, wi_14_11, wi_14_14, wi_14_15, wi_14_17, wi_14_18, wi_14_21, wi_14_24, wi_14_25, wi_14_27, wi_14_30, wi_14_33, wi_14_34, wi_14_37, wi_14_39, wi_14_40, wi_14_42, wi_14_43, wi_14_46, wi_14_48, wi_14_49, wi_14_52, wi_14_54, wi_14_55, wi_14_56, wi_14_59, wi_14_60, wi_14_62, wi_14_63, wi_14_66, wi_14_69, wi_14_70, wi_14_72, wi_14_73, wi_14_76, wi_14_77, wi_14_78, wi_14_79, wi_14_82, wi_14_84, wi_14_85, wi_14_87, wi_14_90, wi_14_91, wi_14_94, wi_14_95, wi_14_96, wi_14_97, wi_14_100, wi_14_103, wi_14_104, wi_14_107, wi_14_108, wi_14_109, wi_14_110, wi_14_113, wi_14_114, wi_14_117, wi_14_118, wi_14_119, wi_14_120, wi_14_123, wi_14_124, wi_14_125, wi_14_126, wi_14_129, wi_14_130, wi_14_131, wi_4_0, wi_4_1, wi_4_4, wi_4_5, wi_4_6, wi_4_7, wi_4_10, wi_4_11, wi_4_12, wi_4_15, wi_4_16, wi_4_19, wi_4_20, wi_5_0, wi_5_1, wi_5_4, wi_5_5, wi_5_6, wi_5_7, wi_5_10, wi_5_11, wi_5_14, wi_5_15, wi_5_16, wi_5_17, wi_5_20, wi_5_21, wi_5_24, wi_5_25, io_add_o, io_sub_o, io_mul_o, io_neg_o, io_and_r, io_or_r, io_xor_r, io_nd_r, io_shr_r, io_shl1, io_i2b_r, io_i2l_o, io_l2i_o, il_add_o, il_sub_o, il_mul_o, il_neg_o, ib_bit, Int.toNat_natCast, true_implies, false_implies, implies_true, and_true, true_and, and_self, not_true_eq_false, not_false_eq_true, wa_0, wa_1, il_cmp_o, il_cmp0, il_cmp1, il_cmp2, io_bit1, ibt0, ibt1, ibt00, ibt11, ibt10, ibt01, Int.ofNat_lt, Int.ofNat_le, Int.ofNat_inj, Nat.lt_irrefl, Int.lt_irrefl, Int.toNat_one, Int.toNat_zero, Bool.false_eq_true, reduceIte, reduceCtorEq, Nat.reduceAdd, Nat.reduceMul, Nat.reduceSub, Nat.reduceLT, Nat.reduceLeDiff, Nat.reduceEqDiff, Int.reduceNeg, Int.reduceAdd, Int.reduceMul, Int.reduceSub, Int.reduceLT, Int.reduceLE, Int.reduceEq, Int.reduceToNat, Int.reduceNatCast, icl, ico, inz, hi, e0, h3, e1, e2, hF, hT, eF, eT, hAi, wp_plus (M := M') hg hm' k4, e9, gu_e]
          exact hn _
      · by_cases eF : qF G i = v
        · have hs1 : qmi (qM G) (qA G i) b = qswg G v b i := by
            unfold qswg
            rw [if_neg eL, if_neg eT, if_pos eF]
          have hn := hnew _ hs1
          have hs2 : qswc G v b i = decide (b ≠ 0) := by
            unfold qswc
            rw [decide_eq_true eL, decide_eq_false eT, decide_eq_true eF]
            rfl
          rw [hs2] at hn
          have eT2 : ¬ v = qT G i := fun h => eT h.symm
          by_cases eb : b = 0
          · have e9 := (qmi_eq a3 hb).2 eb
            rw [decide_eq_false (fun h => h eb), e9] at hn
            simp (disch := first | assumption | omega | exact il_cqA _ _ | exact il_cqB _ _) only [wi_14_0, wi_14_1, wi_14_2, wi_14_3, wi_14_7, wi_14_8, wi_14_11, wi_14_14, wi_14_15, wi_14_17, wi_14_18, wi_14_21, wi_14_24, wi_14_25, wi_14_27, wi_14_30, wi_14_33, wi_14_34, wi_14_37, wi_14_39, wi_14_40, wi_14_42, wi_14_43, wi_14_46, wi_14_48, wi_14_49, wi_14_52, wi_14_54, wi_14_55, wi_14_56, wi_14_59, wi_14_60, wi_14_62, wi_14_63, wi_14_66, wi_14_69, wi_14_70, wi_14_72, wi_14_73, wi_14_76, wi_14_77, wi_14_78, wi_14_79, wi_14_82, wi_14_84, wi_14_85, wi_14_87, wi_14_90, wi_14_91, wi_14_94, wi_14_95, wi_14_96, wi_14_97, wi_14_100, wi_14_103, wi_14_104, wi_14_107, wi_14_108, wi_14_109, wi_14_110, wi_14_113, wi_14_114, wi_14_117, wi_14_118, wi_14_119, wi_14_120, wi_14_123, wi_14_124, wi_14_125, wi_14_126, wi_14_129, wi_14_130, wi_14_131, wi_4_0, wi_4_1, wi_4_4, wi_4_5, wi_4_6, wi_4_7, wi_4_10, wi_4_11, wi_4_12, wi_4_15, wi_4_16, wi_4_19, wi_4_20, wi_5_0, wi_5_1, wi_5_4, wi_5_5, wi_5_6, wi_5_7, wi_5_10, wi_5_11, wi_5_14, wi_5_15, wi_5_16, wi_5_17, wi_5_20, wi_5_21, wi_5_24, wi_5_25, io_add_o, io_sub_o, io_mul_o, io_neg_o, io_and_r, io_or_r, io_xor_r, io_nd_r, io_shr_r, io_shl1, io_i2b_r, io_i2l_o, io_l2i_o, il_add_o, il_sub_o, il_mul_o, il_neg_o, ib_bit, Int.toNat_natCast, true_implies, false_implies, implies_true, and_true, true_and, and_self, not_true_eq_false, not_false_eq_true, wa_0, wa_1, il_cmp_o, il_cmp0, il_cmp1, il_cmp2, io_bit1, ibt0, ibt1, ibt00, ibt11, ibt10, ibt01, Int.ofNat_lt, Int.ofNat_le, Int.ofNat_inj, Nat.lt_irrefl, Int.lt_irrefl, Int.toNat_one, Int.toNat_zero, Bool.false_eq_true, reduceIte, reduceCtorEq, Nat.reduceAdd, Nat.reduceMul, Nat.reduceSub, Nat.reduceLT, Nat.reduceLeDiff, Nat.reduceEqDiff, Int.reduceNeg, Int.reduceAdd, Int.reduceMul, Int.reduceSub, Int.reduceLT, Int.reduceLE, Int.reduceEq, Int.reduceToNat, Int.reduceNatCast, icl, ico, inz, hi, e0, h3, e1, e2, hF, hT, eF, eT, eT2, hAi, wp_minus (M := M') hg hm' k4, e9, gu_e, Int.add_zero]
            exact hn _
          · have e9 : ¬ qmi (qM G) (qA G i) b = qA G i := fun h => eb ((qmi_eq a3 hb).1 h)
            rw [decide_eq_true eb] at hn
            simp (disch := first | assumption | omega | exact il_cqA _ _ | exact il_cqB _ _) only [wi_14_0, wi_14_1, wi_14_2, wi_14_3, wi_14_7, wi_14_8, wi_14_11, wi_14_14, wi_14_15, wi_14_17, wi_14_18, wi_14_21, wi_14_24, wi_14_25, wi_14_27, wi_14_30, wi_14_33, wi_14_34, wi_14_37, wi_14_39, wi_14_40, wi_14_42, wi_14_43, wi_14_46, wi_14_48, wi_14_49, wi_14_52, wi_14_54, wi_14_55, wi_14_56, wi_14_59, wi_14_60, wi_14_62, wi_14_63, wi_14_66, wi_14_69, wi_14_70, wi_14_72, wi_14_73, wi_14_76, wi_14_77, wi_14_78, wi_14_79, wi_14_82, wi_14_84, wi_14_85, wi_14_87, wi_14_90, wi_14_91, wi_14_94, wi_14_95, wi_14_96, wi_14_97, wi_14_100, wi_14_103, wi_14_104, wi_14_107, wi_14_108, wi_14_109, wi_14_110, wi_14_113, wi_14_114, wi_14_117, wi_14_118, wi_14_119, wi_14_120, wi_14_123, wi_14_124, wi_14_125, wi_14_126, wi_14_129, wi_14_130, wi_14_131, wi_4_0, wi_4_1, wi_4_4, wi_4_5, wi_4_6, wi_4_7, wi_4_10, wi_4_11, wi_4_12, wi_4_15, wi_4_16, wi_4_19, wi_4_20, wi_5_0, wi_5_1, wi_5_4, wi_5_5, wi_5_6, wi_5_7, wi_5_10, wi_5_11, wi_5_14, wi_5_15, wi_5_16, wi_5_17, wi_5_20, wi_5_21, wi_5_24, wi_5_25, io_add_o, io_sub_o, io_mul_o, io_neg_o, io_and_r, io_or_r, io_xor_r, io_nd_r, io_shr_r, io_shl1, io_i2b_r, io_i2l_o, io_l2i_o, il_add_o, il_sub_o, il_mul_o, il_neg_o, ib_bit, Int.toNat_natCast, true_implies, false_implies, implies_true, and_true, true_and, and_self, not_true_eq_false, not_false_eq_true, wa_0, wa_1, il_cmp_o, il_cmp0, il_cmp1, il_cmp2, io_bit1, ibt0, ibt1, ibt00, ibt11, ibt10, ibt01, Int.ofNat_lt, Int.ofNat_le, Int.ofNat_inj, Nat.lt_irrefl, Int.lt_irrefl, Int.toNat_one, Int.toNat_zero, Bool.false_eq_true, reduceIte, reduceCtorEq, Nat.reduceAdd, Nat.reduceMul, Nat.reduceSub, Nat.reduceLT, Nat.reduceLeDiff, Nat.reduceEqDiff, Int.reduceNeg, Int.reduceAdd, Int.reduceMul, Int.reduceSub, Int.reduceLT, Int.reduceLE, Int.reduceEq, Int.reduceToNat, Int.reduceNatCast, icl, ico, inz, hi, e0, h3, e1, e2, hF, hT, eF, eT, eT2, hAi, wp_minus (M := M') hg hm' k4, e9, gu_e]
            exact hn _
        · have hs1 : qswg G v b i = qA G i := by
            unfold qswg
            rw [if_neg eL, if_neg eT, if_neg eF]
          have hs2 : qswc G v b i = false := by
            unfold qswc
            rw [decide_eq_false eT, decide_eq_false eF]
            simp
          simp (disch := first | assumption | omega | exact il_cqA _ _ | exact il_cqB _ _) only [wi_14_0, wi_14_1, wi_14_2, wi_14_3, wi_14_7, wi_14_8, wi_14_11, wi_14_14, wi_14_15, wi_14_17, wi_14_18, wi_14_21, wi_14_24, wi_14_25, wi_14_27, wi_14_30, wi_14_33, wi_14_34, wi_14_37, wi_14_39, wi_14_40, wi_14_42, wi_14_43, wi_14_46, wi_14_48, wi_14_49, wi_14_52, wi_14_54, wi_14_55, wi_14_56, wi_14_59, wi_14_60, wi_14_62, wi_14_63, wi_14_66, wi_14_69, wi_14_70, wi_14_72, wi_14_73, wi_14_76, wi_14_77, wi_14_78, wi_14_79, wi_14_82, wi_14_84, wi_14_85, wi_14_87, wi_14_90, wi_14_91, wi_14_94, wi_14_95, wi_14_96, wi_14_97, wi_14_100, wi_14_103, wi_14_104, wi_14_107, wi_14_108, wi_14_109, wi_14_110, wi_14_113, wi_14_114, wi_14_117, wi_14_118, wi_14_119, wi_14_120, wi_14_123, wi_14_124, wi_14_125, wi_14_126, wi_14_129, wi_14_130, wi_14_131, wi_4_0, wi_4_1, wi_4_4, wi_4_5, wi_4_6, wi_4_7, wi_4_10, wi_4_11, wi_4_12, wi_4_15, wi_4_16, wi_4_19, wi_4_20, wi_5_0, wi_5_1, wi_5_4, wi_5_5, wi_5_6, wi_5_7, wi_5_10, wi_5_11, wi_5_14, wi_5_15, wi_5_16, wi_5_17, wi_5_20, wi_5_21, wi_5_24, wi_5_25, io_add_o, io_sub_o, io_mul_o, io_neg_o, io_and_r, io_or_r, io_xor_r, io_nd_r, io_shr_r, io_shl1, io_i2b_r, io_i2l_o, io_l2i_o, il_add_o, il_sub_o, il_mul_o, il_neg_o, ib_bit, Int.toNat_natCast, true_implies, false_implies, implies_true, and_true, true_and, and_self, not_true_eq_false, not_false_eq_true, wa_0, wa_1, il_cmp_o, il_cmp0, il_cmp1, il_cmp2, io_bit1, ibt0, ibt1, ibt00, ibt11, ibt10, ibt01, Int.ofNat_lt, Int.ofNat_le, Int.ofNat_inj, Nat.lt_irrefl, Int.lt_irrefl, Int.toNat_one, Int.toNat_zero, Bool.false_eq_true, reduceIte, reduceCtorEq, Nat.reduceAdd, Nat.reduceMul, Nat.reduceSub, Nat.reduceLT, Nat.reduceLeDiff, Nat.reduceEqDiff, Int.reduceNeg, Int.reduceAdd, Int.reduceMul, Int.reduceSub, Int.reduceLT, Int.reduceLE, Int.reduceEq, Int.reduceToNat, Int.reduceNatCast, icl, ico, inz, hi, e0, h3, e1, e2, hF, hT, eF, eT]
          exact hsame hs1 hs2 _
  · have e0 : M' g = M g := hM g (by omega)
    have e5 : M' (g + 5) = M (g + 5) := hM (g + 5) (by omega)
    have hPv := hP v (by omega)
    have hpv := hp v (by omega)
    have hm' : M' g 1 = (qM G : Int) := by rw [e0]; exact h2
    have hml := Nat.mul_le_mul k4 k8
    have hfin : ∀ M2 : gg_M, (∀ r, r ≠ g + 5 → M2 r = M' r) → (∀ u, u < 8 → M2 (g + 5) u = qup (qP G) v (qswp G v b) u) → Q ((1, (0, (qcnt (qswc G v b) (qK G) : Int))), (gk_R, M2, 142, cc, cs)) := by
      intro M2 hM2 hp2'
      refine hQ M2 (fun j hj => by rw [hM2 j (by omega), hM j (by omega)]) ⟨⟨?_, ?_, ?_, ?_, ?_⟩, fun a ha' => ?_, fun a ha' => ?_, fun a ha' => ?_, fun a ha' => ?_, hp2', fun t ht => ?_⟩
      · rw [hM2 g (by omega), e0]; exact h1
      · rw [hM2 g (by omega), e0]; exact h2
      · rw [hM2 g (by omega), e0]; exact h3
      · rw [hM2 g (by omega), e0]; exact h4
      · rw [hM2 g (by omega), e0]; exact h5
      · rw [hM2 (g + 1) (by omega), hM (g + 1) (by omega)]; exact hF a ha'
      · rw [hM2 (g + 2) (by omega), hM (g + 2) (by omega)]; exact hT a ha'
      · rw [hM2 (g + 3) (by omega), ha a ha', if_pos (show a < qK G from ha')]; rfl
      · rw [hM2 (g + 4) (by omega), hM (g + 4) (by omega)]; exact hW a ha'
      · rw [hM2 (g + 6) (by omega), hM (g + 6) (by omega)]; exact hO t ht
    rw [wi_14_5]
    by_cases eP : qP G v = -1
    · simp (disch := first | assumption | omega | exact il_cqA _ _ | exact il_cqB _ _) only [wi_14_0, wi_14_1, wi_14_2, wi_14_3, wi_14_7, wi_14_8, wi_14_11, wi_14_14, wi_14_15, wi_14_17, wi_14_18, wi_14_21, wi_14_24, wi_14_25, wi_14_27, wi_14_30, wi_14_33, wi_14_34, wi_14_37, wi_14_39, wi_14_40, wi_14_42, wi_14_43, wi_14_46, wi_14_48, wi_14_49, wi_14_52, wi_14_54, wi_14_55, wi_14_56, wi_14_59, wi_14_60, wi_14_62, wi_14_63, wi_14_66, wi_14_69, wi_14_70, wi_14_72, wi_14_73, wi_14_76, wi_14_77, wi_14_78, wi_14_79, wi_14_82, wi_14_84, wi_14_85, wi_14_87, wi_14_90, wi_14_91, wi_14_94, wi_14_95, wi_14_96, wi_14_97, wi_14_100, wi_14_103, wi_14_104, wi_14_107, wi_14_108, wi_14_109, wi_14_110, wi_14_113, wi_14_114, wi_14_117, wi_14_118, wi_14_119, wi_14_120, wi_14_123, wi_14_124, wi_14_125, wi_14_126, wi_14_129, wi_14_130, wi_14_131, io_add_o, io_sub_o, io_mul_o, io_neg_o, io_and_r, io_or_r, io_xor_r, io_nd_r, io_shr_r, io_shl1, io_i2b_r, io_i2l_o, io_l2i_o, il_add_o, il_sub_o, il_mul_o, il_neg_o, ib_bit, Int.toNat_natCast, true_implies, false_implies, implies_true, and_true, true_and, and_self, not_true_eq_false, not_false_eq_true, wa_0, wa_1, il_cmp_o, il_cmp0, il_cmp1, il_cmp2, io_bit1, ibt0, ibt1, ibt00, ibt11, ibt10, ibt01, Int.ofNat_lt, Int.ofNat_le, Int.ofNat_inj, Nat.lt_irrefl, Int.lt_irrefl, Int.toNat_one, Int.toNat_zero, Bool.false_eq_true, reduceIte, reduceCtorEq, Nat.reduceAdd, Nat.reduceMul, Nat.reduceSub, Nat.reduceLT, Nat.reduceLeDiff, Nat.reduceEqDiff, Int.reduceNeg, Int.reduceAdd, Int.reduceMul, Int.reduceSub, Int.reduceLT, Int.reduceLE, Int.reduceEq, Int.reduceToNat, Int.reduceNatCast, icl, ico, inz, e0, h3, e5, hPv, eP]
      refine hfin M' (fun _ _ => rfl) (fun u hu => ?_)
      rw [e5, hP u hu]
      unfold qup qswp
      by_cases e : u = v
      · rw [if_pos e, if_pos eP, e, eP]
      · rw [if_neg e]
    · have ez : (0 : Int) ≤ qP G v := by omega
      have hs := qsh_le (m := qM G) (c := (qP G v).toNat) k3 hb
      simp (disch := first | assumption | omega | exact il_cqA _ _ | exact il_cqB _ _) only [wi_14_0, wi_14_1, wi_14_2, wi_14_3, wi_14_7, wi_14_8, wi_14_11, wi_14_14, wi_14_15, wi_14_17, wi_14_18, wi_14_21, wi_14_24, wi_14_25, wi_14_27, wi_14_30, wi_14_33, wi_14_34, wi_14_37, wi_14_39, wi_14_40, wi_14_42, wi_14_43, wi_14_46, wi_14_48, wi_14_49, wi_14_52, wi_14_54, wi_14_55, wi_14_56, wi_14_59, wi_14_60, wi_14_62, wi_14_63, wi_14_66, wi_14_69, wi_14_70, wi_14_72, wi_14_73, wi_14_76, wi_14_77, wi_14_78, wi_14_79, wi_14_82, wi_14_84, wi_14_85, wi_14_87, wi_14_90, wi_14_91, wi_14_94, wi_14_95, wi_14_96, wi_14_97, wi_14_100, wi_14_103, wi_14_104, wi_14_107, wi_14_108, wi_14_109, wi_14_110, wi_14_113, wi_14_114, wi_14_117, wi_14_118, wi_14_119, wi_14_120, wi_14_123, wi_14_124, wi_14_125, wi_14_126, wi_14_129, wi_14_130, wi_14_131, io_add_o, io_sub_o, io_mul_o, io_neg_o, io_and_r, io_or_r, io_xor_r, io_nd_r, io_shr_r, io_shl1, io_i2b_r, io_i2l_o, io_l2i_o, il_add_o, il_sub_o, il_mul_o, il_neg_o, ib_bit, Int.toNat_natCast, true_implies, false_implies, implies_true, and_true, true_and, and_self, not_true_eq_false, not_false_eq_true, wa_0, wa_1, il_cmp_o, il_cmp0, il_cmp1, il_cmp2, io_bit1, ibt0, ibt1, ibt00, ibt11, ibt10, ibt01, Int.ofNat_lt, Int.ofNat_le, Int.ofNat_inj, Nat.lt_irrefl, Int.lt_irrefl, Int.toNat_one, Int.toNat_zero, Bool.false_eq_true, reduceIte, reduceCtorEq, Nat.reduceAdd, Nat.reduceMul, Nat.reduceSub, Nat.reduceLT, Nat.reduceLeDiff, Nat.reduceEqDiff, Int.reduceNeg, Int.reduceAdd, Int.reduceMul, Int.reduceSub, Int.reduceLT, Int.reduceLE, Int.reduceEq, Int.reduceToNat, Int.reduceNatCast, icl, ico, inz, e0, h3, e5, hPv, eP, wp_shifted (M := M') hg hm' k3 k4]
      refine hfin _ (fun r hr => by rw [gu_n hr]) (fun u hu => ?_)
      unfold qup qswp
      by_cases e : u = v
      · subst e
        rw [gu_e, if_pos rfl, if_neg eP]
      · rw [gu_s e, e5, hP u hu, if_neg e]
end SG
