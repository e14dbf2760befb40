/-! the class's components -/
theorem icS (n : Nat) : ((n + 1 : Nat) : Int) = (n : Int) + 1 := rfl
/-- a loop that is gone through n times, with its counter -/
theorem wl_i {P : Nat → Int → Prop} (n : Nat) (hs : ∀ i, i < n → P (i + 1) ((i : Int) + 1) → P i (i : Int)) (he : P n (n : Int)) : P 0 0 :=
  wl_for (P := fun i => P i (i : Int)) n hs he
theorem gu (f : gg_M) (o k : Nat) (x : Int) (o' k' : Nat) : gg_up f o k x o' k' = if o' = o ∧ k' = k then x else f o' k' := rfl
theorem gu_n {f : gg_M} {o k : Nat} {x : Int} {o' : Nat} (h : o' ≠ o) : gg_up f o k x o' = f o' := gg_up_ne h
theorem gu_s {f : gg_M} {o k : Nat} {x : Int} {k' : Nat} (h : k' ≠ k) : gg_up f o k x o k' = f o k' := by
  rw [gu, if_neg (fun e => h e.2)]
theorem gu_e {f : gg_M} {o k : Nat} {x : Int} : gg_up f o k x o k = x := if_pos ⟨rfl, rfl⟩
theorem gc_n {f : gg_M} {a b n o' : Nat} (h : o' ≠ b) : gg_cpy f a 0 b 0 n o' = f o' := by
  funext k
  exact if_neg fun e => h e.1
theorem gc_e {f : gg_M} {a b n k : Nat} (h : k < n) : gg_cpy f a 0 b 0 n b k = f a k := by
  show (if b = b ∧ 0 ≤ k ∧ k < 0 + n then f a (0 + (k - 0)) else f b k) = _
  rw [if_pos ⟨rfl, Nat.zero_le _, by omega⟩]
  rw [Nat.zero_add, Nat.sub_zero]
theorem gs_GP {g p : Nat} (hg : gs_G g) (hp : gs_P p) : g + 6 < p ∨ p + 2 < g :=
  (by decide +kernel : ∀ g ∈ [2, 9, 18, 25, 32, 39, 46, 53, 60, 67, 128, 135], ∀ p ∈ [79, 87, 90, 93, 96, 99, 102, 105, 108, 111, 114, 117, 120, 123], g + 6 < p ∨ p + 2 < g) g (List.contains_iff_mem.mp hg) p (List.contains_iff_mem.mp hp)
theorem gs_Gr {g : Nat} (hg : gs_G g) : (2 ≤ g ∧ g + 6 ≤ 73 ∧ g + 6 ≠ 16 ∧ g ≠ 16 ∧ g ≠ 17 ∨ 128 ≤ g ∧ g + 6 ≤ 141) :=
  (by decide +kernel : ∀ g ∈ [2, 9, 18, 25, 32, 39, 46, 53, 60, 67, 128, 135], (2 ≤ g ∧ g + 6 ≤ 73 ∧ g + 6 ≠ 16 ∧ g ≠ 16 ∧ g ≠ 17 ∨ 128 ≤ g ∧ g + 6 ≤ 141)) g (List.contains_iff_mem.mp hg)
/-- the class's parts at p are P -/
def q_D (M : gg_M) (p n : Nat) (P : q_P) : Prop := (M p 2 = (pnum n P : Int) ∧ M p 3 = (pev n P : Int) ∧ M p 4 = (podd n P : Int)) ∧ (∀ v, v < n → M (p + 1) v = (pl P v : Int)) ∧ (∀ v, v < n → M (p + 2) v = (ph P v : Int))
/-- the graph is where it was -/
theorem q_C_e {M M' : gg_M} {g : Nat} {G : q_G} (h : q_C M g G) (he : ∀ j, g ≤ j → j ≤ g + 6 → M' j = M j) : q_C M' g G := by
  unfold q_C
  rw [he g (by omega) (by omega), he (g + 1) (by omega) (by omega), he (g + 2) (by omega) (by omega), he (g + 3) (by omega) (by omega), he (g + 4) (by omega) (by omega), he (g + 5) (by omega) (by omega), he (g + 6) (by omega) (by omega)]
  exact h
theorem q_D_e {M M' : gg_M} {p n : Nat} {P : q_P} (h : q_D M p n P) (he : ∀ j, p ≤ j → j ≤ p + 2 → M' j = M j) : q_D M' p n P := by
  unfold q_D
  rw [he p (by omega) (by omega), he (p + 1) (by omega) (by omega), he (p + 2) (by omega) (by omega)]
  exact h
section SG
variable {N : Nat} {xs : Nat → Int32} {d : Nat} {M : gg_M} {cc cs : Nat} {Q : gg_O → Prop} {g p : Nat} {G : q_G} {P : q_P}
theorem wp_pbegin {n : Nat} (hp : gs_P p) (hg : gs_G g) (h1 : M g 0 = (n : Int)) (hn : n ≤ 8) (hQ : ∀ M' : gg_M, (∀ j, j < p ∨ p + 2 < j → M' j = M j) → q_D M' p n pz → Q ((0, (3, 0)), (gk_R, M', 142, cc, cs))) :
    wp N xs d 31 0 [gr p, gr g, (3, 0)] [] (gk_R, M, 142, cc, cs) Q := by
  have hgp := gs_GP hg hp
  simp (contextual := true) (disch := first | assumption | omega | exact il_cqA _ _ | exact il_cqB _ _) only [wi_31_0, wi_31_1, wi_31_3, wi_31_5, wi_31_8, wi_31_9, wi_31_12, wi_31_13, wi_31_14, wi_31_15, wi_31_16, wi_31_19, wi_31_20, wi_31_21, wi_31_22, wi_31_25, wi_31_28, wi_31_29, wi_31_30, wi_31_33, wi_31_36, wi_31_37, wi_31_38, wi_31_41, wi_31_44, wi_31_45, wi_31_46, wi_31_49, io_add_o, io_sub_o, io_mul_o, io_neg_o, io_and_r, io_or_r, io_xor_r, io_nd_r, io_shr_r, io_shl1, io_i2b_r, io_i2l_o, io_l2i_o, il_add_o, il_sub_o, il_mul_o, il_neg_o, ib_bit, Int.toNat_natCast, true_implies, false_implies, implies_true, and_true, true_and, and_self, not_true_eq_false, not_false_eq_true, wa_0, wa_1, il_cmp_o, il_cmp0, il_cmp1, il_cmp2, io_bit1, ibt0, ibt1, ibt00, ibt11, ibt10, ibt01, Int.ofNat_lt, Int.ofNat_le, Int.ofNat_inj, Nat.lt_irrefl, Int.lt_irrefl, Int.toNat_one, Int.toNat_zero, Bool.false_eq_true, reduceIte, reduceCtorEq, Nat.reduceAdd, Nat.reduceMul, Nat.reduceSub, Nat.reduceLT, Nat.reduceLeDiff, Nat.reduceEqDiff, Int.reduceNeg, Int.reduceAdd, Int.reduceMul, Int.reduceSub, Int.reduceLT, Int.reduceLE, Int.reduceEq, Int.reduceToNat, Int.reduceNatCast]
  refine wl_i (P := fun i I => ∀ M' : gg_M, (∀ j, j ≠ p + 1 → j ≠ p + 2 → M' j = M j) → (∀ v, v < i → M' (p + 1) v = (v : Int) ∧ M' (p + 2) v = 0) → wp N xs d 31 2 [gr p, gr g, (0, I)] [] (gk_R, M', 142, cc, cs) Q) 8 (fun i hi ih M' hM hv => ?_) (fun M' hM hv => ?_) M (fun j _ _ => rfl) (fun v hv => absurd hv (Nat.not_lt_zero v))
  · rw [wi_31_2]
    have hi8 : (i : Int) < 8 := by omega
    simp (contextual := true) (disch := first | assumption | omega | exact il_cqA _ _ | exact il_cqB _ _) only [wi_31_0, wi_31_1, wi_31_3, wi_31_5, wi_31_8, wi_31_9, wi_31_12, wi_31_13, wi_31_14, wi_31_15, wi_31_16, wi_31_19, wi_31_20, wi_31_21, wi_31_22, wi_31_25, wi_31_28, wi_31_29, wi_31_30, wi_31_33, wi_31_36, wi_31_37, wi_31_38, wi_31_41, wi_31_44, wi_31_45, wi_31_46, wi_31_49, io_add_o, io_sub_o, io_mul_o, io_neg_o, io_and_r, io_or_r, io_xor_r, io_nd_r, io_shr_r, io_shl1, io_i2b_r, io_i2l_o, io_l2i_o, il_add_o, il_sub_o, il_mul_o, il_neg_o, ib_bit, Int.toNat_natCast, true_implies, false_implies, implies_true, and_true, true_and, and_self, not_true_eq_false, not_false_eq_true, wa_0, wa_1, il_cmp_o, il_cmp0, il_cmp1, il_cmp2, io_bit1, ibt0, ibt1, ibt00, ibt11, ibt10, ibt01, Int.ofNat_lt, Int.ofNat_le, Int.ofNat_inj, Nat.lt_irrefl, Int.lt_irrefl, Int.toNat_one, Int.toNat_zero, Bool.false_eq_true, reduceIte, reduceCtorEq, Nat.reduceAdd, Nat.reduceMul, Nat.reduceSub, Nat.reduceLT, Nat.reduceLeDiff, Nat.reduceEqDiff, Int.reduceNeg, Int.reduceAdd, Int.reduceMul, Int.reduceSub, Int.reduceLT, Int.reduceLE, Int.reduceEq, Int.reduceToNat, Int.reduceNatCast, hi8]
    refine ih _ (fun j h1 h2 => ?_) (fun v hv' => ?_)
    · rw [gu_n h2, gu_n h1, hM j h1 h2]
    · have := hv v
      simp only [gu]
      grind
  · rw [wi_31_2]
    have e1 : M' g 0 = (n : Int) := by rw [hM g (by omega) (by omega)]; exact h1
    simp (contextual := true) (disch := first | assumption | omega | exact il_cqA _ _ | exact il_cqB _ _) only [wi_31_0, wi_31_1, wi_31_3, wi_31_5, wi_31_8, wi_31_9, wi_31_12, wi_31_13, wi_31_14, wi_31_15, wi_31_16, wi_31_19, wi_31_20, wi_31_21, wi_31_22, wi_31_25, wi_31_28, wi_31_29, wi_31_30, wi_31_33, wi_31_36, wi_31_37, wi_31_38, wi_31_41, wi_31_44, wi_31_45, wi_31_46, wi_31_49, io_add_o, io_sub_o, io_mul_o, io_neg_o, io_and_r, io_or_r, io_xor_r, io_nd_r, io_shr_r, io_shl1, io_i2b_r, io_i2l_o, io_l2i_o, il_add_o, il_sub_o, il_mul_o, il_neg_o, ib_bit, Int.toNat_natCast, true_implies, false_implies, implies_true, and_true, true_and, and_self, not_true_eq_false, not_false_eq_true, wa_0, wa_1, il_cmp_o, il_cmp0, il_cmp1, il_cmp2, io_bit1, ibt0, ibt1, ibt00, ibt11, ibt10, ibt01, Int.ofNat_lt, Int.ofNat_le, Int.ofNat_inj, Nat.lt_irrefl, Int.lt_irrefl, Int.toNat_one, Int.toNat_zero, Bool.false_eq_true, reduceIte, reduceCtorEq, Nat.reduceAdd, Nat.reduceMul, Nat.reduceSub, Nat.reduceLT, Nat.reduceLeDiff, Nat.reduceEqDiff, Int.reduceNeg, Int.reduceAdd, Int.reduceMul, Int.reduceSub, Int.reduceLT, Int.reduceLE, Int.reduceEq, Int.reduceToNat, Int.reduceNatCast, ico, e1, gu_n]
    refine hQ _ (fun j hj => ?_) ⟨⟨?_, ?_, ?_⟩, fun v hv' => ?_, fun v hv' => ?_⟩
    · rw [gu_n (by omega), gu_n (by omega), gu_n (by omega), hM j (by omega) (by omega)]
    · rw [gu_s (by decide), gu_s (by decide), gu_e, pnum_z]
    · rw [gu_s (by decide), gu_e, pev_z]
    · rw [gu_e, podd_z]
      rfl
    · rw [gu_n (by omega), gu_n (by omega), gu_n (by omega), (hv v (by omega)).1]
      rfl
    · rw [gu_n (by omega), gu_n (by omega), gu_n (by omega), (hv v (by omega)).2]
      rfl
theorem wp_pcopy {n q : Nat} (hp : gs_P p) (hq : gs_P q) (hpq : p + 2 < q ∨ q + 2 < p) (hn : n ≤ 8) (hD : q_D M q n P) (hQ : ∀ M' : gg_M, (∀ j, j < p ∨ p + 2 < j → M' j = M j) → q_D M' p n P → Q ((0, (3, 0)), (gk_R, M', 142, cc, cs))) :
    wp N xs d 32 0 [gr p, gr q] [] (gk_R, M, 142, cc, cs) Q := by
  obtain ⟨⟨d1, d2, d3⟩, dl, dh⟩ := hD
  simp (contextual := true) (disch := first | assumption | omega | exact il_cqA _ _ | exact il_cqB _ _) only [wi_32_0, wi_32_1, wi_32_4, wi_32_5, wi_32_6, wi_32_9, wi_32_10, wi_32_12, wi_32_15, wi_32_16, wi_32_19, wi_32_20, wi_32_21, wi_32_24, wi_32_25, wi_32_27, wi_32_30, wi_32_31, wi_32_32, wi_32_35, wi_32_38, wi_32_39, wi_32_40, wi_32_43, wi_32_46, wi_32_47, wi_32_48, wi_32_51, wi_32_54, io_add_o, io_sub_o, io_mul_o, io_neg_o, io_and_r, io_or_r, io_xor_r, io_nd_r, io_shr_r, io_shl1, io_i2b_r, io_i2l_o, io_l2i_o, il_add_o, il_sub_o, il_mul_o, il_neg_o, ib_bit, Int.toNat_natCast, true_implies, false_implies, implies_true, and_true, true_and, and_self, not_true_eq_false, not_false_eq_true, wa_0, wa_1, il_cmp_o, il_cmp0, il_cmp1, il_cmp2, io_bit1, ibt0, ibt1, ibt00, ibt11, ibt10, ibt01, Int.ofNat_lt, Int.ofNat_le, Int.ofNat_inj, Nat.lt_irrefl, Int.lt_irrefl, Int.toNat_one, Int.toNat_zero, Bool.false_eq_true, reduceIte, reduceCtorEq, Nat.reduceAdd, Nat.reduceMul, Nat.reduceSub, Nat.reduceLT, Nat.reduceLeDiff, Nat.reduceEqDiff, Int.reduceNeg, Int.reduceAdd, Int.reduceMul, Int.reduceSub, Int.reduceLT, Int.reduceLE, Int.reduceEq, Int.reduceToNat, Int.reduceNatCast, gu_n, gc_n]
  refine hQ _ (fun j hj => ?_) ⟨⟨?_, ?_, ?_⟩, fun v hv => ?_, fun v hv => ?_⟩
  · rw [gu_n (by omega), gu_n (by omega), gu_n (by omega), gc_n (by omega), gc_n (by omega)]
  · rw [gu_s (by decide), gu_s (by decide), gu_e, d1]
  · rw [gu_s (by decide), gu_e, d2]
  · rw [gu_e, d3]
  · rw [gu_n (by omega), gu_n (by omega), gu_n (by omega), gc_n (by omega), gc_e (by omega), dl v hv]
  · rw [gu_n (by omega), gu_n (by omega), gu_n (by omega), gc_e (by omega), gc_n (by omega), dh v hv]
theorem wp_padd_tail (hp : gs_P p) (hg : gs_G g) (hG : q_ok G) (h : q_C M g G) (hPo : p_ok (qM G) P) (hD : q_D M p (qN G) P) {hi lo b : Nat} {o : Int} (hl : pl P lo = lo) (hh : pl P hi = hi) (hlt : lo < hi) (hn : hi < qN G) (hb : b < qM G) (ho : o = ((!pb P lo).toNat : Int) + ((!pb P hi).toNat : Int)) (l2 l3 l4 l5 : gg_V) (hQ : ∀ M' : gg_M, (∀ j, j < p ∨ p + 2 < j → M' j = M j) → q_D M' p (qN G) (pmg (qM G) P hi lo b) → Q ((0, (3, 0)), (gk_R, M', 142, cc, cs))) :
    wp N xs (d + 1) 36 162 [gr p, gr g, l2, l3, l4, l5, (0, o), (0, (lo : Int)), (0, (hi : Int)), (0, (b : Int)), (0, 0)] [] (gk_R, M, 142, cc, cs) Q := by
  have hgp := gs_GP hg hp
  obtain ⟨⟨h1, h2, h3, h4, h5⟩, hF, hT, hA, hW, hP, hO⟩ := id h
  obtain ⟨⟨k1, k2, k3, k4, k5, k6, k7, k8⟩, hk, hp, hp2⟩ := id hG
  obtain ⟨⟨d1, d2, d3⟩, dl, dh⟩ := hD
  refine wl_i (P := fun i I => ∀ M' : gg_M, (∀ j, j ≠ p + 1 → j ≠ p + 2 → M' j = M j) → (∀ v, v < qN G → M' (p + 1) v = ((if v < i then pl (pmg (qM G) P hi lo b) v else pl P v : Nat) : Int) ∧ M' (p + 2) v = ((if v < i then ph (pmg (qM G) P hi lo b) v else ph P v : Nat) : Int)) → wp N xs (d + 1) 36 162 [gr p, gr g, l2, l3, l4, l5, (0, o), (0, (lo : Int)), (0, (hi : Int)), (0, (b : Int)), (0, I)] [] (gk_R, M', 142, cc, cs) Q) (qN G) (fun i hi' ih M' hM hv => ?_) (fun M' hM hv => ?_) M (fun _ _ _ => rfl) (fun v hv => ⟨by rw [if_neg (Nat.not_lt_zero v)]; exact dl v hv, by rw [if_neg (Nat.not_lt_zero v)]; exact dh v hv⟩)
  · have hvi := hv i hi'
    rw [if_neg (Nat.lt_irrefl i), if_neg (Nat.lt_irrefl i)] at hvi
    obtain ⟨v1, v2⟩ := hvi
    have e0 : M' g = M g := hM g (by omega) (by omega)
    have hok := hPo i
    rw [wi_36_162]
    by_cases e : pl P i = hi
    · have hm : gg_up M' (p + 1) i (lo : Int) g 1 = (qM G : Int) := by rw [gu_n (by omega), e0]; exact h2
      simp (contextual := true) (disch := first | assumption | omega | exact il_cqA _ _ | exact il_cqB _ _) only [wi_36_0, wi_36_1, wi_36_4, wi_36_5, wi_36_8, wi_36_9, wi_36_10, wi_36_11, wi_36_12, wi_36_13, wi_36_16, wi_36_17, wi_36_20, wi_36_21, wi_36_22, wi_36_23, wi_36_25, wi_36_26, wi_36_27, wi_36_28, wi_36_31, wi_36_32, wi_36_35, wi_36_36, wi_36_37, wi_36_38, wi_36_39, wi_36_42, wi_36_43, wi_36_44, wi_36_47, wi_36_48, wi_36_51, wi_36_52, wi_36_55, wi_36_56, wi_36_57, wi_36_58, wi_36_61, wi_36_63, wi_36_64, wi_36_67, wi_36_68, wi_36_69, wi_36_70, wi_36_71, wi_36_72, wi_36_75, wi_36_77, wi_36_78, wi_36_79, wi_36_80, wi_36_81, wi_36_83, wi_36_84, wi_36_86, wi_36_89, wi_36_91, wi_36_94, wi_36_96, wi_36_99, wi_36_100, wi_36_101, wi_36_104, wi_36_105, wi_36_106, wi_36_107, wi_36_108, wi_36_111, wi_36_112, wi_36_113, wi_36_116, wi_36_117, wi_36_118, wi_36_121, wi_36_122, wi_36_123, wi_36_125, wi_36_128, wi_36_130, wi_36_131, wi_36_133, wi_36_136, wi_36_138, wi_36_140, wi_36_142, wi_36_145, wi_36_147, wi_36_150, wi_36_151, wi_36_152, wi_36_154, wi_36_157, wi_36_159, wi_36_160, wi_36_164, wi_36_165, wi_36_168, wi_36_171, wi_36_172, wi_36_175, wi_36_177, wi_36_178, wi_36_180, wi_36_183, wi_36_184, wi_36_187, wi_36_189, wi_36_191, wi_36_192, wi_36_193, wi_36_196, wi_36_198, wi_36_199, wi_36_200, wi_36_203, wi_36_205, wi_36_206, wi_36_208, wi_36_211, wi_36_212, wi_36_215, wi_36_218, wi_36_219, wi_36_220, wi_36_223, wi_36_224, wi_36_225, wi_36_228, wi_36_229, wi_36_230, wi_36_233, wi_36_235, wi_36_236, wi_36_239, wi_36_240, wi_36_243, wi_36_244, wi_36_245, wi_36_248, wi_36_249, wi_36_251, wi_36_254, wi_36_255, wi_36_258, wi_36_261, wi_36_262, wi_36_265, wi_36_266, wi_36_268, wi_36_269, wi_36_270, wi_36_271, wi_36_272, wi_36_273, wi_36_275, wi_36_276, wi_36_277, wi_36_280, io_add_o, io_sub_o, io_mul_o, io_neg_o, io_and_r, io_or_r, io_xor_r, io_nd_r, io_shr_r, io_shl1, io_i2b_r, io_i2l_o, io_l2i_o, il_add_o, il_sub_o, il_mul_o, il_neg_o, ib_bit, Int.toNat_natCast, true_implies, false_implies, implies_true, and_true, true_and, and_self, not_true_eq_false, not_false_eq_true, wa_0, wa_1, il_cmp_o, il_cmp0, il_cmp1, il_cmp2, io_bit1, ibt0, ibt1, ibt00, ibt11, ibt10, ibt01, Int.ofNat_lt, Int.ofNat_le, Int.ofNat_inj, Nat.lt_irrefl, Int.lt_irrefl, Int.toNat_one, Int.toNat_zero, Bool.false_eq_true, reduceIte, reduceCtorEq, Nat.reduceAdd, Nat.reduceMul, Nat.reduceSub, Nat.reduceLT, Nat.reduceLeDiff, Nat.reduceEqDiff, Int.reduceNeg, Int.reduceAdd, Int.reduceMul, Int.reduceSub, Int.reduceLT, Int.reduceLE, Int.reduceEq, Int.reduceToNat, Int.reduceNatCast, hi', v1, v2, e, e0, h1, gu_n, wp_plus (M := gg_up M' (p + 1) i (lo : Int)) hg hm k4]
      refine ih _ (fun j h1 h2 => ?_) (fun v hv' => ?_)
      · rw [gu_n h2, gu_n h1, hM j h1 h2]
      · have := hv v hv'
        rw [gu_n (by omega), pl_mg, ph_mg]
        simp only [gu]
        rw [pl_mg, ph_mg] at this
        grind
    · simp (contextual := true) (disch := first | assumption | omega | exact il_cqA _ _ | exact il_cqB _ _) only [wi_36_0, wi_36_1, wi_36_4, wi_36_5, wi_36_8, wi_36_9, wi_36_10, wi_36_11, wi_36_12, wi_36_13, wi_36_16, wi_36_17, wi_36_20, wi_36_21, wi_36_22, wi_36_23, wi_36_25, wi_36_26, wi_36_27, wi_36_28, wi_36_31, wi_36_32, wi_36_35, wi_36_36, wi_36_37, wi_36_38, wi_36_39, wi_36_42, wi_36_43, wi_36_44, wi_36_47, wi_36_48, wi_36_51, wi_36_52, wi_36_55, wi_36_56, wi_36_57, wi_36_58, wi_36_61, wi_36_63, wi_36_64, wi_36_67, wi_36_68, wi_36_69, wi_36_70, wi_36_71, wi_36_72, wi_36_75, wi_36_77, wi_36_78, wi_36_79, wi_36_80, wi_36_81, wi_36_83, wi_36_84, wi_36_86, wi_36_89, wi_36_91, wi_36_94, wi_36_96, wi_36_99, wi_36_100, wi_36_101, wi_36_104, wi_36_105, wi_36_106, wi_36_107, wi_36_108, wi_36_111, wi_36_112, wi_36_113, wi_36_116, wi_36_117, wi_36_118, wi_36_121, wi_36_122, wi_36_123, wi_36_125, wi_36_128, wi_36_130, wi_36_131, wi_36_133, wi_36_136, wi_36_138, wi_36_140, wi_36_142, wi_36_145, wi_36_147, wi_36_150, wi_36_151, wi_36_152, wi_36_154, wi_36_157, wi_36_159, wi_36_160, wi_36_164, wi_36_165, wi_36_168, wi_36_171, wi_36_172, wi_36_175, wi_36_177, wi_36_178, wi_36_180, wi_36_183, wi_36_184, wi_36_187, wi_36_189, wi_36_191, wi_36_192, wi_36_193, wi_36_196, wi_36_198, wi_36_199, wi_36_200, wi_36_203, wi_36_205, wi_36_206, wi_36_208, wi_36_211, wi_36_212, wi_36_215, wi_36_218, wi_36_219, wi_36_220, wi_36_223, wi_36_224, wi_36_225, wi_36_228, wi_36_229, wi_36_230, wi_36_233, wi_36_235, wi_36_236, wi_36_239, wi_36_240, wi_36_243, wi_36_244, wi_36_245, wi_36_248, wi_36_249, wi_36_251, wi_36_254, wi_36_255, wi_36_258, wi_36_261, wi_36_262, wi_36_265, wi_36_266, wi_36_268, wi_36_269, wi_36_270, wi_36_271, wi_36_272, wi_36_273, wi_36_275, wi_36_276, wi_36_277, wi_36_280, io_add_o, io_sub_o, io_mul_o, io_neg_o, io_and_r, io_or_r, io_xor_r, io_nd_r, io_shr_r, io_shl1, io_i2b_r, io_i2l_o, io_l2i_o, il_add_o, il_sub_o, il_mul_o, il_neg_o, ib_bit, Int.toNat_natCast, true_implies, false_implies, implies_true, and_true, true_and, and_self, not_true_eq_false, not_false_eq_true, wa_0, wa_1, il_cmp_o, il_cmp0, il_cmp1, il_cmp2, io_bit1, ibt0, ibt1, ibt00, ibt11, ibt10, ibt01, Int.ofNat_lt, Int.ofNat_le, Int.ofNat_inj, Nat.lt_irrefl, Int.lt_irrefl, Int.toNat_one, Int.toNat_zero, Bool.false_eq_true, reduceIte, reduceCtorEq, Nat.reduceAdd, Nat.reduceMul, Nat.reduceSub, Nat.reduceLT, Nat.reduceLeDiff, Nat.reduceEqDiff, Int.reduceNeg, Int.reduceAdd, Int.reduceMul, Int.reduceSub, Int.reduceLT, Int.reduceLE, Int.reduceEq, Int.reduceToNat, Int.reduceNatCast, hi', v1, v2, e, e0, h1]
      refine ih _ hM (fun v hv' => ?_)
      have := hv v hv'
      rw [pl_mg, ph_mg]
      rw [pl_mg, ph_mg] at this
      grind
  · have e0 : M' g = M g := hM g (by omega) (by omega)
    have e1 : M' p = M p := hM p (by omega) (by omega)
    have x1 : 2 ^ hi ≤ 2 ^ 7 := Nat.pow_le_pow_right (by decide) (by omega)
    have x1p : 1 ≤ 2 ^ hi := Nat.one_le_two_pow
    have x2 : 2 ^ lo ≤ 2 ^ 7 := Nat.pow_le_pow_right (by decide) (by omega)
    have x2p : 1 ≤ 2 ^ lo := Nat.one_le_two_pow
    have x3 : podd (qN G) P < 2 ^ 8 := Nat.lt_of_lt_of_le (podd_lt _ _) (Nat.pow_le_pow_right (by decide) k2)
    have x4 : gnd (podd (qN G) P) (2 ^ hi) < 2 ^ 8 := gnd_lt x3
    have n1 := pnum_mg (m := qM G) (b := b) hl hh hlt hn
    have n2 := pev_mg (m := qM G) (b := b) hl hh hlt hn
    have n3 := podd_mg (m := qM G) (b := b) hl hh hlt hn
    have n4 := pnum_le (qN G) P
    have n5 := pev_le (qN G) P
    have hfin : ∀ a1 a2 a3 : Int, a1 = (pnum (qN G) (pmg (qM G) P hi lo b) : Int) → a2 = (pev (qN G) (pmg (qM G) P hi lo b) : Int) → a3 = (podd (qN G) (pmg (qM G) P hi lo b) : Int) → Q ((0, (3, 0)), (gk_R, gg_up (gg_up (gg_up M' p 2 a1) p 3 a2) p 4 a3, 142, cc, cs)) := by
      intro a1 a2 a3 ha1 ha2 ha3
      refine hQ _ (fun j hj => ?_) ⟨⟨?_, ?_, ?_⟩, fun v hv' => ?_, fun v hv' => ?_⟩
      · rw [gu_n (by omega), gu_n (by omega), gu_n (by omega), hM j (by omega) (by omega)]
      · rw [gu_s (by decide), gu_s (by decide), gu_e, ha1]
      · rw [gu_s (by decide), gu_e, ha2]
      · rw [gu_e, ha3]
      · rw [gu_n (by omega), gu_n (by omega), gu_n (by omega), (hv v hv').1, if_pos hv']
      · rw [gu_n (by omega), gu_n (by omega), gu_n (by omega), (hv v hv').2, if_pos hv']
    rw [wi_36_162]
    subst ho
    cases b1 : pb P lo <;> cases b2 : pb P hi <;> simp [b1, b2] at n2 n3
    all_goals
      simp (contextual := true) (disch := first | assumption | omega | exact il_cqA _ _ | exact il_cqB _ _) only [wi_36_0, wi_36_1, wi_36_4, wi_36_5, wi_36_8, wi_36_9, wi_36_10, wi_36_11, wi_36_12, wi_36_13, wi_36_16, wi_36_17, wi_36_20, wi_36_21, wi_36_22, wi_36_23, wi_36_25, wi_36_26, wi_36_27, wi_36_28, wi_36_31, wi_36_32, wi_36_35, wi_36_36, wi_36_37, wi_36_38, wi_36_39, wi_36_42, wi_36_43, wi_36_44, wi_36_47, wi_36_48, wi_36_51, wi_36_52, wi_36_55, wi_36_56, wi_36_57, wi_36_58, wi_36_61, wi_36_63, wi_36_64, wi_36_67, wi_36_68, wi_36_69, wi_36_70, wi_36_71, wi_36_72, wi_36_75, wi_36_77, wi_36_78, wi_36_79, wi_36_80, wi_36_81, wi_36_83, wi_36_84, wi_36_86, wi_36_89, wi_36_91, wi_36_94, wi_36_96, wi_36_99, wi_36_100, wi_36_101, wi_36_104, wi_36_105, wi_36_106, wi_36_107, wi_36_108, wi_36_111, wi_36_112, wi_36_113, wi_36_116, wi_36_117, wi_36_118, wi_36_121, wi_36_122, wi_36_123, wi_36_125, wi_36_128, wi_36_130, wi_36_131, wi_36_133, wi_36_136, wi_36_138, wi_36_140, wi_36_142, wi_36_145, wi_36_147, wi_36_150, wi_36_151, wi_36_152, wi_36_154, wi_36_157, wi_36_159, wi_36_160, wi_36_164, wi_36_165, wi_36_168, wi_36_171, wi_36_172, wi_36_175, wi_36_177, wi_36_178, wi_36_180, wi_36_183, wi_36_184, wi_36_187, wi_36_189, wi_36_191, wi_36_192, wi_36_193, wi_36_196, wi_36_198, wi_36_199, wi_36_200, wi_36_203, wi_36_205, wi_36_206, wi_36_208, wi_36_211, wi_36_212, wi_36_215, wi_36_218, wi_36_219, wi_36_220, wi_36_223, wi_36_224, wi_36_225, wi_36_228, wi_36_229, wi_36_230, wi_36_233, wi_36_235, wi_36_236, wi_36_239, wi_36_240, wi_36_243, wi_36_244, wi_36_245, wi_36_248, wi_36_249, wi_36_251, wi_36_254, wi_36_255, wi_36_258, wi_36_261, wi_36_262, wi_36_265, wi_36_266, wi_36_268, wi_36_269, wi_36_270, wi_36_271, wi_36_272, wi_36_273, wi_36_275, wi_36_276, wi_36_277, wi_36_280, io_add_o, io_sub_o, io_mul_o, io_neg_o, io_and_r, io_or_r, io_xor_r, io_nd_r, io_shr_r, io_shl1, io_i2b_r, io_i2l_o, io_l2i_o, il_add_o, il_sub_o, il_mul_o, il_neg_o, ib_bit, Int.toNat_natCast, true_implies, false_implies, implies_true, and_true, true_and, and_self, not_true_eq_false, not_false_eq_true, wa_0, wa_1, il_cmp_o, il_cmp0, il_cmp1, il_cmp2, io_bit1, ibt0, ibt1, ibt00, ibt11, ibt10, ibt01, Int.ofNat_lt, Int.ofNat_le, Int.ofNat_inj, Nat.lt_irrefl, Int.lt_irrefl, Int.toNat_one, Int.toNat_zero, Bool.false_eq_true, reduceIte, reduceCtorEq, Nat.reduceAdd, Nat.reduceMul, Nat.reduceSub, Nat.reduceLT, Nat.reduceLeDiff, Nat.reduceEqDiff, Int.reduceNeg, Int.reduceAdd, Int.reduceMul, Int.reduceSub, Int.reduceLT, Int.reduceLE, Int.reduceEq, Int.reduceToNat, Int.reduceNatCast, e0, h1, e1, d1, d2, d3, gu_s, gu_e, gu_n, Bool.not_true, Bool.not_false, ico, Int.add_zero, Int.zero_add]
      refine hfin _ _ _ ?_ ?_ ?_
    all_goals (try omega)
    all_goals (first | (rw [n3]; done) | skip)
    all_goals ((rw [io_nd_r (by omega) (by omega) (by omega) (by omega), Int.toNat_natCast, Int.toNat_natCast, io_or_r (by omega) (by omega) (by omega) (by omega), n3]; rfl))
theorem wp_padd (hpp : gs_P p) (hg : gs_G g) (hG : q_ok G) (h : q_C M g G) (hPo : p_ok (qM G) P) (hD : q_D M p (qN G) P) {a : Nat} (ha : a < qK G) (hQ : ∀ M' : gg_M, (∀ j, j < p ∨ p + 2 < j → M' j = M j) → q_D M' p (qN G) (pj G P a) → Q ((0, (3, 0)), (gk_R, M', 142, cc, cs))) :
    wp N xs (d + 1) 36 0 [gr p, gr g, (0, (a : Int)), (3, 0), (3, 0), (3, 0), (3, 0), (3, 0), (3, 0), (3, 0), (3, 0)] [] (gk_R, M, 142, cc, cs) Q := by
  have hgp := gs_GP hg hpp
  obtain ⟨⟨h1, h2, h3, h4, h5⟩, hF, hT, hA, hW, hP, hO⟩ := id h
  obtain ⟨⟨k1, k2, k3, k4, k5, k6, k7, k8⟩, hk, hp, hp2⟩ := id hG
  have hD' := hD
  obtain ⟨⟨d1, d2, d3⟩, dl, dh⟩ := hD
  obtain ⟨a1, a2, a3, _⟩ := hk a ha
  have f1 := dl (qF G a) a1
  have f2 := dl (qT G a) a2
  have f3 := dh (qF G a) a1
  have f4 := dh (qT G a) a2
  obtain ⟨o1, o2, o3, _⟩ := hPo (qF G a)
  obtain ⟨o5, o6, o7, _⟩ := hPo (qT G a)
  have x3 : podd (qN G) P < 2 ^ 8 := Nat.lt_of_lt_of_le (podd_lt _ _) (Nat.pow_le_pow_right (by decide) k2)
  have g1 := podd_bit (n := qN G) o2 (by omega)
  have g2 := podd_bit (n := qN G) o6 (by omega)
  have hl := plk_lt hG hPo ha
  have q1 := qpl_lt o3 a3
  have hF := hF a ha
  have hT := hT a ha
  have hA := hA a ha
  unfold pj at hQ
  by_cases e : pl P (qF G a) = pl P (qT G a)
  · rw [if_pos e] at hQ
    have x1 : 2 ^ pl P (qT G a) ≤ 2 ^ 7 := Nat.pow_le_pow_right (by decide) (by omega)
    have x1p : 1 ≤ 2 ^ pl P (qT G a) := Nat.one_le_two_pow
    have x5 : podd (qN G) P ||| 2 ^ pl P (qT G a) < 2 ^ 8 := Nat.or_lt_two_pow x3 (by omega)
    have n2 := pev_b (n := qN G) (b := decide (plk G P a = 0)) o2 (by omega)
    have n3 := podd_b (n := qN G) (b := decide (plk G P a = 0)) o2 (by omega)
    have n5 := pev_le (qN G) P
    rw [e] at g1 n2 n3 hQ
    have hfin : ∀ x y : Int, x = (pev (qN G) (pbd P (pl P (qT G a)) (decide (plk G P a = 0))) : Int) → y = (podd (qN G) (pbd P (pl P (qT G a)) (decide (plk G P a = 0))) : Int) → Q ((0, (3, 0)), (gk_R, gg_up (gg_up M p 4 y) p 3 x, 142, cc, cs)) := by
      intro x y hx hy
      refine hQ _ (fun j hj => ?_) ⟨⟨?_, ?_, ?_⟩, fun v hv' => ?_, fun v hv' => ?_⟩
      · rw [gu_n (by omega), gu_n (by omega)]
      · rw [gu_s (by decide), gu_s (by decide), d1]
        rfl
      · rw [gu_e, hx]
      · rw [gu_s (by decide), gu_e, hy]
      · rw [gu_n (by omega), gu_n (by omega)]
        exact dl v hv'
      · rw [gu_n (by omega), gu_n (by omega)]
        exact dh v hv'
    have hfin2 : pev (qN G) P = pev (qN G) (pbd P (pl P (qT G a)) (decide (plk G P a = 0))) → podd (qN G) P = podd (qN G) (pbd P (pl P (qT G a)) (decide (plk G P a = 0))) → Q ((0, (3, 0)), (gk_R, M, 142, cc, cs)) := by
      intro hx hy
      refine hQ M (fun j hj => rfl) ⟨⟨d1, ?_, ?_⟩, dl, dh⟩
      · rw [← hx]
        exact d2
      · rw [← hy]
        exact d3
    have hlk : qmi (qM G) (qpl (qM G) (ph P (qF G a)) (qA G a)) (ph P (qT G a)) = plk G P a := rfl
    by_cases e2 : plk G P a = 0
    · rw [decide_eq_true e2] at n2 n3 hfin2
      cases b1 : pb P (pl P (qT G a)) <;> rw [b1] at g1
      all_goals
        simp (disch := first | assumption | omega | exact il_cqA _ _ | exact il_cqB _ _) only [wi_36_0, wi_36_1, wi_36_4, wi_36_5, wi_36_8, wi_36_9, wi_36_10, wi_36_11, wi_36_12, wi_36_13, wi_36_16, wi_36_17, wi_36_20, wi_36_21, wi_36_22, wi_36_23, wi_36_25, wi_36_26, wi_36_27, wi_36_28, wi_36_31, wi_36_32, wi_36_35, wi_36_36, wi_36_37, wi_36_38, wi_36_39, wi_36_42, wi_36_43, wi_36_44, wi_36_47, wi_36_48, wi_36_51, wi_36_52, wi_36_55, wi_36_56, wi_36_57, wi_36_58, wi_36_61, wi_36_63, wi_36_64, wi_36_67, wi_36_68, wi_36_69, wi_36_70, wi_36_71, wi_36_72, wi_36_75, wi_36_77, wi_36_78, wi_36_79, wi_36_80, wi_36_81, wi_36_83, wi_36_84, wi_36_86, wi_36_89, wi_36_91, wi_36_94, wi_36_96, wi_36_99, wi_36_100, wi_36_101, wi_36_104, wi_36_105, wi_36_106, wi_36_107, wi_36_108, wi_36_111, wi_36_112, wi_36_113, wi_36_116, wi_36_117, wi_36_118, wi_36_121, wi_36_122, wi_36_123, wi_36_125, wi_36_128, wi_36_130, wi_36_131, wi_36_133, wi_36_136, wi_36_138, wi_36_140, wi_36_142, wi_36_145, wi_36_147, wi_36_150, wi_36_151, wi_36_152, wi_36_154, wi_36_157, wi_36_159, wi_36_160, wi_36_164, wi_36_165, wi_36_168, wi_36_171, wi_36_172, wi_36_175, wi_36_177, wi_36_178, wi_36_180, wi_36_183, wi_36_184, wi_36_187, wi_36_189, wi_36_191, wi_36_192, wi_36_193, wi_36_196, wi_36_198, wi_36_199, wi_36_200, wi_36_203, wi_36_205, wi_36_206, wi_36_208, wi_36_211, wi_36_212, wi_36_215, wi_36_218, wi_36_219, wi_36_220, wi_36_223, wi_36_224, wi_36_225, wi_36_228, wi_36_229, wi_36_230, wi_36_233, wi_36_235, wi_36_236, wi_36_239, wi_36_240, wi_36_243, wi_36_244, wi_36_245, wi_36_248, wi_36_249, wi_36_251, wi_36_254, wi_36_255, wi_36_258, wi_36_261, wi_36_262, wi_36_265, wi_36_266, wi_36_268, wi_36_269, wi_36_270, wi_36_271, wi_36_272, wi_36_273, wi_36_275, wi_36_276, wi_36_277, wi_36_280, io_add_o, io_sub_o, io_mul_o, io_neg_o, io_and_r, io_or_r, io_xor_r, io_nd_r, io_shr_r, io_shl1, io_i2b_r, io_i2l_o, io_l2i_o, il_add_o, il_sub_o, il_mul_o, il_neg_o, ib_bit, Int.toNat_natCast, true_implies, false_implies, implies_true, and_true, true_and, and_self, not_true_eq_false, not_false_eq_true, wa_0, wa_1, il_cmp_o, il_cmp0, il_cmp1, il_cmp2, io_bit1, ibt0, ibt1, ibt00, ibt11, ibt10, ibt01, Int.ofNat_lt, Int.ofNat_le, Int.ofNat_inj, Nat.lt_irrefl, Int.lt_irrefl, Int.toNat_one, Int.toNat_zero, Bool.false_eq_true, reduceIte, reduceCtorEq, Nat.reduceAdd, Nat.reduceMul, Nat.reduceSub, Nat.reduceLT, Nat.reduceLeDiff, Nat.reduceEqDiff, Int.reduceNeg, Int.reduceAdd, Int.reduceMul, Int.reduceSub, Int.reduceLT, Int.reduceLE, Int.reduceEq, Int.reduceToNat, Int.reduceNatCast, hF, hT, hA, f1, f2, f3, f4, e, hlk, e2, d3, g1, b1, ico, inz, Bool.not_true, Bool.not_false, wp_plus hg h2 k4, wp_minus hg h2 k4]
        refine hfin2 ?_ ?_
        · simp at n2
          exact n2.symm
        · rw [n3]
          rfl
    · rw [decide_eq_false e2] at n2 n3 hfin2 hfin
      cases b1 : pb P (pl P (qT G a)) <;> rw [b1] at g1 n2
      · simp (disch := first | assumption | omega | exact il_cqA _ _ | exact il_cqB _ _) only [wi_36_0, wi_36_1, wi_36_4, wi_36_5, wi_36_8, wi_36_9, wi_36_10, wi_36_11, wi_36_12, wi_36_13, wi_36_16, wi_36_17, wi_36_20, wi_36_21, wi_36_22, wi_36_23, wi_36_25, wi_36_26, wi_36_27, wi_36_28, wi_36_31, wi_36_32, wi_36_35, wi_36_36, wi_36_37, wi_36_38, wi_36_39, wi_36_42, wi_36_43, wi_36_44, wi_36_47, wi_36_48, wi_36_51, wi_36_52, wi_36_55, wi_36_56, wi_36_57, wi_36_58, wi_36_61, wi_36_63, wi_36_64, wi_36_67, wi_36_68, wi_36_69, wi_36_70, wi_36_71, wi_36_72, wi_36_75, wi_36_77, wi_36_78, wi_36_79, wi_36_80, wi_36_81, wi_36_83, wi_36_84, wi_36_86, wi_36_89, wi_36_91, wi_36_94, wi_36_96, wi_36_99, wi_36_100, wi_36_101, wi_36_104, wi_36_105, wi_36_106, wi_36_107, wi_36_108, wi_36_111, wi_36_112, wi_36_113, wi_36_116, wi_36_117, wi_36_118, wi_36_121, wi_36_122, wi_36_123, wi_36_125, wi_36_128, wi_36_130, wi_36_131, wi_36_133, wi_36_136, wi_36_138, wi_36_140, wi_36_142, wi_36_145, wi_36_147, wi_36_150, wi_36_151, wi_36_152, wi_36_154, wi_36_157, wi_36_159, wi_36_160, wi_36_164, wi_36_165, wi_36_168, wi_36_171, wi_36_172, wi_36_175, wi_36_177, wi_36_178, wi_36_180, wi_36_183, wi_36_184, wi_36_187, wi_36_189, wi_36_191, wi_36_192, wi_36_193, wi_36_196, wi_36_198, wi_36_199, wi_36_200, wi_36_203, wi_36_205, wi_36_206, wi_36_208, wi_36_211, wi_36_212, wi_36_215, wi_36_218, wi_36_219, wi_36_220, wi_36_223, wi_36_224, wi_36_225, wi_36_228, wi_36_229, wi_36_230, wi_36_233, wi_36_235, wi_36_236, wi_36_239, wi_36_240, wi_36_243, wi_36_244, wi_36_245, wi_36_248, wi_36_249, wi_36_251, wi_36_254, wi_36_255, wi_36_258, wi_36_261, wi_36_262, wi_36_265, wi_36_266, wi_36_268, wi_36_269, wi_36_270, wi_36_271, wi_36_272, wi_36_273, wi_36_275, wi_36_276, wi_36_277, wi_36_280, io_add_o, io_sub_o, io_mul_o, io_neg_o, io_and_r, io_or_r, io_xor_r, io_nd_r, io_shr_r, io_shl1, io_i2b_r, io_i2l_o, io_l2i_o, il_add_o, il_sub_o, il_mul_o, il_neg_o, ib_bit, Int.toNat_natCast, true_implies, false_implies, implies_true, and_true, true_and, and_self, not_true_eq_false, not_false_eq_true, wa_0, wa_1, il_cmp_o, il_cmp0, il_cmp1, il_cmp2, io_bit1, ibt0, ibt1, ibt00, ibt11, ibt10, ibt01, Int.ofNat_lt, Int.ofNat_le, Int.ofNat_inj, Nat.lt_irrefl, Int.lt_irrefl, Int.toNat_one, Int.toNat_zero, Bool.false_eq_true, reduceIte, reduceCtorEq, Nat.reduceAdd, Nat.reduceMul, Nat.reduceSub, Nat.reduceLT, Nat.reduceLeDiff, Nat.reduceEqDiff, Int.reduceNeg, Int.reduceAdd, Int.reduceMul, Int.reduceSub, Int.reduceLT, Int.reduceLE, Int.reduceEq, Int.reduceToNat, Int.reduceNatCast, hF, hT, hA, f1, f2, f3, f4, e, hlk, e2, d3, g1, b1, ico, inz, Bool.not_true, Bool.not_false, wp_plus hg h2 k4, wp_minus hg h2 k4]
        refine hfin2 ?_ ?_
        · simp at n2
          exact n2.symm
        · rw [n3, if_neg (by decide)]
          refine Nat.eq_of_testBit_eq fun i => ?_
          rw [Nat.testBit_or, Nat.testBit_two_pow]
          by_cases e3 : pl P (qT G a) = i
          · rw [← e3, g1]
            rfl
          · rw [decide_eq_false e3, Bool.or_false]
      · simp at n2
        simp (disch := first | assumption | omega | exact il_cqA _ _ | exact il_cqB _ _) only [wi_36_0, wi_36_1, wi_36_4, wi_36_5, wi_36_8, wi_36_9, wi_36_10, wi_36_11, wi_36_12, wi_36_13, wi_36_16, wi_36_17, wi_36_20, wi_36_21, wi_36_22, wi_36_23, wi_36_25, wi_36_26, wi_36_27, wi_36_28, wi_36_31, wi_36_32, wi_36_35, wi_36_36, wi_36_37, wi_36_38, wi_36_39, wi_36_42, wi_36_43, wi_36_44, wi_36_47, wi_36_48, wi_36_51, wi_36_52, wi_36_55, wi_36_56, wi_36_57, wi_36_58, wi_36_61, wi_36_63, wi_36_64, wi_36_67, wi_36_68, wi_36_69, wi_36_70, wi_36_71, wi_36_72, wi_36_75, wi_36_77, wi_36_78, wi_36_79, wi_36_80, wi_36_81, wi_36_83, wi_36_84, wi_36_86, wi_36_89, wi_36_91, wi_36_94, wi_36_96, wi_36_99, wi_36_100, wi_36_101, wi_36_104, wi_36_105, wi_36_106, wi_36_107, wi_36_108, wi_36_111, wi_36_112, wi_36_113, wi_36_116, wi_36_117, wi_36_118, wi_36_121, wi_36_122, wi_36_123, wi_36_125, wi_36_128, wi_36_130, wi_36_131, wi_36_133, wi_36_136, wi_36_138, wi_36_140, wi_36_142, wi_36_145, wi_36_147, wi_36_150, wi_36_151, wi_36_152, wi_36_154, wi_36_157, wi_36_159, wi_36_160, wi_36_164, wi_36_165, wi_36_168, wi_36_171, wi_36_172, wi_36_175, wi_36_177, wi_36_178, wi_36_180, wi_36_183, wi_36_184, wi_36_187, wi_36_189, wi_36_191, wi_36_192, wi_36_193, wi_36_196, wi_36_198, wi_36_199, wi_36_200, wi_36_203, wi_36_205, wi_36_206, wi_36_208, wi_36_211, wi_36_212, wi_36_215, wi_36_218, wi_36_219, wi_36_220, wi_36_223, wi_36_224, wi_36_225, wi_36_228, wi_36_229, wi_36_230, wi_36_233, wi_36_235, wi_36_236, wi_36_239, wi_36_240, wi_36_243, wi_36_244, wi_36_245, wi_36_248, wi_36_249, wi_36_251, wi_36_254, wi_36_255, wi_36_258, wi_36_261, wi_36_262, wi_36_265, wi_36_266, wi_36_268, wi_36_269, wi_36_270, wi_36_271, wi_36_272, wi_36_273, wi_36_275, wi_36_276, wi_36_277, wi_36_280, io_add_o, io_sub_o, io_mul_o, io_neg_o, io_and_r, io_or_r, io_xor_r, io_nd_r, io_shr_r, io_shl1, io_i2b_r, io_i2l_o, io_l2i_o, il_add_o, il_sub_o, il_mul_o, il_neg_o, ib_bit, Int.toNat_natCast, true_implies, false_implies, implies_true, and_true, true_and, and_self, not_true_eq_false, not_false_eq_true, wa_0, wa_1, il_cmp_o, il_cmp0, il_cmp1, il_cmp2, io_bit1, ibt0, ibt1, ibt00, ibt11, ibt10, ibt01, Int.ofNat_lt, Int.ofNat_le, Int.ofNat_inj, Nat.lt_irrefl, Int.lt_irrefl, Int.toNat_one, Int.toNat_zero, Bool.false_eq_true, reduceIte, reduceCtorEq, Nat.reduceAdd, Nat.reduceMul, Nat.reduceSub, Nat.reduceLT, Nat.reduceLeDiff, Nat.reduceEqDiff, Int.reduceNeg, Int.reduceAdd, Int.reduceMul, Int.reduceSub, Int.reduceLT, Int.reduceLE, Int.reduceEq, Int.reduceToNat, Int.reduceNatCast, hF, hT, hA, f1, f2, f3, f4, e, hlk, e2, d2, d3, g1, b1, gu_s, gu_e, ico, inz, Bool.not_true, Bool.not_false, wp_plus hg h2 k4, wp_minus hg h2 k4, io_or_r]
        refine hfin _ _ ?_ ?_
        · omega
        · rw [n3]
          rfl
  · rw [if_neg e] at hQ
    have t1 := Bool.toNat_le (!pb P (pl P (qF G a)))
    have t2 := Bool.toNat_le (!pb P (pl P (qT G a)))
    have hlk : qmi (qM G) (qpl (qM G) (ph P (qF G a)) (qA G a)) (ph P (qT G a)) = plk G P a := rfl
    by_cases e2 : pl P (qF G a) < pl P (qT G a)
    · rw [if_pos e2] at hQ
      have e3 : pl P (qF G a) ≤ pl P (qT G a) := by omega
      simp (disch := first | assumption | omega | exact il_cqA _ _ | exact il_cqB _ _) only [wi_36_0, wi_36_1, wi_36_4, wi_36_5, wi_36_8, wi_36_9, wi_36_10, wi_36_11, wi_36_12, wi_36_13, wi_36_16, wi_36_17, wi_36_20, wi_36_21, wi_36_22, wi_36_23, wi_36_25, wi_36_26, wi_36_27, wi_36_28, wi_36_31, wi_36_32, wi_36_35, wi_36_36, wi_36_37, wi_36_38, wi_36_39, wi_36_42, wi_36_43, wi_36_44, wi_36_47, wi_36_48, wi_36_51, wi_36_52, wi_36_55, wi_36_56, wi_36_57, wi_36_58, wi_36_61, wi_36_63, wi_36_64, wi_36_67, wi_36_68, wi_36_69, wi_36_70, wi_36_71, wi_36_72, wi_36_75, wi_36_77, wi_36_78, wi_36_79, wi_36_80, wi_36_81, wi_36_83, wi_36_84, wi_36_86, wi_36_89, wi_36_91, wi_36_94, wi_36_96, wi_36_99, wi_36_100, wi_36_101, wi_36_104, wi_36_105, wi_36_106, wi_36_107, wi_36_108, wi_36_111, wi_36_112, wi_36_113, wi_36_116, wi_36_117, wi_36_118, wi_36_121, wi_36_122, wi_36_123, wi_36_125, wi_36_128, wi_36_130, wi_36_131, wi_36_133, wi_36_136, wi_36_138, wi_36_140, wi_36_142, wi_36_145, wi_36_147, wi_36_150, wi_36_151, wi_36_152, wi_36_154, wi_36_157, wi_36_159, wi_36_160, wi_36_164, wi_36_165, wi_36_168, wi_36_171, wi_36_172, wi_36_175, wi_36_177, wi_36_178, wi_36_180, wi_36_183, wi_36_184, wi_36_187, wi_36_189, wi_36_191, wi_36_192, wi_36_193, wi_36_196, wi_36_198, wi_36_199, wi_36_200, wi_36_203, wi_36_205, wi_36_206, wi_36_208, wi_36_211, wi_36_212, wi_36_215, wi_36_218, wi_36_219, wi_36_220, wi_36_223, wi_36_224, wi_36_225, wi_36_228, wi_36_229, wi_36_230, wi_36_233, wi_36_235, wi_36_236, wi_36_239, wi_36_240, wi_36_243, wi_36_244, wi_36_245, wi_36_248, wi_36_249, wi_36_251, wi_36_254, wi_36_255, wi_36_258, wi_36_261, wi_36_262, wi_36_265, wi_36_266, wi_36_268, wi_36_269, wi_36_270, wi_36_271, wi_36_272, wi_36_273, wi_36_275, wi_36_276, wi_36_277, wi_36_280, io_add_o, io_sub_o, io_mul_o, io_neg_o, io_and_r, io_or_r, io_xor_r, io_nd_r, io_shr_r, io_shl1, io_i2b_r, io_i2l_o, io_l2i_o, il_add_o, il_sub_o, il_mul_o, il_neg_o, ib_bit, Int.toNat_natCast, true_implies, false_implies, implies_true, and_true, true_and, and_self, not_true_eq_false, not_false_eq_true, wa_0, wa_1, il_cmp_o, il_cmp0, il_cmp1, il_cmp2, io_bit1, ibt0, ibt1, ibt00, ibt11, ibt10, ibt01, Int.ofNat_lt, Int.ofNat_le, Int.ofNat_inj, Nat.lt_irrefl, Int.lt_irrefl, Int.toNat_one, Int.toNat_zero, Bool.false_eq_true, reduceIte, reduceCtorEq, Nat.reduceAdd, Nat.reduceMul, Nat.reduceSub, Nat.reduceLT, Nat.reduceLeDiff, Nat.reduceEqDiff, Int.reduceNeg, Int.reduceAdd, Int.reduceMul, Int.reduceSub, Int.reduceLT, Int.reduceLE, Int.reduceEq, Int.reduceToNat, Int.reduceNatCast, hF, hT, hA, f1, f2, f3, f4, e, e3, hlk, d3, g1, g2, ico, inz, wp_plus hg h2 k4, wp_minus hg h2 k4]
      exact wp_padd_tail hpp hg hG h hPo hD' o2 o6 e2 (by omega) hl rfl _ _ _ _ hQ
    · rw [if_neg e2] at hQ
      have e3 : ¬ pl P (qF G a) ≤ pl P (qT G a) := by omega
      have e4 : ¬ pl P (qT G a) = pl P (qF G a) := fun x => e x.symm
      simp (disch := first | assumption | omega | exact il_cqA _ _ | exact il_cqB _ _) only [wi_36_0, wi_36_1, wi_36_4, wi_36_5, wi_36_8, wi_36_9, wi_36_10, wi_36_11, wi_36_12, wi_36_13, wi_36_16, wi_36_17, wi_36_20, wi_36_21, wi_36_22, wi_36_23, wi_36_25, wi_36_26, wi_36_27, wi_36_28, wi_36_31, wi_36_32, wi_36_35, wi_36_36, wi_36_37, wi_36_38, wi_36_39, wi_36_42, wi_36_43, wi_36_44, wi_36_47, wi_36_48, wi_36_51, wi_36_52, wi_36_55, wi_36_56, wi_36_57, wi_36_58, wi_36_61, wi_36_63, wi_36_64, wi_36_67, wi_36_68, wi_36_69, wi_36_70, wi_36_71, wi_36_72, wi_36_75, wi_36_77, wi_36_78, wi_36_79, wi_36_80, wi_36_81, wi_36_83, wi_36_84, wi_36_86, wi_36_89, wi_36_91, wi_36_94, wi_36_96, wi_36_99, wi_36_100, wi_36_101, wi_36_104, wi_36_105, wi_36_106, wi_36_107, wi_36_108, wi_36_111, wi_36_112, wi_36_113, wi_36_116, wi_36_117, wi_36_118, wi_36_121, wi_36_122, wi_36_123, wi_36_125, wi_36_128, wi_36_130, wi_36_131, wi_36_133, wi_36_136, wi_36_138, wi_36_140, wi_36_142, wi_36_145, wi_36_147, wi_36_150, wi_36_151, wi_36_152, wi_36_154, wi_36_157, wi_36_159, wi_36_160, wi_36_164, wi_36_165, wi_36_168, wi_36_171, wi_36_172, wi_36_175, wi_36_177, wi_36_178, wi_36_180, wi_36_183, wi_36_184, wi_36_187, wi_36_189, wi_36_191, wi_36_192, wi_36_193, wi_36_196, wi_36_198, wi_36_199, wi_36_200, wi_36_203, wi_36_205, wi_36_206, wi_36_208, wi_36_211, wi_36_212, wi_36_215, wi_36_218, wi_36_219, wi_36_220, wi_36_223, wi_36_224, wi_36_225, wi_36_228, wi_36_229, wi_36_230, wi_36_233, wi_36_235, wi_36_236, wi_36_239, wi_36_240, wi_36_243, wi_36_244, wi_36_245, wi_36_248, wi_36_249, wi_36_251, wi_36_254, wi_36_255, wi_36_258, wi_36_261, wi_36_262, wi_36_265, wi_36_266, wi_36_268, wi_36_269, wi_36_270, wi_36_271, wi_36_272, wi_36_273, wi_36_275, wi_36_276, wi_36_277, wi_36_280, io_add_o, io_sub_o, io_mul_o, io_neg_o, io_and_r, io_or_r, io_xor_r, io_nd_r, io_shr_r, io_shl1, io_i2b_r, io_i2l_o, io_l2i_o, il_add_o, il_sub_o, il_mul_o, il_neg_o, ib_bit, Int.toNat_natCast, true_implies, false_implies, implies_true, and_true, true_and, and_self, not_true_eq_false, not_false_eq_true, wa_0, wa_1, il_cmp_o, il_cmp0, il_cmp1, il_cmp2, io_bit1, ibt0, ibt1, ibt00, ibt11, ibt10, ibt01, Int.ofNat_lt, Int.ofNat_le, Int.ofNat_inj, Nat.lt_irrefl, Int.lt_irrefl, Int.toNat_one, Int.toNat_zero, Bool.false_eq_true, reduceIte, reduceCtorEq, Nat.reduceAdd, Nat.reduceMul, Nat.reduceSub, Nat.reduceLT, Nat.reduceLeDiff, Nat.reduceEqDiff, Int.reduceNeg, Int.reduceAdd, Int.reduceMul, Int.reduceSub, Int.reduceLT, Int.reduceLE, Int.reduceEq, Int.reduceToNat, Int.reduceNatCast, hF, hT, hA, f1, f2, f3, f4, e, e3, e4, hlk, d3, g1, g2, ico, inz, wp_plus hg h2 k4, wp_minus hg h2 k4]
      exact wp_padd_tail hpp hg hG h hPo hD' o6 o2 (by omega) (by omega) (qmi_lt (by omega) hl) (Int.add_comm _ _) _ _ _ _ hQ
end SG
