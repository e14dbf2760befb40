/-! the model's components -/
theorem em_k {x y m k : Int} (h0 : 0 ≤ y) (h1 : y < m) (e : x = y + m * k) : x % m = y := by
  rw [e, Int.add_mul_emod_self_left]
  exact Int.emod_eq_of_lt h0 h1
theorem em_pl {m a b : Nat} (ha : a < m) (hb : b < m) : ((a : Int) + (b : Int)) % (m : Int) = (qpl m a b : Int) := by
  have := qpl_lt ha hb
  unfold qpl at *
  split at this
  · rename_i h
    rw [if_pos h]
    exact em_k (k := 1) (by omega) (by omega) (by omega)
  · rename_i h
    rw [if_neg h]
    exact em_k (k := 0) (by omega) (by omega) (by omega)
theorem em_mi {m a b : Nat} (ha : a < m) (hb : b < m) : ((a : Int) - (b : Int)) % (m : Int) = (qmi m a b : Int) := by
  have := qmi_lt ha hb
  unfold qmi at *
  split at this
  · rename_i h
    rw [if_pos h]
    exact em_k (k := -1) (by omega) (by omega) (by omega)
  · rename_i h
    rw [if_neg h]
    exact em_k (k := 0) (by omega) (by omega) (by omega)
theorem em_l {m a b c : Nat} (ha : a < m) (hb : b < m) (hc : c < m) : ((a : Int) + (b : Int) - (c : Int)) % (m : Int) = (qmi m (qpl m a b) c : Int) := by
  rw [← em_mi (qpl_lt ha hb) hc, ← em_pl ha hb, Int.emod_sub_emod]
theorem em_n {m a b : Nat} (ha : a < m) (hb : b < m) : ((a : Int) + -(b : Int)) % (m : Int) = (qpl m a (qmi m 0 b) : Int) := by
  rw [← em_pl ha (qmi_lt (by omega) hb), ← em_mi (by omega : 0 < m) hb, Int.add_emod_emod]
  congr 1
  omega
theorem tm_em {v m : Int} (hm : 1 ≤ m) : (v.tmod m + m).tmod m = v % m := by
  by_cases h : 0 ≤ v
  · rw [Int.tmod_eq_emod_of_nonneg h, Int.tmod_eq_emod_of_nonneg (by have := Int.emod_nonneg v (show m ≠ 0 by omega); omega), Int.add_emod_right, Int.emod_emod]
  · have h2 : v.tmod m = -((-v) % m) := by
      rw [← Int.tmod_eq_emod_of_nonneg (by omega), Int.neg_tmod, Int.neg_neg]
    have h3 := Int.emod_lt_of_pos (-v) (show 0 < m by omega)
    have h4 := Int.mul_ediv_add_emod (-v) m
    rw [h2, Int.tmod_eq_emod_of_nonneg (by omega), Int.add_emod_right]
    have h5 : -((-v) % m) = v + m * ((-v) / m) := by omega
    rw [h5, Int.add_mul_emod_self_left]
theorem tm_rg {v m : Int} (hm : 1 ≤ m) : -m < v.tmod m ∧ v.tmod m < m := by
  by_cases h : 0 ≤ v
  · rw [Int.tmod_eq_emod_of_nonneg h]
    have h1 := Int.emod_nonneg v (show m ≠ 0 by omega)
    have h2 := Int.emod_lt_of_pos v (show 0 < m by omega)
    omega
  · have h2 : v.tmod m = -((-v) % m) := by
      rw [← Int.tmod_eq_emod_of_nonneg (by omega), Int.neg_tmod, Int.neg_neg]
    have h3 := Int.emod_lt_of_pos (-v) (show 0 < m by omega)
    have h4 := Int.emod_nonneg (-v) (show m ≠ 0 by omega)
    omega
theorem it9 (a : Nat) : ((9 : Int) + (a : Int)).toNat = 9 + a := by omega
theorem it21 (a : Nat) : ((21 : Int) + (a : Int)).toNat = 21 + a := by omega
theorem it33 (a : Nat) : ((33 : Int) + (a : Int)).toNat = 33 + a := by omega
theorem it45 (a : Nat) : ((45 : Int) + (a : Int)).toNat = 45 + a := by omega
theorem it57 (a : Nat) : ((57 : Int) + (a : Int)).toNat = 57 + a := by omega
theorem it5 (a : Nat) : ((5 : Int) + (a : Int)).toNat = 5 + a := by omega
/-- the model's row is G -/
def q_R (R : Nat → Int) (G : q_G) : Prop := (R 0 = qN G ∧ R 1 = qM G ∧ R 2 = qK G ∧ R 3 = qS G ∧ R 4 = qL G) ∧ (∀ a, a < qK G → R (9 + a) = qF G a) ∧ (∀ a, a < qK G → R (21 + a) = qT G a) ∧ (∀ a, a < qK G → R (33 + a) = qA G a) ∧ (∀ a, a < qK G → R (45 + a) = qW G a) ∧ (∀ v, v < 8 → R (57 + v) = qP G v) ∧ (∀ t, t < 4 → R (5 + t) = qO G t)
/-- the model's components are P -/
def q_L (M : gg_M) (n : Nat) (P : q_P) : Prop := ∀ v, v < n → M 150 v = (pl P v : Int) ∧ M 151 v = (ph P v : Int) ∧ M 152 v = ((pb P v).toNat : Int)
section SG
variable {N : Nat} {xs : Nat → Int32} {d : Nat} {M : gg_M} {cc cs : Nat} {Q : gg_O → Prop} {G : q_G} {P : q_P}
theorem wp_rest {m : Nat} {v : Int} (hm : M 143 1 = (m : Int)) (hm1 : 1 ≤ m) (hm2 : m ≤ 12) (hv : -1000 ≤ v) (hv2 : v ≤ 1000) :
    wp N xs d 173 0 [gr 142, (0, v)] [] (gk_R, M, 158, cc, cs) Q ↔ Q ((1, (0, v % (m : Int))), (gk_R, M, 158, cc, cs)) := by
  have h1 := tm_rg (v := v) (m := m) (by omega)
  simp (contextual := true) (disch := first | assumption | omega | exact il_cqA _ _ | exact il_cqB _ _) only [wi_173_0, wi_173_1, wi_173_2, wi_173_5, wi_173_6, wi_173_7, wi_173_8, wi_173_9, wi_173_12, wi_173_13, wi_173_14, wi_173_15, wi_173_16, wi_173_19, wi_173_20, wi_173_21, wi_173_22, io_add_o, io_sub_o, io_mul_o, io_neg_o, io_and_r, io_or_r, io_xor_r, io_nd_r, io_shr_r, io_shl1, io_i2b_r, io_i2l_o, io_l2i_o, il_add_o, il_sub_o, il_mul_o, il_neg_o, ib_bit, Int.toNat_natCast, true_implies, false_implies, implies_true, and_true, true_and, and_self, not_true_eq_false, not_false_eq_true, wa_0, wa_1, il_cmp_o, il_cmp0, il_cmp1, il_cmp2, io_bit1, ibt0, ibt1, ibt00, ibt11, ibt10, ibt01, Int.ofNat_lt, Int.ofNat_le, Int.ofNat_inj, Nat.lt_irrefl, Int.lt_irrefl, Int.toNat_one, Int.toNat_zero, Bool.false_eq_true, reduceIte, reduceCtorEq, Nat.reduceAdd, Nat.reduceMul, Nat.reduceSub, Nat.reduceLT, Nat.reduceLeDiff, Nat.reduceEqDiff, Int.reduceNeg, Int.reduceAdd, Int.reduceMul, Int.reduceSub, Int.reduceLT, Int.reduceLE, Int.reduceEq, Int.reduceToNat, Int.reduceNatCast, hm, tm_em]
  rw [tm_em (by omega)]
theorem wp_in {a b c : Int} (ha : -4000000000 ≤ a) (ha2 : a ≤ 4000000000) (hb : -4000000000 ≤ b) (hb2 : b ≤ 4000000000) (hc : -4000000000 ≤ c) (hc2 : c ≤ 4000000000) :
    wp N xs d 163 0 [(1, a), (3, 0), (1, b), (3, 0), (1, c), (3, 0)] [] (gk_R, M, 158, cc, cs) Q ↔ Q ((1, (0, if b ≤ a ∧ a ≤ c then 1 else 0)), (gk_R, M, 158, cc, cs)) := by
  refine wp_det ?_
  by_cases h1 : b ≤ a
  · by_cases h2 : a ≤ c
    · rw [if_pos ⟨h1, h2⟩]
      simp (contextual := true) (disch := first | assumption | omega | exact il_cqA _ _ | exact il_cqB _ _) only [wi_163_0, wi_163_1, wi_163_2, wi_163_3, wi_163_6, wi_163_7, wi_163_9, wi_163_10, wi_163_13, wi_163_14, wi_163_17, wi_163_18, io_add_o, io_sub_o, io_mul_o, io_neg_o, io_and_r, io_or_r, io_xor_r, io_nd_r, io_shr_r, io_shl1, io_i2b_r, io_i2l_o, io_l2i_o, il_add_o, il_sub_o, il_mul_o, il_neg_o, ib_bit, Int.toNat_natCast, true_implies, false_implies, implies_true, and_true, true_and, and_self, not_true_eq_false, not_false_eq_true, wa_0, wa_1, il_cmp_o, il_cmp0, il_cmp1, il_cmp2, io_bit1, ibt0, ibt1, ibt00, ibt11, ibt10, ibt01, Int.ofNat_lt, Int.ofNat_le, Int.ofNat_inj, Nat.lt_irrefl, Int.lt_irrefl, Int.toNat_one, Int.toNat_zero, Bool.false_eq_true, reduceIte, reduceCtorEq, Nat.reduceAdd, Nat.reduceMul, Nat.reduceSub, Nat.reduceLT, Nat.reduceLeDiff, Nat.reduceEqDiff, Int.reduceNeg, Int.reduceAdd, Int.reduceMul, Int.reduceSub, Int.reduceLT, Int.reduceLE, Int.reduceEq, Int.reduceToNat, Int.reduceNatCast, show ¬ a < b by omega, show ¬ c < a by omega]
    · rw [if_neg (fun h => h2 h.2)]
      simp (contextual := true) (disch := first | assumption | omega | exact il_cqA _ _ | exact il_cqB _ _) only [wi_163_0, wi_163_1, wi_163_2, wi_163_3, wi_163_6, wi_163_7, wi_163_9, wi_163_10, wi_163_13, wi_163_14, wi_163_17, wi_163_18, io_add_o, io_sub_o, io_mul_o, io_neg_o, io_and_r, io_or_r, io_xor_r, io_nd_r, io_shr_r, io_shl1, io_i2b_r, io_i2l_o, io_l2i_o, il_add_o, il_sub_o, il_mul_o, il_neg_o, ib_bit, Int.toNat_natCast, true_implies, false_implies, implies_true, and_true, true_and, and_self, not_true_eq_false, not_false_eq_true, wa_0, wa_1, il_cmp_o, il_cmp0, il_cmp1, il_cmp2, io_bit1, ibt0, ibt1, ibt00, ibt11, ibt10, ibt01, Int.ofNat_lt, Int.ofNat_le, Int.ofNat_inj, Nat.lt_irrefl, Int.lt_irrefl, Int.toNat_one, Int.toNat_zero, Bool.false_eq_true, reduceIte, reduceCtorEq, Nat.reduceAdd, Nat.reduceMul, Nat.reduceSub, Nat.reduceLT, Nat.reduceLeDiff, Nat.reduceEqDiff, Int.reduceNeg, Int.reduceAdd, Int.reduceMul, Int.reduceSub, Int.reduceLT, Int.reduceLE, Int.reduceEq, Int.reduceToNat, Int.reduceNatCast, show ¬ a < b by omega, show c < a by omega]
  · rw [if_neg (fun h => h1 h.1)]
    simp (contextual := true) (disch := first | assumption | omega | exact il_cqA _ _ | exact il_cqB _ _) only [wi_163_0, wi_163_1, wi_163_2, wi_163_3, wi_163_6, wi_163_7, wi_163_9, wi_163_10, wi_163_13, wi_163_14, wi_163_17, wi_163_18, io_add_o, io_sub_o, io_mul_o, io_neg_o, io_and_r, io_or_r, io_xor_r, io_nd_r, io_shr_r, io_shl1, io_i2b_r, io_i2l_o, io_l2i_o, il_add_o, il_sub_o, il_mul_o, il_neg_o, ib_bit, Int.toNat_natCast, true_implies, false_implies, implies_true, and_true, true_and, and_self, not_true_eq_false, not_false_eq_true, wa_0, wa_1, il_cmp_o, il_cmp0, il_cmp1, il_cmp2, io_bit1, ibt0, ibt1, ibt00, ibt11, ibt10, ibt01, Int.ofNat_lt, Int.ofNat_le, Int.ofNat_inj, Nat.lt_irrefl, Int.lt_irrefl, Int.toNat_one, Int.toNat_zero, Bool.false_eq_true, reduceIte, reduceCtorEq, Nat.reduceAdd, Nat.reduceMul, Nat.reduceSub, Nat.reduceLT, Nat.reduceLeDiff, Nat.reduceEqDiff, Int.reduceNeg, Int.reduceAdd, Int.reduceMul, Int.reduceSub, Int.reduceLT, Int.reduceLE, Int.reduceEq, Int.reduceToNat, Int.reduceNatCast, show a < b by omega]
theorem wp_mmerge {hi lo lift : Nat} {b : Int} (hm0 : M 143 0 = (qN G : Int)) (hm : M 143 1 = (qM G : Int)) (hG : q_ok G) (hP : p_ok (qM G) P) (hL : q_L M (qN G) P) (hlh : lo < hi) (hn : hi < qN G) (hb : -12 ≤ b) (hb2 : b ≤ 12) (hlift : lift < qM G) (hbl : ∀ x, x < qM G → ((x : Int) + b) % (qM G : Int) = (qpl (qM G) x lift : Int)) (l4 : gg_V) (hQ : ∀ M' : gg_M, (∀ j, j ≠ 150 → j ≠ 151 → j ≠ 152 → M' j = M j) → q_L M' (qN G) (pmg (qM G) P hi lo lift) → Q ((0, (3, 0)), (gk_R, M', 158, cc, cs))) :
    wp N xs (d + 1) 197 0 [gr 142, (0, (hi : Int)), (0, (lo : Int)), (0, b), l4] [] (gk_R, M, 158, cc, cs) Q := by
  obtain ⟨⟨k1, k2, k3, k4, k5, k6, k7, k8⟩, hk, hp, hp2⟩ := id hG
  simp (contextual := true) (disch := first | assumption | omega | exact il_cqA _ _ | exact il_cqB _ _) only [wi_197_0, wi_197_1, wi_197_5, wi_197_6, wi_197_9, wi_197_10, wi_197_11, wi_197_14, wi_197_15, wi_197_18, wi_197_20, wi_197_21, wi_197_22, wi_197_25, wi_197_26, wi_197_29, wi_197_31, wi_197_32, wi_197_33, wi_197_34, wi_197_37, wi_197_39, wi_197_40, wi_197_41, wi_197_44, wi_197_46, wi_197_47, wi_197_48, wi_197_49, wi_197_52, wi_197_53, wi_197_56, wi_197_59, wi_197_60, wi_197_63, wi_197_64, wi_197_65, wi_197_68, wi_197_69, wi_197_70, wi_197_73, wi_197_74, wi_197_77, wi_197_78, wi_197_79, wi_197_82, wi_197_83, wi_197_86, wi_197_87, wi_197_88, io_add_o, io_sub_o, io_mul_o, io_neg_o, io_and_r, io_or_r, io_xor_r, io_nd_r, io_shr_r, io_shl1, io_i2b_r, io_i2l_o, io_l2i_o, il_add_o, il_sub_o, il_mul_o, il_neg_o, ib_bit, Int.toNat_natCast, true_implies, false_implies, implies_true, and_true, true_and, and_self, not_true_eq_false, not_false_eq_true, wa_0, wa_1, il_cmp_o, il_cmp0, il_cmp1, il_cmp2, io_bit1, ibt0, ibt1, ibt00, ibt11, ibt10, ibt01, Int.ofNat_lt, Int.ofNat_le, Int.ofNat_inj, Nat.lt_irrefl, Int.lt_irrefl, Int.toNat_one, Int.toNat_zero, Bool.false_eq_true, reduceIte, reduceCtorEq, Nat.reduceAdd, Nat.reduceMul, Nat.reduceSub, Nat.reduceLT, Nat.reduceLeDiff, Nat.reduceEqDiff, Int.reduceNeg, Int.reduceAdd, Int.reduceMul, Int.reduceSub, Int.reduceLT, Int.reduceLE, Int.reduceEq, Int.reduceToNat, Int.reduceNatCast]
  refine wl_i (P := fun i I => ∀ M' : gg_M, (∀ j, j ≠ 150 → j ≠ 151 → M' j = M j) → (∀ v, v < qN G → M' 150 v = ((if v < i then pl (pmg (qM G) P hi lo lift) v else pl P v : Nat) : Int) ∧ M' 151 v = ((if v < i then ph (pmg (qM G) P hi lo lift) v else ph P v : Nat) : Int)) → wp N xs (d + 1) 197 3 [gr 142, (0, (hi : Int)), (0, (lo : Int)), (0, b), (0, I)] [] (gk_R, M', 158, cc, cs) Q) (qN G) (fun i hi' ih M' hM hv => ?_) (fun M' hM hv => ?_) M (fun _ _ _ => rfl) (fun v hv => ⟨by rw [if_neg (Nat.not_lt_zero v)]; exact (hL v hv).1, by rw [if_neg (Nat.not_lt_zero v)]; exact (hL v hv).2.1⟩)
  · have hvi := hv i hi'
    rw [if_neg (Nat.lt_irrefl i), if_neg (Nat.lt_irrefl i)] at hvi
    obtain ⟨v1, v2⟩ := hvi
    have e0 : M' 143 = M 143 := hM 143 (by decide) (by decide)
    have hok := hP i
    rw [wi_197_3]
    by_cases e : pl P i = hi
    · have hm' : gg_up M' 150 i (lo : Int) 143 1 = (qM G : Int) := by rw [gu_n (by decide), e0]; exact hm
      simp (contextual := true) (disch := first | assumption | omega | exact il_cqA _ _ | exact il_cqB _ _) only [wi_197_0, wi_197_1, wi_197_5, wi_197_6, wi_197_9, wi_197_10, wi_197_11, wi_197_14, wi_197_15, wi_197_18, wi_197_20, wi_197_21, wi_197_22, wi_197_25, wi_197_26, wi_197_29, wi_197_31, wi_197_32, wi_197_33, wi_197_34, wi_197_37, wi_197_39, wi_197_40, wi_197_41, wi_197_44, wi_197_46, wi_197_47, wi_197_48, wi_197_49, wi_197_52, wi_197_53, wi_197_56, wi_197_59, wi_197_60, wi_197_63, wi_197_64, wi_197_65, wi_197_68, wi_197_69, wi_197_70, wi_197_73, wi_197_74, wi_197_77, wi_197_78, wi_197_79, wi_197_82, wi_197_83, wi_197_86, wi_197_87, wi_197_88, io_add_o, io_sub_o, io_mul_o, io_neg_o, io_and_r, io_or_r, io_xor_r, io_nd_r, io_shr_r, io_shl1, io_i2b_r, io_i2l_o, io_l2i_o, il_add_o, il_sub_o, il_mul_o, il_neg_o, ib_bit, Int.toNat_natCast, true_implies, false_implies, implies_true, and_true, true_and, and_self, not_true_eq_false, not_false_eq_true, wa_0, wa_1, il_cmp_o, il_cmp0, il_cmp1, il_cmp2, io_bit1, ibt0, ibt1, ibt00, ibt11, ibt10, ibt01, Int.ofNat_lt, Int.ofNat_le, Int.ofNat_inj, Nat.lt_irrefl, Int.lt_irrefl, Int.toNat_one, Int.toNat_zero, Bool.false_eq_true, reduceIte, reduceCtorEq, Nat.reduceAdd, Nat.reduceMul, Nat.reduceSub, Nat.reduceLT, Nat.reduceLeDiff, Nat.reduceEqDiff, Int.reduceNeg, Int.reduceAdd, Int.reduceMul, Int.reduceSub, Int.reduceLT, Int.reduceLE, Int.reduceEq, Int.reduceToNat, Int.reduceNatCast, hi', v1, v2, e, e0, hm0, gu_n, hbl, wp_rest (M := gg_up M' 150 i (lo : Int)) hm' k3 k4]
      refine ih _ (fun j h1 h2 => ?_) (fun v hv' => ?_)
      · rw [gu_n h2, gu_n h1, hM j h1 h2]
      · have := hv v hv'
        have := hbl (ph P i) hok.2.2.1
        rw [gu_n (by omega), pl_mg, ph_mg]
        simp only [gu]
        rw [pl_mg, ph_mg] at this
        grind
    · simp (contextual := true) (disch := first | assumption | omega | exact il_cqA _ _ | exact il_cqB _ _) only [wi_197_0, wi_197_1, wi_197_5, wi_197_6, wi_197_9, wi_197_10, wi_197_11, wi_197_14, wi_197_15, wi_197_18, wi_197_20, wi_197_21, wi_197_22, wi_197_25, wi_197_26, wi_197_29, wi_197_31, wi_197_32, wi_197_33, wi_197_34, wi_197_37, wi_197_39, wi_197_40, wi_197_41, wi_197_44, wi_197_46, wi_197_47, wi_197_48, wi_197_49, wi_197_52, wi_197_53, wi_197_56, wi_197_59, wi_197_60, wi_197_63, wi_197_64, wi_197_65, wi_197_68, wi_197_69, wi_197_70, wi_197_73, wi_197_74, wi_197_77, wi_197_78, wi_197_79, wi_197_82, wi_197_83, wi_197_86, wi_197_87, wi_197_88, io_add_o, io_sub_o, io_mul_o, io_neg_o, io_and_r, io_or_r, io_xor_r, io_nd_r, io_shr_r, io_shl1, io_i2b_r, io_i2l_o, io_l2i_o, il_add_o, il_sub_o, il_mul_o, il_neg_o, ib_bit, Int.toNat_natCast, true_implies, false_implies, implies_true, and_true, true_and, and_self, not_true_eq_false, not_false_eq_true, wa_0, wa_1, il_cmp_o, il_cmp0, il_cmp1, il_cmp2, io_bit1, ibt0, ibt1, ibt00, ibt11, ibt10, ibt01, Int.ofNat_lt, Int.ofNat_le, Int.ofNat_inj, Nat.lt_irrefl, Int.lt_irrefl, Int.toNat_one, Int.toNat_zero, Bool.false_eq_true, reduceIte, reduceCtorEq, Nat.reduceAdd, Nat.reduceMul, Nat.reduceSub, Nat.reduceLT, Nat.reduceLeDiff, Nat.reduceEqDiff, Int.reduceNeg, Int.reduceAdd, Int.reduceMul, Int.reduceSub, Int.reduceLT, Int.reduceLE, Int.reduceEq, Int.reduceToNat, Int.reduceNatCast, hi', v1, v2, e, e0, hm0]
      refine ih _ hM (fun v hv' => ?_)
      have := hv v hv'
      rw [pl_mg, ph_mg]
      rw [pl_mg, ph_mg] at this
      grind
  · have e0 : M' 143 = M 143 := hM 143 (by decide) (by decide)
    have e1 : M' 152 = M 152 := hM 152 (by decide) (by decide)
    have c1 := (hL lo (by omega)).2.2
    have c2 := (hL hi hn).2.2
    have hfin : ∀ x : Int, x = ((pb P lo && pb P hi).toNat : Int) → Q ((0, (3, 0)), (gk_R, gg_up M' 152 lo x, 158, cc, cs)) := by
      intro x hx
      refine hQ _ (fun j h1 h2 h3 => by rw [gu_n h3, hM j h1 h2]) (fun v hv' => ?_)
      have := hv v hv'
      rw [if_pos hv', if_pos hv'] at this
      rw [gu_n (by decide), gu_n (by decide), this.1, this.2, gu, pb_mg, e1]
      refine ⟨rfl, rfl, ?_⟩
      by_cases e : v = lo
      · rw [if_pos ⟨rfl, e⟩, if_pos e, hx]
      · rw [if_neg (fun h => e h.2), if_neg e]
        exact (hL v hv').2.2
    rw [wi_197_3]
    cases b1 : pb P lo <;> cases b2 : pb P hi <;> rw [b1] at c1 <;> rw [b2] at c2
    all_goals
      simp (contextual := true) (disch := first | assumption | omega | exact il_cqA _ _ | exact il_cqB _ _) only [wi_197_0, wi_197_1, wi_197_5, wi_197_6, wi_197_9, wi_197_10, wi_197_11, wi_197_14, wi_197_15, wi_197_18, wi_197_20, wi_197_21, wi_197_22, wi_197_25, wi_197_26, wi_197_29, wi_197_31, wi_197_32, wi_197_33, wi_197_34, wi_197_37, wi_197_39, wi_197_40, wi_197_41, wi_197_44, wi_197_46, wi_197_47, wi_197_48, wi_197_49, wi_197_52, wi_197_53, wi_197_56, wi_197_59, wi_197_60, wi_197_63, wi_197_64, wi_197_65, wi_197_68, wi_197_69, wi_197_70, wi_197_73, wi_197_74, wi_197_77, wi_197_78, wi_197_79, wi_197_82, wi_197_83, wi_197_86, wi_197_87, wi_197_88, io_add_o, io_sub_o, io_mul_o, io_neg_o, io_and_r, io_or_r, io_xor_r, io_nd_r, io_shr_r, io_shl1, io_i2b_r, io_i2l_o, io_l2i_o, il_add_o, il_sub_o, il_mul_o, il_neg_o, ib_bit, Int.toNat_natCast, true_implies, false_implies, implies_true, and_true, true_and, and_self, not_true_eq_false, not_false_eq_true, wa_0, wa_1, il_cmp_o, il_cmp0, il_cmp1, il_cmp2, io_bit1, ibt0, ibt1, ibt00, ibt11, ibt10, ibt01, Int.ofNat_lt, Int.ofNat_le, Int.ofNat_inj, Nat.lt_irrefl, Int.lt_irrefl, Int.toNat_one, Int.toNat_zero, Bool.false_eq_true, reduceIte, reduceCtorEq, Nat.reduceAdd, Nat.reduceMul, Nat.reduceSub, Nat.reduceLT, Nat.reduceLeDiff, Nat.reduceEqDiff, Int.reduceNeg, Int.reduceAdd, Int.reduceMul, Int.reduceSub, Int.reduceLT, Int.reduceLE, Int.reduceEq, Int.reduceToNat, Int.reduceNatCast, e0, e1, hm0, c1, c2, ico]
      exact hfin _ (by rw [b1, b2]; rfl)
theorem wp_joinsBy (hR : q_R (M 143) G) (hG : q_ok G) (hP : p_ok (qM G) P) (hL : q_L M (qN G) P) {a : Nat} (ha : a < qK G) (l2 l3 l4 : gg_V) (hQ : ∀ M' : gg_M, (∀ j, j ≠ 150 → j ≠ 151 → j ≠ 152 → M' j = M j) → q_L M' (qN G) (pj G P a) → Q ((0, (3, 0)), (gk_R, M', 158, cc, cs))) :
    wp N xs (d + 2) 198 0 [gr 142, (0, (a : Int)), l2, l3, l4] [] (gk_R, M, 158, cc, cs) Q := by
  obtain ⟨⟨k1, k2, k3, k4, k5, k6, k7, k8⟩, hk, hp, hp2⟩ := id hG
  obtain ⟨⟨h1, h2, h3, h4, h5⟩, hF, hT, hA, hW, hPa, hO⟩ := id hR
  obtain ⟨a1, a2, a3, _⟩ := hk a ha
  obtain ⟨f1, f3, f5⟩ := hL (qF G a) a1
  obtain ⟨f2, f4, f6⟩ := hL (qT G a) a2
  obtain ⟨o1, o2, o3, _⟩ := hP (qF G a)
  obtain ⟨o5, o6, o7, _⟩ := hP (qT G a)
  have hl := plk_lt hG hP ha
  have e0 := em_l o3 a3 o7
  have hF := hF a ha
  have hT := hT a ha
  have hA := hA a ha
  unfold pj at hQ
  by_cases e : pl P (qF G a) = pl P (qT G a)
  · rw [if_pos e] at hQ
    sorry
  · rw [if_neg e] at hQ
    by_cases e2 : pl P (qF G a) < pl P (qT G a)
    · rw [if_pos e2] at hQ
      simp (contextual := true) (disch := first | assumption | omega | exact il_cqA _ _ | exact il_cqB _ _) only [wi_198_0, wi_198_1, wi_198_4, wi_198_6, wi_198_7, wi_198_8, wi_198_9, wi_198_10, wi_198_11, wi_198_14, wi_198_16, wi_198_17, wi_198_18, wi_198_19, wi_198_20, wi_198_21, wi_198_22, wi_198_25, wi_198_26, wi_198_27, wi_198_28, wi_198_31, wi_198_33, wi_198_34, wi_198_35, wi_198_36, wi_198_37, wi_198_38, wi_198_41, wi_198_42, wi_198_43, wi_198_44, wi_198_47, wi_198_49, wi_198_50, wi_198_53, wi_198_54, wi_198_55, wi_198_56, wi_198_59, wi_198_60, wi_198_61, wi_198_64, wi_198_65, wi_198_68, wi_198_69, wi_198_72, wi_198_73, wi_198_74, wi_198_75, wi_198_78, wi_198_79, wi_198_82, wi_198_83, wi_198_84, wi_198_85, wi_198_88, wi_198_90, wi_198_93, wi_198_94, wi_198_97, wi_198_98, wi_198_99, wi_198_102, wi_198_103, wi_198_106, wi_198_107, wi_198_108, wi_198_109, wi_198_112, wi_198_113, wi_198_114, wi_198_117, wi_198_118, wi_198_119, wi_198_122, wi_198_123, wi_198_124, wi_198_125, wi_198_128, wi_198_129, wi_198_130, wi_198_132, wi_198_135, wi_198_138, wi_198_139, wi_198_140, wi_198_143, wi_198_144, wi_198_145, wi_198_146, wi_198_149, wi_198_150, wi_198_151, wi_198_153, wi_198_154, wi_198_157, io_add_o, io_sub_o, io_mul_o, io_neg_o, io_and_r, io_or_r, io_xor_r, io_nd_r, io_shr_r, io_shl1, io_i2b_r, io_i2l_o, io_l2i_o, il_add_o, il_sub_o, il_mul_o, il_neg_o, ib_bit, Int.toNat_natCast, true_implies, false_implies, implies_true, and_true, true_and, and_self, not_true_eq_false, not_false_eq_true, wa_0, wa_1, il_cmp_o, il_cmp0, il_cmp1, il_cmp2, io_bit1, ibt0, ibt1, ibt00, ibt11, ibt10, ibt01, Int.ofNat_lt, Int.ofNat_le, Int.ofNat_inj, Nat.lt_irrefl, Int.lt_irrefl, Int.toNat_one, Int.toNat_zero, Bool.false_eq_true, reduceIte, reduceCtorEq, Nat.reduceAdd, Nat.reduceMul, Nat.reduceSub, Nat.reduceLT, Nat.reduceLeDiff, Nat.reduceEqDiff, Int.reduceNeg, Int.reduceAdd, Int.reduceMul, Int.reduceSub, Int.reduceLT, Int.reduceLE, Int.reduceEq, Int.reduceToNat, Int.reduceNatCast, it9, it21, it33, hF, hT, hA, f1, f2, f3, f4, e, e2, e0, wp_rest h2 k3 k4]
      sorry
    · rw [if_neg e2] at hQ
      sorry
end SG
