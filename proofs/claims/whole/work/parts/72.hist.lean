/-! what was: the class's ring, the model's rows -/
/-- the latest graphs in the class's ring -/
def qs_H (M : gg_M) (n : Nat) (H : Nat → q_G) : Prop := ∃ x : Nat, x < 8 ∧ M 16 1 = (x : Int) ∧ M 16 2 = (n : Int) ∧ n ≤ 8 ∧ ∀ j, j < n → q_C M (18 + 7 * ((x + 7 - j) % 8)) (H j)
/-- the latest graphs in the model's rows -/
def qm_H (M : gg_M) (n : Nat) (H : Nat → q_G) : Prop := M 142 6 = (n : Int) ∧ n ≤ 8 ∧ ∀ j, j < n → q_R (fun k => M 146 (65 * (n - 1 - j) + k)) (H j)
/-- one more -/
def qkeep (G : q_G) (H : Nat → q_G) : Nat → q_G := fun j => if j = 0 then G else H (j - 1)
theorem q_R_congr {R R' : Nat → Int} {G : q_G} (hG : q_ok G) (h : q_R R G) (he : ∀ k, k < 65 → R' k = R k) : q_R R' G := by
  have k5 := hG.1.2.2.2.2.1
  obtain ⟨⟨h1, h2, h3, h4, h5⟩, hF, hT, hA, hW, hPa, hO⟩ := h
  refine ⟨⟨?_, ?_, ?_, ?_, ?_⟩, fun a ha => ?_, fun a ha => ?_, fun a ha => ?_, fun a ha => ?_, fun v hv => ?_, fun t ht => ?_⟩
  · rw [he 0 (by omega)]; exact h1
  · rw [he 1 (by omega)]; exact h2
  · rw [he 2 (by omega)]; exact h3
  · rw [he 3 (by omega)]; exact h4
  · rw [he 4 (by omega)]; exact h5
  · rw [he (9 + a) (by omega)]; exact hF a ha
  · rw [he (21 + a) (by omega)]; exact hT a ha
  · rw [he (33 + a) (by omega)]; exact hA a ha
  · rw [he (45 + a) (by omega)]; exact hW a ha
  · rw [he (57 + v) (by omega)]; exact hPa v hv
  · rw [he (5 + t) (by omega)]; exact hO t ht
theorem io_and7 : ∀ x : Fin 8, io_and ((x.1 : Int) - 1) 7 = (((x.1 + 7) % 8 : Nat) : Int) := by decide +kernel
section SG
variable {N : Nat} {xs : Nat → Int32} {d : Nat} {M : gg_M} {cc cs : Nat} {Q : gg_O → Prop} {G : q_G} {H : Nat → q_G} {n : Nat}
theorem wp_hkeep (hG : q_ok G) (hC : q_C M 2 G) (hH : qs_H M n H) (hQ : ∀ M' : gg_M, (∀ j, j < 16 ∨ 73 < j → M' j = M j) → qs_H M' (min (n + 1) 8) (qkeep G H) → Q ((0, (3, 0)), (gk_R, M', 158, cc, cs))) :
    wp N xs (d + 1) 28 0 [gr 16, gr 2] [] (gk_R, M, 158, cc, cs) Q := by
  obtain ⟨x, hx, hx1, hn1, hn8, hC8⟩ := hH
  have n0 : x &&& 7 = x := by
    have := Nat.and_two_pow_sub_one_eq_mod x 3
    rw [show (2 : Nat) ^ 3 - 1 = 7 from rfl] at this
    omega
  have n1 : (x + 1) &&& 7 = (x + 1) % 8 := by
    have := Nat.and_two_pow_sub_one_eq_mod (x + 1) 3
    rw [show (2 : Nat) ^ 3 - 1 = 7 from rfl] at this
    omega
  have hgx : gs_G (18 + 7 * x) := gs_g17 hx
  have hg2 := gs_G2_
  simp (disch := first | assumption | omega | exact il_cqA _ _ | exact il_cqB _ _) only [wi_28_0, wi_28_1, wi_28_4, wi_28_5, wi_28_8, wi_28_10, wi_28_11, wi_28_12, wi_28_13, wi_28_16, wi_28_17, wi_28_18, wi_28_21, wi_28_22, wi_28_23, wi_28_25, wi_28_26, wi_28_29, wi_28_30, wi_28_31, wi_28_34, wi_28_35, wi_28_36, wi_28_38, wi_28_41, wi_28_44, io_add_o, io_sub_o, io_mul_o, io_neg_o, io_and_r, io_or_r, io_xor_r, io_nd_r, io_shr_r, io_shl1, io_i2b_r, io_i2l_o, io_l2i_o, il_add_o, il_sub_o, il_mul_o, il_neg_o, ib_bit, Int.toNat_natCast, true_implies, false_implies, implies_true, and_true, true_and, and_self, not_true_eq_false, not_false_eq_true, wa_0, wa_1, il_cmp_o, il_cmp0, il_cmp1, il_cmp2, io_bit1, ibt0, ibt1, ibt00, ibt11, ibt10, ibt01, Int.ofNat_lt, Int.ofNat_le, Int.ofNat_inj, Nat.lt_irrefl, Int.lt_irrefl, Int.toNat_one, Int.toNat_zero, Bool.false_eq_true, reduceIte, reduceCtorEq, Nat.reduceAdd, Nat.reduceMul, Nat.reduceSub, Nat.reduceLT, Nat.reduceLeDiff, Nat.reduceEqDiff, Int.reduceNeg, Int.reduceAdd, Int.reduceMul, Int.reduceSub, Int.reduceLT, Int.reduceLE, Int.reduceEq, Int.reduceToNat, Int.reduceNatCast, icl, ico, inz, hx1, n0]
  refine wp_copyFrom hgx hg2 (by omega) hG hC (fun M1 hM1 hC1 => ?_)
  have e16 : M1 16 = M 16 := hM1 16 (by omega)
  have hfin : ∀ s : Int, s = ((min (n + 1) 8 : Nat) : Int) → Q ((0, (3, 0)), (gk_R, gg_up (gg_up M1 16 1 (((x + 1) % 8 : Nat) : Int)) 16 2 s, 158, cc, cs)) := by
    intro s hs
    refine hQ _ (fun j hj => by rw [gu_n (by omega), gu_n (by omega), hM1 j (by omega)]) ⟨(x + 1) % 8, by omega, ?_, ?_, by omega, fun j hj => ?_⟩
    · rw [gu_s (by decide), gu_e]
    · rw [gu_e, hs]
    · unfold qkeep
      by_cases e : j = 0
      · subst e
        rw [if_pos rfl, show ((x + 1) % 8 + 7 - 0) % 8 = x by omega]
        exact q_C_e hC1 fun i h1 h2 => by rw [gu_n (by omega), gu_n (by omega)]
      · rw [if_neg e]
        have e2 : ((x + 1) % 8 + 7 - j) % 8 = (x + 7 - (j - 1)) % 8 := by omega
        have e3 : (x + 7 - (j - 1)) % 8 ≠ x := by omega
        have e4 : (x + 7 - (j - 1)) % 8 < 8 := by omega
        rw [e2]
        refine q_C_e (hC8 (j - 1) (by omega)) fun i h1 h2 => ?_
        generalize (x + 7 - (j - 1)) % 8 = y at *
        rw [gu_n (by omega), gu_n (by omega), hM1 i (by omega)]
  by_cases e : n + 1 ≤ 8
  · have e1 : (n : Int) + 1 ≤ 8 := by omega
    simp (disch := first | assumption | omega | exact il_cqA _ _ | exact il_cqB _ _) only [wi_28_0, wi_28_1, wi_28_4, wi_28_5, wi_28_8, wi_28_10, wi_28_11, wi_28_12, wi_28_13, wi_28_16, wi_28_17, wi_28_18, wi_28_21, wi_28_22, wi_28_23, wi_28_25, wi_28_26, wi_28_29, wi_28_30, wi_28_31, wi_28_34, wi_28_35, wi_28_36, wi_28_38, wi_28_41, wi_28_44, io_add_o, io_sub_o, io_mul_o, io_neg_o, io_and_r, io_or_r, io_xor_r, io_nd_r, io_shr_r, io_shl1, io_i2b_r, io_i2l_o, io_l2i_o, il_add_o, il_sub_o, il_mul_o, il_neg_o, ib_bit, Int.toNat_natCast, true_implies, false_implies, implies_true, and_true, true_and, and_self, not_true_eq_false, not_false_eq_true, wa_0, wa_1, il_cmp_o, il_cmp0, il_cmp1, il_cmp2, io_bit1, ibt0, ibt1, ibt00, ibt11, ibt10, ibt01, Int.ofNat_lt, Int.ofNat_le, Int.ofNat_inj, Nat.lt_irrefl, Int.lt_irrefl, Int.toNat_one, Int.toNat_zero, Bool.false_eq_true, reduceIte, reduceCtorEq, Nat.reduceAdd, Nat.reduceMul, Nat.reduceSub, Nat.reduceLT, Nat.reduceLeDiff, Nat.reduceEqDiff, Int.reduceNeg, Int.reduceAdd, Int.reduceMul, Int.reduceSub, Int.reduceLT, Int.reduceLE, Int.reduceEq, Int.reduceToNat, Int.reduceNatCast, icl, ico, inz, e16, hx1, hn1, it1, n1, gu_s, gu_e, e1]
    exact hfin _ (by omega)
  · have e1 : ¬ (n : Int) + 1 ≤ 8 := by omega
    simp (disch := first | assumption | omega | exact il_cqA _ _ | exact il_cqB _ _) only [wi_28_0, wi_28_1, wi_28_4, wi_28_5, wi_28_8, wi_28_10, wi_28_11, wi_28_12, wi_28_13, wi_28_16, wi_28_17, wi_28_18, wi_28_21, wi_28_22, wi_28_23, wi_28_25, wi_28_26, wi_28_29, wi_28_30, wi_28_31, wi_28_34, wi_28_35, wi_28_36, wi_28_38, wi_28_41, wi_28_44, io_add_o, io_sub_o, io_mul_o, io_neg_o, io_and_r, io_or_r, io_xor_r, io_nd_r, io_shr_r, io_shl1, io_i2b_r, io_i2l_o, io_l2i_o, il_add_o, il_sub_o, il_mul_o, il_neg_o, ib_bit, Int.toNat_natCast, true_implies, false_implies, implies_true, and_true, true_and, and_self, not_true_eq_false, not_false_eq_true, wa_0, wa_1, il_cmp_o, il_cmp0, il_cmp1, il_cmp2, io_bit1, ibt0, ibt1, ibt00, ibt11, ibt10, ibt01, Int.ofNat_lt, Int.ofNat_le, Int.ofNat_inj, Nat.lt_irrefl, Int.lt_irrefl, Int.toNat_one, Int.toNat_zero, Bool.false_eq_true, reduceIte, reduceCtorEq, Nat.reduceAdd, Nat.reduceMul, Nat.reduceSub, Nat.reduceLT, Nat.reduceLeDiff, Nat.reduceEqDiff, Int.reduceNeg, Int.reduceAdd, Int.reduceMul, Int.reduceSub, Int.reduceLT, Int.reduceLE, Int.reduceEq, Int.reduceToNat, Int.reduceNatCast, icl, ico, inz, e16, hx1, hn1, it1, n1, gu_s, gu_e, e1]
    exact hfin _ (by omega)
theorem wp_htake (hn0 : 1 ≤ n) (hH : qs_H M n H) (hok : ∀ j, j < n → q_ok (H j)) (hQ : ∀ M' : gg_M, (∀ j, j < 2 ∨ 8 < j → j ≠ 16 → M' j = M j) → q_C M' 2 (H 0) → qs_H M' (n - 1) (fun j => H (j + 1)) → Q ((0, (3, 0)), (gk_R, M', 158, cc, cs))) :
    wp N xs (d + 1) 29 0 [gr 16, gr 2] [] (gk_R, M, 158, cc, cs) Q := by
  obtain ⟨x, hx, hx1, hn1, hn8, hC8⟩ := hH
  have n7 : (x + 7) % 8 &&& 7 = (x + 7) % 8 := by
    have := Nat.and_two_pow_sub_one_eq_mod ((x + 7) % 8) 3
    rw [show (2 : Nat) ^ 3 - 1 = 7 from rfl] at this
    omega
  have nm := io_and7 ⟨x, hx⟩
  simp only at nm
  have hy : (x + 7) % 8 < 8 := by omega
  have hgx : gs_G (18 + 7 * ((x + 7) % 8)) := gs_g17 hy
  have hg2 := gs_G2_
  have h0 := hC8 0 (by omega)
  rw [Nat.sub_zero] at h0
  have hyl : ((((x + 7) % 8 : Nat) : Int)) < 8 := by omega
  have hG0 := hok 0 (by omega)
  simp (disch := first | assumption | omega | exact il_cqA _ _ | exact il_cqB _ _) only [wi_29_0, wi_29_1, wi_29_2, wi_29_5, wi_29_6, wi_29_7, wi_29_9, wi_29_10, wi_29_13, wi_29_14, wi_29_15, wi_29_18, wi_29_19, wi_29_22, wi_29_24, wi_29_25, wi_29_26, wi_29_29, wi_29_30, wi_29_31, wi_29_34, wi_29_35, wi_29_36, wi_29_39, io_add_o, io_sub_o, io_mul_o, io_neg_o, io_and_r, io_or_r, io_xor_r, io_nd_r, io_shr_r, io_shl1, io_i2b_r, io_i2l_o, io_l2i_o, il_add_o, il_sub_o, il_mul_o, il_neg_o, ib_bit, Int.toNat_natCast, true_implies, false_implies, implies_true, and_true, true_and, and_self, not_true_eq_false, not_false_eq_true, wa_0, wa_1, il_cmp_o, il_cmp0, il_cmp1, il_cmp2, io_bit1, ibt0, ibt1, ibt00, ibt11, ibt10, ibt01, Int.ofNat_lt, Int.ofNat_le, Int.ofNat_inj, Nat.lt_irrefl, Int.lt_irrefl, Int.toNat_one, Int.toNat_zero, Bool.false_eq_true, reduceIte, reduceCtorEq, Nat.reduceAdd, Nat.reduceMul, Nat.reduceSub, Nat.reduceLT, Nat.reduceLeDiff, Nat.reduceEqDiff, Int.reduceNeg, Int.reduceAdd, Int.reduceMul, Int.reduceSub, Int.reduceLT, Int.reduceLE, Int.reduceEq, Int.reduceToNat, Int.reduceNatCast, icl, ico, inz, hx1, nm, gu_e]
  have nm2 : io_and ((((x + 7) % 8 : Nat) : Int)) 7 = ((((x + 7) % 8 : Nat)) : Int) := by
    rw [io_and_r (by omega) (by omega) (by decide) (by decide), Int.toNat_natCast]
    show (((x + 7) % 8 &&& 7 : Nat) : Int) = _
    rw [n7]
  generalize hyd : (x + 7) % 8 = y at *
  try simp (disch := first | assumption | omega | exact il_cqA _ _ | exact il_cqB _ _) only [wi_29_0, wi_29_1, wi_29_2, wi_29_5, wi_29_6, wi_29_7, wi_29_9, wi_29_10, wi_29_13, wi_29_14, wi_29_15, wi_29_18, wi_29_19, wi_29_22, wi_29_24, wi_29_25, wi_29_26, wi_29_29, wi_29_30, wi_29_31, wi_29_34, wi_29_35, wi_29_36, wi_29_39, io_add_o, io_sub_o, io_mul_o, io_neg_o, io_and_r, io_or_r, io_xor_r, io_nd_r, io_shr_r, io_shl1, io_i2b_r, io_i2l_o, io_l2i_o, il_add_o, il_sub_o, il_mul_o, il_neg_o, ib_bit, Int.toNat_natCast, true_implies, false_implies, implies_true, and_true, true_and, and_self, not_true_eq_false, not_false_eq_true, wa_0, wa_1, il_cmp_o, il_cmp0, il_cmp1, il_cmp2, io_bit1, ibt0, ibt1, ibt00, ibt11, ibt10, ibt01, Int.ofNat_lt, Int.ofNat_le, Int.ofNat_inj, Nat.lt_irrefl, Int.lt_irrefl, Int.toNat_one, Int.toNat_zero, Bool.false_eq_true, reduceIte, reduceCtorEq, Nat.reduceAdd, Nat.reduceMul, Nat.reduceSub, Nat.reduceLT, Nat.reduceLeDiff, Nat.reduceEqDiff, Int.reduceNeg, Int.reduceAdd, Int.reduceMul, Int.reduceSub, Int.reduceLT, Int.reduceLE, Int.reduceEq, Int.reduceToNat, Int.reduceNatCast, icl, ico, inz, nm2, n7, gu_e, hyl]
  refine wp_copyFrom hg2 hgx (by omega) hG0 (q_C_e h0 fun i h1 h2 => gu_n (by omega)) (fun M1 hM1 hC1 => ?_)
  have e16 : M1 16 2 = (n : Int) := by rw [hM1 16 (by omega), gu_s (by decide)]; exact hn1
  simp (disch := first | assumption | omega | exact il_cqA _ _ | exact il_cqB _ _) only [wi_29_0, wi_29_1, wi_29_2, wi_29_5, wi_29_6, wi_29_7, wi_29_9, wi_29_10, wi_29_13, wi_29_14, wi_29_15, wi_29_18, wi_29_19, wi_29_22, wi_29_24, wi_29_25, wi_29_26, wi_29_29, wi_29_30, wi_29_31, wi_29_34, wi_29_35, wi_29_36, wi_29_39, io_add_o, io_sub_o, io_mul_o, io_neg_o, io_and_r, io_or_r, io_xor_r, io_nd_r, io_shr_r, io_shl1, io_i2b_r, io_i2l_o, io_l2i_o, il_add_o, il_sub_o, il_mul_o, il_neg_o, ib_bit, Int.toNat_natCast, true_implies, false_implies, implies_true, and_true, true_and, and_self, not_true_eq_false, not_false_eq_true, wa_0, wa_1, il_cmp_o, il_cmp0, il_cmp1, il_cmp2, io_bit1, ibt0, ibt1, ibt00, ibt11, ibt10, ibt01, Int.ofNat_lt, Int.ofNat_le, Int.ofNat_inj, Nat.lt_irrefl, Int.lt_irrefl, Int.toNat_one, Int.toNat_zero, Bool.false_eq_true, reduceIte, reduceCtorEq, Nat.reduceAdd, Nat.reduceMul, Nat.reduceSub, Nat.reduceLT, Nat.reduceLeDiff, Nat.reduceEqDiff, Int.reduceNeg, Int.reduceAdd, Int.reduceMul, Int.reduceSub, Int.reduceLT, Int.reduceLE, Int.reduceEq, Int.reduceToNat, Int.reduceNatCast, icl, ico, inz, e16]
  refine hQ _ (fun j h1 h2 => by rw [gu_n h2, hM1 j (by omega), gu_n h2]) (q_C_e hC1 fun i h1 h2 => gu_n (by omega)) ⟨y, hy, ?_, ?_, by omega, fun j hj => ?_⟩
  · rw [gu_s (by decide), hM1 16 (by omega), gu_e]
  · rw [gu_e]
    omega
  · have e2 : (y + 7 - j) % 8 = (x + 7 - (j + 1)) % 8 := by omega
    rw [e2]
    refine q_C_e (hC8 (j + 1) (by omega)) fun i h1 h2 => ?_
    have e4 : (x + 7 - (j + 1)) % 8 < 8 := by omega
    generalize (x + 7 - (j + 1)) % 8 = z at *
    rw [gu_n (by omega), hM1 i (by omega), gu_n (by omega)]
theorem wp_mcopies {f t nf nt here there : Nat} (hf : gs_a f 1 nf) (ht : gs_a t 1 nt) (hnf : nf ≤ 100000) (hnt : nt ≤ 100000) (hft : f ≠ t) (h1 : 65 * here + 65 ≤ nf) (h2 : 65 * there + 65 ≤ nt) (hQ : ∀ M' : gg_M, (∀ j, j ≠ t → M' j = M j) → (∀ k, k < 65 → M' t (65 * there + k) = M f (65 * here + k)) → (∀ p, p < 65 * there ∨ 65 * there + 65 ≤ p → M' t p = M t p) → Q ((0, (3, 0)), (gk_R, M', 158, cc, cs))) :
    wp N xs d 164 0 [gr f, (0, (here : Int)), gr t, (0, (there : Int)), (3, 0)] [] (gk_R, M, 158, cc, cs) Q := by
  simp (disch := first | assumption | omega | exact il_cqA _ _ | exact il_cqB _ _) only [wi_164_0, wi_164_1, wi_164_5, wi_164_7, wi_164_10, wi_164_11, wi_164_13, wi_164_14, wi_164_15, wi_164_17, wi_164_18, wi_164_19, wi_164_21, wi_164_22, wi_164_23, wi_164_25, wi_164_26, wi_164_27, wi_164_28, wi_164_31, wi_164_34, io_add_o, io_sub_o, io_mul_o, io_neg_o, io_and_r, io_or_r, io_xor_r, io_nd_r, io_shr_r, io_shl1, io_i2b_r, io_i2l_o, io_l2i_o, il_add_o, il_sub_o, il_mul_o, il_neg_o, ib_bit, Int.toNat_natCast, true_implies, false_implies, implies_true, and_true, true_and, and_self, not_true_eq_false, not_false_eq_true, wa_0, wa_1, il_cmp_o, il_cmp0, il_cmp1, il_cmp2, io_bit1, ibt0, ibt1, ibt00, ibt11, ibt10, ibt01, Int.ofNat_lt, Int.ofNat_le, Int.ofNat_inj, Nat.lt_irrefl, Int.lt_irrefl, Int.toNat_one, Int.toNat_zero, Bool.false_eq_true, reduceIte, reduceCtorEq, Nat.reduceAdd, Nat.reduceMul, Nat.reduceSub, Nat.reduceLT, Nat.reduceLeDiff, Nat.reduceEqDiff, Int.reduceNeg, Int.reduceAdd, Int.reduceMul, Int.reduceSub, Int.reduceLT, Int.reduceLE, Int.reduceEq, Int.reduceToNat, Int.reduceNatCast, icl, ico, inz]
  refine wl_i (P := fun i I => ∀ M' : gg_M, (∀ j, j ≠ t → M' j = M j) → (∀ k, k < i → M' t (65 * there + k) = M f (65 * here + k)) → (∀ p, p < 65 * there ∨ 65 * there + i ≤ p → M' t p = M t p) → wp N xs d 164 3 [gr f, (0, (here : Int)), gr t, (0, (there : Int)), (0, I)] [] (gk_R, M', 158, cc, cs) Q) 65 (fun i hi ih M' hM hv ho => ?_) (fun M' hM hv ho => ?_) M (fun _ _ => rfl) (fun k hk => absurd hk (Nat.not_lt_zero k)) (fun _ _ => rfl)
  · have ef : M' f = M f := hM f hft
    have e1 : ((65 : Int) * (here : Int) + (i : Int)).toNat = 65 * here + i := by omega
    have e2 : ((65 : Int) * (there : Int) + (i : Int)).toNat = 65 * there + i := by omega
    rw [wi_164_3]
    simp (disch := first | assumption | omega | exact il_cqA _ _ | exact il_cqB _ _) only [wi_164_0, wi_164_1, wi_164_5, wi_164_7, wi_164_10, wi_164_11, wi_164_13, wi_164_14, wi_164_15, wi_164_17, wi_164_18, wi_164_19, wi_164_21, wi_164_22, wi_164_23, wi_164_25, wi_164_26, wi_164_27, wi_164_28, wi_164_31, wi_164_34, io_add_o, io_sub_o, io_mul_o, io_neg_o, io_and_r, io_or_r, io_xor_r, io_nd_r, io_shr_r, io_shl1, io_i2b_r, io_i2l_o, io_l2i_o, il_add_o, il_sub_o, il_mul_o, il_neg_o, ib_bit, Int.toNat_natCast, true_implies, false_implies, implies_true, and_true, true_and, and_self, not_true_eq_false, not_false_eq_true, wa_0, wa_1, il_cmp_o, il_cmp0, il_cmp1, il_cmp2, io_bit1, ibt0, ibt1, ibt00, ibt11, ibt10, ibt01, Int.ofNat_lt, Int.ofNat_le, Int.ofNat_inj, Nat.lt_irrefl, Int.lt_irrefl, Int.toNat_one, Int.toNat_zero, Bool.false_eq_true, reduceIte, reduceCtorEq, Nat.reduceAdd, Nat.reduceMul, Nat.reduceSub, Nat.reduceLT, Nat.reduceLeDiff, Nat.reduceEqDiff, Int.reduceNeg, Int.reduceAdd, Int.reduceMul, Int.reduceSub, Int.reduceLT, Int.reduceLE, Int.reduceEq, Int.reduceToNat, Int.reduceNatCast, icl, ico, inz, hi, wi_164_26 (s1 := f) (m := nf) hf hnf, wi_164_27 (s1 := t) (m := nt) ht hnt, ef, e1, e2]
    refine ih _ (fun j hj => by rw [gu_n hj, hM j hj]) (fun k hk => ?_) (fun p hp => ?_)
    · by_cases e : k = i
      · subst e
        rw [gu_e]
      · rw [gu_s (by omega)]
        exact hv k (by omega)
    · rw [gu_s (by omega)]
      exact ho p (by omega)
  · rw [wi_164_3]
    simp (disch := first | assumption | omega | exact il_cqA _ _ | exact il_cqB _ _) only [wi_164_0, wi_164_1, wi_164_5, wi_164_7, wi_164_10, wi_164_11, wi_164_13, wi_164_14, wi_164_15, wi_164_17, wi_164_18, wi_164_19, wi_164_21, wi_164_22, wi_164_23, wi_164_25, wi_164_26, wi_164_27, wi_164_28, wi_164_31, wi_164_34, io_add_o, io_sub_o, io_mul_o, io_neg_o, io_and_r, io_or_r, io_xor_r, io_nd_r, io_shr_r, io_shl1, io_i2b_r, io_i2l_o, io_l2i_o, il_add_o, il_sub_o, il_mul_o, il_neg_o, ib_bit, Int.toNat_natCast, true_implies, false_implies, implies_true, and_true, true_and, and_self, not_true_eq_false, not_false_eq_true, wa_0, wa_1, il_cmp_o, il_cmp0, il_cmp1, il_cmp2, io_bit1, ibt0, ibt1, ibt00, ibt11, ibt10, ibt01, Int.ofNat_lt, Int.ofNat_le, Int.ofNat_inj, Nat.lt_irrefl, Int.lt_irrefl, Int.toNat_one, Int.toNat_zero, Bool.false_eq_true, reduceIte, reduceCtorEq, Nat.reduceAdd, Nat.reduceMul, Nat.reduceSub, Nat.reduceLT, Nat.reduceLeDiff, Nat.reduceEqDiff, Int.reduceNeg, Int.reduceAdd, Int.reduceMul, Int.reduceSub, Int.reduceLT, Int.reduceLE, Int.reduceEq, Int.reduceToNat, Int.reduceNatCast, icl, ico, inz]
    exact hQ M' hM hv ho
theorem wp_mbegins {t : Nat} (ht : gs_a t 1 65) (hQ : ∀ M' : gg_M, (∀ j, j ≠ t → M' j = M j) → (∀ k, k < 65 → M' t k = if k = 0 then 2 else if k = 1 then 2 else if k = 4 then 1 else if k < 57 then 0 else -1) → Q ((0, (3, 0)), (gk_R, M', 158, cc, cs))) :
    wp N xs d 165 0 [gr t, (3, 0)] [] (gk_R, M, 158, cc, cs) Q := by
  simp (disch := first | assumption | omega | exact il_cqA _ _ | exact il_cqB _ _) only [wi_165_0, wi_165_1, wi_165_3, wi_165_5, wi_165_8, wi_165_9, wi_165_10, wi_165_11, wi_165_13, wi_165_16, wi_165_17, wi_165_20, wi_165_21, wi_165_22, wi_165_25, wi_165_28, wi_165_29, wi_165_30, wi_165_31, wi_165_32, wi_165_33, wi_165_34, wi_165_35, wi_165_36, wi_165_37, wi_165_38, wi_165_39, wi_165_40, io_add_o, io_sub_o, io_mul_o, io_neg_o, io_and_r, io_or_r, io_xor_r, io_nd_r, io_shr_r, io_shl1, io_i2b_r, io_i2l_o, io_l2i_o, il_add_o, il_sub_o, il_mul_o, il_neg_o, ib_bit, Int.toNat_natCast, true_implies, false_implies, implies_true, and_true, true_and, and_self, not_true_eq_false, not_false_eq_true, wa_0, wa_1, il_cmp_o, il_cmp0, il_cmp1, il_cmp2, io_bit1, ibt0, ibt1, ibt00, ibt11, ibt10, ibt01, Int.ofNat_lt, Int.ofNat_le, Int.ofNat_inj, Nat.lt_irrefl, Int.lt_irrefl, Int.toNat_one, Int.toNat_zero, Bool.false_eq_true, reduceIte, reduceCtorEq, Nat.reduceAdd, Nat.reduceMul, Nat.reduceSub, Nat.reduceLT, Nat.reduceLeDiff, Nat.reduceEqDiff, Int.reduceNeg, Int.reduceAdd, Int.reduceMul, Int.reduceSub, Int.reduceLT, Int.reduceLE, Int.reduceEq, Int.reduceToNat, Int.reduceNatCast, icl, ico, inz]
  refine wl_i (P := fun i I => ∀ M' : gg_M, (∀ j, j ≠ t → M' j = M j) → (∀ k, k < i → M' t k = if k < 57 then 0 else -1) → wp N xs d 165 2 [gr t, (0, I)] [] (gk_R, M', 158, cc, cs) Q) 65 (fun i hi ih M' hM hv => ?_) (fun M' hM hv => ?_) M (fun _ _ => rfl) (fun k hk => absurd hk (Nat.not_lt_zero k))
  · have hnx : ∀ x : Int, (x = if i < 57 then 0 else -1) → wp N xs d 165 2 [gr t, (0, (i : Int) + 1)] [] (gk_R, gg_up M' t i x, 158, cc, cs) Q := fun x hx => ih _ (fun j hj => by rw [gu_n hj, hM j hj]) (fun k hk => by
      by_cases e : k = i
      · subst e
        rw [gu_e, hx]
      · rw [gu_s e]
        exact hv k (by omega))
    rw [wi_165_2]
    by_cases e : i < 57
    · simp (disch := first | assumption | omega | exact il_cqA _ _ | exact il_cqB _ _) only [wi_165_0, wi_165_1, wi_165_3, wi_165_5, wi_165_8, wi_165_9, wi_165_10, wi_165_11, wi_165_13, wi_165_16, wi_165_17, wi_165_20, wi_165_21, wi_165_22, wi_165_25, wi_165_28, wi_165_29, wi_165_30, wi_165_31, wi_165_32, wi_165_33, wi_165_34, wi_165_35, wi_165_36, wi_165_37, wi_165_38, wi_165_39, wi_165_40, io_add_o, io_sub_o, io_mul_o, io_neg_o, io_and_r, io_or_r, io_xor_r, io_nd_r, io_shr_r, io_shl1, io_i2b_r, io_i2l_o, io_l2i_o, il_add_o, il_sub_o, il_mul_o, il_neg_o, ib_bit, Int.toNat_natCast, true_implies, false_implies, implies_true, and_true, true_and, and_self, not_true_eq_false, not_false_eq_true, wa_0, wa_1, il_cmp_o, il_cmp0, il_cmp1, il_cmp2, io_bit1, ibt0, ibt1, ibt00, ibt11, ibt10, ibt01, Int.ofNat_lt, Int.ofNat_le, Int.ofNat_inj, Nat.lt_irrefl, Int.lt_irrefl, Int.toNat_one, Int.toNat_zero, Bool.false_eq_true, reduceIte, reduceCtorEq, Nat.reduceAdd, Nat.reduceMul, Nat.reduceSub, Nat.reduceLT, Nat.reduceLeDiff, Nat.reduceEqDiff, Int.reduceNeg, Int.reduceAdd, Int.reduceMul, Int.reduceSub, Int.reduceLT, Int.reduceLE, Int.reduceEq, Int.reduceToNat, Int.reduceNatCast, icl, ico, inz, hi, e]
      exact hnx 0 (if_pos e).symm
    · simp (disch := first | assumption | omega | exact il_cqA _ _ | exact il_cqB _ _) only [wi_165_0, wi_165_1, wi_165_3, wi_165_5, wi_165_8, wi_165_9, wi_165_10, wi_165_11, wi_165_13, wi_165_16, wi_165_17, wi_165_20, wi_165_21, wi_165_22, wi_165_25, wi_165_28, wi_165_29, wi_165_30, wi_165_31, wi_165_32, wi_165_33, wi_165_34, wi_165_35, wi_165_36, wi_165_37, wi_165_38, wi_165_39, wi_165_40, io_add_o, io_sub_o, io_mul_o, io_neg_o, io_and_r, io_or_r, io_xor_r, io_nd_r, io_shr_r, io_shl1, io_i2b_r, io_i2l_o, io_l2i_o, il_add_o, il_sub_o, il_mul_o, il_neg_o, ib_bit, Int.toNat_natCast, true_implies, false_implies, implies_true, and_true, true_and, and_self, not_true_eq_false, not_false_eq_true, wa_0, wa_1, il_cmp_o, il_cmp0, il_cmp1, il_cmp2, io_bit1, ibt0, ibt1, ibt00, ibt11, ibt10, ibt01, Int.ofNat_lt, Int.ofNat_le, Int.ofNat_inj, Nat.lt_irrefl, Int.lt_irrefl, Int.toNat_one, Int.toNat_zero, Bool.false_eq_true, reduceIte, reduceCtorEq, Nat.reduceAdd, Nat.reduceMul, Nat.reduceSub, Nat.reduceLT, Nat.reduceLeDiff, Nat.reduceEqDiff, Int.reduceNeg, Int.reduceAdd, Int.reduceMul, Int.reduceSub, Int.reduceLT, Int.reduceLE, Int.reduceEq, Int.reduceToNat, Int.reduceNatCast, icl, ico, inz, hi, e]
      exact hnx (-1) (if_neg e).symm
  · rw [wi_165_2]
    simp (disch := first | assumption | omega | exact il_cqA _ _ | exact il_cqB _ _) only [wi_165_0, wi_165_1, wi_165_3, wi_165_5, wi_165_8, wi_165_9, wi_165_10, wi_165_11, wi_165_13, wi_165_16, wi_165_17, wi_165_20, wi_165_21, wi_165_22, wi_165_25, wi_165_28, wi_165_29, wi_165_30, wi_165_31, wi_165_32, wi_165_33, wi_165_34, wi_165_35, wi_165_36, wi_165_37, wi_165_38, wi_165_39, wi_165_40, io_add_o, io_sub_o, io_mul_o, io_neg_o, io_and_r, io_or_r, io_xor_r, io_nd_r, io_shr_r, io_shl1, io_i2b_r, io_i2l_o, io_l2i_o, il_add_o, il_sub_o, il_mul_o, il_neg_o, ib_bit, Int.toNat_natCast, true_implies, false_implies, implies_true, and_true, true_and, and_self, not_true_eq_false, not_false_eq_true, wa_0, wa_1, il_cmp_o, il_cmp0, il_cmp1, il_cmp2, io_bit1, ibt0, ibt1, ibt00, ibt11, ibt10, ibt01, Int.ofNat_lt, Int.ofNat_le, Int.ofNat_inj, Nat.lt_irrefl, Int.lt_irrefl, Int.toNat_one, Int.toNat_zero, Bool.false_eq_true, reduceIte, reduceCtorEq, Nat.reduceAdd, Nat.reduceMul, Nat.reduceSub, Nat.reduceLT, Nat.reduceLeDiff, Nat.reduceEqDiff, Int.reduceNeg, Int.reduceAdd, Int.reduceMul, Int.reduceSub, Int.reduceLT, Int.reduceLE, Int.reduceEq, Int.reduceToNat, Int.reduceNatCast, icl, ico, inz]
    refine hQ _ (fun j hj => by rw [gu_n hj, gu_n hj, gu_n hj, hM j hj]) (fun k hk => ?_)
    have := hv k hk
    simp only [gu, true_and]
    grind
theorem wp_mkeeps (hG : q_ok G) (hR : q_R (M 143) G) (hH : qm_H M n H) (hok : ∀ j, j < n → q_ok (H j)) (hQ : ∀ M' : gg_M, (∀ j, j ≠ 142 → j ≠ 146 → M' j = M j) → (∀ k, k ≠ 6 → M' 142 k = M 142 k) → qm_H M' (min (n + 1) 8) (qkeep G H) → Q ((0, (3, 0)), (gk_R, M', 158, cc, cs))) :
    wp N xs (d + 1) 267 0 [gr 142, (3, 0)] [] (gk_R, M, 158, cc, cs) Q := by
  obtain ⟨hn, hn8, hr⟩ := hH
  have g143 : gs_a 143 1 65 := gs_ab_ok (by decide +kernel)
  have g146 : gs_a 146 1 520 := gs_ab_ok (by decide +kernel)
  have hend : ∀ (m : Nat) (M1 : gg_M), m ≤ 7 → (∀ j, j ≠ 142 → j ≠ 146 → M1 j = M j) → (∀ k, k ≠ 6 → M1 142 k = M 142 k) → M1 142 6 = (m : Int) → min (n + 1) 8 = m + 1 → (∀ j, j < m → q_R (fun k => M1 146 (65 * (m - 1 - j) + k)) (H j)) → wp N xs (d + 1) 267 49 [gr 142, (3, 0)] [] (gk_R, M1, 158, cc, cs) Q ∧ ∀ l1 : Int, wp N xs (d + 1) 267 49 [gr 142, (0, l1)] [] (gk_R, M1, 158, cc, cs) Q := by
    intro m M1 hm h1 h2 h3 h4 h5
    have key : ∀ M2 : gg_M, (∀ j, j ≠ 146 → M2 j = M1 j) → (∀ k, k < 65 → M2 146 (65 * m + k) = M1 143 (65 * 0 + k)) → (∀ p, p < 65 * m ∨ 65 * m + 65 ≤ p → M2 146 p = M1 146 p) → Q ((0, (3, 0)), (gk_R, gg_up M2 142 6 ((m : Int) + 1), 158, cc, cs)) := by
      intro M2 g1 g2 g3
      refine hQ _ (fun j j1 j2 => by rw [gu_n j1, g1 j j2, h1 j j1 j2]) (fun k hk => by rw [gu_s hk, g1 142 (by decide), h2 k hk]) ⟨?_, by omega, fun j hj => ?_⟩
      · rw [gu_e, h4]
        rfl
      · rw [h4] at hj ⊢
        unfold qkeep
        by_cases e : j = 0
        · subst e
          rw [if_pos rfl]
          refine q_R_congr hG hR fun k hk => ?_
          rw [gu_n (by decide), show 65 * (m + 1 - 1 - 0) + k = 65 * m + k by omega, g2 k hk, h1 143 (by decide) (by decide), Nat.mul_zero, Nat.zero_add]
        · rw [if_neg e]
          refine q_R_congr (hok (j - 1) (by omega)) (h5 (j - 1) (by omega)) fun k hk => ?_
          rw [gu_n (by decide), g3 _ (by omega)]
          congr 1
          omega
    constructor
    · simp (disch := first | assumption | omega | exact il_cqA _ _ | exact il_cqB _ _) only [wi_267_0, wi_267_1, wi_267_4, wi_267_6, wi_267_9, wi_267_10, wi_267_12, wi_267_15, wi_267_18, wi_267_19, wi_267_22, wi_267_23, wi_267_24, wi_267_27, wi_267_28, wi_267_30, wi_267_31, wi_267_32, wi_267_33, wi_267_36, wi_267_39, wi_267_40, wi_267_41, wi_267_44, wi_267_45, wi_267_46, wi_267_49, wi_267_50, wi_267_53, wi_267_54, wi_267_55, wi_267_58, wi_267_59, wi_267_62, wi_267_65, wi_267_66, wi_267_67, wi_267_70, wi_267_71, wi_267_72, wi_267_75, io_add_o, io_sub_o, io_mul_o, io_neg_o, io_and_r, io_or_r, io_xor_r, io_nd_r, io_shr_r, io_shl1, io_i2b_r, io_i2l_o, io_l2i_o, il_add_o, il_sub_o, il_mul_o, il_neg_o, ib_bit, Int.toNat_natCast, true_implies, false_implies, implies_true, and_true, true_and, and_self, not_true_eq_false, not_false_eq_true, wa_0, wa_1, il_cmp_o, il_cmp0, il_cmp1, il_cmp2, io_bit1, ibt0, ibt1, ibt00, ibt11, ibt10, ibt01, Int.ofNat_lt, Int.ofNat_le, Int.ofNat_inj, Nat.lt_irrefl, Int.lt_irrefl, Int.toNat_one, Int.toNat_zero, Bool.false_eq_true, reduceIte, reduceCtorEq, Nat.reduceAdd, Nat.reduceMul, Nat.reduceSub, Nat.reduceLT, Nat.reduceLeDiff, Nat.reduceEqDiff, Int.reduceNeg, Int.reduceAdd, Int.reduceMul, Int.reduceSub, Int.reduceLT, Int.reduceLE, Int.reduceEq, Int.reduceToNat, Int.reduceNatCast, icl, ico, inz, h3]
      refine wp_mcopies (here := 0) (there := m) g143 g146 (by decide) (by decide) (by decide) (by decide) (by omega) (fun M2 g1 g2 g3 => ?_)
      have e6 : M2 142 6 = (m : Int) := by rw [g1 142 (by decide)]; exact h3
      simp (disch := first | assumption | omega | exact il_cqA _ _ | exact il_cqB _ _) only [wi_267_0, wi_267_1, wi_267_4, wi_267_6, wi_267_9, wi_267_10, wi_267_12, wi_267_15, wi_267_18, wi_267_19, wi_267_22, wi_267_23, wi_267_24, wi_267_27, wi_267_28, wi_267_30, wi_267_31, wi_267_32, wi_267_33, wi_267_36, wi_267_39, wi_267_40, wi_267_41, wi_267_44, wi_267_45, wi_267_46, wi_267_49, wi_267_50, wi_267_53, wi_267_54, wi_267_55, wi_267_58, wi_267_59, wi_267_62, wi_267_65, wi_267_66, wi_267_67, wi_267_70, wi_267_71, wi_267_72, wi_267_75, io_add_o, io_sub_o, io_mul_o, io_neg_o, io_and_r, io_or_r, io_xor_r, io_nd_r, io_shr_r, io_shl1, io_i2b_r, io_i2l_o, io_l2i_o, il_add_o, il_sub_o, il_mul_o, il_neg_o, ib_bit, Int.toNat_natCast, true_implies, false_implies, implies_true, and_true, true_and, and_self, not_true_eq_false, not_false_eq_true, wa_0, wa_1, il_cmp_o, il_cmp0, il_cmp1, il_cmp2, io_bit1, ibt0, ibt1, ibt00, ibt11, ibt10, ibt01, Int.ofNat_lt, Int.ofNat_le, Int.ofNat_inj, Nat.lt_irrefl, Int.lt_irrefl, Int.toNat_one, Int.toNat_zero, Bool.false_eq_true, reduceIte, reduceCtorEq, Nat.reduceAdd, Nat.reduceMul, Nat.reduceSub, Nat.reduceLT, Nat.reduceLeDiff, Nat.reduceEqDiff, Int.reduceNeg, Int.reduceAdd, Int.reduceMul, Int.reduceSub, Int.reduceLT, Int.reduceLE, Int.reduceEq, Int.reduceToNat, Int.reduceNatCast, icl, ico, inz, e6]
      exact key M2 g1 g2 g3
    · intro l1
      simp (disch := first | assumption | omega | exact il_cqA _ _ | exact il_cqB _ _) only [wi_267_0, wi_267_1, wi_267_4, wi_267_6, wi_267_9, wi_267_10, wi_267_12, wi_267_15, wi_267_18, wi_267_19, wi_267_22, wi_267_23, wi_267_24, wi_267_27, wi_267_28, wi_267_30, wi_267_31, wi_267_32, wi_267_33, wi_267_36, wi_267_39, wi_267_40, wi_267_41, wi_267_44, wi_267_45, wi_267_46, wi_267_49, wi_267_50, wi_267_53, wi_267_54, wi_267_55, wi_267_58, wi_267_59, wi_267_62, wi_267_65, wi_267_66, wi_267_67, wi_267_70, wi_267_71, wi_267_72, wi_267_75, io_add_o, io_sub_o, io_mul_o, io_neg_o, io_and_r, io_or_r, io_xor_r, io_nd_r, io_shr_r, io_shl1, io_i2b_r, io_i2l_o, io_l2i_o, il_add_o, il_sub_o, il_mul_o, il_neg_o, ib_bit, Int.toNat_natCast, true_implies, false_implies, implies_true, and_true, true_and, and_self, not_true_eq_false, not_false_eq_true, wa_0, wa_1, il_cmp_o, il_cmp0, il_cmp1, il_cmp2, io_bit1, ibt0, ibt1, ibt00, ibt11, ibt10, ibt01, Int.ofNat_lt, Int.ofNat_le, Int.ofNat_inj, Nat.lt_irrefl, Int.lt_irrefl, Int.toNat_one, Int.toNat_zero, Bool.false_eq_true, reduceIte, reduceCtorEq, Nat.reduceAdd, Nat.reduceMul, Nat.reduceSub, Nat.reduceLT, Nat.reduceLeDiff, Nat.reduceEqDiff, Int.reduceNeg, Int.reduceAdd, Int.reduceMul, Int.reduceSub, Int.reduceLT, Int.reduceLE, Int.reduceEq, Int.reduceToNat, Int.reduceNatCast, icl, ico, inz, h3]
      refine wp_mcopies (here := 0) (there := m) g143 g146 (by decide) (by decide) (by decide) (by decide) (by omega) (fun M2 g1 g2 g3 => ?_)
      have e6 : M2 142 6 = (m : Int) := by rw [g1 142 (by decide)]; exact h3
      simp (disch := first | assumption | omega | exact il_cqA _ _ | exact il_cqB _ _) only [wi_267_0, wi_267_1, wi_267_4, wi_267_6, wi_267_9, wi_267_10, wi_267_12, wi_267_15, wi_267_18, wi_267_19, wi_267_22, wi_267_23, wi_267_24, wi_267_27, wi_267_28, wi_267_30, wi_267_31, wi_267_32, wi_267_33, wi_267_36, wi_267_39, wi_267_40, wi_267_41, wi_267_44, wi_267_45, wi_267_46, wi_267_49, wi_267_50, wi_267_53, wi_267_54, wi_267_55, wi_267_58, wi_267_59, wi_267_62, wi_267_65, wi_267_66, wi_267_67, wi_267_70, wi_267_71, wi_267_72, wi_267_75, io_add_o, io_sub_o, io_mul_o, io_neg_o, io_and_r, io_or_r, io_xor_r, io_nd_r, io_shr_r, io_shl1, io_i2b_r, io_i2l_o, io_l2i_o, il_add_o, il_sub_o, il_mul_o, il_neg_o, ib_bit, Int.toNat_natCast, true_implies, false_implies, implies_true, and_true, true_and, and_self, not_true_eq_false, not_false_eq_true, wa_0, wa_1, il_cmp_o, il_cmp0, il_cmp1, il_cmp2, io_bit1, ibt0, ibt1, ibt00, ibt11, ibt10, ibt01, Int.ofNat_lt, Int.ofNat_le, Int.ofNat_inj, Nat.lt_irrefl, Int.lt_irrefl, Int.toNat_one, Int.toNat_zero, Bool.false_eq_true, reduceIte, reduceCtorEq, Nat.reduceAdd, Nat.reduceMul, Nat.reduceSub, Nat.reduceLT, Nat.reduceLeDiff, Nat.reduceEqDiff, Int.reduceNeg, Int.reduceAdd, Int.reduceMul, Int.reduceSub, Int.reduceLT, Int.reduceLE, Int.reduceEq, Int.reduceToNat, Int.reduceNatCast, icl, ico, inz, e6]
      exact key M2 g1 g2 g3
  by_cases e : n = 8
  · have e1 : (n : Int) = 8 := by omega
    have hend' := hend 7
    simp (disch := first | assumption | omega | exact il_cqA _ _ | exact il_cqB _ _) only [wi_267_0, wi_267_1, wi_267_4, wi_267_6, wi_267_9, wi_267_10, wi_267_12, wi_267_15, wi_267_18, wi_267_19, wi_267_22, wi_267_23, wi_267_24, wi_267_27, wi_267_28, wi_267_30, wi_267_31, wi_267_32, wi_267_33, wi_267_36, wi_267_39, wi_267_40, wi_267_41, wi_267_44, wi_267_45, wi_267_46, wi_267_49, wi_267_50, wi_267_53, wi_267_54, wi_267_55, wi_267_58, wi_267_59, wi_267_62, wi_267_65, wi_267_66, wi_267_67, wi_267_70, wi_267_71, wi_267_72, wi_267_75, io_add_o, io_sub_o, io_mul_o, io_neg_o, io_and_r, io_or_r, io_xor_r, io_nd_r, io_shr_r, io_shl1, io_i2b_r, io_i2l_o, io_l2i_o, il_add_o, il_sub_o, il_mul_o, il_neg_o, ib_bit, Int.toNat_natCast, true_implies, false_implies, implies_true, and_true, true_and, and_self, not_true_eq_false, not_false_eq_true, wa_0, wa_1, il_cmp_o, il_cmp0, il_cmp1, il_cmp2, io_bit1, ibt0, ibt1, ibt00, ibt11, ibt10, ibt01, Int.ofNat_lt, Int.ofNat_le, Int.ofNat_inj, Nat.lt_irrefl, Int.lt_irrefl, Int.toNat_one, Int.toNat_zero, Bool.false_eq_true, reduceIte, reduceCtorEq, Nat.reduceAdd, Nat.reduceMul, Nat.reduceSub, Nat.reduceLT, Nat.reduceLeDiff, Nat.reduceEqDiff, Int.reduceNeg, Int.reduceAdd, Int.reduceMul, Int.reduceSub, Int.reduceLT, Int.reduceLE, Int.reduceEq, Int.reduceToNat, Int.reduceNatCast, icl, ico, inz, hn, e1]
    refine wl_i (P := fun i I => ∀ M' : gg_M, (∀ j, j ≠ 146 → M' j = M j) → (∀ p, p < 520 → M' 146 p = if p < i then M 146 (p + 65) else M 146 p) → wp N xs (d + 1) 267 11 [gr 142, (0, I)] [] (gk_R, M', 158, cc, cs) Q) 455 (fun i hi ih M' hM hv => ?_) (fun M' hM hv => ?_) M (fun _ _ => rfl) (fun p _ => rfl)
    · have w1 := hv (i + 65) (by omega)
      rw [if_neg (by omega)] at w1
      have e2 : ((i : Int) + 65).toNat = i + 65 := by omega
      rw [wi_267_11]
      simp (disch := first | assumption | omega | exact il_cqA _ _ | exact il_cqB _ _) only [wi_267_0, wi_267_1, wi_267_4, wi_267_6, wi_267_9, wi_267_10, wi_267_12, wi_267_15, wi_267_18, wi_267_19, wi_267_22, wi_267_23, wi_267_24, wi_267_27, wi_267_28, wi_267_30, wi_267_31, wi_267_32, wi_267_33, wi_267_36, wi_267_39, wi_267_40, wi_267_41, wi_267_44, wi_267_45, wi_267_46, wi_267_49, wi_267_50, wi_267_53, wi_267_54, wi_267_55, wi_267_58, wi_267_59, wi_267_62, wi_267_65, wi_267_66, wi_267_67, wi_267_70, wi_267_71, wi_267_72, wi_267_75, io_add_o, io_sub_o, io_mul_o, io_neg_o, io_and_r, io_or_r, io_xor_r, io_nd_r, io_shr_r, io_shl1, io_i2b_r, io_i2l_o, io_l2i_o, il_add_o, il_sub_o, il_mul_o, il_neg_o, ib_bit, Int.toNat_natCast, true_implies, false_implies, implies_true, and_true, true_and, and_self, not_true_eq_false, not_false_eq_true, wa_0, wa_1, il_cmp_o, il_cmp0, il_cmp1, il_cmp2, io_bit1, ibt0, ibt1, ibt00, ibt11, ibt10, ibt01, Int.ofNat_lt, Int.ofNat_le, Int.ofNat_inj, Nat.lt_irrefl, Int.lt_irrefl, Int.toNat_one, Int.toNat_zero, Bool.false_eq_true, reduceIte, reduceCtorEq, Nat.reduceAdd, Nat.reduceMul, Nat.reduceSub, Nat.reduceLT, Nat.reduceLeDiff, Nat.reduceEqDiff, Int.reduceNeg, Int.reduceAdd, Int.reduceMul, Int.reduceSub, Int.reduceLT, Int.reduceLE, Int.reduceEq, Int.reduceToNat, Int.reduceNatCast, icl, ico, inz, hi, e2, w1]
      refine ih _ (fun j hj => by rw [gu_n hj, hM j hj]) (fun p hp => ?_)
      by_cases e3 : p = i
      · subst e3
        rw [gu_e, if_pos (by omega)]
      · rw [gu_s e3, hv p hp]
        by_cases e4 : p < i
        · rw [if_pos e4, if_pos (by omega)]
        · rw [if_neg e4, if_neg (by omega)]
    · have e6 : M' 142 6 = 8 := by rw [hM 142 (by decide), hn, e1]
      have hh := (hend' (gg_up M' 142 6 7) (by decide) (fun j j1 j2 => by rw [gu_n j1, hM j j2]) (fun k hk => by rw [gu_s hk, hM 142 (by decide)]) gu_e (by omega) (fun j hj => by
        refine q_R_congr (hok j (by omega)) (hr j (by omega)) fun k hk => ?_
        rw [gu_n (by decide), hv _ (by omega), if_pos (by omega)]
        congr 1
        omega)).2 455
      rw [wi_267_11]
      revert hh
      simp (disch := first | assumption | omega | exact il_cqA _ _ | exact il_cqB _ _) only [wi_267_0, wi_267_1, wi_267_4, wi_267_6, wi_267_9, wi_267_10, wi_267_12, wi_267_15, wi_267_18, wi_267_19, wi_267_22, wi_267_23, wi_267_24, wi_267_27, wi_267_28, wi_267_30, wi_267_31, wi_267_32, wi_267_33, wi_267_36, wi_267_39, wi_267_40, wi_267_41, wi_267_44, wi_267_45, wi_267_46, wi_267_49, wi_267_50, wi_267_53, wi_267_54, wi_267_55, wi_267_58, wi_267_59, wi_267_62, wi_267_65, wi_267_66, wi_267_67, wi_267_70, wi_267_71, wi_267_72, wi_267_75, io_add_o, io_sub_o, io_mul_o, io_neg_o, io_and_r, io_or_r, io_xor_r, io_nd_r, io_shr_r, io_shl1, io_i2b_r, io_i2l_o, io_l2i_o, il_add_o, il_sub_o, il_mul_o, il_neg_o, ib_bit, Int.toNat_natCast, true_implies, false_implies, implies_true, and_true, true_and, and_self, not_true_eq_false, not_false_eq_true, wa_0, wa_1, il_cmp_o, il_cmp0, il_cmp1, il_cmp2, io_bit1, ibt0, ibt1, ibt00, ibt11, ibt10, ibt01, Int.ofNat_lt, Int.ofNat_le, Int.ofNat_inj, Nat.lt_irrefl, Int.lt_irrefl, Int.toNat_one, Int.toNat_zero, Bool.false_eq_true, reduceIte, reduceCtorEq, Nat.reduceAdd, Nat.reduceMul, Nat.reduceSub, Nat.reduceLT, Nat.reduceLeDiff, Nat.reduceEqDiff, Int.reduceNeg, Int.reduceAdd, Int.reduceMul, Int.reduceSub, Int.reduceLT, Int.reduceLE, Int.reduceEq, Int.reduceToNat, Int.reduceNatCast, icl, ico, inz, e6]
      exact id
  · have e1 : ¬ (n : Int) = 8 := by omega
    have hh := (hend n M (by omega) (fun _ _ _ => rfl) (fun _ _ => rfl) hn (by omega) hr).1
    revert hh
    simp (disch := first | assumption | omega | exact il_cqA _ _ | exact il_cqB _ _) only [wi_267_0, wi_267_1, wi_267_4, wi_267_6, wi_267_9, wi_267_10, wi_267_12, wi_267_15, wi_267_18, wi_267_19, wi_267_22, wi_267_23, wi_267_24, wi_267_27, wi_267_28, wi_267_30, wi_267_31, wi_267_32, wi_267_33, wi_267_36, wi_267_39, wi_267_40, wi_267_41, wi_267_44, wi_267_45, wi_267_46, wi_267_49, wi_267_50, wi_267_53, wi_267_54, wi_267_55, wi_267_58, wi_267_59, wi_267_62, wi_267_65, wi_267_66, wi_267_67, wi_267_70, wi_267_71, wi_267_72, wi_267_75, io_add_o, io_sub_o, io_mul_o, io_neg_o, io_and_r, io_or_r, io_xor_r, io_nd_r, io_shr_r, io_shl1, io_i2b_r, io_i2l_o, io_l2i_o, il_add_o, il_sub_o, il_mul_o, il_neg_o, ib_bit, Int.toNat_natCast, true_implies, false_implies, implies_true, and_true, true_and, and_self, not_true_eq_false, not_false_eq_true, wa_0, wa_1, il_cmp_o, il_cmp0, il_cmp1, il_cmp2, io_bit1, ibt0, ibt1, ibt00, ibt11, ibt10, ibt01, Int.ofNat_lt, Int.ofNat_le, Int.ofNat_inj, Nat.lt_irrefl, Int.lt_irrefl, Int.toNat_one, Int.toNat_zero, Bool.false_eq_true, reduceIte, reduceCtorEq, Nat.reduceAdd, Nat.reduceMul, Nat.reduceSub, Nat.reduceLT, Nat.reduceLeDiff, Nat.reduceEqDiff, Int.reduceNeg, Int.reduceAdd, Int.reduceMul, Int.reduceSub, Int.reduceLT, Int.reduceLE, Int.reduceEq, Int.reduceToNat, Int.reduceNatCast, icl, ico, inz, hn, e1]
    exact id
end SG
