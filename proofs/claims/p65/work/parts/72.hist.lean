/-! what was: the class's ring, the model's rows -/
/-- the latest graphs in the class's ring -/
def qs_H (M : gg_M) (n : Nat) (H : Nat → q_G) : Prop := ∃ x : Nat, x < 8 ∧ M 16 1 = (x : Int) ∧ M 16 2 = (n : Int) ∧ n ≤ 8 ∧ ∀ j, j < n → q_C M (18 + 7 * ((x + 7 - j) % 8)) (H j)
/-- one more -/
def qkeep (G : q_G) (H : Nat → q_G) : Nat → q_G := fun j => if j = 0 then G else H (j - 1)
theorem io_and7 : ∀ x : Fin 8, io_and ((x.1 : Int) - 1) 7 = (((x.1 + 7) % 8 : Nat) : Int) := by decide +kernel
section SG
variable {N : Nat} {xs : Nat → Int32} {d : Nat} {M : gg_M} {cc cs : Nat} {Q : gg_O → Prop} {G : q_G} {H : Nat → q_G} {n : Nat}
theorem wp_hkeep (hG : q_ok G) (hC : q_C M 2 G) (hH : qs_H M n H) (hQ : ∀ M' : gg_M, (∀ j, j < 16 ∨ 73 < j → M' j = M j) → qs_H M' (min (n + 1) 8) (qkeep G H) → Q ((0, (3, 0)), (gk_R, M', 142, cc, cs))) :
    wp N xs (d + 1) 28 0 [gr 16, gr 2] [] (gk_R, M, 142, cc, cs) Q := by
  obtain ⟨x, hx, hx1, hn1, hn8, hC8⟩ := hH
  have n0 : x &&& 7 = x := by
    have := Nat.and_two_pow_sub_one_eq_mod x 3
    rw [show (2 : Nat) ^ 3 - 1 = 7 from rfl] at this
    omega
  have n1 : (x + 1) &&& 7 = (x + 1) % 8 := by
    have := Nat.and_two_pow_sub_one_eq_mod (x + 1) 3
    rw [show (2 : Nat) ^ 3 - 1 = 7 from rfl] at this
    omega
  have hgx : gs_G (18 + 7 * x) := gs_g17 hx
  have hg2 := gs_G2_
  simp (disch := first | assumption | omega | exact il_cqA _ _ | exact il_cqB _ _) only [wi_28_0, wi_28_1, wi_28_4, wi_28_5, wi_28_8, wi_28_10, wi_28_11, wi_28_12, wi_28_13, wi_28_16, wi_28_17, wi_28_18, wi_28_21, wi_28_22, wi_28_23, wi_28_25, wi_28_26, wi_28_29, wi_28_30, wi_28_31, wi_28_34, wi_28_35, wi_28_36, wi_28_38, wi_28_41, wi_28_44, io_add_o, io_sub_o, io_mul_o, io_neg_o, io_and_r, io_or_r, io_xor_r, io_nd_r, io_shr_r, io_shl1, io_i2b_r, io_i2l_o, io_l2i_o, il_add_o, il_sub_o, il_mul_o, il_neg_o, ib_bit, Int.toNat_natCast, true_implies, false_implies, implies_true, and_true, true_and, and_self, not_true_eq_false, not_false_eq_true, wa_0, wa_1, il_cmp_o, il_cmp0, il_cmp1, il_cmp2, io_bit1, ibt0, ibt1, ibt00, ibt11, ibt10, ibt01, Int.ofNat_lt, Int.ofNat_le, Int.ofNat_inj, Nat.lt_irrefl, Int.lt_irrefl, Int.toNat_one, Int.toNat_zero, Bool.false_eq_true, reduceIte, reduceCtorEq, Nat.reduceAdd, Nat.reduceMul, Nat.reduceSub, Nat.reduceLT, Nat.reduceLeDiff, Nat.reduceEqDiff, Int.reduceNeg, Int.reduceAdd, Int.reduceMul, Int.reduceSub, Int.reduceLT, Int.reduceLE, Int.reduceEq, Int.reduceToNat, Int.reduceNatCast, icl, ico, inz, hx1, n0]
  refine wp_copyFrom hgx hg2 (by omega) hG hC (fun M1 hM1 hC1 => ?_)
  have e16 : M1 16 = M 16 := hM1 16 (by omega)
  have hfin : ∀ s : Int, s = ((min (n + 1) 8 : Nat) : Int) → Q ((0, (3, 0)), (gk_R, gg_up (gg_up M1 16 1 (((x + 1) % 8 : Nat) : Int)) 16 2 s, 142, cc, cs)) := by
    intro s hs
    refine hQ _ (fun j hj => by rw [gu_n (by omega), gu_n (by omega), hM1 j (by omega)]) ⟨(x + 1) % 8, by omega, ?_, ?_, by omega, fun j hj => ?_⟩
    · rw [gu_s (by decide), gu_e]
    · rw [gu_e, hs]
    · unfold qkeep
      by_cases e : j = 0
      · subst e
        rw [if_pos rfl, show ((x + 1) % 8 + 7 - 0) % 8 = x by omega]
        exact q_C_e hC1 fun i h1 h2 => by rw [gu_n (by omega), gu_n (by omega)]
      · rw [if_neg e]
        have e2 : ((x + 1) % 8 + 7 - j) % 8 = (x + 7 - (j - 1)) % 8 := by omega
        have e3 : (x + 7 - (j - 1)) % 8 ≠ x := by omega
        have e4 : (x + 7 - (j - 1)) % 8 < 8 := by omega
        rw [e2]
        refine q_C_e (hC8 (j - 1) (by omega)) fun i h1 h2 => ?_
        generalize (x + 7 - (j - 1)) % 8 = y at *
        rw [gu_n (by omega), gu_n (by omega), hM1 i (by omega)]
  by_cases e : n + 1 ≤ 8
  · have e1 : (n : Int) + 1 ≤ 8 := by omega
    simp (disch := first | assumption | omega | exact il_cqA _ _ | exact il_cqB _ _) only [wi_28_0, wi_28_1, wi_28_4, wi_28_5, wi_28_8, wi_28_10, wi_28_11, wi_28_12, wi_28_13, wi_28_16, wi_28_17, wi_28_18, wi_28_21, wi_28_22, wi_28_23, wi_28_25, wi_28_26, wi_28_29, wi_28_30, wi_28_31, wi_28_34, wi_28_35, wi_28_36, wi_28_38, wi_28_41, wi_28_44, io_add_o, io_sub_o, io_mul_o, io_neg_o, io_and_r, io_or_r, io_xor_r, io_nd_r, io_shr_r, io_shl1, io_i2b_r, io_i2l_o, io_l2i_o, il_add_o, il_sub_o, il_mul_o, il_neg_o, ib_bit, Int.toNat_natCast, true_implies, false_implies, implies_true, and_true, true_and, and_self, not_true_eq_false, not_false_eq_true, wa_0, wa_1, il_cmp_o, il_cmp0, il_cmp1, il_cmp2, io_bit1, ibt0, ibt1, ibt00, ibt11, ibt10, ibt01, Int.ofNat_lt, Int.ofNat_le, Int.ofNat_inj, Nat.lt_irrefl, Int.lt_irrefl, Int.toNat_one, Int.toNat_zero, Bool.false_eq_true, reduceIte, reduceCtorEq, Nat.reduceAdd, Nat.reduceMul, Nat.reduceSub, Nat.reduceLT, Nat.reduceLeDiff, Nat.reduceEqDiff, Int.reduceNeg, Int.reduceAdd, Int.reduceMul, Int.reduceSub, Int.reduceLT, Int.reduceLE, Int.reduceEq, Int.reduceToNat, Int.reduceNatCast, icl, ico, inz, e16, hx1, hn1, it1, n1, gu_s, gu_e, e1]
    exact hfin _ (by omega)
  · have e1 : ¬ (n : Int) + 1 ≤ 8 := by omega
    simp (disch := first | assumption | omega | exact il_cqA _ _ | exact il_cqB _ _) only [wi_28_0, wi_28_1, wi_28_4, wi_28_5, wi_28_8, wi_28_10, wi_28_11, wi_28_12, wi_28_13, wi_28_16, wi_28_17, wi_28_18, wi_28_21, wi_28_22, wi_28_23, wi_28_25, wi_28_26, wi_28_29, wi_28_30, wi_28_31, wi_28_34, wi_28_35, wi_28_36, wi_28_38, wi_28_41, wi_28_44, io_add_o, io_sub_o, io_mul_o, io_neg_o, io_and_r, io_or_r, io_xor_r, io_nd_r, io_shr_r, io_shl1, io_i2b_r, io_i2l_o, io_l2i_o, il_add_o, il_sub_o, il_mul_o, il_neg_o, ib_bit, Int.toNat_natCast, true_implies, false_implies, implies_true, and_true, true_and, and_self, not_true_eq_false, not_false_eq_true, wa_0, wa_1, il_cmp_o, il_cmp0, il_cmp1, il_cmp2, io_bit1, ibt0, ibt1, ibt00, ibt11, ibt10, ibt01, Int.ofNat_lt, Int.ofNat_le, Int.ofNat_inj, Nat.lt_irrefl, Int.lt_irrefl, Int.toNat_one, Int.toNat_zero, Bool.false_eq_true, reduceIte, reduceCtorEq, Nat.reduceAdd, Nat.reduceMul, Nat.reduceSub, Nat.reduceLT, Nat.reduceLeDiff, Nat.reduceEqDiff, Int.reduceNeg, Int.reduceAdd, Int.reduceMul, Int.reduceSub, Int.reduceLT, Int.reduceLE, Int.reduceEq, Int.reduceToNat, Int.reduceNatCast, icl, ico, inz, e16, hx1, hn1, it1, n1, gu_s, gu_e, e1]
    exact hfin _ (by omega)
theorem wp_htake (hn0 : 1 ≤ n) (hH : qs_H M n H) (hok : ∀ j, j < n → q_ok (H j)) (hQ : ∀ M' : gg_M, (∀ j, j < 2 ∨ 8 < j → j ≠ 16 → M' j = M j) → q_C M' 2 (H 0) → qs_H M' (n - 1) (fun j => H (j + 1)) → Q ((0, (3, 0)), (gk_R, M', 142, cc, cs))) :
    wp N xs (d + 1) 29 0 [gr 16, gr 2] [] (gk_R, M, 142, cc, cs) Q := by
  obtain ⟨x, hx, hx1, hn1, hn8, hC8⟩ := hH
  have n7 : (x + 7) % 8 &&& 7 = (x + 7) % 8 := by
    have := Nat.and_two_pow_sub_one_eq_mod ((x + 7) % 8) 3
    rw [show (2 : Nat) ^ 3 - 1 = 7 from rfl] at this
    omega
  have nm := io_and7 ⟨x, hx⟩
  simp only at nm
  have hy : (x + 7) % 8 < 8 := by omega
  have hgx : gs_G (18 + 7 * ((x + 7) % 8)) := gs_g17 hy
  have hg2 := gs_G2_
  have h0 := hC8 0 (by omega)
  rw [Nat.sub_zero] at h0
  have hyl : ((((x + 7) % 8 : Nat) : Int)) < 8 := by omega
  have hG0 := hok 0 (by omega)
  simp (disch := first | assumption | omega | exact il_cqA _ _ | exact il_cqB _ _) only [wi_29_0, wi_29_1, wi_29_2, wi_29_5, wi_29_6, wi_29_7, wi_29_9, wi_29_10, wi_29_13, wi_29_14, wi_29_15, wi_29_18, wi_29_19, wi_29_22, wi_29_24, wi_29_25, wi_29_26, wi_29_29, wi_29_30, wi_29_31, wi_29_34, wi_29_35, wi_29_36, wi_29_39, io_add_o, io_sub_o, io_mul_o, io_neg_o, io_and_r, io_or_r, io_xor_r, io_nd_r, io_shr_r, io_shl1, io_i2b_r, io_i2l_o, io_l2i_o, il_add_o, il_sub_o, il_mul_o, il_neg_o, ib_bit, Int.toNat_natCast, true_implies, false_implies, implies_true, and_true, true_and, and_self, not_true_eq_false, not_false_eq_true, wa_0, wa_1, il_cmp_o, il_cmp0, il_cmp1, il_cmp2, io_bit1, ibt0, ibt1, ibt00, ibt11, ibt10, ibt01, Int.ofNat_lt, Int.ofNat_le, Int.ofNat_inj, Nat.lt_irrefl, Int.lt_irrefl, Int.toNat_one, Int.toNat_zero, Bool.false_eq_true, reduceIte, reduceCtorEq, Nat.reduceAdd, Nat.reduceMul, Nat.reduceSub, Nat.reduceLT, Nat.reduceLeDiff, Nat.reduceEqDiff, Int.reduceNeg, Int.reduceAdd, Int.reduceMul, Int.reduceSub, Int.reduceLT, Int.reduceLE, Int.reduceEq, Int.reduceToNat, Int.reduceNatCast, icl, ico, inz, hx1, nm, gu_e]
  have nm2 : io_and ((((x + 7) % 8 : Nat) : Int)) 7 = ((((x + 7) % 8 : Nat)) : Int) := by
    rw [io_and_r (by omega) (by omega) (by decide) (by decide), Int.toNat_natCast]
    show (((x + 7) % 8 &&& 7 : Nat) : Int) = _
    rw [n7]
  generalize hyd : (x + 7) % 8 = y at *
  try simp (disch := first | assumption | omega | exact il_cqA _ _ | exact il_cqB _ _) only [wi_29_0, wi_29_1, wi_29_2, wi_29_5, wi_29_6, wi_29_7, wi_29_9, wi_29_10, wi_29_13, wi_29_14, wi_29_15, wi_29_18, wi_29_19, wi_29_22, wi_29_24, wi_29_25, wi_29_26, wi_29_29, wi_29_30, wi_29_31, wi_29_34, wi_29_35, wi_29_36, wi_29_39, io_add_o, io_sub_o, io_mul_o, io_neg_o, io_and_r, io_or_r, io_xor_r, io_nd_r, io_shr_r, io_shl1, io_i2b_r, io_i2l_o, io_l2i_o, il_add_o, il_sub_o, il_mul_o, il_neg_o, ib_bit, Int.toNat_natCast, true_implies, false_implies, implies_true, and_true, true_and, and_self, not_true_eq_false, not_false_eq_true, wa_0, wa_1, il_cmp_o, il_cmp0, il_cmp1, il_cmp2, io_bit1, ibt0, ibt1, ibt00, ibt11, ibt10, ibt01, Int.ofNat_lt, Int.ofNat_le, Int.ofNat_inj, Nat.lt_irrefl, Int.lt_irrefl, Int.toNat_one, Int.toNat_zero, Bool.false_eq_true, reduceIte, reduceCtorEq, Nat.reduceAdd, Nat.reduceMul, Nat.reduceSub, Nat.reduceLT, Nat.reduceLeDiff, Nat.reduceEqDiff, Int.reduceNeg, Int.reduceAdd, Int.reduceMul, Int.reduceSub, Int.reduceLT, Int.reduceLE, Int.reduceEq, Int.reduceToNat, Int.reduceNatCast, icl, ico, inz, nm2, n7, gu_e, hyl]
  refine wp_copyFrom hg2 hgx (by omega) hG0 (q_C_e h0 fun i h1 h2 => gu_n (by omega)) (fun M1 hM1 hC1 => ?_)
  have e16 : M1 16 2 = (n : Int) := by rw [hM1 16 (by omega), gu_s (by decide)]; exact hn1
  simp (disch := first | assumption | omega | exact il_cqA _ _ | exact il_cqB _ _) only [wi_29_0, wi_29_1, wi_29_2, wi_29_5, wi_29_6, wi_29_7, wi_29_9, wi_29_10, wi_29_13, wi_29_14, wi_29_15, wi_29_18, wi_29_19, wi_29_22, wi_29_24, wi_29_25, wi_29_26, wi_29_29, wi_29_30, wi_29_31, wi_29_34, wi_29_35, wi_29_36, wi_29_39, io_add_o, io_sub_o, io_mul_o, io_neg_o, io_and_r, io_or_r, io_xor_r, io_nd_r, io_shr_r, io_shl1, io_i2b_r, io_i2l_o, io_l2i_o, il_add_o, il_sub_o, il_mul_o, il_neg_o, ib_bit, Int.toNat_natCast, true_implies, false_implies, implies_true, and_true, true_and, and_self, not_true_eq_false, not_false_eq_true, wa_0, wa_1, il_cmp_o, il_cmp0, il_cmp1, il_cmp2, io_bit1, ibt0, ibt1, ibt00, ibt11, ibt10, ibt01, Int.ofNat_lt, Int.ofNat_le, Int.ofNat_inj, Nat.lt_irrefl, Int.lt_irrefl, Int.toNat_one, Int.toNat_zero, Bool.false_eq_true, reduceIte, reduceCtorEq, Nat.reduceAdd, Nat.reduceMul, Nat.reduceSub, Nat.reduceLT, Nat.reduceLeDiff, Nat.reduceEqDiff, Int.reduceNeg, Int.reduceAdd, Int.reduceMul, Int.reduceSub, Int.reduceLT, Int.reduceLE, Int.reduceEq, Int.reduceToNat, Int.reduceNatCast, icl, ico, inz, e16]
  refine hQ _ (fun j h1 h2 => by rw [gu_n h2, hM1 j (by omega), gu_n h2]) (q_C_e hC1 fun i h1 h2 => gu_n (by omega)) ⟨y, hy, ?_, ?_, by omega, fun j hj => ?_⟩
  · rw [gu_s (by decide), hM1 16 (by omega), gu_e]
  · rw [gu_e]
    omega
  · have e2 : (y + 7 - j) % 8 = (x + 7 - (j + 1)) % 8 := by omega
    rw [e2]
    refine q_C_e (hC8 (j + 1) (by omega)) fun i h1 h2 => ?_
    have e4 : (x + 7 - (j + 1)) % 8 < 8 := by omega
    generalize (x + 7 - (j + 1)) % 8 = z at *
    rw [gu_n (by omega), hM1 i (by omega), gu_n (by omega)]
end SG
