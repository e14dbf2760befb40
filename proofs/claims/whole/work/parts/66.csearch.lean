/-! the class counts colorings one by one -/
theorem gu_gu (f : gg_M) (o k : Nat) (x y : Int) : gg_up (gg_up f o k x) o k y = gg_up f o k y := by
  funext o' k'
  rw [gu, gu, gu]
  split <;> rfl
theorem gu_id {f : gg_M} {o k : Nat} {x : Int} (h : f o k = x) : gg_up f o k x = f := by
  funext o' k'
  rw [gu]
  split
  · rename_i e
    rw [e.1, e.2, h]
  · rfl
def qunI (G : q_G) (c : Nat → Int) (k : Nat) : Int := if qun G c k = qN G then -1 else (qun G c k : Int)
section SG
variable {N : Nat} {xs : Nat → Int32} {d : Nat} {M : gg_M} {cc cs : Nat} {Q : gg_O → Prop} {g : Nat} {G : q_G}
theorem wp_cpower {c e : Nat} (hc : c ≤ 61) (he : e ≤ 8) :
    wp N xs d 160 0 [(0, (c : Int)), (0, (e : Int)), (3, 0), (3, 0), (3, 0)] [] (gk_R, M, 158, cc, cs) Q ↔ Q ((1, (1, (c : Int) ^ e)), (gk_R, M, 158, cc, cs)) := by
  refine wp_det ?_
  simp (contextual := true) (disch := first | assumption | omega | exact il_cqA _ _ | exact il_cqB _ _) only [wi_160_0, wi_160_1, wi_160_2, wi_160_3, wi_160_7, wi_160_8, wi_160_11, wi_160_12, wi_160_13, wi_160_14, wi_160_15, wi_160_16, wi_160_19, wi_160_22, wi_160_23, io_add_o, io_sub_o, io_mul_o, io_neg_o, io_and_r, io_or_r, io_xor_r, io_nd_r, io_shr_r, io_shl1, io_i2b_r, io_i2l_o, io_l2i_o, il_add_o, il_sub_o, il_mul_o, il_neg_o, ib_bit, Int.toNat_natCast, true_implies, false_implies, implies_true, and_true, true_and, and_self, not_true_eq_false, not_false_eq_true, wa_0, wa_1, il_cmp_o, il_cmp0, il_cmp1, il_cmp2, io_bit1, ibt0, ibt1, ibt00, ibt11, ibt10, ibt01, Int.ofNat_lt, Int.ofNat_le, Int.ofNat_inj, Nat.lt_irrefl, Int.lt_irrefl, Int.toNat_one, Int.toNat_zero, Bool.false_eq_true, reduceIte, reduceCtorEq, Nat.reduceAdd, Nat.reduceMul, Nat.reduceSub, Nat.reduceLT, Nat.reduceLeDiff, Nat.reduceEqDiff, Int.reduceNeg, Int.reduceAdd, Int.reduceMul, Int.reduceSub, Int.reduceLT, Int.reduceLE, Int.reduceEq, Int.reduceToNat, Int.reduceNatCast, icl, ico, inz]
  refine wl_i (P := fun i I => ∀ v : Int, v = (c : Int) ^ i → wp N xs d 160 5 [(0, (c : Int)), (0, (e : Int)), (1, v), (3, 0), (0, I)] [] (gk_R, M, 158, cc, cs) _) e (fun i hi ih v hv => ?_) (fun v hv => ?_) 1 rfl
  · have h1 := ipow_bd (c := (c : Int)) (by omega) (by omega) (k := i + 1) (by omega)
    rw [Int.pow_succ, ← hv] at h1
    rw [wi_160_5]
    simp (contextual := true) (disch := first | assumption | omega | exact il_cqA _ _ | exact il_cqB _ _) only [wi_160_0, wi_160_1, wi_160_2, wi_160_3, wi_160_7, wi_160_8, wi_160_11, wi_160_12, wi_160_13, wi_160_14, wi_160_15, wi_160_16, wi_160_19, wi_160_22, wi_160_23, io_add_o, io_sub_o, io_mul_o, io_neg_o, io_and_r, io_or_r, io_xor_r, io_nd_r, io_shr_r, io_shl1, io_i2b_r, io_i2l_o, io_l2i_o, il_add_o, il_sub_o, il_mul_o, il_neg_o, ib_bit, Int.toNat_natCast, true_implies, false_implies, implies_true, and_true, true_and, and_self, not_true_eq_false, not_false_eq_true, wa_0, wa_1, il_cmp_o, il_cmp0, il_cmp1, il_cmp2, io_bit1, ibt0, ibt1, ibt00, ibt11, ibt10, ibt01, Int.ofNat_lt, Int.ofNat_le, Int.ofNat_inj, Nat.lt_irrefl, Int.lt_irrefl, Int.toNat_one, Int.toNat_zero, Bool.false_eq_true, reduceIte, reduceCtorEq, Nat.reduceAdd, Nat.reduceMul, Nat.reduceSub, Nat.reduceLT, Nat.reduceLeDiff, Nat.reduceEqDiff, Int.reduceNeg, Int.reduceAdd, Int.reduceMul, Int.reduceSub, Int.reduceLT, Int.reduceLE, Int.reduceEq, Int.reduceToNat, Int.reduceNatCast, icl, ico, inz, hi]
    exact ih _ (by rw [Int.pow_succ, ← hv])
  · rw [wi_160_5]
    simp (contextual := true) (disch := first | assumption | omega | exact il_cqA _ _ | exact il_cqB _ _) only [wi_160_0, wi_160_1, wi_160_2, wi_160_3, wi_160_7, wi_160_8, wi_160_11, wi_160_12, wi_160_13, wi_160_14, wi_160_15, wi_160_16, wi_160_19, wi_160_22, wi_160_23, io_add_o, io_sub_o, io_mul_o, io_neg_o, io_and_r, io_or_r, io_xor_r, io_nd_r, io_shr_r, io_shl1, io_i2b_r, io_i2l_o, io_l2i_o, il_add_o, il_sub_o, il_mul_o, il_neg_o, ib_bit, Int.toNat_natCast, true_implies, false_implies, implies_true, and_true, true_and, and_self, not_true_eq_false, not_false_eq_true, wa_0, wa_1, il_cmp_o, il_cmp0, il_cmp1, il_cmp2, io_bit1, ibt0, ibt1, ibt00, ibt11, ibt10, ibt01, Int.ofNat_lt, Int.ofNat_le, Int.ofNat_inj, Nat.lt_irrefl, Int.lt_irrefl, Int.toNat_one, Int.toNat_zero, Bool.false_eq_true, reduceIte, reduceCtorEq, Nat.reduceAdd, Nat.reduceMul, Nat.reduceSub, Nat.reduceLT, Nat.reduceLeDiff, Nat.reduceEqDiff, Int.reduceNeg, Int.reduceAdd, Int.reduceMul, Int.reduceSub, Int.reduceLT, Int.reduceLE, Int.reduceEq, Int.reduceToNat, Int.reduceNatCast, icl, ico, inz]
    rw [hv]
theorem wp_sbegin {n : Nat} (hQ : ∀ M' : gg_M, (∀ j, j ≠ 126 → j ≠ 127 → M' j = M j) → M' 126 1 = (n : Int) → (∀ v, v < 8 → M' 127 v = -1) → Q ((0, (3, 0)), (gk_R, M', 158, cc, cs))) :
    wp N xs d 53 0 [gr 126, (0, (n : Int)), (3, 0)] [] (gk_R, M, 158, cc, cs) Q := by
  simp (contextual := true) (disch := first | assumption | omega | exact il_cqA _ _ | exact il_cqB _ _) only [wi_53_0, wi_53_1, wi_53_2, wi_53_5, wi_53_6, wi_53_8, wi_53_10, wi_53_13, wi_53_14, wi_53_17, wi_53_18, wi_53_19, wi_53_20, wi_53_23, wi_53_26, io_add_o, io_sub_o, io_mul_o, io_neg_o, io_and_r, io_or_r, io_xor_r, io_nd_r, io_shr_r, io_shl1, io_i2b_r, io_i2l_o, io_l2i_o, il_add_o, il_sub_o, il_mul_o, il_neg_o, ib_bit, Int.toNat_natCast, true_implies, false_implies, implies_true, and_true, true_and, and_self, not_true_eq_false, not_false_eq_true, wa_0, wa_1, il_cmp_o, il_cmp0, il_cmp1, il_cmp2, io_bit1, ibt0, ibt1, ibt00, ibt11, ibt10, ibt01, Int.ofNat_lt, Int.ofNat_le, Int.ofNat_inj, Nat.lt_irrefl, Int.lt_irrefl, Int.toNat_one, Int.toNat_zero, Bool.false_eq_true, reduceIte, reduceCtorEq, Nat.reduceAdd, Nat.reduceMul, Nat.reduceSub, Nat.reduceLT, Nat.reduceLeDiff, Nat.reduceEqDiff, Int.reduceNeg, Int.reduceAdd, Int.reduceMul, Int.reduceSub, Int.reduceLT, Int.reduceLE, Int.reduceEq, Int.reduceToNat, Int.reduceNatCast, icl, ico, inz]
  refine wl_i (P := fun i I => ∀ M' : gg_M, (∀ j, j ≠ 127 → M' j = gg_up M 126 1 (n : Int) j) → (∀ v, v < i → M' 127 v = -1) → wp N xs d 53 7 [gr 126, (0, (n : Int)), (0, I)] [] (gk_R, M', 158, cc, cs) Q) 8 (fun i hi ih M' hM hv => ?_) (fun M' hM hv => ?_) _ (fun j _ => rfl) (fun v hv => absurd hv (Nat.not_lt_zero v))
  · rw [wi_53_7]
    simp (contextual := true) (disch := first | assumption | omega | exact il_cqA _ _ | exact il_cqB _ _) only [wi_53_0, wi_53_1, wi_53_2, wi_53_5, wi_53_6, wi_53_8, wi_53_10, wi_53_13, wi_53_14, wi_53_17, wi_53_18, wi_53_19, wi_53_20, wi_53_23, wi_53_26, io_add_o, io_sub_o, io_mul_o, io_neg_o, io_and_r, io_or_r, io_xor_r, io_nd_r, io_shr_r, io_shl1, io_i2b_r, io_i2l_o, io_l2i_o, il_add_o, il_sub_o, il_mul_o, il_neg_o, ib_bit, Int.toNat_natCast, true_implies, false_implies, implies_true, and_true, true_and, and_self, not_true_eq_false, not_false_eq_true, wa_0, wa_1, il_cmp_o, il_cmp0, il_cmp1, il_cmp2, io_bit1, ibt0, ibt1, ibt00, ibt11, ibt10, ibt01, Int.ofNat_lt, Int.ofNat_le, Int.ofNat_inj, Nat.lt_irrefl, Int.lt_irrefl, Int.toNat_one, Int.toNat_zero, Bool.false_eq_true, reduceIte, reduceCtorEq, Nat.reduceAdd, Nat.reduceMul, Nat.reduceSub, Nat.reduceLT, Nat.reduceLeDiff, Nat.reduceEqDiff, Int.reduceNeg, Int.reduceAdd, Int.reduceMul, Int.reduceSub, Int.reduceLT, Int.reduceLE, Int.reduceEq, Int.reduceToNat, Int.reduceNatCast, icl, ico, inz, hi]
    refine ih _ (fun j h1 => by rw [gu_n h1, hM j h1]) (fun v hv' => ?_)
    rw [gu]
    have := hv v
    grind
  · rw [wi_53_7]
    simp (contextual := true) (disch := first | assumption | omega | exact il_cqA _ _ | exact il_cqB _ _) only [wi_53_0, wi_53_1, wi_53_2, wi_53_5, wi_53_6, wi_53_8, wi_53_10, wi_53_13, wi_53_14, wi_53_17, wi_53_18, wi_53_19, wi_53_20, wi_53_23, wi_53_26, io_add_o, io_sub_o, io_mul_o, io_neg_o, io_and_r, io_or_r, io_xor_r, io_nd_r, io_shr_r, io_shl1, io_i2b_r, io_i2l_o, io_l2i_o, il_add_o, il_sub_o, il_mul_o, il_neg_o, ib_bit, Int.toNat_natCast, true_implies, false_implies, implies_true, and_true, true_and, and_self, not_true_eq_false, not_false_eq_true, wa_0, wa_1, il_cmp_o, il_cmp0, il_cmp1, il_cmp2, io_bit1, ibt0, ibt1, ibt00, ibt11, ibt10, ibt01, Int.ofNat_lt, Int.ofNat_le, Int.ofNat_inj, Nat.lt_irrefl, Int.lt_irrefl, Int.toNat_one, Int.toNat_zero, Bool.false_eq_true, reduceIte, reduceCtorEq, Nat.reduceAdd, Nat.reduceMul, Nat.reduceSub, Nat.reduceLT, Nat.reduceLeDiff, Nat.reduceEqDiff, Int.reduceNeg, Int.reduceAdd, Int.reduceMul, Int.reduceSub, Int.reduceLT, Int.reduceLE, Int.reduceEq, Int.reduceToNat, Int.reduceNatCast, icl, ico, inz, ico]
    exact hQ M' (fun j h1 h2 => by rw [hM j h2, gu_n h1]) (by rw [hM 126 (by decide), gu_e]) hv
theorem wp_spell (hg : gs_G g) (hG : q_ok G) (hC : q_C M g G) {n code : Nat} (hn : 1 ≤ n) (hn2 : n ≤ 61) (h1 : M 126 1 = (n : Int)) (hcode : code ≤ 2147483647) (hQ : ∀ M' : gg_M, (∀ j, j ≠ 127 → M' j = M j) → (∀ v, v < qN G → M' 127 v = ((code / n ^ v % n : Nat) : Int)) → Q ((0, (3, 0)), (gk_R, M', 158, cc, cs))) :
    wp N xs d 54 0 [gr 126, gr g, (0, (code : Int)), (3, 0), (3, 0)] [] (gk_R, M, 158, cc, cs) Q := by
  have hgr := gs_Gr hg
  have k2 := hG.1.2.1
  have hN := hC.1.1
  simp (contextual := true) (disch := first | assumption | omega | exact il_cqA _ _ | exact il_cqB _ _) only [wi_54_0, wi_54_1, wi_54_2, wi_54_3, wi_54_7, wi_54_8, wi_54_11, wi_54_14, wi_54_15, wi_54_18, wi_54_21, wi_54_22, wi_54_25, wi_54_27, wi_54_28, wi_54_29, wi_54_32, wi_54_33, wi_54_34, wi_54_35, wi_54_36, wi_54_39, wi_54_40, wi_54_41, wi_54_44, wi_54_47, io_add_o, io_sub_o, io_mul_o, io_neg_o, io_and_r, io_or_r, io_xor_r, io_nd_r, io_shr_r, io_shl1, io_i2b_r, io_i2l_o, io_l2i_o, il_add_o, il_sub_o, il_mul_o, il_neg_o, ib_bit, Int.toNat_natCast, true_implies, false_implies, implies_true, and_true, true_and, and_self, not_true_eq_false, not_false_eq_true, wa_0, wa_1, il_cmp_o, il_cmp0, il_cmp1, il_cmp2, io_bit1, ibt0, ibt1, ibt00, ibt11, ibt10, ibt01, Int.ofNat_lt, Int.ofNat_le, Int.ofNat_inj, Nat.lt_irrefl, Int.lt_irrefl, Int.toNat_one, Int.toNat_zero, Bool.false_eq_true, reduceIte, reduceCtorEq, Nat.reduceAdd, Nat.reduceMul, Nat.reduceSub, Nat.reduceLT, Nat.reduceLeDiff, Nat.reduceEqDiff, Int.reduceNeg, Int.reduceAdd, Int.reduceMul, Int.reduceSub, Int.reduceLT, Int.reduceLE, Int.reduceEq, Int.reduceToNat, Int.reduceNatCast, icl, ico, inz]
  refine wl_i (P := fun i I => ∀ M' : gg_M, (∀ j, j ≠ 127 → M' j = M j) → (∀ v, v < i → M' 127 v = ((code / n ^ v % n : Nat) : Int)) → ∀ r : Nat, r = code / n ^ i → wp N xs d 54 5 [gr 126, gr g, (0, (code : Int)), (0, (r : Int)), (0, I)] [] (gk_R, M', 158, cc, cs) Q) (qN G) (fun i hi ih M' hM hv r hr => ?_) (fun M' hM hv r hr => ?_) M (fun j _ => rfl) (fun v hv => absurd hv (Nat.not_lt_zero v)) code (by rw [Nat.pow_zero, Nat.div_one])
  · have e0 : M' g = M g := hM g (by omega)
    have e1 : M' 126 = M 126 := hM 126 (by decide)
    have hrl : r ≤ code := by rw [hr]; exact Nat.div_le_self _ _
    have t1 : ((r : Int)).tmod (n : Int) = ((r % n : Nat) : Int) := rfl
    have t2 : ((r : Int)).tdiv (n : Int) = ((r / n : Nat) : Int) := rfl
    have e2 : (0 : Int) < (n : Int) := by omega
    rw [wi_54_5]
    simp (contextual := true) (disch := first | assumption | omega | exact il_cqA _ _ | exact il_cqB _ _) only [wi_54_0, wi_54_1, wi_54_2, wi_54_3, wi_54_7, wi_54_8, wi_54_11, wi_54_14, wi_54_15, wi_54_18, wi_54_21, wi_54_22, wi_54_25, wi_54_27, wi_54_28, wi_54_29, wi_54_32, wi_54_33, wi_54_34, wi_54_35, wi_54_36, wi_54_39, wi_54_40, wi_54_41, wi_54_44, wi_54_47, io_add_o, io_sub_o, io_mul_o, io_neg_o, io_and_r, io_or_r, io_xor_r, io_nd_r, io_shr_r, io_shl1, io_i2b_r, io_i2l_o, io_l2i_o, il_add_o, il_sub_o, il_mul_o, il_neg_o, ib_bit, Int.toNat_natCast, true_implies, false_implies, implies_true, and_true, true_and, and_self, not_true_eq_false, not_false_eq_true, wa_0, wa_1, il_cmp_o, il_cmp0, il_cmp1, il_cmp2, io_bit1, ibt0, ibt1, ibt00, ibt11, ibt10, ibt01, Int.ofNat_lt, Int.ofNat_le, Int.ofNat_inj, Nat.lt_irrefl, Int.lt_irrefl, Int.toNat_one, Int.toNat_zero, Bool.false_eq_true, reduceIte, reduceCtorEq, Nat.reduceAdd, Nat.reduceMul, Nat.reduceSub, Nat.reduceLT, Nat.reduceLeDiff, Nat.reduceEqDiff, Int.reduceNeg, Int.reduceAdd, Int.reduceMul, Int.reduceSub, Int.reduceLT, Int.reduceLE, Int.reduceEq, Int.reduceToNat, Int.reduceNatCast, icl, ico, inz, hi, e0, e1, h1, hN, t1, t2, e2, gu_n]
    refine ih _ (fun j h1 => by rw [gu_n h1, hM j h1]) (fun v hv' => ?_) _ (by rw [hr, Nat.pow_succ, Nat.div_div_eq_div_mul])
    rw [gu]
    by_cases e : v = i
    · rw [if_pos ⟨rfl, e⟩, hr, e]
    · rw [if_neg (fun h => e h.2)]
      exact hv v (by omega)
  · have e0 : M' g = M g := hM g (by omega)
    rw [wi_54_5]
    simp (contextual := true) (disch := first | assumption | omega | exact il_cqA _ _ | exact il_cqB _ _) only [wi_54_0, wi_54_1, wi_54_2, wi_54_3, wi_54_7, wi_54_8, wi_54_11, wi_54_14, wi_54_15, wi_54_18, wi_54_21, wi_54_22, wi_54_25, wi_54_27, wi_54_28, wi_54_29, wi_54_32, wi_54_33, wi_54_34, wi_54_35, wi_54_36, wi_54_39, wi_54_40, wi_54_41, wi_54_44, wi_54_47, io_add_o, io_sub_o, io_mul_o, io_neg_o, io_and_r, io_or_r, io_xor_r, io_nd_r, io_shr_r, io_shl1, io_i2b_r, io_i2l_o, io_l2i_o, il_add_o, il_sub_o, il_mul_o, il_neg_o, ib_bit, Int.toNat_natCast, true_implies, false_implies, implies_true, and_true, true_and, and_self, not_true_eq_false, not_false_eq_true, wa_0, wa_1, il_cmp_o, il_cmp0, il_cmp1, il_cmp2, io_bit1, ibt0, ibt1, ibt00, ibt11, ibt10, ibt01, Int.ofNat_lt, Int.ofNat_le, Int.ofNat_inj, Nat.lt_irrefl, Int.lt_irrefl, Int.toNat_one, Int.toNat_zero, Bool.false_eq_true, reduceIte, reduceCtorEq, Nat.reduceAdd, Nat.reduceMul, Nat.reduceSub, Nat.reduceLT, Nat.reduceLeDiff, Nat.reduceEqDiff, Int.reduceNeg, Int.reduceAdd, Int.reduceMul, Int.reduceSub, Int.reduceLT, Int.reduceLE, Int.reduceEq, Int.reduceToNat, Int.reduceNatCast, icl, ico, inz, e0, hN]
    exact hQ M' hM hv
theorem wp_uncolored (hg : gs_G g) (hG : q_ok G) (hC : q_C M g G) {c : Nat → Int} (hc : ∀ u, u < qN G → M 127 u = c u) (hcr : ∀ u, u < qN G → -1 ≤ c u ∧ c u ≤ 60) {k v : Nat} (hv : v + k = qN G) :
    wp N xs d 58 0 [gr 126, gr g, (0, (v : Int)), (3, 0)] [] (gk_R, M, 158, cc, cs) Q ↔ Q ((1, (0, qunI G c k)), (gk_R, M, 158, cc, cs)) := by
  refine wp_det ?_
  have k2 := hG.1.2.1
  have hN := hC.1.1
  simp (contextual := true) (disch := first | assumption | omega | exact il_cqA _ _ | exact il_cqB _ _) only [wi_58_0, wi_58_1, wi_58_3, wi_58_4, wi_58_7, wi_58_10, wi_58_11, wi_58_14, wi_58_15, wi_58_16, wi_58_17, wi_58_20, wi_58_21, wi_58_22, wi_58_25, wi_58_28, wi_58_29, io_add_o, io_sub_o, io_mul_o, io_neg_o, io_and_r, io_or_r, io_xor_r, io_nd_r, io_shr_r, io_shl1, io_i2b_r, io_i2l_o, io_l2i_o, il_add_o, il_sub_o, il_mul_o, il_neg_o, ib_bit, Int.toNat_natCast, true_implies, false_implies, implies_true, and_true, true_and, and_self, not_true_eq_false, not_false_eq_true, wa_0, wa_1, il_cmp_o, il_cmp0, il_cmp1, il_cmp2, io_bit1, ibt0, ibt1, ibt00, ibt11, ibt10, ibt01, Int.ofNat_lt, Int.ofNat_le, Int.ofNat_inj, Nat.lt_irrefl, Int.lt_irrefl, Int.toNat_one, Int.toNat_zero, Bool.false_eq_true, reduceIte, reduceCtorEq, Nat.reduceAdd, Nat.reduceMul, Nat.reduceSub, Nat.reduceLT, Nat.reduceLeDiff, Nat.reduceEqDiff, Int.reduceNeg, Int.reduceAdd, Int.reduceMul, Int.reduceSub, Int.reduceLT, Int.reduceLE, Int.reduceEq, Int.reduceToNat, Int.reduceNatCast, icl, ico, inz]
  have key : ∀ k w, w + k = qN G → wp N xs d 58 2 [gr 126, gr g, (0, (v : Int)), (0, (w : Int))] [] (gk_R, M, 158, cc, cs) (fun o => o = ((1, (0, qunI G c k)), (gk_R, M, 158, cc, cs))) := by
    intro k
    induction k with
    | zero =>
      intro w hw
      have e1 : ¬ w < qN G := by omega
      have e2 : qunI G c 0 = -1 := if_pos rfl
      rw [wi_58_2, e2]
      simp (contextual := true) (disch := first | assumption | omega | exact il_cqA _ _ | exact il_cqB _ _) only [wi_58_0, wi_58_1, wi_58_3, wi_58_4, wi_58_7, wi_58_10, wi_58_11, wi_58_14, wi_58_15, wi_58_16, wi_58_17, wi_58_20, wi_58_21, wi_58_22, wi_58_25, wi_58_28, wi_58_29, io_add_o, io_sub_o, io_mul_o, io_neg_o, io_and_r, io_or_r, io_xor_r, io_nd_r, io_shr_r, io_shl1, io_i2b_r, io_i2l_o, io_l2i_o, il_add_o, il_sub_o, il_mul_o, il_neg_o, ib_bit, Int.toNat_natCast, true_implies, false_implies, implies_true, and_true, true_and, and_self, not_true_eq_false, not_false_eq_true, wa_0, wa_1, il_cmp_o, il_cmp0, il_cmp1, il_cmp2, io_bit1, ibt0, ibt1, ibt00, ibt11, ibt10, ibt01, Int.ofNat_lt, Int.ofNat_le, Int.ofNat_inj, Nat.lt_irrefl, Int.lt_irrefl, Int.toNat_one, Int.toNat_zero, Bool.false_eq_true, reduceIte, reduceCtorEq, Nat.reduceAdd, Nat.reduceMul, Nat.reduceSub, Nat.reduceLT, Nat.reduceLeDiff, Nat.reduceEqDiff, Int.reduceNeg, Int.reduceAdd, Int.reduceMul, Int.reduceSub, Int.reduceLT, Int.reduceLE, Int.reduceEq, Int.reduceToNat, Int.reduceNatCast, icl, ico, inz, hN, e1]
    | succ k ih =>
      intro w hw
      have e1 : w < qN G := by omega
      have e3 : qN G - (k + 1) = w := by omega
      have e4 := hc w e1
      have e5 := hcr w e1
      have e7 := ih (w + 1) (by omega)
      rw [wi_58_2]
      by_cases e6 : c w = -1
      · have e2 : qunI G c (k + 1) = (w : Int) := by
          have e8 : qun G c (k + 1) = w := by rw [qun, e3, if_pos e6]
          unfold qunI
          rw [e8, if_neg (by omega)]
        rw [e2]
        simp (contextual := true) (disch := first | assumption | omega | exact il_cqA _ _ | exact il_cqB _ _) only [wi_58_0, wi_58_1, wi_58_3, wi_58_4, wi_58_7, wi_58_10, wi_58_11, wi_58_14, wi_58_15, wi_58_16, wi_58_17, wi_58_20, wi_58_21, wi_58_22, wi_58_25, wi_58_28, wi_58_29, io_add_o, io_sub_o, io_mul_o, io_neg_o, io_and_r, io_or_r, io_xor_r, io_nd_r, io_shr_r, io_shl1, io_i2b_r, io_i2l_o, io_l2i_o, il_add_o, il_sub_o, il_mul_o, il_neg_o, ib_bit, Int.toNat_natCast, true_implies, false_implies, implies_true, and_true, true_and, and_self, not_true_eq_false, not_false_eq_true, wa_0, wa_1, il_cmp_o, il_cmp0, il_cmp1, il_cmp2, io_bit1, ibt0, ibt1, ibt00, ibt11, ibt10, ibt01, Int.ofNat_lt, Int.ofNat_le, Int.ofNat_inj, Nat.lt_irrefl, Int.lt_irrefl, Int.toNat_one, Int.toNat_zero, Bool.false_eq_true, reduceIte, reduceCtorEq, Nat.reduceAdd, Nat.reduceMul, Nat.reduceSub, Nat.reduceLT, Nat.reduceLeDiff, Nat.reduceEqDiff, Int.reduceNeg, Int.reduceAdd, Int.reduceMul, Int.reduceSub, Int.reduceLT, Int.reduceLE, Int.reduceEq, Int.reduceToNat, Int.reduceNatCast, icl, ico, inz, hN, e1, e4, e6]
      · have e2 : qunI G c (k + 1) = qunI G c k := by
          have e8 : qun G c (k + 1) = qun G c k := by rw [qun, e3, if_neg e6]
          unfold qunI
          rw [e8]
        rw [e2]
        simp (contextual := true) (disch := first | assumption | omega | exact il_cqA _ _ | exact il_cqB _ _) only [wi_58_0, wi_58_1, wi_58_3, wi_58_4, wi_58_7, wi_58_10, wi_58_11, wi_58_14, wi_58_15, wi_58_16, wi_58_17, wi_58_20, wi_58_21, wi_58_22, wi_58_25, wi_58_28, wi_58_29, io_add_o, io_sub_o, io_mul_o, io_neg_o, io_and_r, io_or_r, io_xor_r, io_nd_r, io_shr_r, io_shl1, io_i2b_r, io_i2l_o, io_l2i_o, il_add_o, il_sub_o, il_mul_o, il_neg_o, ib_bit, Int.toNat_natCast, true_implies, false_implies, implies_true, and_true, true_and, and_self, not_true_eq_false, not_false_eq_true, wa_0, wa_1, il_cmp_o, il_cmp0, il_cmp1, il_cmp2, io_bit1, ibt0, ibt1, ibt00, ibt11, ibt10, ibt01, Int.ofNat_lt, Int.ofNat_le, Int.ofNat_inj, Nat.lt_irrefl, Int.lt_irrefl, Int.toNat_one, Int.toNat_zero, Bool.false_eq_true, reduceIte, reduceCtorEq, Nat.reduceAdd, Nat.reduceMul, Nat.reduceSub, Nat.reduceLT, Nat.reduceLeDiff, Nat.reduceEqDiff, Int.reduceNeg, Int.reduceAdd, Int.reduceMul, Int.reduceSub, Int.reduceLT, Int.reduceLE, Int.reduceEq, Int.reduceToNat, Int.reduceNatCast, icl, ico, inz, hN, e1, e4, e6]
        exact e7
  exact key k v hv
theorem wp_ways (hg : gs_G g) (hG : q_ok G) {n l : Nat} (hl : l ≤ 5) (hn : n = qM G * l + 1) (k : Nat) : ∀ (v d : Nat) (M : gg_M) (c : Nat → Int) (Q : gg_O → Prop), v + k = qN G → q_C M g G → M 126 1 = (n : Int) → (∀ u, u < qN G → M 127 u = c u) → (∀ u, u < qN G → -1 ≤ c u ∧ c u ≤ ((qM G * l : Nat) : Int)) → qW_ G n k c ≤ 200000 →
    (wp N xs (d + k + 4) 59 0 [gr 126, gr g, (0, (v : Int)), (3, 0), (3, 0), (3, 0), (3, 0), (3, 0)] [] (gk_R, M, 158, cc, cs) Q ↔ Q ((1, (0, (qW_ G n k c : Int))), (gk_R, M, 158, cc, cs))) := by
  induction k using Nat.strongRecOn with
  | ind k ihk =>
    intro v d M c Q hvk hC hcn hc hcr hW
    refine wp_det ?_
    have hgr := gs_Gr hg
    have hml := Nat.mul_le_mul hG.1.2.2.2.1 hl
    have hcr60 : ∀ u, u < qN G → -1 ≤ c u ∧ c u ≤ 60 := fun u hu => by
      have := hcr u hu
      omega
    have k2 := hG.1.2.1
    have hca : gs_a 127 1 8 := gs_ab_ok (by decide +kernel)
    obtain ⟨u1, u2, u3, u4, u5⟩ := qun_W (G := G) (n := n) (c := c) k (by omega)
    rw [wi_59_0]
    by_cases eN : qun G c k = qN G
    · have e1 : qunI G c k = -1 := if_pos eN
      have e2 := qW_1 (G := G) (n := n) (c := c) (k := k) (by omega) eN
      rw [e2]
      simp (contextual := true) (disch := first | assumption | omega | exact il_cqA _ _ | exact il_cqB _ _) only [wi_59_1, wi_59_2, wi_59_3, wi_59_6, wi_59_7, wi_59_8, wi_59_9, wi_59_12, wi_59_13, wi_59_14, wi_59_15, wi_59_16, wi_59_19, wi_59_20, wi_59_21, wi_59_24, wi_59_27, wi_59_29, wi_59_30, wi_59_31, wi_59_32, wi_59_33, wi_59_34, wi_59_37, wi_59_38, wi_59_41, wi_59_43, wi_59_46, wi_59_47, wi_59_48, wi_59_50, wi_59_51, wi_59_55, wi_59_56, wi_59_59, wi_59_62, wi_59_64, wi_59_66, wi_59_67, wi_59_68, wi_59_69, wi_59_70, wi_59_71, wi_59_74, wi_59_75, wi_59_78, wi_59_79, wi_59_81, wi_59_82, wi_59_84, wi_59_85, wi_59_86, wi_59_87, wi_59_88, wi_59_89, wi_59_92, wi_59_93, wi_59_95, wi_59_98, wi_59_101, wi_59_102, wi_59_105, wi_59_106, wi_59_107, wi_59_108, wi_59_110, io_add_o, io_sub_o, io_mul_o, io_neg_o, io_and_r, io_or_r, io_xor_r, io_nd_r, io_shr_r, io_shl1, io_i2b_r, io_i2l_o, io_l2i_o, il_add_o, il_sub_o, il_mul_o, il_neg_o, ib_bit, Int.toNat_natCast, true_implies, false_implies, implies_true, and_true, true_and, and_self, not_true_eq_false, not_false_eq_true, wa_0, wa_1, il_cmp_o, il_cmp0, il_cmp1, il_cmp2, io_bit1, ibt0, ibt1, ibt00, ibt11, ibt10, ibt01, Int.ofNat_lt, Int.ofNat_le, Int.ofNat_inj, Nat.lt_irrefl, Int.lt_irrefl, Int.toNat_one, Int.toNat_zero, Bool.false_eq_true, reduceIte, reduceCtorEq, Nat.reduceAdd, Nat.reduceMul, Nat.reduceSub, Nat.reduceLT, Nat.reduceLeDiff, Nat.reduceEqDiff, Int.reduceNeg, Int.reduceAdd, Int.reduceMul, Int.reduceSub, Int.reduceLT, Int.reduceLE, Int.reduceEq, Int.reduceToNat, Int.reduceNatCast, icl, ico, inz, wp_uncolored hg hG hC hc hcr60 hvk, e1]
    · obtain ⟨p, hp⟩ : ∃ p, p = qun G c k := ⟨_, rfl⟩
      rw [← hp] at u1 u2 u3 u4 u5 eN
      have hpN : p < qN G := by omega
      have e1 : qunI G c k = (p : Int) := by
        unfold qunI
        rw [← hp, if_neg eN]
      have e1n : ¬ (p : Int) = -1 := by omega
      obtain ⟨k1, hk1⟩ : ∃ k1, k1 = qN G - (p + 1) := ⟨_, rfl⟩
      have ek : qN G - p = k1 + 1 := by omega
      have ep : qN G - (k1 + 1) = p := by omega
      have hpk : (p + 1) + k1 = qN G := by omega
      rw [ek] at u3
      have hcp := u4 hpN
      have hWs := qW_s (G := G) (n := n) (k := k1) (c := c) (by rw [ep]; exact hcp)
      have hwd : ∀ x, qw_ G n k1 c x = if qopen G c p x then qW_ G n k1 (qwith c p (x : Nat)) else 0 := fun x => by unfold qw_; rw [ep]
      have hopb : ∀ Q' : gg_O → Prop, wp N xs (d + k + 3) 20 0 [gr g, gr 127, (0, (p : Int)), (0, (n : Int)), (3, 0), (3, 0), (3, 0), (3, 0), (3, 0)] [] (gk_R, M, 158, cc, cs) Q' ↔ Q' ((1, (1, (qbits (qopen G c p) n : Int))), (gk_R, M, 158, cc, cs)) := fun Q' => wp_openColors (N := N) (xs := xs) (d := d + k + 1) (M := M) (cc := cc) (cs := cs) (Q := Q') hg hG hC hca hc hl hcr p n hpN (by omega)
      have hbl : qbits (qopen G c p) n < 2305843009213693952 := Nat.lt_of_lt_of_le (qbits_lt _ _) (Nat.pow_le_pow_right (j := 61) (by decide) (by omega))
      have hunc : ∀ Q' : gg_O → Prop, wp N xs (d + k + 3) 58 0 [gr 126, gr g, (0, (p : Int) + 1), (3, 0)] [] (gk_R, M, 158, cc, cs) Q' ↔ Q' ((1, (0, qunI G c k1)), (gk_R, M, 158, cc, cs)) := fun Q' => wp_uncolored (v := p + 1) hg hG hC hc hcr60 hpk
      by_cases eL : qun G c k1 = qN G
      · have e2 : qunI G c k1 = -1 := if_pos eL
        have e3 : qcnt (qbits (qopen G c p) n).testBit 64 = qW_ G n k c := by
          rw [u3, hWs, qcnt_ext (n := n) (m := 64) (by omega) fun i hi _ => by rw [qbits_bit, decide_eq_false (by omega : ¬ i < n)]; rfl]
          rw [← qsm_cnt]
          refine qsm_congr fun x hx => ?_
          rw [qbits_bit, decide_eq_true hx, Bool.true_and, hwd]
          cases ho : qopen G c p x
          · rfl
          · rw [if_pos rfl, qW_1 (by omega) (by rw [qun_congr (c' := c) (by omega) fun u h1 h2 => qwith_n (by omega)]; exact eL)]
            rfl
        simp (contextual := true) (disch := first | assumption | omega | exact il_cqA _ _ | exact il_cqB _ _) only [wi_59_1, wi_59_2, wi_59_3, wi_59_6, wi_59_7, wi_59_8, wi_59_9, wi_59_12, wi_59_13, wi_59_14, wi_59_15, wi_59_16, wi_59_19, wi_59_20, wi_59_21, wi_59_24, wi_59_27, wi_59_29, wi_59_30, wi_59_31, wi_59_32, wi_59_33, wi_59_34, wi_59_37, wi_59_38, wi_59_41, wi_59_43, wi_59_46, wi_59_47, wi_59_48, wi_59_50, wi_59_51, wi_59_55, wi_59_56, wi_59_59, wi_59_62, wi_59_64, wi_59_66, wi_59_67, wi_59_68, wi_59_69, wi_59_70, wi_59_71, wi_59_74, wi_59_75, wi_59_78, wi_59_79, wi_59_81, wi_59_82, wi_59_84, wi_59_85, wi_59_86, wi_59_87, wi_59_88, wi_59_89, wi_59_92, wi_59_93, wi_59_95, wi_59_98, wi_59_101, wi_59_102, wi_59_105, wi_59_106, wi_59_107, wi_59_108, wi_59_110, io_add_o, io_sub_o, io_mul_o, io_neg_o, io_and_r, io_or_r, io_xor_r, io_nd_r, io_shr_r, io_shl1, io_i2b_r, io_i2l_o, io_l2i_o, il_add_o, il_sub_o, il_mul_o, il_neg_o, ib_bit, Int.toNat_natCast, true_implies, false_implies, implies_true, and_true, true_and, and_self, not_true_eq_false, not_false_eq_true, wa_0, wa_1, il_cmp_o, il_cmp0, il_cmp1, il_cmp2, io_bit1, ibt0, ibt1, ibt00, ibt11, ibt10, ibt01, Int.ofNat_lt, Int.ofNat_le, Int.ofNat_inj, Nat.lt_irrefl, Int.lt_irrefl, Int.toNat_one, Int.toNat_zero, Bool.false_eq_true, reduceIte, reduceCtorEq, Nat.reduceAdd, Nat.reduceMul, Nat.reduceSub, Nat.reduceLT, Nat.reduceLeDiff, Nat.reduceEqDiff, Int.reduceNeg, Int.reduceAdd, Int.reduceMul, Int.reduceSub, Int.reduceLT, Int.reduceLE, Int.reduceEq, Int.reduceToNat, Int.reduceNatCast, icl, ico, inz, wp_uncolored hg hG hC hc hcr60 hvk, e1, e1n, hcn, hopb, hunc, e2, wp_lbitCount, e3]
      · have e2 : ¬ qunI G c k1 = -1 := by
          unfold qunI
          rw [if_neg eL]
          omega
        have e2r : -1 ≤ qunI G c k1 ∧ qunI G c k1 ≤ 8 := by
          have := (qun_W (G := G) (n := n) (c := c) k1 (by omega)).2.1
          unfold qunI
          split <;> omega
        rw [u3, hWs]
        have hdep : d + k + 3 = (d + (k - k1 - 1)) + k1 + 4 := by omega
        have hM0 : gg_up M 127 p (-1) = M := gu_id (by rw [hc p hpN]; exact hcp)
        simp (contextual := true) (disch := first | assumption | omega | exact il_cqA _ _ | exact il_cqB _ _) only [wi_59_1, wi_59_2, wi_59_3, wi_59_6, wi_59_7, wi_59_8, wi_59_9, wi_59_12, wi_59_13, wi_59_14, wi_59_15, wi_59_16, wi_59_19, wi_59_20, wi_59_21, wi_59_24, wi_59_27, wi_59_29, wi_59_30, wi_59_31, wi_59_32, wi_59_33, wi_59_34, wi_59_37, wi_59_38, wi_59_41, wi_59_43, wi_59_46, wi_59_47, wi_59_48, wi_59_50, wi_59_51, wi_59_55, wi_59_56, wi_59_59, wi_59_62, wi_59_64, wi_59_66, wi_59_67, wi_59_68, wi_59_69, wi_59_70, wi_59_71, wi_59_74, wi_59_75, wi_59_78, wi_59_79, wi_59_81, wi_59_82, wi_59_84, wi_59_85, wi_59_86, wi_59_87, wi_59_88, wi_59_89, wi_59_92, wi_59_93, wi_59_95, wi_59_98, wi_59_101, wi_59_102, wi_59_105, wi_59_106, wi_59_107, wi_59_108, wi_59_110, io_add_o, io_sub_o, io_mul_o, io_neg_o, io_and_r, io_or_r, io_xor_r, io_nd_r, io_shr_r, io_shl1, io_i2b_r, io_i2l_o, io_l2i_o, il_add_o, il_sub_o, il_mul_o, il_neg_o, ib_bit, Int.toNat_natCast, true_implies, false_implies, implies_true, and_true, true_and, and_self, not_true_eq_false, not_false_eq_true, wa_0, wa_1, il_cmp_o, il_cmp0, il_cmp1, il_cmp2, io_bit1, ibt0, ibt1, ibt00, ibt11, ibt10, ibt01, Int.ofNat_lt, Int.ofNat_le, Int.ofNat_inj, Nat.lt_irrefl, Int.lt_irrefl, Int.toNat_one, Int.toNat_zero, Bool.false_eq_true, reduceIte, reduceCtorEq, Nat.reduceAdd, Nat.reduceMul, Nat.reduceSub, Nat.reduceLT, Nat.reduceLeDiff, Nat.reduceEqDiff, Int.reduceNeg, Int.reduceAdd, Int.reduceMul, Int.reduceSub, Int.reduceLT, Int.reduceLE, Int.reduceEq, Int.reduceToNat, Int.reduceNatCast, icl, ico, inz, wp_uncolored hg hG hC hc hcr60 hvk, e1, e1n, hcn, hopb, hunc, e2]
        refine wl_i (P := fun i I => ∀ y : Int, wp N xs (d + k + 3 + 1) 59 53 [gr 126, gr g, (0, (v : Int)), (0, (p : Int)), (1, (qbits (qopen G c p) n : Int)), (3, 0), (0, (qsm (qw_ G n k1 c) i : Int)), (0, I)] [] (gk_R, gg_up M 127 p y, 158, cc, cs) _) n (fun i hi ih y => ?_) (fun y => ?_) (-1) |> fun h => by rw [hM0] at h; exact h
        · have hS1 := qsm_mono (f := qw_ G n k1 c) (show i + 1 ≤ n by omega)
          have hS : qsm (qw_ G n k1 c) (i + 1) = qsm (qw_ G n k1 c) i + qw_ G n k1 c i := rfl
          have hwi := hwd i
          have htb := qbits_bit (qopen G c p) n i
          rw [decide_eq_true hi, Bool.true_and] at htb
          rw [hS] at ih
          rw [wi_59_53]
          cases ho : qopen G c p i
          · rw [ho] at htb hwi
            rw [if_neg (by decide)] at hwi
            rw [hwi] at ih
            simp (contextual := true) (disch := first | assumption | omega | exact il_cqA _ _ | exact il_cqB _ _) only [wi_59_1, wi_59_2, wi_59_3, wi_59_6, wi_59_7, wi_59_8, wi_59_9, wi_59_12, wi_59_13, wi_59_14, wi_59_15, wi_59_16, wi_59_19, wi_59_20, wi_59_21, wi_59_24, wi_59_27, wi_59_29, wi_59_30, wi_59_31, wi_59_32, wi_59_33, wi_59_34, wi_59_37, wi_59_38, wi_59_41, wi_59_43, wi_59_46, wi_59_47, wi_59_48, wi_59_50, wi_59_51, wi_59_55, wi_59_56, wi_59_59, wi_59_62, wi_59_64, wi_59_66, wi_59_67, wi_59_68, wi_59_69, wi_59_70, wi_59_71, wi_59_74, wi_59_75, wi_59_78, wi_59_79, wi_59_81, wi_59_82, wi_59_84, wi_59_85, wi_59_86, wi_59_87, wi_59_88, wi_59_89, wi_59_92, wi_59_93, wi_59_95, wi_59_98, wi_59_101, wi_59_102, wi_59_105, wi_59_106, wi_59_107, wi_59_108, wi_59_110, io_add_o, io_sub_o, io_mul_o, io_neg_o, io_and_r, io_or_r, io_xor_r, io_nd_r, io_shr_r, io_shl1, io_i2b_r, io_i2l_o, io_l2i_o, il_add_o, il_sub_o, il_mul_o, il_neg_o, ib_bit, Int.toNat_natCast, true_implies, false_implies, implies_true, and_true, true_and, and_self, not_true_eq_false, not_false_eq_true, wa_0, wa_1, il_cmp_o, il_cmp0, il_cmp1, il_cmp2, io_bit1, ibt0, ibt1, ibt00, ibt11, ibt10, ibt01, Int.ofNat_lt, Int.ofNat_le, Int.ofNat_inj, Nat.lt_irrefl, Int.lt_irrefl, Int.toNat_one, Int.toNat_zero, Bool.false_eq_true, reduceIte, reduceCtorEq, Nat.reduceAdd, Nat.reduceMul, Nat.reduceSub, Nat.reduceLT, Nat.reduceLeDiff, Nat.reduceEqDiff, Int.reduceNeg, Int.reduceAdd, Int.reduceMul, Int.reduceSub, Int.reduceLT, Int.reduceLE, Int.reduceEq, Int.reduceToNat, Int.reduceNatCast, icl, ico, inz, hi, gu_n, hcn, il_shr_n, il_bit, htb]
            exact ih y
          · rw [ho] at htb hwi
            rw [if_pos rfl] at hwi
            have hrec : ∀ Q' : gg_O → Prop, wp N xs (d + k + 3) 59 0 [gr 126, gr g, (0, (p : Int) + 1), (3, 0), (3, 0), (3, 0), (3, 0), (3, 0)] [] (gk_R, gg_up M 127 p (i : Int), 158, cc, cs) Q' ↔ Q' ((1, (0, (qw_ G n k1 c i : Int))), (gk_R, gg_up M 127 p (i : Int), 158, cc, cs)) := by
              intro Q'
              rw [hdep, hwi]
              refine ihk k1 (by omega) (p + 1) _ _ (qwith c p (i : Nat)) Q' hpk (q_C_e hC fun j h1 h2 => gu_n (by omega)) (by rw [gu_n (by decide)]; exact hcn) (fun u hu => ?_) (fun u hu => ?_) ?_
              · rw [gu]
                unfold qwith
                by_cases e : u = p
                · rw [if_pos ⟨rfl, e⟩, if_pos e]
                · rw [if_neg (fun h => e h.2), if_neg e]
                  exact hc u hu
              · unfold qwith
                split
                · omega
                · exact hcr u hu
              · rw [← hwi]
                omega
            simp (contextual := true) (disch := first | assumption | omega | exact il_cqA _ _ | exact il_cqB _ _) only [wi_59_1, wi_59_2, wi_59_3, wi_59_6, wi_59_7, wi_59_8, wi_59_9, wi_59_12, wi_59_13, wi_59_14, wi_59_15, wi_59_16, wi_59_19, wi_59_20, wi_59_21, wi_59_24, wi_59_27, wi_59_29, wi_59_30, wi_59_31, wi_59_32, wi_59_33, wi_59_34, wi_59_37, wi_59_38, wi_59_41, wi_59_43, wi_59_46, wi_59_47, wi_59_48, wi_59_50, wi_59_51, wi_59_55, wi_59_56, wi_59_59, wi_59_62, wi_59_64, wi_59_66, wi_59_67, wi_59_68, wi_59_69, wi_59_70, wi_59_71, wi_59_74, wi_59_75, wi_59_78, wi_59_79, wi_59_81, wi_59_82, wi_59_84, wi_59_85, wi_59_86, wi_59_87, wi_59_88, wi_59_89, wi_59_92, wi_59_93, wi_59_95, wi_59_98, wi_59_101, wi_59_102, wi_59_105, wi_59_106, wi_59_107, wi_59_108, wi_59_110, io_add_o, io_sub_o, io_mul_o, io_neg_o, io_and_r, io_or_r, io_xor_r, io_nd_r, io_shr_r, io_shl1, io_i2b_r, io_i2l_o, io_l2i_o, il_add_o, il_sub_o, il_mul_o, il_neg_o, ib_bit, Int.toNat_natCast, true_implies, false_implies, implies_true, and_true, true_and, and_self, not_true_eq_false, not_false_eq_true, wa_0, wa_1, il_cmp_o, il_cmp0, il_cmp1, il_cmp2, io_bit1, ibt0, ibt1, ibt00, ibt11, ibt10, ibt01, Int.ofNat_lt, Int.ofNat_le, Int.ofNat_inj, Nat.lt_irrefl, Int.lt_irrefl, Int.toNat_one, Int.toNat_zero, Bool.false_eq_true, reduceIte, reduceCtorEq, Nat.reduceAdd, Nat.reduceMul, Nat.reduceSub, Nat.reduceLT, Nat.reduceLeDiff, Nat.reduceEqDiff, Int.reduceNeg, Int.reduceAdd, Int.reduceMul, Int.reduceSub, Int.reduceLT, Int.reduceLE, Int.reduceEq, Int.reduceToNat, Int.reduceNatCast, icl, ico, inz, hi, gu_n, hcn, il_shr_n, il_bit, htb, gu_gu, hrec]
            exact ih i
        · rw [wi_59_53]
          simp (contextual := true) (disch := first | assumption | omega | exact il_cqA _ _ | exact il_cqB _ _) only [wi_59_1, wi_59_2, wi_59_3, wi_59_6, wi_59_7, wi_59_8, wi_59_9, wi_59_12, wi_59_13, wi_59_14, wi_59_15, wi_59_16, wi_59_19, wi_59_20, wi_59_21, wi_59_24, wi_59_27, wi_59_29, wi_59_30, wi_59_31, wi_59_32, wi_59_33, wi_59_34, wi_59_37, wi_59_38, wi_59_41, wi_59_43, wi_59_46, wi_59_47, wi_59_48, wi_59_50, wi_59_51, wi_59_55, wi_59_56, wi_59_59, wi_59_62, wi_59_64, wi_59_66, wi_59_67, wi_59_68, wi_59_69, wi_59_70, wi_59_71, wi_59_74, wi_59_75, wi_59_78, wi_59_79, wi_59_81, wi_59_82, wi_59_84, wi_59_85, wi_59_86, wi_59_87, wi_59_88, wi_59_89, wi_59_92, wi_59_93, wi_59_95, wi_59_98, wi_59_101, wi_59_102, wi_59_105, wi_59_106, wi_59_107, wi_59_108, wi_59_110, io_add_o, io_sub_o, io_mul_o, io_neg_o, io_and_r, io_or_r, io_xor_r, io_nd_r, io_shr_r, io_shl1, io_i2b_r, io_i2l_o, io_l2i_o, il_add_o, il_sub_o, il_mul_o, il_neg_o, ib_bit, Int.toNat_natCast, true_implies, false_implies, implies_true, and_true, true_and, and_self, not_true_eq_false, not_false_eq_true, wa_0, wa_1, il_cmp_o, il_cmp0, il_cmp1, il_cmp2, io_bit1, ibt0, ibt1, ibt00, ibt11, ibt10, ibt01, Int.ofNat_lt, Int.ofNat_le, Int.ofNat_inj, Nat.lt_irrefl, Int.lt_irrefl, Int.toNat_one, Int.toNat_zero, Bool.false_eq_true, reduceIte, reduceCtorEq, Nat.reduceAdd, Nat.reduceMul, Nat.reduceSub, Nat.reduceLT, Nat.reduceLeDiff, Nat.reduceEqDiff, Int.reduceNeg, Int.reduceAdd, Int.reduceMul, Int.reduceSub, Int.reduceLT, Int.reduceLE, Int.reduceEq, Int.reduceToNat, Int.reduceNatCast, icl, ico, inz, gu_n, hcn, gu_gu, hM0]
end SG
