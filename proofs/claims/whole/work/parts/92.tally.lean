/-! sums over sets of arcs -/
def qsf (G : q_G) (of : Nat) (b : Bool) (s : Nat) : Bool := decide (s &&& of = s) && (!b || qeven G s)
theorem qsu_congr {G : q_G} {f g : Nat → Bool} {c : Int} {n : Nat} (h : ∀ s, s < n → f s = g s) : qsu G f c n = qsu G g c n := qsi_congr fun s hs => by rw [h s hs]
theorem qtok_sf {G : q_G} {m s : Nat} {b : Bool} (hm : m < 2 ^ qK G) (hs : s < 2 ^ qK G) : qtok G m 0 b s = qsf G (qU G ^^^ m) b s := by
  unfold qtok qsf
  have e1 : (s &&& m = 0) = (s &&& (qU G ^^^ m) = s) := by
    refine propext ⟨fun h => Nat.eq_of_testBit_eq fun j => ?_, fun h => Nat.eq_of_testBit_eq fun j => ?_⟩
    · have h1 : (s &&& m).testBit j = false := by rw [h, Nat.zero_testBit]
      rw [Nat.testBit_and] at h1
      rw [Nat.testBit_and, Nat.testBit_xor, qU_bit]
      by_cases hj : j < qK G
      · rw [decide_eq_true hj]
        cases h2 : s.testBit j <;> cases h3 : m.testBit j <;> simp_all
      · rw [Nat.testBit_lt_two_pow (x := s) (Nat.lt_of_lt_of_le hs (Nat.pow_le_pow_right (by decide) (by omega)))]
        rfl
    · have h1 := congrArg (fun z => z.testBit j) h
      simp only [Nat.testBit_and, Nat.testBit_xor, qU_bit] at h1
      rw [Nat.zero_testBit, Nat.testBit_and]
      by_cases hj : j < qK G
      · rw [decide_eq_true hj] at h1
        cases h2 : s.testBit j <;> cases h3 : m.testBit j <;> simp_all
      · rw [Nat.testBit_lt_two_pow (x := s) (Nat.lt_of_lt_of_le hs (Nat.pow_le_pow_right (by decide) (by omega)))]
        rfl
  rw [decide_eq_decide.2 (iff_of_eq e1)]
theorem qho_sf {G : q_G} (hG : q_ok G) {m : Nat} {b : Bool} {c : Int} (hm : m < 2 ^ qK G) : qho (fun k => qtl G (qtok G m 0 b) k (2 ^ qK G)) c 9 = qsu G (qsf G (qU G ^^^ m) b) c (2 ^ qK G) := by
  rw [qho_9, qsu_tl hG]
  exact qsu_congr fun s hs => qtok_sf hm hs
theorem qtl_4 {G : q_G} (hG : q_ok G) (ok : Nat → Bool) : ∀ k, -4096 ≤ qtl G ok k (2 ^ qK G) ∧ qtl G ok k (2 ^ qK G) ≤ 4096 := fun k => by
  have := qtl_bd (G := G) ok k (2 ^ qK G)
  have := two_le hG.1.2.2.2.2.1
  omega
theorem qU_x0 {G : q_G} : qU G ^^^ 0 = qU G := Nat.xor_zero _
/-- the sum that a coefficient is -/
def qco (G : q_G) (k : Nat) (n : Nat) : Int := qsi (fun s => if qev G s = k then qsg2 G s else 0) n
theorem qco_tl {G : q_G} {k : Nat} : qtl G (qtok G 0 0 false) k (2 ^ qK G) = qco G k (2 ^ qK G) := qsi_congr fun s _ => by
  show (if (decide (s &&& 0 = 0) && (!false || qeven G s)) = true ∧ qev G s = k then qsg2 G s else 0) = _
  rw [Nat.and_zero]
  simp
section SG
variable {N : Nat} {xs : Nat → Int32} {d : Nat} {M : gg_M} {cc cs : Nat} {A : q_A}
theorem cq_115 (hI : q_I M A) (hA : a_ok A) {x : Int} (x1 : -2147483648 ≤ x) (x2 : x ≤ 2147483647) : q_cS N xs (d + 30) 115 [(0, x)] M A cc cs (o_n 1 5 x) 1 (qsu (aG A) (qsf (aG A) (qU (aG A) ^^^ 0) false) ((qM (aG A) * x.toNat + 1 : Nat) : Int) (2 ^ qK (aG A))) := by
  have hG := hA.1
  have hC := hI.1
  have hg := gs_G2_
  intro Q h0 h1
  by_cases e : 1 ≤ x ∧ x ≤ 5
  · have ho : o_n 1 5 x = 0 := if_pos e
    simp (disch := first | assumption | omega | exact il_cqA _ _ | exact il_cqB _ _) only [wi_115_0, wi_115_1, wi_115_4, wi_115_5, wi_115_8, wi_115_9, wi_115_12, wi_115_13, wi_115_14, wi_115_15, wi_115_18, wi_115_19, wi_115_22, wi_115_23, wi_115_26, wi_115_27, wi_115_30, wi_115_33, io_add_o, io_sub_o, io_mul_o, io_neg_o, io_and_r, io_or_r, io_xor_r, io_nd_r, io_shr_r, io_shl1, io_i2b_r, io_i2l_o, io_l2i_o, il_add_o, il_sub_o, il_mul_o, il_neg_o, ib_bit, Int.toNat_natCast, true_implies, false_implies, implies_true, and_true, true_and, and_self, not_true_eq_false, not_false_eq_true, wa_0, wa_1, il_cmp_o, il_cmp0, il_cmp1, il_cmp2, io_bit1, ibt0, ibt1, ibt00, ibt11, ibt10, ibt01, Int.ofNat_lt, Int.ofNat_le, Int.ofNat_inj, Nat.lt_irrefl, Int.lt_irrefl, Int.toNat_one, Int.toNat_zero, Bool.false_eq_true, reduceIte, reduceCtorEq, Nat.reduceAdd, Nat.reduceMul, Nat.reduceSub, Nat.reduceLT, Nat.reduceLeDiff, Nat.reduceEqDiff, Int.reduceNeg, Int.reduceAdd, Int.reduceMul, Int.reduceSub, Int.reduceLT, Int.reduceLE, Int.reduceEq, Int.reduceToNat, Int.reduceNatCast, icl, ico, inz, Nat.not_lt_zero, wp_needColors, if_pos e]
    obtain ⟨n, rfl⟩ := Int.eq_ofNat_of_zero_le (show 0 ≤ x by omega)
    have hn : n ≤ 5 := by omega
    obtain ⟨⟨k1, k2, k3, k4, k5, k6, k7, k8⟩, _⟩ := id hG
    have hml : qM (aG A) * n ≤ 60 := by have := Nat.mul_le_mul k4 hn; omega
    have em : (qM (aG A) : Int) * (n : Int) = ((qM (aG A) * n : Nat) : Int) := rfl
    have ec : ((qM (aG A) * n : Nat) : Int) + 1 = ((qM (aG A) * n + 1 : Nat) : Int) := rfl
    refine wp_tally hg hG hC hI.2.1 (mask := 0) (wanted := 0) (b := false) (by decide) (by decide) (fun M' hM' hS' h85 => ?_)
    have h2' : M' 2 1 = (qM (aG A) : Int) := by rw [hM' 2 (by decide)]; exact hC.1.2.1
    simp (disch := first | assumption | omega | exact il_cqA _ _ | exact il_cqB _ _) only [wi_115_0, wi_115_1, wi_115_4, wi_115_5, wi_115_8, wi_115_9, wi_115_12, wi_115_13, wi_115_14, wi_115_15, wi_115_18, wi_115_19, wi_115_22, wi_115_23, wi_115_26, wi_115_27, wi_115_30, wi_115_33, wi_17_0, wi_17_1, wi_17_4, wi_17_5, wi_17_6, wi_17_7, wi_17_8, io_add_o, io_sub_o, io_mul_o, io_neg_o, io_and_r, io_or_r, io_xor_r, io_nd_r, io_shr_r, io_shl1, io_i2b_r, io_i2l_o, io_l2i_o, il_add_o, il_sub_o, il_mul_o, il_neg_o, ib_bit, Int.toNat_natCast, true_implies, false_implies, implies_true, and_true, true_and, and_self, not_true_eq_false, not_false_eq_true, wa_0, wa_1, il_cmp_o, il_cmp0, il_cmp1, il_cmp2, io_bit1, ibt0, ibt1, ibt00, ibt11, ibt10, ibt01, Int.ofNat_lt, Int.ofNat_le, Int.ofNat_inj, Nat.lt_irrefl, Int.lt_irrefl, Int.toNat_one, Int.toNat_zero, Bool.false_eq_true, reduceIte, reduceCtorEq, Nat.reduceAdd, Nat.reduceMul, Nat.reduceSub, Nat.reduceLT, Nat.reduceLeDiff, Nat.reduceEqDiff, Int.reduceNeg, Int.reduceAdd, Int.reduceMul, Int.reduceSub, Int.reduceLT, Int.reduceLE, Int.reduceEq, Int.reduceToNat, Int.reduceNatCast, icl, ico, inz, Nat.not_lt_zero, h2', em, ec, wp_sumAt (c := qM (aG A) * n + 1) (f := fun k => qtl (aG A) (qtok (aG A) 0 0 false) k (2 ^ qK (aG A))) (by omega) (qtl_4 hG _) h85]
    rw [qho_sf hG (Nat.two_pow_pos _)]
    exact h0 ho M' (fr_8 hM') (q_I_8 hI hM' hS')
  · have ho : o_n 1 5 x = 2 := if_neg e
    simp (disch := first | assumption | omega | exact il_cqA _ _ | exact il_cqB _ _) only [wi_115_0, wi_115_1, wi_115_4, wi_115_5, wi_115_8, wi_115_9, wi_115_12, wi_115_13, wi_115_14, wi_115_15, wi_115_18, wi_115_19, wi_115_22, wi_115_23, wi_115_26, wi_115_27, wi_115_30, wi_115_33, io_add_o, io_sub_o, io_mul_o, io_neg_o, io_and_r, io_or_r, io_xor_r, io_nd_r, io_shr_r, io_shl1, io_i2b_r, io_i2l_o, io_l2i_o, il_add_o, il_sub_o, il_mul_o, il_neg_o, ib_bit, Int.toNat_natCast, true_implies, false_implies, implies_true, and_true, true_and, and_self, not_true_eq_false, not_false_eq_true, wa_0, wa_1, il_cmp_o, il_cmp0, il_cmp1, il_cmp2, io_bit1, ibt0, ibt1, ibt00, ibt11, ibt10, ibt01, Int.ofNat_lt, Int.ofNat_le, Int.ofNat_inj, Nat.lt_irrefl, Int.lt_irrefl, Int.toNat_one, Int.toNat_zero, Bool.false_eq_true, reduceIte, reduceCtorEq, Nat.reduceAdd, Nat.reduceMul, Nat.reduceSub, Nat.reduceLT, Nat.reduceLeDiff, Nat.reduceEqDiff, Int.reduceNeg, Int.reduceAdd, Int.reduceMul, Int.reduceSub, Int.reduceLT, Int.reduceLE, Int.reduceEq, Int.reduceToNat, Int.reduceNatCast, icl, ico, inz, Nat.not_lt_zero, wp_needColors, if_neg e, wa_x2 (k := 115) (by decide +kernel), wa_x3 (k := 115) (by decide +kernel)]
    have := h1 (by rw [ho]; decide) hI
    rw [ho] at this
    exact this
theorem cq_116 (hI : q_I M A) (hA : a_ok A) {x : Int} (x1 : -2147483648 ≤ x) (x2 : x ≤ 2147483647) : q_cS N xs (d + 30) 116 [(0, x)] M A cc cs (o_n 1 5 x) 1 (qsu (aG A) (qsf (aG A) (qU (aG A) ^^^ 0) true) ((qM (aG A) * x.toNat : Nat) : Int) (2 ^ qK (aG A))) := by
  have hG := hA.1
  have hC := hI.1
  have hg := gs_G2_
  intro Q h0 h1
  by_cases e : 1 ≤ x ∧ x ≤ 5
  · have ho : o_n 1 5 x = 0 := if_pos e
    simp (disch := first | assumption | omega | exact il_cqA _ _ | exact il_cqB _ _) only [wi_116_0, wi_116_1, wi_116_4, wi_116_5, wi_116_8, wi_116_9, wi_116_12, wi_116_13, wi_116_14, wi_116_15, wi_116_18, wi_116_19, wi_116_22, wi_116_23, wi_116_26, wi_116_27, wi_116_30, wi_116_31, wi_116_32, wi_116_35, io_add_o, io_sub_o, io_mul_o, io_neg_o, io_and_r, io_or_r, io_xor_r, io_nd_r, io_shr_r, io_shl1, io_i2b_r, io_i2l_o, io_l2i_o, il_add_o, il_sub_o, il_mul_o, il_neg_o, ib_bit, Int.toNat_natCast, true_implies, false_implies, implies_true, and_true, true_and, and_self, not_true_eq_false, not_false_eq_true, wa_0, wa_1, il_cmp_o, il_cmp0, il_cmp1, il_cmp2, io_bit1, ibt0, ibt1, ibt00, ibt11, ibt10, ibt01, Int.ofNat_lt, Int.ofNat_le, Int.ofNat_inj, Nat.lt_irrefl, Int.lt_irrefl, Int.toNat_one, Int.toNat_zero, Bool.false_eq_true, reduceIte, reduceCtorEq, Nat.reduceAdd, Nat.reduceMul, Nat.reduceSub, Nat.reduceLT, Nat.reduceLeDiff, Nat.reduceEqDiff, Int.reduceNeg, Int.reduceAdd, Int.reduceMul, Int.reduceSub, Int.reduceLT, Int.reduceLE, Int.reduceEq, Int.reduceToNat, Int.reduceNatCast, icl, ico, inz, Nat.not_lt_zero, wp_needColors, if_pos e]
    obtain ⟨n, rfl⟩ := Int.eq_ofNat_of_zero_le (show 0 ≤ x by omega)
    have hn : n ≤ 5 := by omega
    obtain ⟨⟨k1, k2, k3, k4, k5, k6, k7, k8⟩, _⟩ := id hG
    have hml : qM (aG A) * n ≤ 60 := by have := Nat.mul_le_mul k4 hn; omega
    have em : (qM (aG A) : Int) * (n : Int) = ((qM (aG A) * n : Nat) : Int) := rfl
    have ec : ((qM (aG A) * n : Nat) : Int) + 1 = ((qM (aG A) * n + 1 : Nat) : Int) := rfl
    have ed : ((qM (aG A) * n + 1 : Nat) : Int) - 1 = ((qM (aG A) * n : Nat) : Int) := by omega
    refine wp_tally hg hG hC hI.2.1 (mask := 0) (wanted := 0) (b := true) (by decide) (by decide) (fun M' hM' hS' h85 => ?_)
    have h2' : M' 2 1 = (qM (aG A) : Int) := by rw [hM' 2 (by decide)]; exact hC.1.2.1
    simp (disch := first | assumption | omega | exact il_cqA _ _ | exact il_cqB _ _) only [wi_116_0, wi_116_1, wi_116_4, wi_116_5, wi_116_8, wi_116_9, wi_116_12, wi_116_13, wi_116_14, wi_116_15, wi_116_18, wi_116_19, wi_116_22, wi_116_23, wi_116_26, wi_116_27, wi_116_30, wi_116_31, wi_116_32, wi_116_35, wi_17_0, wi_17_1, wi_17_4, wi_17_5, wi_17_6, wi_17_7, wi_17_8, io_add_o, io_sub_o, io_mul_o, io_neg_o, io_and_r, io_or_r, io_xor_r, io_nd_r, io_shr_r, io_shl1, io_i2b_r, io_i2l_o, io_l2i_o, il_add_o, il_sub_o, il_mul_o, il_neg_o, ib_bit, Int.toNat_natCast, true_implies, false_implies, implies_true, and_true, true_and, and_self, not_true_eq_false, not_false_eq_true, wa_0, wa_1, il_cmp_o, il_cmp0, il_cmp1, il_cmp2, io_bit1, ibt0, ibt1, ibt00, ibt11, ibt10, ibt01, Int.ofNat_lt, Int.ofNat_le, Int.ofNat_inj, Nat.lt_irrefl, Int.lt_irrefl, Int.toNat_one, Int.toNat_zero, Bool.false_eq_true, reduceIte, reduceCtorEq, Nat.reduceAdd, Nat.reduceMul, Nat.reduceSub, Nat.reduceLT, Nat.reduceLeDiff, Nat.reduceEqDiff, Int.reduceNeg, Int.reduceAdd, Int.reduceMul, Int.reduceSub, Int.reduceLT, Int.reduceLE, Int.reduceEq, Int.reduceToNat, Int.reduceNatCast, icl, ico, inz, Nat.not_lt_zero, h2', em, ec, ed, wp_sumAt (c := qM (aG A) * n) (f := fun k => qtl (aG A) (qtok (aG A) 0 0 true) k (2 ^ qK (aG A))) (by omega) (qtl_4 hG _) h85]
    rw [qho_sf hG (Nat.two_pow_pos _)]
    exact h0 ho M' (fr_8 hM') (q_I_8 hI hM' hS')
  · have ho : o_n 1 5 x = 2 := if_neg e
    simp (disch := first | assumption | omega | exact il_cqA _ _ | exact il_cqB _ _) only [wi_116_0, wi_116_1, wi_116_4, wi_116_5, wi_116_8, wi_116_9, wi_116_12, wi_116_13, wi_116_14, wi_116_15, wi_116_18, wi_116_19, wi_116_22, wi_116_23, wi_116_26, wi_116_27, wi_116_30, wi_116_31, wi_116_32, wi_116_35, io_add_o, io_sub_o, io_mul_o, io_neg_o, io_and_r, io_or_r, io_xor_r, io_nd_r, io_shr_r, io_shl1, io_i2b_r, io_i2l_o, io_l2i_o, il_add_o, il_sub_o, il_mul_o, il_neg_o, ib_bit, Int.toNat_natCast, true_implies, false_implies, implies_true, and_true, true_and, and_self, not_true_eq_false, not_false_eq_true, wa_0, wa_1, il_cmp_o, il_cmp0, il_cmp1, il_cmp2, io_bit1, ibt0, ibt1, ibt00, ibt11, ibt10, ibt01, Int.ofNat_lt, Int.ofNat_le, Int.ofNat_inj, Nat.lt_irrefl, Int.lt_irrefl, Int.toNat_one, Int.toNat_zero, Bool.false_eq_true, reduceIte, reduceCtorEq, Nat.reduceAdd, Nat.reduceMul, Nat.reduceSub, Nat.reduceLT, Nat.reduceLeDiff, Nat.reduceEqDiff, Int.reduceNeg, Int.reduceAdd, Int.reduceMul, Int.reduceSub, Int.reduceLT, Int.reduceLE, Int.reduceEq, Int.reduceToNat, Int.reduceNatCast, icl, ico, inz, Nat.not_lt_zero, wp_needColors, if_neg e, wa_x2 (k := 116) (by decide +kernel), wa_x3 (k := 116) (by decide +kernel)]
    have := h1 (by rw [ho]; decide) hI
    rw [ho] at this
    exact this
theorem cq_117 (hI : q_I M A) (hA : a_ok A) {x : Int} (x1 : -2147483648 ≤ x) (x2 : x ≤ 2147483647) : q_cS N xs (d + 30) 117 [(0, x)] M A cc cs (o_n 0 8 x) 1 (qco (aG A) x.toNat (2 ^ qK (aG A))) := by
  have hG := hA.1
  have hC := hI.1
  have hg := gs_G2_
  intro Q h0 h1
  by_cases e : 0 ≤ x ∧ x ≤ 8
  · have ho : o_n 0 8 x = 0 := if_pos e
    simp (disch := first | assumption | omega | exact il_cqA _ _ | exact il_cqB _ _) only [wi_117_0, wi_117_1, wi_117_2, wi_117_4, wi_117_7, wi_117_8, wi_117_11, wi_117_12, wi_117_15, wi_117_16, wi_117_17, wi_117_18, wi_117_21, wi_117_22, wi_117_25, wi_117_28, wi_117_29, wi_117_30, io_add_o, io_sub_o, io_mul_o, io_neg_o, io_and_r, io_or_r, io_xor_r, io_nd_r, io_shr_r, io_shl1, io_i2b_r, io_i2l_o, io_l2i_o, il_add_o, il_sub_o, il_mul_o, il_neg_o, ib_bit, Int.toNat_natCast, true_implies, false_implies, implies_true, and_true, true_and, and_self, not_true_eq_false, not_false_eq_true, wa_0, wa_1, il_cmp_o, il_cmp0, il_cmp1, il_cmp2, io_bit1, ibt0, ibt1, ibt00, ibt11, ibt10, ibt01, Int.ofNat_lt, Int.ofNat_le, Int.ofNat_inj, Nat.lt_irrefl, Int.lt_irrefl, Int.toNat_one, Int.toNat_zero, Bool.false_eq_true, reduceIte, reduceCtorEq, Nat.reduceAdd, Nat.reduceMul, Nat.reduceSub, Nat.reduceLT, Nat.reduceLeDiff, Nat.reduceEqDiff, Int.reduceNeg, Int.reduceAdd, Int.reduceMul, Int.reduceSub, Int.reduceLT, Int.reduceLE, Int.reduceEq, Int.reduceToNat, Int.reduceNatCast, icl, ico, inz, Nat.not_lt_zero, wp_needBetween, if_pos e]
    obtain ⟨n, rfl⟩ := Int.eq_ofNat_of_zero_le (show 0 ≤ x by omega)
    have hn : n ≤ 8 := by omega
    refine wp_tally hg hG hC hI.2.1 (mask := 0) (wanted := 0) (b := false) (by decide) (by decide) (fun M' hM' hS' h85 => ?_)
    have h85n := h85 n (by omega)
    simp (disch := first | assumption | omega | exact il_cqA _ _ | exact il_cqB _ _) only [wi_117_0, wi_117_1, wi_117_2, wi_117_4, wi_117_7, wi_117_8, wi_117_11, wi_117_12, wi_117_15, wi_117_16, wi_117_17, wi_117_18, wi_117_21, wi_117_22, wi_117_25, wi_117_28, wi_117_29, wi_117_30, io_add_o, io_sub_o, io_mul_o, io_neg_o, io_and_r, io_or_r, io_xor_r, io_nd_r, io_shr_r, io_shl1, io_i2b_r, io_i2l_o, io_l2i_o, il_add_o, il_sub_o, il_mul_o, il_neg_o, ib_bit, Int.toNat_natCast, true_implies, false_implies, implies_true, and_true, true_and, and_self, not_true_eq_false, not_false_eq_true, wa_0, wa_1, il_cmp_o, il_cmp0, il_cmp1, il_cmp2, io_bit1, ibt0, ibt1, ibt00, ibt11, ibt10, ibt01, Int.ofNat_lt, Int.ofNat_le, Int.ofNat_inj, Nat.lt_irrefl, Int.lt_irrefl, Int.toNat_one, Int.toNat_zero, Bool.false_eq_true, reduceIte, reduceCtorEq, Nat.reduceAdd, Nat.reduceMul, Nat.reduceSub, Nat.reduceLT, Nat.reduceLeDiff, Nat.reduceEqDiff, Int.reduceNeg, Int.reduceAdd, Int.reduceMul, Int.reduceSub, Int.reduceLT, Int.reduceLE, Int.reduceEq, Int.reduceToNat, Int.reduceNatCast, icl, ico, inz, Nat.not_lt_zero, h85n]
    rw [qco_tl]
    exact h0 ho M' (fr_8 hM') (q_I_8 hI hM' hS')
  · have ho : o_n 0 8 x = 2 := if_neg e
    simp (disch := first | assumption | omega | exact il_cqA _ _ | exact il_cqB _ _) only [wi_117_0, wi_117_1, wi_117_2, wi_117_4, wi_117_7, wi_117_8, wi_117_11, wi_117_12, wi_117_15, wi_117_16, wi_117_17, wi_117_18, wi_117_21, wi_117_22, wi_117_25, wi_117_28, wi_117_29, wi_117_30, io_add_o, io_sub_o, io_mul_o, io_neg_o, io_and_r, io_or_r, io_xor_r, io_nd_r, io_shr_r, io_shl1, io_i2b_r, io_i2l_o, io_l2i_o, il_add_o, il_sub_o, il_mul_o, il_neg_o, ib_bit, Int.toNat_natCast, true_implies, false_implies, implies_true, and_true, true_and, and_self, not_true_eq_false, not_false_eq_true, wa_0, wa_1, il_cmp_o, il_cmp0, il_cmp1, il_cmp2, io_bit1, ibt0, ibt1, ibt00, ibt11, ibt10, ibt01, Int.ofNat_lt, Int.ofNat_le, Int.ofNat_inj, Nat.lt_irrefl, Int.lt_irrefl, Int.toNat_one, Int.toNat_zero, Bool.false_eq_true, reduceIte, reduceCtorEq, Nat.reduceAdd, Nat.reduceMul, Nat.reduceSub, Nat.reduceLT, Nat.reduceLeDiff, Nat.reduceEqDiff, Int.reduceNeg, Int.reduceAdd, Int.reduceMul, Int.reduceSub, Int.reduceLT, Int.reduceLE, Int.reduceEq, Int.reduceToNat, Int.reduceNatCast, icl, ico, inz, Nat.not_lt_zero, wp_needBetween, if_neg e, wa_x2 (k := 117) (by decide +kernel), wa_x3 (k := 117) (by decide +kernel)]
    have := h1 (by rw [ho]; decide) hI
    rw [ho] at this
    exact this
theorem mq_236 (hV : q_V M A) (hA : a_ok A) {x : Int} (x1 : -2147483648 ≤ x) (x2 : x ≤ 2147483647) : q_mS N xs (d + 31) 236 [(0, x)] M A cc cs (o_n 1 5 x) false 1 (qsu (aG A) (qsf (aG A) (qU (aG A) ^^^ 0) false) ((qM (aG A) * x.toNat + 1 : Nat) : Int) (2 ^ qK (aG A))) := by
  have hG := hA.1
  intro Q h0
  by_cases e : 1 ≤ x ∧ x ≤ 5
  · have ho : o_n 1 5 x = 0 := if_pos e
    have hV1 := q_V_t (x := 0) hV
    have hR1 := hV1.1
    have hn0 : 0 ≤ x := by omega
    simp (disch := first | assumption | omega | exact il_cqA _ _ | exact il_cqB _ _) only [wi_236_0, wi_236_1, wi_236_2, wi_236_5, wi_236_6, wi_236_9, wi_236_12, wi_236_13, wi_236_16, wi_236_17, wi_236_18, wi_236_21, wi_236_22, wi_236_23, wi_236_26, wi_236_27, wi_236_28, wi_236_31, wi_174_0, wi_174_1, wi_174_2, wi_174_3, wi_174_6, wi_174_9, io_add_o, io_sub_o, io_mul_o, io_neg_o, io_and_r, io_or_r, io_xor_r, io_nd_r, io_shr_r, io_shl1, io_i2b_r, io_i2l_o, io_l2i_o, il_add_o, il_sub_o, il_mul_o, il_neg_o, ib_bit, Int.toNat_natCast, true_implies, false_implies, implies_true, and_true, true_and, and_self, not_true_eq_false, not_false_eq_true, wa_0, wa_1, il_cmp_o, il_cmp0, il_cmp1, il_cmp2, io_bit1, ibt0, ibt1, ibt00, ibt11, ibt10, ibt01, Int.ofNat_lt, Int.ofNat_le, Int.ofNat_inj, Nat.lt_irrefl, Int.lt_irrefl, Int.toNat_one, Int.toNat_zero, Bool.false_eq_true, reduceIte, reduceCtorEq, Nat.reduceAdd, Nat.reduceMul, Nat.reduceSub, Nat.reduceLT, Nat.reduceLeDiff, Nat.reduceEqDiff, Int.reduceNeg, Int.reduceAdd, Int.reduceMul, Int.reduceSub, Int.reduceLT, Int.reduceLE, Int.reduceEq, Int.reduceToNat, Int.reduceNatCast, icl, ico, inz, Nat.not_lt_zero, wp_in, if_pos e, wp_isT1]
    obtain ⟨n, rfl⟩ := Int.eq_ofNat_of_zero_le hn0
    have hn : n ≤ 5 := by omega
    have hz := fun M' b hM hb => q_mend (M' := M') (b := b) h0 ho hV hM hb
    clear h0
    obtain ⟨⟨k1, k2, k3, k4, k5, k6, k7, k8⟩, _⟩ := id hG
    have hml : qM (aG A) * n ≤ 60 := by have := Nat.mul_le_mul k4 hn; omega
    have em : (qM (aG A) : Int) * (n : Int) = ((qM (aG A) * n : Nat) : Int) := rfl
    have ec : ((qM (aG A) * n : Nat) : Int) + 1 = ((qM (aG A) * n + 1 : Nat) : Int) := rfl
    have hR1m := hR1.1.2.1
    have hml1 : ((qM (aG A) * n + 1 : Nat) : Int) ≤ 61 := by omega
    simp (disch := first | assumption | omega | exact il_cqA _ _ | exact il_cqB _ _) only [wi_236_0, wi_236_1, wi_236_2, wi_236_5, wi_236_6, wi_236_9, wi_236_12, wi_236_13, wi_236_16, wi_236_17, wi_236_18, wi_236_21, wi_236_22, wi_236_23, wi_236_26, wi_236_27, wi_236_28, wi_236_31, wi_235_0, wi_235_1, wi_235_4, wi_235_5, wi_235_6, wi_235_7, wi_235_8, wi_235_9, wi_235_10, io_add_o, io_sub_o, io_mul_o, io_neg_o, io_and_r, io_or_r, io_xor_r, io_nd_r, io_shr_r, io_shl1, io_i2b_r, io_i2l_o, io_l2i_o, il_add_o, il_sub_o, il_mul_o, il_neg_o, ib_bit, Int.toNat_natCast, true_implies, false_implies, implies_true, and_true, true_and, and_self, not_true_eq_false, not_false_eq_true, wa_0, wa_1, il_cmp_o, il_cmp0, il_cmp1, il_cmp2, io_bit1, ibt0, ibt1, ibt00, ibt11, ibt10, ibt01, Int.ofNat_lt, Int.ofNat_le, Int.ofNat_inj, Nat.lt_irrefl, Int.lt_irrefl, Int.toNat_one, Int.toNat_zero, Bool.false_eq_true, reduceIte, reduceCtorEq, Nat.reduceAdd, Nat.reduceMul, Nat.reduceSub, Nat.reduceLT, Nat.reduceLeDiff, Nat.reduceEqDiff, Int.reduceNeg, Int.reduceAdd, Int.reduceMul, Int.reduceSub, Int.reduceLT, Int.reduceLE, Int.reduceEq, Int.reduceToNat, Int.reduceNatCast, icl, ico, inz, Nat.not_lt_zero, wp_mall hR1 hG, hR1m, em, ec]
    refine wp_msum hR1 hG (of := qU (aG A)) qU_lt (c := qM (aG A) * n + 1) (by omega) (b := false) (fun M' hM => ?_)
    simp (disch := first | assumption | omega | exact il_cqA _ _ | exact il_cqB _ _) only [wi_236_0, wi_236_1, wi_236_2, wi_236_5, wi_236_6, wi_236_9, wi_236_12, wi_236_13, wi_236_16, wi_236_17, wi_236_18, wi_236_21, wi_236_22, wi_236_23, wi_236_26, wi_236_27, wi_236_28, wi_236_31, io_add_o, io_sub_o, io_mul_o, io_neg_o, io_and_r, io_or_r, io_xor_r, io_nd_r, io_shr_r, io_shl1, io_i2b_r, io_i2l_o, io_l2i_o, il_add_o, il_sub_o, il_mul_o, il_neg_o, ib_bit, Int.toNat_natCast, true_implies, false_implies, implies_true, and_true, true_and, and_self, not_true_eq_false, not_false_eq_true, wa_0, wa_1, il_cmp_o, il_cmp0, il_cmp1, il_cmp2, io_bit1, ibt0, ibt1, ibt00, ibt11, ibt10, ibt01, Int.ofNat_lt, Int.ofNat_le, Int.ofNat_inj, Nat.lt_irrefl, Int.lt_irrefl, Int.toNat_one, Int.toNat_zero, Bool.false_eq_true, reduceIte, reduceCtorEq, Nat.reduceAdd, Nat.reduceMul, Nat.reduceSub, Nat.reduceLT, Nat.reduceLeDiff, Nat.reduceEqDiff, Int.reduceNeg, Int.reduceAdd, Int.reduceMul, Int.reduceSub, Int.reduceLT, Int.reduceLE, Int.reduceEq, Int.reduceToNat, Int.reduceNatCast, icl, ico, inz, Nat.not_lt_zero]
    exact hz _ _ hM (by rw [qU_x0]; rfl)
  · have ho : o_n 1 5 x = 2 := if_neg e
    simp (disch := first | assumption | omega | exact il_cqA _ _ | exact il_cqB _ _) only [wi_236_0, wi_236_1, wi_236_2, wi_236_5, wi_236_6, wi_236_9, wi_236_12, wi_236_13, wi_236_16, wi_236_17, wi_236_18, wi_236_21, wi_236_22, wi_236_23, wi_236_26, wi_236_27, wi_236_28, wi_236_31, wi_174_0, wi_174_1, wi_174_2, wi_174_3, wi_174_6, wi_174_9, io_add_o, io_sub_o, io_mul_o, io_neg_o, io_and_r, io_or_r, io_xor_r, io_nd_r, io_shr_r, io_shl1, io_i2b_r, io_i2l_o, io_l2i_o, il_add_o, il_sub_o, il_mul_o, il_neg_o, ib_bit, Int.toNat_natCast, true_implies, false_implies, implies_true, and_true, true_and, and_self, not_true_eq_false, not_false_eq_true, wa_0, wa_1, il_cmp_o, il_cmp0, il_cmp1, il_cmp2, io_bit1, ibt0, ibt1, ibt00, ibt11, ibt10, ibt01, Int.ofNat_lt, Int.ofNat_le, Int.ofNat_inj, Nat.lt_irrefl, Int.lt_irrefl, Int.toNat_one, Int.toNat_zero, Bool.false_eq_true, reduceIte, reduceCtorEq, Nat.reduceAdd, Nat.reduceMul, Nat.reduceSub, Nat.reduceLT, Nat.reduceLeDiff, Nat.reduceEqDiff, Int.reduceNeg, Int.reduceAdd, Int.reduceMul, Int.reduceSub, Int.reduceLT, Int.reduceLE, Int.reduceEq, Int.reduceToNat, Int.reduceNatCast, icl, ico, inz, Nat.not_lt_zero, wp_in, if_neg e, wp_isT0]
    exact h0 _ 0 (fun j hj => gu_n (by omega)) (q_V_t hV) (by rw [gu_e, ho]; rfl) (fun h => absurd (ho ▸ h) (by decide))
theorem mq_237 (hV : q_V M A) (hA : a_ok A) {x : Int} (x1 : -2147483648 ≤ x) (x2 : x ≤ 2147483647) : q_mS N xs (d + 31) 237 [(0, x)] M A cc cs (o_n 1 5 x) false 1 (qsu (aG A) (qsf (aG A) (qU (aG A) ^^^ 0) true) ((qM (aG A) * x.toNat : Nat) : Int) (2 ^ qK (aG A))) := by
  have hG := hA.1
  intro Q h0
  by_cases e : 1 ≤ x ∧ x ≤ 5
  · have ho : o_n 1 5 x = 0 := if_pos e
    have hV1 := q_V_t (x := 0) hV
    have hR1 := hV1.1
    have hn0 : 0 ≤ x := by omega
    simp (disch := first | assumption | omega | exact il_cqA _ _ | exact il_cqB _ _) only [wi_237_0, wi_237_1, wi_237_2, wi_237_5, wi_237_6, wi_237_9, wi_237_12, wi_237_13, wi_237_16, wi_237_17, wi_237_18, wi_237_21, wi_237_22, wi_237_23, wi_237_26, wi_237_27, wi_237_28, wi_237_29, wi_237_30, wi_237_33, wi_174_0, wi_174_1, wi_174_2, wi_174_3, wi_174_6, wi_174_9, io_add_o, io_sub_o, io_mul_o, io_neg_o, io_and_r, io_or_r, io_xor_r, io_nd_r, io_shr_r, io_shl1, io_i2b_r, io_i2l_o, io_l2i_o, il_add_o, il_sub_o, il_mul_o, il_neg_o, ib_bit, Int.toNat_natCast, true_implies, false_implies, implies_true, and_true, true_and, and_self, not_true_eq_false, not_false_eq_true, wa_0, wa_1, il_cmp_o, il_cmp0, il_cmp1, il_cmp2, io_bit1, ibt0, ibt1, ibt00, ibt11, ibt10, ibt01, Int.ofNat_lt, Int.ofNat_le, Int.ofNat_inj, Nat.lt_irrefl, Int.lt_irrefl, Int.toNat_one, Int.toNat_zero, Bool.false_eq_true, reduceIte, reduceCtorEq, Nat.reduceAdd, Nat.reduceMul, Nat.reduceSub, Nat.reduceLT, Nat.reduceLeDiff, Nat.reduceEqDiff, Int.reduceNeg, Int.reduceAdd, Int.reduceMul, Int.reduceSub, Int.reduceLT, Int.reduceLE, Int.reduceEq, Int.reduceToNat, Int.reduceNatCast, icl, ico, inz, Nat.not_lt_zero, wp_in, if_pos e, wp_isT1]
    obtain ⟨n, rfl⟩ := Int.eq_ofNat_of_zero_le hn0
    have hn : n ≤ 5 := by omega
    have hz := fun M' b hM hb => q_mend (M' := M') (b := b) h0 ho hV hM hb
    clear h0
    obtain ⟨⟨k1, k2, k3, k4, k5, k6, k7, k8⟩, _⟩ := id hG
    have hml : qM (aG A) * n ≤ 60 := by have := Nat.mul_le_mul k4 hn; omega
    have em : (qM (aG A) : Int) * (n : Int) = ((qM (aG A) * n : Nat) : Int) := rfl
    have ec : ((qM (aG A) * n : Nat) : Int) + 1 = ((qM (aG A) * n + 1 : Nat) : Int) := rfl
    have ed : ((qM (aG A) * n + 1 : Nat) : Int) - 1 = ((qM (aG A) * n : Nat) : Int) := by omega
    have hR1m := hR1.1.2.1
    have hml1 : ((qM (aG A) * n + 1 : Nat) : Int) ≤ 61 := by omega
    simp (disch := first | assumption | omega | exact il_cqA _ _ | exact il_cqB _ _) only [wi_237_0, wi_237_1, wi_237_2, wi_237_5, wi_237_6, wi_237_9, wi_237_12, wi_237_13, wi_237_16, wi_237_17, wi_237_18, wi_237_21, wi_237_22, wi_237_23, wi_237_26, wi_237_27, wi_237_28, wi_237_29, wi_237_30, wi_237_33, wi_235_0, wi_235_1, wi_235_4, wi_235_5, wi_235_6, wi_235_7, wi_235_8, wi_235_9, wi_235_10, io_add_o, io_sub_o, io_mul_o, io_neg_o, io_and_r, io_or_r, io_xor_r, io_nd_r, io_shr_r, io_shl1, io_i2b_r, io_i2l_o, io_l2i_o, il_add_o, il_sub_o, il_mul_o, il_neg_o, ib_bit, Int.toNat_natCast, true_implies, false_implies, implies_true, and_true, true_and, and_self, not_true_eq_false, not_false_eq_true, wa_0, wa_1, il_cmp_o, il_cmp0, il_cmp1, il_cmp2, io_bit1, ibt0, ibt1, ibt00, ibt11, ibt10, ibt01, Int.ofNat_lt, Int.ofNat_le, Int.ofNat_inj, Nat.lt_irrefl, Int.lt_irrefl, Int.toNat_one, Int.toNat_zero, Bool.false_eq_true, reduceIte, reduceCtorEq, Nat.reduceAdd, Nat.reduceMul, Nat.reduceSub, Nat.reduceLT, Nat.reduceLeDiff, Nat.reduceEqDiff, Int.reduceNeg, Int.reduceAdd, Int.reduceMul, Int.reduceSub, Int.reduceLT, Int.reduceLE, Int.reduceEq, Int.reduceToNat, Int.reduceNatCast, icl, ico, inz, Nat.not_lt_zero, wp_mall hR1 hG, hR1m, em, ec, ed]
    refine wp_msum hR1 hG (of := qU (aG A)) qU_lt (c := qM (aG A) * n) (by omega) (b := true) (fun M' hM => ?_)
    simp (disch := first | assumption | omega | exact il_cqA _ _ | exact il_cqB _ _) only [wi_237_0, wi_237_1, wi_237_2, wi_237_5, wi_237_6, wi_237_9, wi_237_12, wi_237_13, wi_237_16, wi_237_17, wi_237_18, wi_237_21, wi_237_22, wi_237_23, wi_237_26, wi_237_27, wi_237_28, wi_237_29, wi_237_30, wi_237_33, io_add_o, io_sub_o, io_mul_o, io_neg_o, io_and_r, io_or_r, io_xor_r, io_nd_r, io_shr_r, io_shl1, io_i2b_r, io_i2l_o, io_l2i_o, il_add_o, il_sub_o, il_mul_o, il_neg_o, ib_bit, Int.toNat_natCast, true_implies, false_implies, implies_true, and_true, true_and, and_self, not_true_eq_false, not_false_eq_true, wa_0, wa_1, il_cmp_o, il_cmp0, il_cmp1, il_cmp2, io_bit1, ibt0, ibt1, ibt00, ibt11, ibt10, ibt01, Int.ofNat_lt, Int.ofNat_le, Int.ofNat_inj, Nat.lt_irrefl, Int.lt_irrefl, Int.toNat_one, Int.toNat_zero, Bool.false_eq_true, reduceIte, reduceCtorEq, Nat.reduceAdd, Nat.reduceMul, Nat.reduceSub, Nat.reduceLT, Nat.reduceLeDiff, Nat.reduceEqDiff, Int.reduceNeg, Int.reduceAdd, Int.reduceMul, Int.reduceSub, Int.reduceLT, Int.reduceLE, Int.reduceEq, Int.reduceToNat, Int.reduceNatCast, icl, ico, inz, Nat.not_lt_zero]
    exact hz _ _ hM (by rw [qU_x0]; rfl)
  · have ho : o_n 1 5 x = 2 := if_neg e
    simp (disch := first | assumption | omega | exact il_cqA _ _ | exact il_cqB _ _) only [wi_237_0, wi_237_1, wi_237_2, wi_237_5, wi_237_6, wi_237_9, wi_237_12, wi_237_13, wi_237_16, wi_237_17, wi_237_18, wi_237_21, wi_237_22, wi_237_23, wi_237_26, wi_237_27, wi_237_28, wi_237_29, wi_237_30, wi_237_33, wi_174_0, wi_174_1, wi_174_2, wi_174_3, wi_174_6, wi_174_9, io_add_o, io_sub_o, io_mul_o, io_neg_o, io_and_r, io_or_r, io_xor_r, io_nd_r, io_shr_r, io_shl1, io_i2b_r, io_i2l_o, io_l2i_o, il_add_o, il_sub_o, il_mul_o, il_neg_o, ib_bit, Int.toNat_natCast, true_implies, false_implies, implies_true, and_true, true_and, and_self, not_true_eq_false, not_false_eq_true, wa_0, wa_1, il_cmp_o, il_cmp0, il_cmp1, il_cmp2, io_bit1, ibt0, ibt1, ibt00, ibt11, ibt10, ibt01, Int.ofNat_lt, Int.ofNat_le, Int.ofNat_inj, Nat.lt_irrefl, Int.lt_irrefl, Int.toNat_one, Int.toNat_zero, Bool.false_eq_true, reduceIte, reduceCtorEq, Nat.reduceAdd, Nat.reduceMul, Nat.reduceSub, Nat.reduceLT, Nat.reduceLeDiff, Nat.reduceEqDiff, Int.reduceNeg, Int.reduceAdd, Int.reduceMul, Int.reduceSub, Int.reduceLT, Int.reduceLE, Int.reduceEq, Int.reduceToNat, Int.reduceNatCast, icl, ico, inz, Nat.not_lt_zero, wp_in, if_neg e, wp_isT0]
    exact h0 _ 0 (fun j hj => gu_n (by omega)) (q_V_t hV) (by rw [gu_e, ho]; rfl) (fun h => absurd (ho ▸ h) (by decide))
theorem mq_238 (hV : q_V M A) (hA : a_ok A) {x : Int} (x1 : -2147483648 ≤ x) (x2 : x ≤ 2147483647) : q_mS N xs (d + 31) 238 [(0, x), (3, 0), (3, 0), (3, 0)] M A cc cs (o_n 0 8 x) false 1 (qco (aG A) x.toNat (2 ^ qK (aG A))) := by
  have hG := hA.1
  intro Q h0
  by_cases e : 0 ≤ x ∧ x ≤ 8
  · have ho : o_n 0 8 x = 0 := if_pos e
    have hV1 := q_V_t (x := 0) hV
    have hR1 := hV1.1
    have hn0 : 0 ≤ x := by omega
    simp (disch := first | assumption | omega | exact il_cqA _ _ | exact il_cqB _ _) only [wi_238_0, wi_238_1, wi_238_2, wi_238_3, wi_238_4, wi_238_7, wi_238_10, wi_238_11, wi_238_14, wi_238_17, wi_238_18, wi_238_19, wi_238_20, wi_238_21, wi_238_22, wi_238_26, wi_238_27, wi_238_30, wi_238_33, wi_238_34, wi_238_36, wi_238_39, wi_238_40, wi_238_43, wi_238_44, wi_238_46, wi_238_49, wi_238_50, wi_238_51, wi_238_54, wi_238_55, wi_238_58, wi_238_61, wi_238_62, wi_238_63, wi_238_66, wi_238_69, wi_238_70, io_add_o, io_sub_o, io_mul_o, io_neg_o, io_and_r, io_or_r, io_xor_r, io_nd_r, io_shr_r, io_shl1, io_i2b_r, io_i2l_o, io_l2i_o, il_add_o, il_sub_o, il_mul_o, il_neg_o, ib_bit, Int.toNat_natCast, true_implies, false_implies, implies_true, and_true, true_and, and_self, not_true_eq_false, not_false_eq_true, wa_0, wa_1, il_cmp_o, il_cmp0, il_cmp1, il_cmp2, io_bit1, ibt0, ibt1, ibt00, ibt11, ibt10, ibt01, Int.ofNat_lt, Int.ofNat_le, Int.ofNat_inj, Nat.lt_irrefl, Int.lt_irrefl, Int.toNat_one, Int.toNat_zero, Bool.false_eq_true, reduceIte, reduceCtorEq, Nat.reduceAdd, Nat.reduceMul, Nat.reduceSub, Nat.reduceLT, Nat.reduceLeDiff, Nat.reduceEqDiff, Int.reduceNeg, Int.reduceAdd, Int.reduceMul, Int.reduceSub, Int.reduceLT, Int.reduceLE, Int.reduceEq, Int.reduceToNat, Int.reduceNatCast, icl, ico, inz, Nat.not_lt_zero, wp_in, if_pos e, wp_isT1]
    obtain ⟨n, rfl⟩ := Int.eq_ofNat_of_zero_le hn0
    have hn : n ≤ 8 := by omega
    have hz := fun M' b hM hb => q_mend (M' := M') (b := b) h0 ho hV hM hb
    clear h0
    clear e
    revert hz hR1
    generalize gg_up M 142 7 0 = M0
    intro hR1 hz
    generalize aG A = G at *
    obtain ⟨⟨h1, h2, h3, h4, h5⟩, hF, hT, hA, hW, hPa, hO⟩ := id hR1
    obtain ⟨⟨k1, k2, k3, k4, k5, k6, k7, k8⟩, hk, hp, hp2⟩ := id hG
    have hp2 := two_le k5
    have hU : qU G + 1 = 2 ^ qK G := by have := Nat.one_le_two_pow (n := qK G); unfold qU; omega
    have hr8 : ∀ s, qrk G s ≤ 8 := fun s => by unfold qrk; omega
    refine wl_i (P := fun i I => ∀ M' : gg_M, (∀ j, j ≠ 150 → j ≠ 151 → j ≠ 152 → M' j = M0 j) → ∀ c : Int, c = qco G n i → -(i : Int) ≤ c ∧ c ≤ (i : Int) → wp N xs (d + 30 + 1) 238 24 [gr 142, (0, (n : Int)), (1, c), (3, 0), (0, I)] [] (gk_R, M', 158, cc, cs) Q) (2 ^ qK G) (fun i hi ih M' hM c hc hcb => ?_) (fun M' hM c hc hcb => ?_) M0 (fun _ _ _ _ => rfl) 0 rfl (by decide)
    · have e0 : M' 143 = M0 143 := hM 143 (by decide) (by decide) (by decide)
      have hR' : q_R (M' 143) G := by rw [e0]; exact hR1
      have h9 := qsz_12 hG hi
      have h8 : qcnt i.testBit 12 ≤ 12 := qcnt_le _ _
      have hle : ¬ (qU G : Int) < (i : Int) := by omega
      have hsg := qsg2_rg G i
      have hq8 := qev_8 hG i
      have ih := fun M'' hM'' c' hc' => ih M'' hM'' c' (by rw [qco, qsi]; exact hc')
      rw [wi_238_24]
      simp (disch := first | assumption | omega | exact il_cqA _ _ | exact il_cqB _ _) only [wi_238_0, wi_238_1, wi_238_2, wi_238_3, wi_238_4, wi_238_7, wi_238_10, wi_238_11, wi_238_14, wi_238_17, wi_238_18, wi_238_19, wi_238_20, wi_238_21, wi_238_22, wi_238_26, wi_238_27, wi_238_30, wi_238_33, wi_238_34, wi_238_36, wi_238_39, wi_238_40, wi_238_43, wi_238_44, wi_238_46, wi_238_49, wi_238_50, wi_238_51, wi_238_54, wi_238_55, wi_238_58, wi_238_61, wi_238_62, wi_238_63, wi_238_66, wi_238_69, wi_238_70, io_add_o, io_sub_o, io_mul_o, io_neg_o, io_and_r, io_or_r, io_xor_r, io_nd_r, io_shr_r, io_shl1, io_i2b_r, io_i2l_o, io_l2i_o, il_add_o, il_sub_o, il_mul_o, il_neg_o, ib_bit, Int.toNat_natCast, true_implies, false_implies, implies_true, and_true, true_and, and_self, not_true_eq_false, not_false_eq_true, wa_0, wa_1, il_cmp_o, il_cmp0, il_cmp1, il_cmp2, io_bit1, ibt0, ibt1, ibt00, ibt11, ibt10, ibt01, Int.ofNat_lt, Int.ofNat_le, Int.ofNat_inj, Nat.lt_irrefl, Int.lt_irrefl, Int.toNat_one, Int.toNat_zero, Bool.false_eq_true, reduceIte, reduceCtorEq, Nat.reduceAdd, Nat.reduceMul, Nat.reduceSub, Nat.reduceLT, Nat.reduceLeDiff, Nat.reduceEqDiff, Int.reduceNeg, Int.reduceAdd, Int.reduceMul, Int.reduceSub, Int.reduceLT, Int.reduceLE, Int.reduceEq, Int.reduceToNat, Int.reduceNatCast, icl, ico, inz, Nat.not_lt_zero, wp_mall (M := M') hR' hG, hle]
      refine wp_mbal hR' hG (s := i) (by omega) (fun M3 hM3 hL3 => ?_)
      have hF3 : (∀ j, j ≠ 150 → j ≠ 151 → j ≠ 152 → M3 j = M0 j) := fun j h1 h2 h3 => by rw [hM3 j h1 h2 h3, hM j h1 h2 h3]
      by_cases e2 : qev G i = n
      · have ih := fun c' (hc' : c' = c + qsg2 G i) => ih M3 hF3 c' (hc'.trans (by show c + _ = qco G n i + _; rw [← hc, if_pos e2]))
        have hmod : ((qsz G i : Nat) : Int).tmod 2 = ((qsz G i % 2 : Nat) : Int) := rfl
        have hm2 : qsz G i % 2 < 2 := Nat.mod_lt _ (by decide)
        unfold qsg2 at ih
        by_cases e4 : qsz G i % 2 = 0
        · rw [if_pos e4] at ih
          simp (disch := first | assumption | omega | exact il_cqA _ _ | exact il_cqB _ _) only [wi_238_0, wi_238_1, wi_238_2, wi_238_3, wi_238_4, wi_238_7, wi_238_10, wi_238_11, wi_238_14, wi_238_17, wi_238_18, wi_238_19, wi_238_20, wi_238_21, wi_238_22, wi_238_26, wi_238_27, wi_238_30, wi_238_33, wi_238_34, wi_238_36, wi_238_39, wi_238_40, wi_238_43, wi_238_44, wi_238_46, wi_238_49, wi_238_50, wi_238_51, wi_238_54, wi_238_55, wi_238_58, wi_238_61, wi_238_62, wi_238_63, wi_238_66, wi_238_69, wi_238_70, io_add_o, io_sub_o, io_mul_o, io_neg_o, io_and_r, io_or_r, io_xor_r, io_nd_r, io_shr_r, io_shl1, io_i2b_r, io_i2l_o, io_l2i_o, il_add_o, il_sub_o, il_mul_o, il_neg_o, ib_bit, Int.toNat_natCast, true_implies, false_implies, implies_true, and_true, true_and, and_self, not_true_eq_false, not_false_eq_true, wa_0, wa_1, il_cmp_o, il_cmp0, il_cmp1, il_cmp2, io_bit1, ibt0, ibt1, ibt00, ibt11, ibt10, ibt01, Int.ofNat_lt, Int.ofNat_le, Int.ofNat_inj, Nat.lt_irrefl, Int.lt_irrefl, Int.toNat_one, Int.toNat_zero, Bool.false_eq_true, reduceIte, reduceCtorEq, Nat.reduceAdd, Nat.reduceMul, Nat.reduceSub, Nat.reduceLT, Nat.reduceLeDiff, Nat.reduceEqDiff, Int.reduceNeg, Int.reduceAdd, Int.reduceMul, Int.reduceSub, Int.reduceLT, Int.reduceLE, Int.reduceEq, Int.reduceToNat, Int.reduceNatCast, icl, ico, inz, Nat.not_lt_zero, wp_sizeOf, h9, e2, hmod, e4]
          exact ih _ rfl (by omega)
        · have e5 : ¬ ((qsz G i % 2 : Nat) : Int) = 0 := by omega
          rw [if_neg e4] at ih
          simp (disch := first | assumption | omega | exact il_cqA _ _ | exact il_cqB _ _) only [wi_238_0, wi_238_1, wi_238_2, wi_238_3, wi_238_4, wi_238_7, wi_238_10, wi_238_11, wi_238_14, wi_238_17, wi_238_18, wi_238_19, wi_238_20, wi_238_21, wi_238_22, wi_238_26, wi_238_27, wi_238_30, wi_238_33, wi_238_34, wi_238_36, wi_238_39, wi_238_40, wi_238_43, wi_238_44, wi_238_46, wi_238_49, wi_238_50, wi_238_51, wi_238_54, wi_238_55, wi_238_58, wi_238_61, wi_238_62, wi_238_63, wi_238_66, wi_238_69, wi_238_70, io_add_o, io_sub_o, io_mul_o, io_neg_o, io_and_r, io_or_r, io_xor_r, io_nd_r, io_shr_r, io_shl1, io_i2b_r, io_i2l_o, io_l2i_o, il_add_o, il_sub_o, il_mul_o, il_neg_o, ib_bit, Int.toNat_natCast, true_implies, false_implies, implies_true, and_true, true_and, and_self, not_true_eq_false, not_false_eq_true, wa_0, wa_1, il_cmp_o, il_cmp0, il_cmp1, il_cmp2, io_bit1, ibt0, ibt1, ibt00, ibt11, ibt10, ibt01, Int.ofNat_lt, Int.ofNat_le, Int.ofNat_inj, Nat.lt_irrefl, Int.lt_irrefl, Int.toNat_one, Int.toNat_zero, Bool.false_eq_true, reduceIte, reduceCtorEq, Nat.reduceAdd, Nat.reduceMul, Nat.reduceSub, Nat.reduceLT, Nat.reduceLeDiff, Nat.reduceEqDiff, Int.reduceNeg, Int.reduceAdd, Int.reduceMul, Int.reduceSub, Int.reduceLT, Int.reduceLE, Int.reduceEq, Int.reduceToNat, Int.reduceNatCast, icl, ico, inz, Nat.not_lt_zero, wp_sizeOf, h9, e2, hmod, e5]
          exact ih _ rfl (by omega)
      · have ih := ih M3 hF3 c (by show _ = qco G n i + _; rw [← hc, if_neg e2]; omega)
        simp (disch := first | assumption | omega | exact il_cqA _ _ | exact il_cqB _ _) only [wi_238_0, wi_238_1, wi_238_2, wi_238_3, wi_238_4, wi_238_7, wi_238_10, wi_238_11, wi_238_14, wi_238_17, wi_238_18, wi_238_19, wi_238_20, wi_238_21, wi_238_22, wi_238_26, wi_238_27, wi_238_30, wi_238_33, wi_238_34, wi_238_36, wi_238_39, wi_238_40, wi_238_43, wi_238_44, wi_238_46, wi_238_49, wi_238_50, wi_238_51, wi_238_54, wi_238_55, wi_238_58, wi_238_61, wi_238_62, wi_238_63, wi_238_66, wi_238_69, wi_238_70, io_add_o, io_sub_o, io_mul_o, io_neg_o, io_and_r, io_or_r, io_xor_r, io_nd_r, io_shr_r, io_shl1, io_i2b_r, io_i2l_o, io_l2i_o, il_add_o, il_sub_o, il_mul_o, il_neg_o, ib_bit, Int.toNat_natCast, true_implies, false_implies, implies_true, and_true, true_and, and_self, not_true_eq_false, not_false_eq_true, wa_0, wa_1, il_cmp_o, il_cmp0, il_cmp1, il_cmp2, io_bit1, ibt0, ibt1, ibt00, ibt11, ibt10, ibt01, Int.ofNat_lt, Int.ofNat_le, Int.ofNat_inj, Nat.lt_irrefl, Int.lt_irrefl, Int.toNat_one, Int.toNat_zero, Bool.false_eq_true, reduceIte, reduceCtorEq, Nat.reduceAdd, Nat.reduceMul, Nat.reduceSub, Nat.reduceLT, Nat.reduceLeDiff, Nat.reduceEqDiff, Int.reduceNeg, Int.reduceAdd, Int.reduceMul, Int.reduceSub, Int.reduceLT, Int.reduceLE, Int.reduceEq, Int.reduceToNat, Int.reduceNatCast, icl, ico, inz, Nat.not_lt_zero, e2]
        exact ih (by omega)
    · have e0 : M' 143 = M0 143 := hM 143 (by decide) (by decide) (by decide)
      have hR' : q_R (M' 143) G := by rw [e0]; exact hR1
      have hle : (qU G : Int) < ((2 ^ qK G : Nat) : Int) := by omega
      rw [wi_238_24]
      simp (disch := first | assumption | omega | exact il_cqA _ _ | exact il_cqB _ _) only [wi_238_0, wi_238_1, wi_238_2, wi_238_3, wi_238_4, wi_238_7, wi_238_10, wi_238_11, wi_238_14, wi_238_17, wi_238_18, wi_238_19, wi_238_20, wi_238_21, wi_238_22, wi_238_26, wi_238_27, wi_238_30, wi_238_33, wi_238_34, wi_238_36, wi_238_39, wi_238_40, wi_238_43, wi_238_44, wi_238_46, wi_238_49, wi_238_50, wi_238_51, wi_238_54, wi_238_55, wi_238_58, wi_238_61, wi_238_62, wi_238_63, wi_238_66, wi_238_69, wi_238_70, io_add_o, io_sub_o, io_mul_o, io_neg_o, io_and_r, io_or_r, io_xor_r, io_nd_r, io_shr_r, io_shl1, io_i2b_r, io_i2l_o, io_l2i_o, il_add_o, il_sub_o, il_mul_o, il_neg_o, ib_bit, Int.toNat_natCast, true_implies, false_implies, implies_true, and_true, true_and, and_self, not_true_eq_false, not_false_eq_true, wa_0, wa_1, il_cmp_o, il_cmp0, il_cmp1, il_cmp2, io_bit1, ibt0, ibt1, ibt00, ibt11, ibt10, ibt01, Int.ofNat_lt, Int.ofNat_le, Int.ofNat_inj, Nat.lt_irrefl, Int.lt_irrefl, Int.toNat_one, Int.toNat_zero, Bool.false_eq_true, reduceIte, reduceCtorEq, Nat.reduceAdd, Nat.reduceMul, Nat.reduceSub, Nat.reduceLT, Nat.reduceLeDiff, Nat.reduceEqDiff, Int.reduceNeg, Int.reduceAdd, Int.reduceMul, Int.reduceSub, Int.reduceLT, Int.reduceLE, Int.reduceEq, Int.reduceToNat, Int.reduceNatCast, icl, ico, inz, Nat.not_lt_zero, wp_mall (M := M') hR' hG, hle]
      exact hz M' _ hM hc
  · have ho : o_n 0 8 x = 2 := if_neg e
    simp (disch := first | assumption | omega | exact il_cqA _ _ | exact il_cqB _ _) only [wi_238_0, wi_238_1, wi_238_2, wi_238_3, wi_238_4, wi_238_7, wi_238_10, wi_238_11, wi_238_14, wi_238_17, wi_238_18, wi_238_19, wi_238_20, wi_238_21, wi_238_22, wi_238_26, wi_238_27, wi_238_30, wi_238_33, wi_238_34, wi_238_36, wi_238_39, wi_238_40, wi_238_43, wi_238_44, wi_238_46, wi_238_49, wi_238_50, wi_238_51, wi_238_54, wi_238_55, wi_238_58, wi_238_61, wi_238_62, wi_238_63, wi_238_66, wi_238_69, wi_238_70, io_add_o, io_sub_o, io_mul_o, io_neg_o, io_and_r, io_or_r, io_xor_r, io_nd_r, io_shr_r, io_shl1, io_i2b_r, io_i2l_o, io_l2i_o, il_add_o, il_sub_o, il_mul_o, il_neg_o, ib_bit, Int.toNat_natCast, true_implies, false_implies, implies_true, and_true, true_and, and_self, not_true_eq_false, not_false_eq_true, wa_0, wa_1, il_cmp_o, il_cmp0, il_cmp1, il_cmp2, io_bit1, ibt0, ibt1, ibt00, ibt11, ibt10, ibt01, Int.ofNat_lt, Int.ofNat_le, Int.ofNat_inj, Nat.lt_irrefl, Int.lt_irrefl, Int.toNat_one, Int.toNat_zero, Bool.false_eq_true, reduceIte, reduceCtorEq, Nat.reduceAdd, Nat.reduceMul, Nat.reduceSub, Nat.reduceLT, Nat.reduceLeDiff, Nat.reduceEqDiff, Int.reduceNeg, Int.reduceAdd, Int.reduceMul, Int.reduceSub, Int.reduceLT, Int.reduceLE, Int.reduceEq, Int.reduceToNat, Int.reduceNatCast, icl, ico, inz, Nat.not_lt_zero, wp_in, if_neg e, wp_isT0]
    exact h0 _ 0 (fun j hj => gu_n (by omega)) (q_V_t hV) (by rw [gu_e, ho]; rfl) (fun h => absurd (ho ▸ h) (by decide))
end SG
