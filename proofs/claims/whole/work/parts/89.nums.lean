/-! questions with a number, or none -/
section SG
variable {N : Nat} {xs : Nat → Int32} {d : Nat} {M : gg_M} {cc cs : Nat} {A : q_A}
def o_n (l h : Int) (x : Int) : Nat := if l ≤ x ∧ x ≤ h then 0 else 2
theorem qcnt_bs {G : q_G} {of : Nat} (hof : of < 2 ^ qK G) : qcnt (fun s => decide (gnd s of = 0) && decide (qrk G s = qrk G of) && qfr G s) (of + 1) = qcnt (fun s => decide (s &&& of = s) && decide (qsz G s = qrk G of) && qfr G s) (2 ^ qK G) := by
  rw [qcnt_ext (n := of + 1) (m := 2 ^ qK G) (by omega) (fun i h1 h2 => ?_)]
  · refine qcnt_congr fun i _ => ?_
    have e1 : (gnd i of = 0) = (i &&& of = i) := by
      refine propext ⟨fun h => ?_, fun h => ?_⟩
      · refine Nat.eq_of_testBit_eq fun j => ?_
        have := gnd_bit i of j
        rw [h, Nat.zero_testBit] at this
        rw [Nat.testBit_and]
        cases h1 : i.testBit j <;> cases h2 : of.testBit j <;> simp_all
      · unfold gnd
        rw [h, Nat.xor_self]
    cases ef : qfr G i
    · simp
    · have e2 := of_decide_eq_true ef
      rw [e2]
      simp [e1]
  · have : i &&& of ≠ i := fun e => by
      have := Nat.and_le_right (n := i) (m := of)
      omega
    simp [this]
theorem qci_0 {G : q_G} (hG : q_ok G) : qci G 0 = false := by
  unfold qci
  rw [qfr_0 G hG]
  rfl
theorem qcyc_0 {G : q_G} : qcyc G 0 = false := by
  unfold qcyc
  rw [qkp_0]
  rfl
theorem qfe_U {G : q_G} : qfe G (2 ^ qK G) = qfe G (qU G) := by
  have hU : qU G + 1 = 2 ^ qK G := by have := Nat.one_le_two_pow (n := qK G); unfold qU; omega
  have := qfe_sz (G := G) (qU G)
  rw [← hU, qfe, if_neg (fun h => absurd h.1 (by omega))]
theorem cq_107 (hI : q_I M A) (hA : a_ok A) {x : Int} (x1 : -2147483648 ≤ x) (x2 : x ≤ 2147483647) : q_cS N xs (d + 30) 107 [(0, x)] M A cc cs (o_n 1 12 x) 0 ((qcnt (fun s => decide (qsz (aG A) s = x.toNat) && qci (aG A) s) (2 ^ qK (aG A)) : Int)) := by
  have hG := hA.1
  have hC := hI.1
  have hg := gs_G2_
  intro Q h0 h1
  by_cases e : 1 ≤ x ∧ x ≤ 12
  · have ho : o_n 1 12 x = 0 := if_pos e
    simp (disch := first | assumption | omega | exact il_cqA _ _ | exact il_cqB _ _) only [wi_107_0, wi_107_1, wi_107_2, wi_107_4, wi_107_7, wi_107_8, wi_107_11, wi_107_12, wi_107_15, wi_107_16, wi_107_19, io_add_o, io_sub_o, io_mul_o, io_neg_o, io_and_r, io_or_r, io_xor_r, io_nd_r, io_shr_r, io_shl1, io_i2b_r, io_i2l_o, io_l2i_o, il_add_o, il_sub_o, il_mul_o, il_neg_o, ib_bit, Int.toNat_natCast, true_implies, false_implies, implies_true, and_true, true_and, and_self, not_true_eq_false, not_false_eq_true, wa_0, wa_1, il_cmp_o, il_cmp0, il_cmp1, il_cmp2, io_bit1, ibt0, ibt1, ibt00, ibt11, ibt10, ibt01, Int.ofNat_lt, Int.ofNat_le, Int.ofNat_inj, Nat.lt_irrefl, Int.lt_irrefl, Int.toNat_one, Int.toNat_zero, Bool.false_eq_true, reduceIte, reduceCtorEq, Nat.reduceAdd, Nat.reduceMul, Nat.reduceSub, Nat.reduceLT, Nat.reduceLeDiff, Nat.reduceEqDiff, Int.reduceNeg, Int.reduceAdd, Int.reduceMul, Int.reduceSub, Int.reduceLT, Int.reduceLE, Int.reduceEq, Int.reduceToNat, Int.reduceNatCast, icl, ico, inz, Nat.not_lt_zero, wp_needBetween, if_pos e]
    obtain ⟨n, rfl⟩ := Int.eq_ofNat_of_zero_le (show 0 ≤ x by omega)
    have hn : n ≤ 12 := by omega
    refine wp_countCircuits hg hG hC hI.2.1 (n := n) (by omega) (fun M' hM' hS' => ?_)
    simp (disch := first | assumption | omega | exact il_cqA _ _ | exact il_cqB _ _) only [wi_107_0, wi_107_1, wi_107_2, wi_107_4, wi_107_7, wi_107_8, wi_107_11, wi_107_12, wi_107_15, wi_107_16, wi_107_19, io_add_o, io_sub_o, io_mul_o, io_neg_o, io_and_r, io_or_r, io_xor_r, io_nd_r, io_shr_r, io_shl1, io_i2b_r, io_i2l_o, io_l2i_o, il_add_o, il_sub_o, il_mul_o, il_neg_o, ib_bit, Int.toNat_natCast, true_implies, false_implies, implies_true, and_true, true_and, and_self, not_true_eq_false, not_false_eq_true, wa_0, wa_1, il_cmp_o, il_cmp0, il_cmp1, il_cmp2, io_bit1, ibt0, ibt1, ibt00, ibt11, ibt10, ibt01, Int.ofNat_lt, Int.ofNat_le, Int.ofNat_inj, Nat.lt_irrefl, Int.lt_irrefl, Int.toNat_one, Int.toNat_zero, Bool.false_eq_true, reduceIte, reduceCtorEq, Nat.reduceAdd, Nat.reduceMul, Nat.reduceSub, Nat.reduceLT, Nat.reduceLeDiff, Nat.reduceEqDiff, Int.reduceNeg, Int.reduceAdd, Int.reduceMul, Int.reduceSub, Int.reduceLT, Int.reduceLE, Int.reduceEq, Int.reduceToNat, Int.reduceNatCast, icl, ico, inz, Nat.not_lt_zero]
    exact h0 ho M' (fr_8 hM') (q_I_8 hI hM' hS')
  · have ho : o_n 1 12 x = 2 := if_neg e
    simp (disch := first | assumption | omega | exact il_cqA _ _ | exact il_cqB _ _) only [wi_107_0, wi_107_1, wi_107_2, wi_107_4, wi_107_7, wi_107_8, wi_107_11, wi_107_12, wi_107_15, wi_107_16, wi_107_19, io_add_o, io_sub_o, io_mul_o, io_neg_o, io_and_r, io_or_r, io_xor_r, io_nd_r, io_shr_r, io_shl1, io_i2b_r, io_i2l_o, io_l2i_o, il_add_o, il_sub_o, il_mul_o, il_neg_o, ib_bit, Int.toNat_natCast, true_implies, false_implies, implies_true, and_true, true_and, and_self, not_true_eq_false, not_false_eq_true, wa_0, wa_1, il_cmp_o, il_cmp0, il_cmp1, il_cmp2, io_bit1, ibt0, ibt1, ibt00, ibt11, ibt10, ibt01, Int.ofNat_lt, Int.ofNat_le, Int.ofNat_inj, Nat.lt_irrefl, Int.lt_irrefl, Int.toNat_one, Int.toNat_zero, Bool.false_eq_true, reduceIte, reduceCtorEq, Nat.reduceAdd, Nat.reduceMul, Nat.reduceSub, Nat.reduceLT, Nat.reduceLeDiff, Nat.reduceEqDiff, Int.reduceNeg, Int.reduceAdd, Int.reduceMul, Int.reduceSub, Int.reduceLT, Int.reduceLE, Int.reduceEq, Int.reduceToNat, Int.reduceNatCast, icl, ico, inz, Nat.not_lt_zero, wp_needBetween, if_neg e, wa_x2 (k := 107) (by decide +kernel), wa_x3 (k := 107) (by decide +kernel)]
    have := h1 (by rw [ho]; decide) hI
    rw [ho] at this
    exact this
theorem cq_108 (hI : q_I M A) (hA : a_ok A) {x : Int} {b : Bool} (x1 : -2147483648 ≤ x) (x2 : x ≤ 2147483647) : q_cS N xs (d + 30) 108 [(0, x), (0, (b.toNat : Int))] M A cc cs (o_n 1 12 x) 0 ((qcnt (fun s => decide (qsz (aG A) s = x.toNat) && (qeven (aG A) s == b) && qcyc (aG A) s) (2 ^ qK (aG A)) : Int)) := by
  have hG := hA.1
  have hC := hI.1
  have hg := gs_G2_
  intro Q h0 h1
  by_cases e : 1 ≤ x ∧ x ≤ 12
  · have ho : o_n 1 12 x = 0 := if_pos e
    simp (disch := first | assumption | omega | exact il_cqA _ _ | exact il_cqB _ _) only [wi_108_0, wi_108_1, wi_108_2, wi_108_4, wi_108_7, wi_108_8, wi_108_11, wi_108_12, wi_108_15, wi_108_16, wi_108_17, wi_108_20, io_add_o, io_sub_o, io_mul_o, io_neg_o, io_and_r, io_or_r, io_xor_r, io_nd_r, io_shr_r, io_shl1, io_i2b_r, io_i2l_o, io_l2i_o, il_add_o, il_sub_o, il_mul_o, il_neg_o, ib_bit, Int.toNat_natCast, true_implies, false_implies, implies_true, and_true, true_and, and_self, not_true_eq_false, not_false_eq_true, wa_0, wa_1, il_cmp_o, il_cmp0, il_cmp1, il_cmp2, io_bit1, ibt0, ibt1, ibt00, ibt11, ibt10, ibt01, Int.ofNat_lt, Int.ofNat_le, Int.ofNat_inj, Nat.lt_irrefl, Int.lt_irrefl, Int.toNat_one, Int.toNat_zero, Bool.false_eq_true, reduceIte, reduceCtorEq, Nat.reduceAdd, Nat.reduceMul, Nat.reduceSub, Nat.reduceLT, Nat.reduceLeDiff, Nat.reduceEqDiff, Int.reduceNeg, Int.reduceAdd, Int.reduceMul, Int.reduceSub, Int.reduceLT, Int.reduceLE, Int.reduceEq, Int.reduceToNat, Int.reduceNatCast, icl, ico, inz, Nat.not_lt_zero, wp_needBetween, if_pos e]
    obtain ⟨n, rfl⟩ := Int.eq_ofNat_of_zero_le (show 0 ≤ x by omega)
    have hn : n ≤ 12 := by omega
    refine wp_countCycles hg hG hC hI.2.1 (n := n) (b := b) (by omega) (fun M' hM' hS' => ?_)
    simp (disch := first | assumption | omega | exact il_cqA _ _ | exact il_cqB _ _) only [wi_108_0, wi_108_1, wi_108_2, wi_108_4, wi_108_7, wi_108_8, wi_108_11, wi_108_12, wi_108_15, wi_108_16, wi_108_17, wi_108_20, io_add_o, io_sub_o, io_mul_o, io_neg_o, io_and_r, io_or_r, io_xor_r, io_nd_r, io_shr_r, io_shl1, io_i2b_r, io_i2l_o, io_l2i_o, il_add_o, il_sub_o, il_mul_o, il_neg_o, ib_bit, Int.toNat_natCast, true_implies, false_implies, implies_true, and_true, true_and, and_self, not_true_eq_false, not_false_eq_true, wa_0, wa_1, il_cmp_o, il_cmp0, il_cmp1, il_cmp2, io_bit1, ibt0, ibt1, ibt00, ibt11, ibt10, ibt01, Int.ofNat_lt, Int.ofNat_le, Int.ofNat_inj, Nat.lt_irrefl, Int.lt_irrefl, Int.toNat_one, Int.toNat_zero, Bool.false_eq_true, reduceIte, reduceCtorEq, Nat.reduceAdd, Nat.reduceMul, Nat.reduceSub, Nat.reduceLT, Nat.reduceLeDiff, Nat.reduceEqDiff, Int.reduceNeg, Int.reduceAdd, Int.reduceMul, Int.reduceSub, Int.reduceLT, Int.reduceLE, Int.reduceEq, Int.reduceToNat, Int.reduceNatCast, icl, ico, inz, Nat.not_lt_zero]
    exact h0 ho M' (fr_8 hM') (q_I_8 hI hM' hS')
  · have ho : o_n 1 12 x = 2 := if_neg e
    simp (disch := first | assumption | omega | exact il_cqA _ _ | exact il_cqB _ _) only [wi_108_0, wi_108_1, wi_108_2, wi_108_4, wi_108_7, wi_108_8, wi_108_11, wi_108_12, wi_108_15, wi_108_16, wi_108_17, wi_108_20, io_add_o, io_sub_o, io_mul_o, io_neg_o, io_and_r, io_or_r, io_xor_r, io_nd_r, io_shr_r, io_shl1, io_i2b_r, io_i2l_o, io_l2i_o, il_add_o, il_sub_o, il_mul_o, il_neg_o, ib_bit, Int.toNat_natCast, true_implies, false_implies, implies_true, and_true, true_and, and_self, not_true_eq_false, not_false_eq_true, wa_0, wa_1, il_cmp_o, il_cmp0, il_cmp1, il_cmp2, io_bit1, ibt0, ibt1, ibt00, ibt11, ibt10, ibt01, Int.ofNat_lt, Int.ofNat_le, Int.ofNat_inj, Nat.lt_irrefl, Int.lt_irrefl, Int.toNat_one, Int.toNat_zero, Bool.false_eq_true, reduceIte, reduceCtorEq, Nat.reduceAdd, Nat.reduceMul, Nat.reduceSub, Nat.reduceLT, Nat.reduceLeDiff, Nat.reduceEqDiff, Int.reduceNeg, Int.reduceAdd, Int.reduceMul, Int.reduceSub, Int.reduceLT, Int.reduceLE, Int.reduceEq, Int.reduceToNat, Int.reduceNatCast, icl, ico, inz, Nat.not_lt_zero, wp_needBetween, if_neg e, wa_x2 (k := 108) (by decide +kernel), wa_x3 (k := 108) (by decide +kernel)]
    have := h1 (by rw [ho]; decide) hI
    rw [ho] at this
    exact this
theorem cq_110 (hI : q_I M A) (hA : a_ok A) {x : Int} (x1 : -2147483648 ≤ x) (x2 : x ≤ 2147483647) : q_cS N xs (d + 30) 110 [(0, x)] M A cc cs (o_n 0 8 x) 0 ((qcnt (fun s => decide (qrk (aG A) s = x.toNat) && decide (qclo (aG A) s = s)) (2 ^ qK (aG A)) : Int)) := by
  have hG := hA.1
  have hC := hI.1
  have hg := gs_G2_
  intro Q h0 h1
  by_cases e : 0 ≤ x ∧ x ≤ 8
  · have ho : o_n 0 8 x = 0 := if_pos e
    simp (disch := first | assumption | omega | exact il_cqA _ _ | exact il_cqB _ _) only [wi_110_0, wi_110_1, wi_110_2, wi_110_4, wi_110_7, wi_110_8, wi_110_11, wi_110_12, wi_110_15, wi_110_16, wi_110_19, io_add_o, io_sub_o, io_mul_o, io_neg_o, io_and_r, io_or_r, io_xor_r, io_nd_r, io_shr_r, io_shl1, io_i2b_r, io_i2l_o, io_l2i_o, il_add_o, il_sub_o, il_mul_o, il_neg_o, ib_bit, Int.toNat_natCast, true_implies, false_implies, implies_true, and_true, true_and, and_self, not_true_eq_false, not_false_eq_true, wa_0, wa_1, il_cmp_o, il_cmp0, il_cmp1, il_cmp2, io_bit1, ibt0, ibt1, ibt00, ibt11, ibt10, ibt01, Int.ofNat_lt, Int.ofNat_le, Int.ofNat_inj, Nat.lt_irrefl, Int.lt_irrefl, Int.toNat_one, Int.toNat_zero, Bool.false_eq_true, reduceIte, reduceCtorEq, Nat.reduceAdd, Nat.reduceMul, Nat.reduceSub, Nat.reduceLT, Nat.reduceLeDiff, Nat.reduceEqDiff, Int.reduceNeg, Int.reduceAdd, Int.reduceMul, Int.reduceSub, Int.reduceLT, Int.reduceLE, Int.reduceEq, Int.reduceToNat, Int.reduceNatCast, icl, ico, inz, Nat.not_lt_zero, wp_needBetween, if_pos e]
    obtain ⟨n, rfl⟩ := Int.eq_ofNat_of_zero_le (show 0 ≤ x by omega)
    have hn : n ≤ 8 := by omega
    refine wp_countFlats hg hG hC hI.2.1 (n := n) (by omega) (fun M' hM' hS' => ?_)
    simp (disch := first | assumption | omega | exact il_cqA _ _ | exact il_cqB _ _) only [wi_110_0, wi_110_1, wi_110_2, wi_110_4, wi_110_7, wi_110_8, wi_110_11, wi_110_12, wi_110_15, wi_110_16, wi_110_19, io_add_o, io_sub_o, io_mul_o, io_neg_o, io_and_r, io_or_r, io_xor_r, io_nd_r, io_shr_r, io_shl1, io_i2b_r, io_i2l_o, io_l2i_o, il_add_o, il_sub_o, il_mul_o, il_neg_o, ib_bit, Int.toNat_natCast, true_implies, false_implies, implies_true, and_true, true_and, and_self, not_true_eq_false, not_false_eq_true, wa_0, wa_1, il_cmp_o, il_cmp0, il_cmp1, il_cmp2, io_bit1, ibt0, ibt1, ibt00, ibt11, ibt10, ibt01, Int.ofNat_lt, Int.ofNat_le, Int.ofNat_inj, Nat.lt_irrefl, Int.lt_irrefl, Int.toNat_one, Int.toNat_zero, Bool.false_eq_true, reduceIte, reduceCtorEq, Nat.reduceAdd, Nat.reduceMul, Nat.reduceSub, Nat.reduceLT, Nat.reduceLeDiff, Nat.reduceEqDiff, Int.reduceNeg, Int.reduceAdd, Int.reduceMul, Int.reduceSub, Int.reduceLT, Int.reduceLE, Int.reduceEq, Int.reduceToNat, Int.reduceNatCast, icl, ico, inz, Nat.not_lt_zero]
    exact h0 ho M' (fr_8 hM') (q_I_8 hI hM' hS')
  · have ho : o_n 0 8 x = 2 := if_neg e
    simp (disch := first | assumption | omega | exact il_cqA _ _ | exact il_cqB _ _) only [wi_110_0, wi_110_1, wi_110_2, wi_110_4, wi_110_7, wi_110_8, wi_110_11, wi_110_12, wi_110_15, wi_110_16, wi_110_19, io_add_o, io_sub_o, io_mul_o, io_neg_o, io_and_r, io_or_r, io_xor_r, io_nd_r, io_shr_r, io_shl1, io_i2b_r, io_i2l_o, io_l2i_o, il_add_o, il_sub_o, il_mul_o, il_neg_o, ib_bit, Int.toNat_natCast, true_implies, false_implies, implies_true, and_true, true_and, and_self, not_true_eq_false, not_false_eq_true, wa_0, wa_1, il_cmp_o, il_cmp0, il_cmp1, il_cmp2, io_bit1, ibt0, ibt1, ibt00, ibt11, ibt10, ibt01, Int.ofNat_lt, Int.ofNat_le, Int.ofNat_inj, Nat.lt_irrefl, Int.lt_irrefl, Int.toNat_one, Int.toNat_zero, Bool.false_eq_true, reduceIte, reduceCtorEq, Nat.reduceAdd, Nat.reduceMul, Nat.reduceSub, Nat.reduceLT, Nat.reduceLeDiff, Nat.reduceEqDiff, Int.reduceNeg, Int.reduceAdd, Int.reduceMul, Int.reduceSub, Int.reduceLT, Int.reduceLE, Int.reduceEq, Int.reduceToNat, Int.reduceNatCast, icl, ico, inz, Nat.not_lt_zero, wp_needBetween, if_neg e, wa_x2 (k := 110) (by decide +kernel), wa_x3 (k := 110) (by decide +kernel)]
    have := h1 (by rw [ho]; decide) hI
    rw [ho] at this
    exact this
theorem cq_145 (hI : q_I M A) (hA : a_ok A) {x : Int} (x1 : -2147483648 ≤ x) (x2 : x ≤ 2147483647) : q_cS N xs (d + 30) 145 [(0, x)] M A cc cs (o_n 0 3 x) 0 (qO (aG A) x.toNat) := by
  have hG := hA.1
  have hC := hI.1
  have hg := gs_G2_
  intro Q h0 h1
  by_cases e : 0 ≤ x ∧ x ≤ 3
  · have ho : o_n 0 3 x = 0 := if_pos e
    simp (disch := first | assumption | omega | exact il_cqA _ _ | exact il_cqB _ _) only [wi_145_0, wi_145_1, wi_145_2, wi_145_3, wi_145_6, wi_145_7, wi_145_10, wi_145_13, wi_145_14, wi_145_15, io_add_o, io_sub_o, io_mul_o, io_neg_o, io_and_r, io_or_r, io_xor_r, io_nd_r, io_shr_r, io_shl1, io_i2b_r, io_i2l_o, io_l2i_o, il_add_o, il_sub_o, il_mul_o, il_neg_o, ib_bit, Int.toNat_natCast, true_implies, false_implies, implies_true, and_true, true_and, and_self, not_true_eq_false, not_false_eq_true, wa_0, wa_1, il_cmp_o, il_cmp0, il_cmp1, il_cmp2, io_bit1, ibt0, ibt1, ibt00, ibt11, ibt10, ibt01, Int.ofNat_lt, Int.ofNat_le, Int.ofNat_inj, Nat.lt_irrefl, Int.lt_irrefl, Int.toNat_one, Int.toNat_zero, Bool.false_eq_true, reduceIte, reduceCtorEq, Nat.reduceAdd, Nat.reduceMul, Nat.reduceSub, Nat.reduceLT, Nat.reduceLeDiff, Nat.reduceEqDiff, Int.reduceNeg, Int.reduceAdd, Int.reduceMul, Int.reduceSub, Int.reduceLT, Int.reduceLE, Int.reduceEq, Int.reduceToNat, Int.reduceNatCast, icl, ico, inz, Nat.not_lt_zero, wp_needBetween, if_pos e]
    obtain ⟨n, rfl⟩ := Int.eq_ofNat_of_zero_le (show 0 ≤ x by omega)
    have hn : n ≤ 3 := by omega
    obtain ⟨⟨h1, h2, h3, h4, h5⟩, hF, hT, hA, hW, hP, hO⟩ := id hC
    obtain ⟨⟨k1, k2, k3, k4, k5, k6, k7, k8⟩, hk, hp, hp2⟩ := id hG
    have hOn := hO n (by omega)
    simp (disch := first | assumption | omega | exact il_cqA _ _ | exact il_cqB _ _) only [wi_145_0, wi_145_1, wi_145_2, wi_145_3, wi_145_6, wi_145_7, wi_145_10, wi_145_13, wi_145_14, wi_145_15, io_add_o, io_sub_o, io_mul_o, io_neg_o, io_and_r, io_or_r, io_xor_r, io_nd_r, io_shr_r, io_shl1, io_i2b_r, io_i2l_o, io_l2i_o, il_add_o, il_sub_o, il_mul_o, il_neg_o, ib_bit, Int.toNat_natCast, true_implies, false_implies, implies_true, and_true, true_and, and_self, not_true_eq_false, not_false_eq_true, wa_0, wa_1, il_cmp_o, il_cmp0, il_cmp1, il_cmp2, io_bit1, ibt0, ibt1, ibt00, ibt11, ibt10, ibt01, Int.ofNat_lt, Int.ofNat_le, Int.ofNat_inj, Nat.lt_irrefl, Int.lt_irrefl, Int.toNat_one, Int.toNat_zero, Bool.false_eq_true, reduceIte, reduceCtorEq, Nat.reduceAdd, Nat.reduceMul, Nat.reduceSub, Nat.reduceLT, Nat.reduceLeDiff, Nat.reduceEqDiff, Int.reduceNeg, Int.reduceAdd, Int.reduceMul, Int.reduceSub, Int.reduceLT, Int.reduceLE, Int.reduceEq, Int.reduceToNat, Int.reduceNatCast, icl, ico, inz, Nat.not_lt_zero, hOn]
    exact h0 ho M (fun _ _ => rfl) hI
  · have ho : o_n 0 3 x = 2 := if_neg e
    simp (disch := first | assumption | omega | exact il_cqA _ _ | exact il_cqB _ _) only [wi_145_0, wi_145_1, wi_145_2, wi_145_3, wi_145_6, wi_145_7, wi_145_10, wi_145_13, wi_145_14, wi_145_15, io_add_o, io_sub_o, io_mul_o, io_neg_o, io_and_r, io_or_r, io_xor_r, io_nd_r, io_shr_r, io_shl1, io_i2b_r, io_i2l_o, io_l2i_o, il_add_o, il_sub_o, il_mul_o, il_neg_o, ib_bit, Int.toNat_natCast, true_implies, false_implies, implies_true, and_true, true_and, and_self, not_true_eq_false, not_false_eq_true, wa_0, wa_1, il_cmp_o, il_cmp0, il_cmp1, il_cmp2, io_bit1, ibt0, ibt1, ibt00, ibt11, ibt10, ibt01, Int.ofNat_lt, Int.ofNat_le, Int.ofNat_inj, Nat.lt_irrefl, Int.lt_irrefl, Int.toNat_one, Int.toNat_zero, Bool.false_eq_true, reduceIte, reduceCtorEq, Nat.reduceAdd, Nat.reduceMul, Nat.reduceSub, Nat.reduceLT, Nat.reduceLeDiff, Nat.reduceEqDiff, Int.reduceNeg, Int.reduceAdd, Int.reduceMul, Int.reduceSub, Int.reduceLT, Int.reduceLE, Int.reduceEq, Int.reduceToNat, Int.reduceNatCast, icl, ico, inz, Nat.not_lt_zero, wp_needBetween, if_neg e, wa_x2 (k := 145) (by decide +kernel), wa_x3 (k := 145) (by decide +kernel)]
    have := h1 (by rw [ho]; decide) hI
    rw [ho] at this
    exact this
theorem mq_284 (hV : q_V M A) (hA : a_ok A) {x : Int} (x1 : -2147483648 ≤ x) (x2 : x ≤ 2147483647) : q_mS N xs (d + 31) 284 [(0, x)] M A cc cs (o_n 0 3 x) false 0 (qO (aG A) x.toNat) := by
  have hG := hA.1
  intro Q h0
  by_cases e : 0 ≤ x ∧ x ≤ 3
  · have ho : o_n 0 3 x = 0 := if_pos e
    have hV1 := q_V_t (x := 0) hV
    have hR1 := hV1.1
    have hn0 : 0 ≤ x := by omega
    simp (disch := first | assumption | omega | exact il_cqA _ _ | exact il_cqB _ _) only [wi_284_0, wi_284_1, wi_284_2, wi_284_3, wi_284_4, wi_284_7, wi_284_10, wi_284_11, wi_284_14, wi_284_17, wi_284_18, wi_284_21, wi_284_22, wi_284_25, wi_284_26, wi_284_27, wi_284_28, wi_284_29, io_add_o, io_sub_o, io_mul_o, io_neg_o, io_and_r, io_or_r, io_xor_r, io_nd_r, io_shr_r, io_shl1, io_i2b_r, io_i2l_o, io_l2i_o, il_add_o, il_sub_o, il_mul_o, il_neg_o, ib_bit, Int.toNat_natCast, true_implies, false_implies, implies_true, and_true, true_and, and_self, not_true_eq_false, not_false_eq_true, wa_0, wa_1, il_cmp_o, il_cmp0, il_cmp1, il_cmp2, io_bit1, ibt0, ibt1, ibt00, ibt11, ibt10, ibt01, Int.ofNat_lt, Int.ofNat_le, Int.ofNat_inj, Nat.lt_irrefl, Int.lt_irrefl, Int.toNat_one, Int.toNat_zero, Bool.false_eq_true, reduceIte, reduceCtorEq, Nat.reduceAdd, Nat.reduceMul, Nat.reduceSub, Nat.reduceLT, Nat.reduceLeDiff, Nat.reduceEqDiff, Int.reduceNeg, Int.reduceAdd, Int.reduceMul, Int.reduceSub, Int.reduceLT, Int.reduceLE, Int.reduceEq, Int.reduceToNat, Int.reduceNatCast, icl, ico, inz, Nat.not_lt_zero, wp_in, if_pos e, wp_isT1]
    obtain ⟨n, rfl⟩ := Int.eq_ofNat_of_zero_le hn0
    have hn : n ≤ 3 := by omega
    have hz := fun M' b hM hb => q_mend (M' := M') (b := b) h0 ho hV hM hb
    clear h0
    obtain ⟨⟨h1, h2, h3, h4, h5⟩, hF, hT, hA, hW, hPa, hO⟩ := id hR1
    obtain ⟨⟨k1, k2, k3, k4, k5, k6, k7, k8⟩, hk, hp, hp2⟩ := id hG
    have hOn := hO n (by omega)
    simp (disch := first | assumption | omega | exact il_cqA _ _ | exact il_cqB _ _) only [wi_284_0, wi_284_1, wi_284_2, wi_284_3, wi_284_4, wi_284_7, wi_284_10, wi_284_11, wi_284_14, wi_284_17, wi_284_18, wi_284_21, wi_284_22, wi_284_25, wi_284_26, wi_284_27, wi_284_28, wi_284_29, io_add_o, io_sub_o, io_mul_o, io_neg_o, io_and_r, io_or_r, io_xor_r, io_nd_r, io_shr_r, io_shl1, io_i2b_r, io_i2l_o, io_l2i_o, il_add_o, il_sub_o, il_mul_o, il_neg_o, ib_bit, Int.toNat_natCast, true_implies, false_implies, implies_true, and_true, true_and, and_self, not_true_eq_false, not_false_eq_true, wa_0, wa_1, il_cmp_o, il_cmp0, il_cmp1, il_cmp2, io_bit1, ibt0, ibt1, ibt00, ibt11, ibt10, ibt01, Int.ofNat_lt, Int.ofNat_le, Int.ofNat_inj, Nat.lt_irrefl, Int.lt_irrefl, Int.toNat_one, Int.toNat_zero, Bool.false_eq_true, reduceIte, reduceCtorEq, Nat.reduceAdd, Nat.reduceMul, Nat.reduceSub, Nat.reduceLT, Nat.reduceLeDiff, Nat.reduceEqDiff, Int.reduceNeg, Int.reduceAdd, Int.reduceMul, Int.reduceSub, Int.reduceLT, Int.reduceLE, Int.reduceEq, Int.reduceToNat, Int.reduceNatCast, icl, ico, inz, Nat.not_lt_zero, hOn, it5]
    exact hz _ _ (fun _ _ _ _ => rfl) rfl
  · have ho : o_n 0 3 x = 2 := if_neg e
    simp (disch := first | assumption | omega | exact il_cqA _ _ | exact il_cqB _ _) only [wi_284_0, wi_284_1, wi_284_2, wi_284_3, wi_284_4, wi_284_7, wi_284_10, wi_284_11, wi_284_14, wi_284_17, wi_284_18, wi_284_21, wi_284_22, wi_284_25, wi_284_26, wi_284_27, wi_284_28, wi_284_29, io_add_o, io_sub_o, io_mul_o, io_neg_o, io_and_r, io_or_r, io_xor_r, io_nd_r, io_shr_r, io_shl1, io_i2b_r, io_i2l_o, io_l2i_o, il_add_o, il_sub_o, il_mul_o, il_neg_o, ib_bit, Int.toNat_natCast, true_implies, false_implies, implies_true, and_true, true_and, and_self, not_true_eq_false, not_false_eq_true, wa_0, wa_1, il_cmp_o, il_cmp0, il_cmp1, il_cmp2, io_bit1, ibt0, ibt1, ibt00, ibt11, ibt10, ibt01, Int.ofNat_lt, Int.ofNat_le, Int.ofNat_inj, Nat.lt_irrefl, Int.lt_irrefl, Int.toNat_one, Int.toNat_zero, Bool.false_eq_true, reduceIte, reduceCtorEq, Nat.reduceAdd, Nat.reduceMul, Nat.reduceSub, Nat.reduceLT, Nat.reduceLeDiff, Nat.reduceEqDiff, Int.reduceNeg, Int.reduceAdd, Int.reduceMul, Int.reduceSub, Int.reduceLT, Int.reduceLE, Int.reduceEq, Int.reduceToNat, Int.reduceNatCast, icl, ico, inz, Nat.not_lt_zero, wp_in, if_neg e, wp_isT0]
    exact h0 _ 0 (fun j hj => gu_n (by omega)) (q_V_t hV) (by rw [gu_e, ho]; rfl) (fun h => absurd (ho ▸ h) (by decide))
theorem mq_224 (hV : q_V M A) (hA : a_ok A) {x : Int} (x1 : -2147483648 ≤ x) (x2 : x ≤ 2147483647) : q_mS N xs (d + 31) 224 [(0, x), (3, 0), (3, 0)] M A cc cs (o_n 1 12 x) false 0 ((qcnt (fun s => decide (qsz (aG A) s = x.toNat) && qci (aG A) s) (2 ^ qK (aG A)) : Int)) := by
  have hG := hA.1
  intro Q h0
  by_cases e : 1 ≤ x ∧ x ≤ 12
  · have ho : o_n 1 12 x = 0 := if_pos e
    have hV1 := q_V_t (x := 0) hV
    have hR1 := hV1.1
    have hn0 : 0 ≤ x := by omega
    simp (disch := first | assumption | omega | exact il_cqA _ _ | exact il_cqB _ _) only [wi_224_0, wi_224_1, wi_224_2, wi_224_3, wi_224_4, wi_224_7, wi_224_10, wi_224_11, wi_224_14, wi_224_17, wi_224_18, wi_224_19, wi_224_20, wi_224_21, wi_224_22, wi_224_24, wi_224_25, wi_224_28, wi_224_31, wi_224_32, wi_224_33, wi_224_36, wi_224_37, wi_224_40, wi_224_41, wi_224_42, wi_224_45, wi_224_48, wi_224_49, wi_224_52, wi_224_53, wi_224_54, wi_224_55, wi_224_58, wi_224_61, wi_224_62, io_add_o, io_sub_o, io_mul_o, io_neg_o, io_and_r, io_or_r, io_xor_r, io_nd_r, io_shr_r, io_shl1, io_i2b_r, io_i2l_o, io_l2i_o, il_add_o, il_sub_o, il_mul_o, il_neg_o, ib_bit, Int.toNat_natCast, true_implies, false_implies, implies_true, and_true, true_and, and_self, not_true_eq_false, not_false_eq_true, wa_0, wa_1, il_cmp_o, il_cmp0, il_cmp1, il_cmp2, io_bit1, ibt0, ibt1, ibt00, ibt11, ibt10, ibt01, Int.ofNat_lt, Int.ofNat_le, Int.ofNat_inj, Nat.lt_irrefl, Int.lt_irrefl, Int.toNat_one, Int.toNat_zero, Bool.false_eq_true, reduceIte, reduceCtorEq, Nat.reduceAdd, Nat.reduceMul, Nat.reduceSub, Nat.reduceLT, Nat.reduceLeDiff, Nat.reduceEqDiff, Int.reduceNeg, Int.reduceAdd, Int.reduceMul, Int.reduceSub, Int.reduceLT, Int.reduceLE, Int.reduceEq, Int.reduceToNat, Int.reduceNatCast, icl, ico, inz, Nat.not_lt_zero, wp_in, if_pos e, wp_isT1]
    obtain ⟨n, rfl⟩ := Int.eq_ofNat_of_zero_le hn0
    have hn : n ≤ 12 := by omega
    have hz := fun M' b hM hb => q_mend (M' := M') (b := b) h0 ho hV hM hb
    clear h0
    clear e
    revert hz hR1
    generalize gg_up M 142 7 0 = M0
    intro hR1 hz
    generalize aG A = G at *
    obtain ⟨⟨h1, h2, h3, h4, h5⟩, hF, hT, hA, hW, hPa, hO⟩ := id hR1
    obtain ⟨⟨k1, k2, k3, k4, k5, k6, k7, k8⟩, hk, hp, hp2⟩ := id hG
    have hp2 := two_le k5
    have hU : qU G + 1 = 2 ^ qK G := by have := Nat.one_le_two_pow (n := qK G); unfold qU; omega
    have hr8 : ∀ s, qrk G s ≤ 8 := fun s => by unfold qrk; omega
    have f0 : qcnt (fun s => decide (qsz G s = n) && qci G s) 1 = 0 := qcnt_from1 (by show (_ && qci G 0) = false; rw [qci_0 hG, Bool.and_false])
    have hz' : ∀ (M' : gg_M) (b : Int), (∀ j, j ≠ 150 → j ≠ 151 → j ≠ 152 → M' j = M0 j) → b = (qcnt (fun s => decide (qsz G s = n) && qci G s) (2 ^ qK G) : Int) → Q ((1, (0, b)), (gk_R, M', 158, cc, cs)) := hz
    generalize hf : (fun s => decide (qsz G s = n) && qci G s) = f at *
    refine wl_i (P := fun i I => ∀ M' : gg_M, (∀ j, j ≠ 150 → j ≠ 151 → j ≠ 152 → M' j = M0 j) → ∀ c : Nat, c = qcnt f (i + 1) → wp N xs (d + 30 + 1) 224 23 [gr 142, (0, (n : Int)), (0, (c : Int)), (0, I + 1)] [] (gk_R, M', 158, cc, cs) Q) (qU G) (fun i hi ih M' hM c hc => ?_) (fun M' hM c hc => ?_) M0 (fun _ _ _ _ => rfl) 0 f0.symm
    · have e0 : M' 143 = M0 143 := hM 143 (by decide) (by decide) (by decide)
      have hR' : q_R (M' 143) G := by rw [e0]; exact hR1
      have h9 := qsz_12 hG (s := i + 1) (by omega)
      have h8 : qcnt (i + 1).testBit 12 ≤ 12 := qcnt_le _ _
      have h7 := qcnt_le f (i + 1)
      have hle : ¬ (qU G : Int) < (i : Int) + 1 := by omega
      have ie : (i : Int) + 1 = ((i + 1 : Nat) : Int) := rfl
      have ff : f (i + 1) = (decide (qsz G (i + 1) = n) && qci G (i + 1)) := by rw [← hf]
      rw [qcnt, ← hc, ff] at ih
      rw [wi_224_23]
      by_cases e2 : qsz G (i + 1) = n
      · rw [decide_eq_true e2] at ih
        rw [ie] at hle ih ⊢
        simp (disch := first | assumption | omega | exact il_cqA _ _ | exact il_cqB _ _) only [wi_224_0, wi_224_1, wi_224_2, wi_224_3, wi_224_4, wi_224_7, wi_224_10, wi_224_11, wi_224_14, wi_224_17, wi_224_18, wi_224_19, wi_224_20, wi_224_21, wi_224_22, wi_224_24, wi_224_25, wi_224_28, wi_224_31, wi_224_32, wi_224_33, wi_224_36, wi_224_37, wi_224_40, wi_224_41, wi_224_42, wi_224_45, wi_224_48, wi_224_49, wi_224_52, wi_224_53, wi_224_54, wi_224_55, wi_224_58, wi_224_61, wi_224_62, io_add_o, io_sub_o, io_mul_o, io_neg_o, io_and_r, io_or_r, io_xor_r, io_nd_r, io_shr_r, io_shl1, io_i2b_r, io_i2l_o, io_l2i_o, il_add_o, il_sub_o, il_mul_o, il_neg_o, ib_bit, Int.toNat_natCast, true_implies, false_implies, implies_true, and_true, true_and, and_self, not_true_eq_false, not_false_eq_true, wa_0, wa_1, il_cmp_o, il_cmp0, il_cmp1, il_cmp2, io_bit1, ibt0, ibt1, ibt00, ibt11, ibt10, ibt01, Int.ofNat_lt, Int.ofNat_le, Int.ofNat_inj, Nat.lt_irrefl, Int.lt_irrefl, Int.toNat_one, Int.toNat_zero, Bool.false_eq_true, reduceIte, reduceCtorEq, Nat.reduceAdd, Nat.reduceMul, Nat.reduceSub, Nat.reduceLT, Nat.reduceLeDiff, Nat.reduceEqDiff, Int.reduceNeg, Int.reduceAdd, Int.reduceMul, Int.reduceSub, Int.reduceLT, Int.reduceLE, Int.reduceEq, Int.reduceToNat, Int.reduceNatCast, icl, ico, inz, Nat.not_lt_zero, wp_mall (M := M') hR' hG, hle, wp_sizeOf, h9, e2]
        refine wp_mcirc hR' hG (s := i + 1) (by omega) (fun M3 hM3 => ?_)
        have hF3 : (∀ j, j ≠ 150 → j ≠ 151 → j ≠ 152 → M3 j = M0 j) := fun j h1 h2 h3 => by rw [hM3 j h1 h2 h3, hM j h1 h2 h3]
        cases ec : qci G (i + 1)
        · rw [ec] at ih
          simp (disch := first | assumption | omega | exact il_cqA _ _ | exact il_cqB _ _) only [wi_224_0, wi_224_1, wi_224_2, wi_224_3, wi_224_4, wi_224_7, wi_224_10, wi_224_11, wi_224_14, wi_224_17, wi_224_18, wi_224_19, wi_224_20, wi_224_21, wi_224_22, wi_224_24, wi_224_25, wi_224_28, wi_224_31, wi_224_32, wi_224_33, wi_224_36, wi_224_37, wi_224_40, wi_224_41, wi_224_42, wi_224_45, wi_224_48, wi_224_49, wi_224_52, wi_224_53, wi_224_54, wi_224_55, wi_224_58, wi_224_61, wi_224_62, io_add_o, io_sub_o, io_mul_o, io_neg_o, io_and_r, io_or_r, io_xor_r, io_nd_r, io_shr_r, io_shl1, io_i2b_r, io_i2l_o, io_l2i_o, il_add_o, il_sub_o, il_mul_o, il_neg_o, ib_bit, Int.toNat_natCast, true_implies, false_implies, implies_true, and_true, true_and, and_self, not_true_eq_false, not_false_eq_true, wa_0, wa_1, il_cmp_o, il_cmp0, il_cmp1, il_cmp2, io_bit1, ibt0, ibt1, ibt00, ibt11, ibt10, ibt01, Int.ofNat_lt, Int.ofNat_le, Int.ofNat_inj, Nat.lt_irrefl, Int.lt_irrefl, Int.toNat_one, Int.toNat_zero, Bool.false_eq_true, reduceIte, reduceCtorEq, Nat.reduceAdd, Nat.reduceMul, Nat.reduceSub, Nat.reduceLT, Nat.reduceLeDiff, Nat.reduceEqDiff, Int.reduceNeg, Int.reduceAdd, Int.reduceMul, Int.reduceSub, Int.reduceLT, Int.reduceLE, Int.reduceEq, Int.reduceToNat, Int.reduceNatCast, icl, ico, inz, Nat.not_lt_zero, Int.add_zero]
          exact ih M3 hF3 _ rfl
        · rw [ec] at ih
          simp (disch := first | assumption | omega | exact il_cqA _ _ | exact il_cqB _ _) only [wi_224_0, wi_224_1, wi_224_2, wi_224_3, wi_224_4, wi_224_7, wi_224_10, wi_224_11, wi_224_14, wi_224_17, wi_224_18, wi_224_19, wi_224_20, wi_224_21, wi_224_22, wi_224_24, wi_224_25, wi_224_28, wi_224_31, wi_224_32, wi_224_33, wi_224_36, wi_224_37, wi_224_40, wi_224_41, wi_224_42, wi_224_45, wi_224_48, wi_224_49, wi_224_52, wi_224_53, wi_224_54, wi_224_55, wi_224_58, wi_224_61, wi_224_62, io_add_o, io_sub_o, io_mul_o, io_neg_o, io_and_r, io_or_r, io_xor_r, io_nd_r, io_shr_r, io_shl1, io_i2b_r, io_i2l_o, io_l2i_o, il_add_o, il_sub_o, il_mul_o, il_neg_o, ib_bit, Int.toNat_natCast, true_implies, false_implies, implies_true, and_true, true_and, and_self, not_true_eq_false, not_false_eq_true, wa_0, wa_1, il_cmp_o, il_cmp0, il_cmp1, il_cmp2, io_bit1, ibt0, ibt1, ibt00, ibt11, ibt10, ibt01, Int.ofNat_lt, Int.ofNat_le, Int.ofNat_inj, Nat.lt_irrefl, Int.lt_irrefl, Int.toNat_one, Int.toNat_zero, Bool.false_eq_true, reduceIte, reduceCtorEq, Nat.reduceAdd, Nat.reduceMul, Nat.reduceSub, Nat.reduceLT, Nat.reduceLeDiff, Nat.reduceEqDiff, Int.reduceNeg, Int.reduceAdd, Int.reduceMul, Int.reduceSub, Int.reduceLT, Int.reduceLE, Int.reduceEq, Int.reduceToNat, Int.reduceNatCast, icl, ico, inz, Nat.not_lt_zero]
          exact ih M3 hF3 _ rfl
      · rw [decide_eq_false e2] at ih
        rw [ie] at hle ih ⊢
        simp (disch := first | assumption | omega | exact il_cqA _ _ | exact il_cqB _ _) only [wi_224_0, wi_224_1, wi_224_2, wi_224_3, wi_224_4, wi_224_7, wi_224_10, wi_224_11, wi_224_14, wi_224_17, wi_224_18, wi_224_19, wi_224_20, wi_224_21, wi_224_22, wi_224_24, wi_224_25, wi_224_28, wi_224_31, wi_224_32, wi_224_33, wi_224_36, wi_224_37, wi_224_40, wi_224_41, wi_224_42, wi_224_45, wi_224_48, wi_224_49, wi_224_52, wi_224_53, wi_224_54, wi_224_55, wi_224_58, wi_224_61, wi_224_62, io_add_o, io_sub_o, io_mul_o, io_neg_o, io_and_r, io_or_r, io_xor_r, io_nd_r, io_shr_r, io_shl1, io_i2b_r, io_i2l_o, io_l2i_o, il_add_o, il_sub_o, il_mul_o, il_neg_o, ib_bit, Int.toNat_natCast, true_implies, false_implies, implies_true, and_true, true_and, and_self, not_true_eq_false, not_false_eq_true, wa_0, wa_1, il_cmp_o, il_cmp0, il_cmp1, il_cmp2, io_bit1, ibt0, ibt1, ibt00, ibt11, ibt10, ibt01, Int.ofNat_lt, Int.ofNat_le, Int.ofNat_inj, Nat.lt_irrefl, Int.lt_irrefl, Int.toNat_one, Int.toNat_zero, Bool.false_eq_true, reduceIte, reduceCtorEq, Nat.reduceAdd, Nat.reduceMul, Nat.reduceSub, Nat.reduceLT, Nat.reduceLeDiff, Nat.reduceEqDiff, Int.reduceNeg, Int.reduceAdd, Int.reduceMul, Int.reduceSub, Int.reduceLT, Int.reduceLE, Int.reduceEq, Int.reduceToNat, Int.reduceNatCast, icl, ico, inz, Nat.not_lt_zero, wp_mall (M := M') hR' hG, hle, wp_sizeOf, h9, e2, Int.add_zero]
        exact ih M' hM _ rfl
    · have e0 : M' 143 = M0 143 := hM 143 (by decide) (by decide) (by decide)
      have hR' : q_R (M' 143) G := by rw [e0]; exact hR1
      have hle : (qU G : Int) < (qU G : Int) + 1 := by omega
      rw [wi_224_23]
      simp (disch := first | assumption | omega | exact il_cqA _ _ | exact il_cqB _ _) only [wi_224_0, wi_224_1, wi_224_2, wi_224_3, wi_224_4, wi_224_7, wi_224_10, wi_224_11, wi_224_14, wi_224_17, wi_224_18, wi_224_19, wi_224_20, wi_224_21, wi_224_22, wi_224_24, wi_224_25, wi_224_28, wi_224_31, wi_224_32, wi_224_33, wi_224_36, wi_224_37, wi_224_40, wi_224_41, wi_224_42, wi_224_45, wi_224_48, wi_224_49, wi_224_52, wi_224_53, wi_224_54, wi_224_55, wi_224_58, wi_224_61, wi_224_62, io_add_o, io_sub_o, io_mul_o, io_neg_o, io_and_r, io_or_r, io_xor_r, io_nd_r, io_shr_r, io_shl1, io_i2b_r, io_i2l_o, io_l2i_o, il_add_o, il_sub_o, il_mul_o, il_neg_o, ib_bit, Int.toNat_natCast, true_implies, false_implies, implies_true, and_true, true_and, and_self, not_true_eq_false, not_false_eq_true, wa_0, wa_1, il_cmp_o, il_cmp0, il_cmp1, il_cmp2, io_bit1, ibt0, ibt1, ibt00, ibt11, ibt10, ibt01, Int.ofNat_lt, Int.ofNat_le, Int.ofNat_inj, Nat.lt_irrefl, Int.lt_irrefl, Int.toNat_one, Int.toNat_zero, Bool.false_eq_true, reduceIte, reduceCtorEq, Nat.reduceAdd, Nat.reduceMul, Nat.reduceSub, Nat.reduceLT, Nat.reduceLeDiff, Nat.reduceEqDiff, Int.reduceNeg, Int.reduceAdd, Int.reduceMul, Int.reduceSub, Int.reduceLT, Int.reduceLE, Int.reduceEq, Int.reduceToNat, Int.reduceNatCast, icl, ico, inz, Nat.not_lt_zero, wp_mall (M := M') hR' hG, hle]
      exact hz' M' _ hM (by rw [hc, hU])
  · have ho : o_n 1 12 x = 2 := if_neg e
    simp (disch := first | assumption | omega | exact il_cqA _ _ | exact il_cqB _ _) only [wi_224_0, wi_224_1, wi_224_2, wi_224_3, wi_224_4, wi_224_7, wi_224_10, wi_224_11, wi_224_14, wi_224_17, wi_224_18, wi_224_19, wi_224_20, wi_224_21, wi_224_22, wi_224_24, wi_224_25, wi_224_28, wi_224_31, wi_224_32, wi_224_33, wi_224_36, wi_224_37, wi_224_40, wi_224_41, wi_224_42, wi_224_45, wi_224_48, wi_224_49, wi_224_52, wi_224_53, wi_224_54, wi_224_55, wi_224_58, wi_224_61, wi_224_62, io_add_o, io_sub_o, io_mul_o, io_neg_o, io_and_r, io_or_r, io_xor_r, io_nd_r, io_shr_r, io_shl1, io_i2b_r, io_i2l_o, io_l2i_o, il_add_o, il_sub_o, il_mul_o, il_neg_o, ib_bit, Int.toNat_natCast, true_implies, false_implies, implies_true, and_true, true_and, and_self, not_true_eq_false, not_false_eq_true, wa_0, wa_1, il_cmp_o, il_cmp0, il_cmp1, il_cmp2, io_bit1, ibt0, ibt1, ibt00, ibt11, ibt10, ibt01, Int.ofNat_lt, Int.ofNat_le, Int.ofNat_inj, Nat.lt_irrefl, Int.lt_irrefl, Int.toNat_one, Int.toNat_zero, Bool.false_eq_true, reduceIte, reduceCtorEq, Nat.reduceAdd, Nat.reduceMul, Nat.reduceSub, Nat.reduceLT, Nat.reduceLeDiff, Nat.reduceEqDiff, Int.reduceNeg, Int.reduceAdd, Int.reduceMul, Int.reduceSub, Int.reduceLT, Int.reduceLE, Int.reduceEq, Int.reduceToNat, Int.reduceNatCast, icl, ico, inz, Nat.not_lt_zero, wp_in, if_neg e, wp_isT0]
    exact h0 _ 0 (fun j hj => gu_n (by omega)) (q_V_t hV) (by rw [gu_e, ho]; rfl) (fun h => absurd (ho ▸ h) (by decide))
end SG
