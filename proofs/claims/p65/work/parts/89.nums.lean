/-! questions with a number, or none -/
section SG
variable {N : Nat} {xs : Nat → Int32} {d : Nat} {M : gg_M} {cc cs : Nat} {A : q_A}
def o_n (l h : Int) (x : Int) : Nat := if l ≤ x ∧ x ≤ h then 0 else 2
theorem qcnt_bs {G : q_G} {of : Nat} (hof : of < 2 ^ qK G) : qcnt (fun s => decide (gnd s of = 0) && decide (qrk G s = qrk G of) && qfr G s) (of + 1) = qcnt (fun s => decide (s &&& of = s) && decide (qsz G s = qrk G of) && qfr G s) (2 ^ qK G) := by
  rw [qcnt_ext (n := of + 1) (m := 2 ^ qK G) (by omega) (fun i h1 h2 => ?_)]
  · refine qcnt_congr fun i _ => ?_
    have e1 : (gnd i of = 0) = (i &&& of = i) := by
      refine propext ⟨fun h => ?_, fun h => ?_⟩
      · refine Nat.eq_of_testBit_eq fun j => ?_
        have := gnd_bit i of j
        rw [h, Nat.zero_testBit] at this
        rw [Nat.testBit_and]
        cases h1 : i.testBit j <;> cases h2 : of.testBit j <;> simp_all
      · unfold gnd
        rw [h, Nat.xor_self]
    cases ef : qfr G i
    · simp
    · have e2 := of_decide_eq_true ef
      rw [e2]
      simp [e1]
  · have : i &&& of ≠ i := fun e => by
      have := Nat.and_le_right (n := i) (m := of)
      omega
    simp [this]
theorem cq_145 (hI : q_I M A) (hA : a_ok A) {x : Int} (x1 : -2147483648 ≤ x) (x2 : x ≤ 2147483647) : q_cS N xs (d + 30) 145 [(0, x)] M A cc cs (o_n 0 3 x) 0 (qO (aG A) x.toNat) := by
  have hG := hA.1
  have hC := hI.1
  have hg := gs_G2_
  intro Q h0 h1
  by_cases e : 0 ≤ x ∧ x ≤ 3
  · have ho : o_n 0 3 x = 0 := if_pos e
    simp (disch := first | assumption | omega | exact il_cqA _ _ | exact il_cqB _ _) only [wi_145_0, wi_145_1, wi_145_2, wi_145_3, wi_145_6, wi_145_7, wi_145_10, wi_145_13, wi_145_14, wi_145_15, io_add_o, io_sub_o, io_mul_o, io_neg_o, io_and_r, io_or_r, io_xor_r, io_nd_r, io_shr_r, io_shl1, io_i2b_r, io_i2l_o, io_l2i_o, il_add_o, il_sub_o, il_mul_o, il_neg_o, ib_bit, Int.toNat_natCast, true_implies, false_implies, implies_true, and_true, true_and, and_self, not_true_eq_false, not_false_eq_true, wa_0, wa_1, il_cmp_o, il_cmp0, il_cmp1, il_cmp2, io_bit1, ibt0, ibt1, ibt00, ibt11, ibt10, ibt01, Int.ofNat_lt, Int.ofNat_le, Int.ofNat_inj, Nat.lt_irrefl, Int.lt_irrefl, Int.toNat_one, Int.toNat_zero, Bool.false_eq_true, reduceIte, reduceCtorEq, Nat.reduceAdd, Nat.reduceMul, Nat.reduceSub, Nat.reduceLT, Nat.reduceLeDiff, Nat.reduceEqDiff, Int.reduceNeg, Int.reduceAdd, Int.reduceMul, Int.reduceSub, Int.reduceLT, Int.reduceLE, Int.reduceEq, Int.reduceToNat, Int.reduceNatCast, icl, ico, inz, Nat.not_lt_zero, wp_needBetween, if_pos e]
    obtain ⟨n, rfl⟩ := Int.eq_ofNat_of_zero_le (show 0 ≤ x by omega)
    have hn : n ≤ 3 := by omega
    obtain ⟨⟨h1, h2, h3, h4, h5⟩, hF, hT, hA, hW, hP, hO⟩ := id hC
    obtain ⟨⟨k1, k2, k3, k4, k5, k6, k7, k8⟩, hk, hp, hp2⟩ := id hG
    have hOn := hO n (by omega)
    simp (disch := first | assumption | omega | exact il_cqA _ _ | exact il_cqB _ _) only [wi_145_0, wi_145_1, wi_145_2, wi_145_3, wi_145_6, wi_145_7, wi_145_10, wi_145_13, wi_145_14, wi_145_15, io_add_o, io_sub_o, io_mul_o, io_neg_o, io_and_r, io_or_r, io_xor_r, io_nd_r, io_shr_r, io_shl1, io_i2b_r, io_i2l_o, io_l2i_o, il_add_o, il_sub_o, il_mul_o, il_neg_o, ib_bit, Int.toNat_natCast, true_implies, false_implies, implies_true, and_true, true_and, and_self, not_true_eq_false, not_false_eq_true, wa_0, wa_1, il_cmp_o, il_cmp0, il_cmp1, il_cmp2, io_bit1, ibt0, ibt1, ibt00, ibt11, ibt10, ibt01, Int.ofNat_lt, Int.ofNat_le, Int.ofNat_inj, Nat.lt_irrefl, Int.lt_irrefl, Int.toNat_one, Int.toNat_zero, Bool.false_eq_true, reduceIte, reduceCtorEq, Nat.reduceAdd, Nat.reduceMul, Nat.reduceSub, Nat.reduceLT, Nat.reduceLeDiff, Nat.reduceEqDiff, Int.reduceNeg, Int.reduceAdd, Int.reduceMul, Int.reduceSub, Int.reduceLT, Int.reduceLE, Int.reduceEq, Int.reduceToNat, Int.reduceNatCast, icl, ico, inz, Nat.not_lt_zero, hOn]
    exact h0 ho M (fun _ _ => rfl) hI
  · have ho : o_n 0 3 x = 2 := if_neg e
    simp (disch := first | assumption | omega | exact il_cqA _ _ | exact il_cqB _ _) only [wi_145_0, wi_145_1, wi_145_2, wi_145_3, wi_145_6, wi_145_7, wi_145_10, wi_145_13, wi_145_14, wi_145_15, io_add_o, io_sub_o, io_mul_o, io_neg_o, io_and_r, io_or_r, io_xor_r, io_nd_r, io_shr_r, io_shl1, io_i2b_r, io_i2l_o, io_l2i_o, il_add_o, il_sub_o, il_mul_o, il_neg_o, ib_bit, Int.toNat_natCast, true_implies, false_implies, implies_true, and_true, true_and, and_self, not_true_eq_false, not_false_eq_true, wa_0, wa_1, il_cmp_o, il_cmp0, il_cmp1, il_cmp2, io_bit1, ibt0, ibt1, ibt00, ibt11, ibt10, ibt01, Int.ofNat_lt, Int.ofNat_le, Int.ofNat_inj, Nat.lt_irrefl, Int.lt_irrefl, Int.toNat_one, Int.toNat_zero, Bool.false_eq_true, reduceIte, reduceCtorEq, Nat.reduceAdd, Nat.reduceMul, Nat.reduceSub, Nat.reduceLT, Nat.reduceLeDiff, Nat.reduceEqDiff, Int.reduceNeg, Int.reduceAdd, Int.reduceMul, Int.reduceSub, Int.reduceLT, Int.reduceLE, Int.reduceEq, Int.reduceToNat, Int.reduceNatCast, icl, ico, inz, Nat.not_lt_zero, wp_needBetween, if_neg e, wa_x2 (k := 145) (by decide +kernel), wa_x3 (k := 145) (by decide +kernel)]
    have := h1 (by rw [ho]; decide) hI
    rw [ho] at this
    exact this
end SG
