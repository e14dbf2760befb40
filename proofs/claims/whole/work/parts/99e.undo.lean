/-! undo and snapshots -/
section SG
variable {N : Nat} {xs : Nat → Int32} {d : Nat} {M : gg_M} {cc cs : Nat} {A : q_A}
theorem gs_G128_ : gs_G 128 := (by decide +kernel : gs_Gb 128 = true)
theorem gs_G135_ : gs_G 135 := (by decide +kernel : gs_Gb 135 = true)
theorem q_I_re {M2 : gg_M} {G : q_G} {n : Nat} {Hs : Nat → q_G} (hI : q_I M A) (hC : q_C M2 2 G) (hS : M2 78 4 = 0) (hH : qs_H M2 n Hs) (hF : ∀ j, 73 < j → j ≠ 78 → M2 j = M j) : q_I M2 (G, (n, Hs), A.2.2) := by
  obtain ⟨h1, h2, h3, h4, h5, h6, h7⟩ := hI
  refine ⟨hC, Or.inl hS, hH, fun s hs => ?_, qt_C_e h5 (by rw [hF 76 (by decide) (by decide)]) (hF 77 (by decide) (by decide)), by rw [hF 76 (by decide) (by decide)]; exact h6, fun h => by rw [hF 76 (by decide) (by decide)]; exact h7 h⟩
  have := h4 s hs
  show match aV A s with | some G => M2 75 s = 1 ∧ q_C M2 (128 + 7 * s) G | none => M2 75 s = 0
  cases hv : aV A s with
  | none =>
    rw [hv] at this
    rw [hF 75 (by decide) (by decide)]
    exact this
  | some G =>
    rw [hv] at this
    exact ⟨by rw [hF 75 (by decide) (by decide)]; exact this.1, q_C_e this.2 fun i i1 i2 => hF i (by omega) (by omega)⟩
theorem q_V_re {M2 : gg_M} {G : q_G} {n : Nat} {Hs : Nat → q_G} (hV : q_V M A) (hR : q_R (M2 143) G) (hH : qm_H M2 n Hs) (h147 : M2 147 = M 147) (h148 : M2 148 = M 148) (h149 : M2 149 = M 149) (h142 : ∀ f, (f = 9 ∨ f = 15 ∨ f = 16) → M2 142 f = M 142 f) : q_V M2 (G, (n, Hs), A.2.2) := by
  obtain ⟨h1, _, h5, h6, h7, h8⟩ := hV
  refine ⟨hR, hH, ?_, qt_V_e h6 (h142 9 (by decide)) h149, by rw [h142 15 (by decide)]; exact h7, by rw [h142 16 (by decide)]; exact h8⟩
  rw [h147, h148]
  exact h5
def qundo (A : q_A) : q_A := if aN A = 0 then A else (aH A 0, (aN A - 1, fun j => aH A (j + 1)), A.2.2)
def qundoV (A : q_A) : Int := if aN A = 0 then -1 else ((aN A - 1 : Nat) : Int)
theorem ok_undo (hA : a_ok A) : a_ok (qundo A) := by
  unfold qundo
  by_cases e : aN A = 0
  · rw [if_pos e]
    exact hA
  · rw [if_neg e]
    obtain ⟨h1, h2, h3, h4, h5⟩ := hA
    exact ⟨h3 0 (by omega), Nat.le_trans (Nat.sub_le _ _) h2, fun j hj => h3 (j + 1) (by have hj2 : j < aN A - 1 := hj; omega), h4, h5⟩
theorem cq_146 (hI : q_I M A) (hA : a_ok A) : q_cS N xs (d + 31) 146 [] M (qundo A) cc cs 0 0 (qundoV A) := by
  intro Q h0 h1
  have h0 := h0 rfl
  obtain ⟨x0, hx0, g1, g2, g3, g4⟩ := id hI.2.2.1
  unfold qundo qundoV at h0
  by_cases e : aN A = 0
  · rw [if_pos e, if_pos e] at h0
    have g5 : M 16 2 = 0 := by rw [g2, e]; rfl
    simp (disch := first | assumption | omega | exact il_cqA _ _ | exact il_cqB _ _) only [wi_146_0, wi_146_1, wi_146_4, wi_146_7, wi_146_10, wi_146_11, wi_146_12, wi_146_13, wi_146_16, wi_146_17, wi_146_20, wi_146_23, wi_146_24, wi_146_27, wi_146_30, wi_146_31, wi_146_34, wi_146_37, io_add_o, io_sub_o, io_mul_o, io_neg_o, io_and_r, io_or_r, io_xor_r, io_nd_r, io_shr_r, io_shl1, io_i2b_r, io_i2l_o, io_l2i_o, il_add_o, il_sub_o, il_mul_o, il_neg_o, ib_bit, Int.toNat_natCast, true_implies, false_implies, implies_true, and_true, true_and, and_self, not_true_eq_false, not_false_eq_true, wa_0, wa_1, il_cmp_o, il_cmp0, il_cmp1, il_cmp2, io_bit1, ibt0, ibt1, ibt00, ibt11, ibt10, ibt01, Int.ofNat_lt, Int.ofNat_le, Int.ofNat_inj, Nat.lt_irrefl, Int.lt_irrefl, Int.toNat_one, Int.toNat_zero, Bool.false_eq_true, reduceIte, reduceCtorEq, Nat.reduceAdd, Nat.reduceMul, Nat.reduceSub, Nat.reduceLT, Nat.reduceLeDiff, Nat.reduceEqDiff, Int.reduceNeg, Int.reduceAdd, Int.reduceMul, Int.reduceSub, Int.reduceLT, Int.reduceLE, Int.reduceEq, Int.reduceToNat, Int.reduceNatCast, icl, ico, inz, Nat.not_lt_zero, g5]
    exact h0 M (fun _ _ => rfl) hI
  · rw [if_neg e, if_neg e] at h0
    have g5 : ¬ (aN A : Int) = 0 := by omega
    simp (disch := first | assumption | omega | exact il_cqA _ _ | exact il_cqB _ _) only [wi_146_0, wi_146_1, wi_146_4, wi_146_7, wi_146_10, wi_146_11, wi_146_12, wi_146_13, wi_146_16, wi_146_17, wi_146_20, wi_146_23, wi_146_24, wi_146_27, wi_146_30, wi_146_31, wi_146_34, wi_146_37, io_add_o, io_sub_o, io_mul_o, io_neg_o, io_and_r, io_or_r, io_xor_r, io_nd_r, io_shr_r, io_shl1, io_i2b_r, io_i2l_o, io_l2i_o, il_add_o, il_sub_o, il_mul_o, il_neg_o, ib_bit, Int.toNat_natCast, true_implies, false_implies, implies_true, and_true, true_and, and_self, not_true_eq_false, not_false_eq_true, wa_0, wa_1, il_cmp_o, il_cmp0, il_cmp1, il_cmp2, io_bit1, ibt0, ibt1, ibt00, ibt11, ibt10, ibt01, Int.ofNat_lt, Int.ofNat_le, Int.ofNat_inj, Nat.lt_irrefl, Int.lt_irrefl, Int.toNat_one, Int.toNat_zero, Bool.false_eq_true, reduceIte, reduceCtorEq, Nat.reduceAdd, Nat.reduceMul, Nat.reduceSub, Nat.reduceLT, Nat.reduceLeDiff, Nat.reduceEqDiff, Int.reduceNeg, Int.reduceAdd, Int.reduceMul, Int.reduceSub, Int.reduceLT, Int.reduceLE, Int.reduceEq, Int.reduceToNat, Int.reduceNatCast, icl, ico, inz, Nat.not_lt_zero, g2, g5]
    refine wp_htake (by omega) hI.2.2.1 hA.2.2.1 (fun M1 hM hC hH => ?_)
    obtain ⟨x1, hx1, b1, b2, b3, b4⟩ := id hH
    simp (disch := first | assumption | omega | exact il_cqA _ _ | exact il_cqB _ _) only [wi_146_0, wi_146_1, wi_146_4, wi_146_7, wi_146_10, wi_146_11, wi_146_12, wi_146_13, wi_146_16, wi_146_17, wi_146_20, wi_146_23, wi_146_24, wi_146_27, wi_146_30, wi_146_31, wi_146_34, wi_146_37, wi_61_0, wi_61_1, wi_61_2, wi_61_5, io_add_o, io_sub_o, io_mul_o, io_neg_o, io_and_r, io_or_r, io_xor_r, io_nd_r, io_shr_r, io_shl1, io_i2b_r, io_i2l_o, io_l2i_o, il_add_o, il_sub_o, il_mul_o, il_neg_o, ib_bit, Int.toNat_natCast, true_implies, false_implies, implies_true, and_true, true_and, and_self, not_true_eq_false, not_false_eq_true, wa_0, wa_1, il_cmp_o, il_cmp0, il_cmp1, il_cmp2, io_bit1, ibt0, ibt1, ibt00, ibt11, ibt10, ibt01, Int.ofNat_lt, Int.ofNat_le, Int.ofNat_inj, Nat.lt_irrefl, Int.lt_irrefl, Int.toNat_one, Int.toNat_zero, Bool.false_eq_true, reduceIte, reduceCtorEq, Nat.reduceAdd, Nat.reduceMul, Nat.reduceSub, Nat.reduceLT, Nat.reduceLeDiff, Nat.reduceEqDiff, Int.reduceNeg, Int.reduceAdd, Int.reduceMul, Int.reduceSub, Int.reduceLT, Int.reduceLE, Int.reduceEq, Int.reduceToNat, Int.reduceNatCast, icl, ico, inz, Nat.not_lt_zero, gu_n, b2]
    exact h0 _ (fun j hj => by rw [gu_n (by omega), hM j (by omega) (by omega)]) (q_I_re hI (q_C_e hC fun j j1 j2 => gu_n (by omega)) gu_e (qs_H_e hH fun j j1 j2 => gu_n (by omega)) (fun j j1 j2 => by rw [gu_n j2, hM j (by omega) (by omega)]))
theorem mq_268 (hV : q_V M A) (hA : a_ok A) : q_mS N xs (d + 31) 268 [] M (qundo A) cc cs 0 false 0 (qundoV A) := by
  intro Q h0
  have hV1 := q_V_t (x := 0) hV
  obtain ⟨g1, g2, g3⟩ := id hV.2.1
  unfold qundo qundoV at h0
  by_cases e : aN A = 0
  · rw [if_pos e, if_pos e] at h0
    have g5 : M 142 6 = 0 := by rw [g1, e]; rfl
    simp (disch := first | assumption | omega | exact il_cqA _ _ | exact il_cqB _ _) only [wi_268_0, wi_268_1, wi_268_2, wi_268_5, wi_268_6, wi_268_9, wi_268_12, wi_268_13, wi_268_14, wi_268_15, wi_268_16, wi_268_19, wi_268_20, wi_268_21, wi_268_24, wi_268_25, wi_268_28, wi_268_29, wi_268_32, wi_268_33, wi_268_36, wi_268_37, wi_268_40, wi_268_41, wi_268_44, io_add_o, io_sub_o, io_mul_o, io_neg_o, io_and_r, io_or_r, io_xor_r, io_nd_r, io_shr_r, io_shl1, io_i2b_r, io_i2l_o, io_l2i_o, il_add_o, il_sub_o, il_mul_o, il_neg_o, ib_bit, Int.toNat_natCast, true_implies, false_implies, implies_true, and_true, true_and, and_self, not_true_eq_false, not_false_eq_true, wa_0, wa_1, il_cmp_o, il_cmp0, il_cmp1, il_cmp2, io_bit1, ibt0, ibt1, ibt00, ibt11, ibt10, ibt01, Int.ofNat_lt, Int.ofNat_le, Int.ofNat_inj, Nat.lt_irrefl, Int.lt_irrefl, Int.toNat_one, Int.toNat_zero, Bool.false_eq_true, reduceIte, reduceCtorEq, Nat.reduceAdd, Nat.reduceMul, Nat.reduceSub, Nat.reduceLT, Nat.reduceLeDiff, Nat.reduceEqDiff, Int.reduceNeg, Int.reduceAdd, Int.reduceMul, Int.reduceSub, Int.reduceLT, Int.reduceLE, Int.reduceEq, Int.reduceToNat, Int.reduceNatCast, icl, ico, inz, Nat.not_lt_zero, gu_s, g5]
    exact h0 _ _ (fun j hj => gu_n (by omega)) hV1 gu_e (fun _ => rfl)
  · rw [if_neg e, if_neg e] at h0
    obtain ⟨n, hn⟩ : ∃ n, aN A = n + 1 := ⟨aN A - 1, by omega⟩
    have g5 : M 142 6 = (n : Int) + 1 := by rw [g1, hn]; rfl
    have g6 : ¬ (n : Int) + 1 = 0 := by omega
    have g7 : (n : Int) + 1 - 1 = (n : Int) := by omega
    have p146 : gs_a 146 1 520 := gs_ab_ok (by decide +kernel)
    have p143 : gs_a 143 1 65 := gs_ab_ok (by decide +kernel)
    rw [hn, Nat.add_sub_cancel] at h0
    simp (disch := first | assumption | omega | exact il_cqA _ _ | exact il_cqB _ _) only [wi_268_0, wi_268_1, wi_268_2, wi_268_5, wi_268_6, wi_268_9, wi_268_12, wi_268_13, wi_268_14, wi_268_15, wi_268_16, wi_268_19, wi_268_20, wi_268_21, wi_268_24, wi_268_25, wi_268_28, wi_268_29, wi_268_32, wi_268_33, wi_268_36, wi_268_37, wi_268_40, wi_268_41, wi_268_44, io_add_o, io_sub_o, io_mul_o, io_neg_o, io_and_r, io_or_r, io_xor_r, io_nd_r, io_shr_r, io_shl1, io_i2b_r, io_i2l_o, io_l2i_o, il_add_o, il_sub_o, il_mul_o, il_neg_o, ib_bit, Int.toNat_natCast, true_implies, false_implies, implies_true, and_true, true_and, and_self, not_true_eq_false, not_false_eq_true, wa_0, wa_1, il_cmp_o, il_cmp0, il_cmp1, il_cmp2, io_bit1, ibt0, ibt1, ibt00, ibt11, ibt10, ibt01, Int.ofNat_lt, Int.ofNat_le, Int.ofNat_inj, Nat.lt_irrefl, Int.lt_irrefl, Int.toNat_one, Int.toNat_zero, Bool.false_eq_true, reduceIte, reduceCtorEq, Nat.reduceAdd, Nat.reduceMul, Nat.reduceSub, Nat.reduceLT, Nat.reduceLeDiff, Nat.reduceEqDiff, Int.reduceNeg, Int.reduceAdd, Int.reduceMul, Int.reduceSub, Int.reduceLT, Int.reduceLE, Int.reduceEq, Int.reduceToNat, Int.reduceNatCast, icl, ico, inz, Nat.not_lt_zero, gu_s, g5, g6, g7, gu_e]
    refine wp_mcopies (here := n) (there := 0) p146 p143 (by decide) (by decide) (by decide) (by omega) (by decide) (fun M2 hM2 hv2 _ => ?_)
    have e142 : ∀ f, f ≠ 6 → f ≠ 7 → M2 142 f = M 142 f := fun f f1 f2 => by rw [hM2 142 (by decide), gu_s f1, gu_s f2]
    have eo : ∀ j, j ≠ 142 → j ≠ 143 → M2 j = M j := fun j j1 j2 => by rw [hM2 j j2, gu_n j1, gu_n j1]
    have e6 : M2 142 6 = (n : Int) := by rw [hM2 142 (by decide), gu_e]
    simp (disch := first | assumption | omega | exact il_cqA _ _ | exact il_cqB _ _) only [wi_268_0, wi_268_1, wi_268_2, wi_268_5, wi_268_6, wi_268_9, wi_268_12, wi_268_13, wi_268_14, wi_268_15, wi_268_16, wi_268_19, wi_268_20, wi_268_21, wi_268_24, wi_268_25, wi_268_28, wi_268_29, wi_268_32, wi_268_33, wi_268_36, wi_268_37, wi_268_40, wi_268_41, wi_268_44, io_add_o, io_sub_o, io_mul_o, io_neg_o, io_and_r, io_or_r, io_xor_r, io_nd_r, io_shr_r, io_shl1, io_i2b_r, io_i2l_o, io_l2i_o, il_add_o, il_sub_o, il_mul_o, il_neg_o, ib_bit, Int.toNat_natCast, true_implies, false_implies, implies_true, and_true, true_and, and_self, not_true_eq_false, not_false_eq_true, wa_0, wa_1, il_cmp_o, il_cmp0, il_cmp1, il_cmp2, io_bit1, ibt0, ibt1, ibt00, ibt11, ibt10, ibt01, Int.ofNat_lt, Int.ofNat_le, Int.ofNat_inj, Nat.lt_irrefl, Int.lt_irrefl, Int.toNat_one, Int.toNat_zero, Bool.false_eq_true, reduceIte, reduceCtorEq, Nat.reduceAdd, Nat.reduceMul, Nat.reduceSub, Nat.reduceLT, Nat.reduceLeDiff, Nat.reduceEqDiff, Int.reduceNeg, Int.reduceAdd, Int.reduceMul, Int.reduceSub, Int.reduceLT, Int.reduceLE, Int.reduceEq, Int.reduceToNat, Int.reduceNatCast, icl, ico, inz, Nat.not_lt_zero, e6]
    refine h0 M2 _ (fun j hj => eo j (by omega) (by omega)) (q_V_re hV ?_ ⟨e6, by omega, fun j hj => ?_⟩ (eo 147 (by decide) (by decide)) (eo 148 (by decide) (by decide)) (eo 149 (by decide) (by decide)) (fun f hf => e142 f (by omega) (by omega))) (by rw [hM2 142 (by decide), gu_s (by decide), gu_e]; rfl) (fun _ => rfl)
    · have := g3 0 (by omega)
      refine q_R_congr (hA.2.2.1 0 (by omega)) this fun k hk => ?_
      have h9 := hv2 k hk
      rw [gu_n (by decide), gu_n (by decide), Nat.mul_zero, Nat.zero_add] at h9
      rw [h9, hn]
      rfl
    · have := g3 (j + 1) (by omega)
      rw [hn, show n + 1 - 1 - (j + 1) = n - 1 - j by omega] at this
      rw [eo 146 (by decide) (by decide)]
      exact this
def qsave (A : q_A) (o s : Nat) : q_A := if o = 0 then (aG A, (aN A, aH A), qup (aV A) s (some (aG A)), A.2.2.2) else A
theorem ok_save (hA : a_ok A) {o s : Nat} : a_ok (qsave A o s) := by
  unfold qsave
  by_cases e : o = 0
  · rw [if_pos e]
    obtain ⟨h1, h2, h3, h4, h5⟩ := hA
    refine ⟨h1, h2, h3, fun u G hu => ?_, h5⟩
    have hu2 : qup (aV A) s (some (aG A)) u = some G := hu
    unfold qup at hu2
    by_cases e2 : u = s
    · rw [if_pos e2] at hu2
      exact (Option.some.inj hu2) ▸ h1
    · rw [if_neg e2] at hu2
      exact h4 u G hu2
  · rw [if_neg e]
    exact hA
theorem q_I_save {M2 : gg_M} {n : Nat} (hn : n < 2) (hI : q_I M A) (hF : ∀ j, j ≠ 75 → j < 128 + 7 * n ∨ 128 + 7 * n + 6 < j → M2 j = M j) (h75 : ∀ k, k ≠ n → M2 75 k = M 75 k) (h1 : M2 75 n = 1) (hC : q_C M2 (128 + 7 * n) (aG A)) : q_I M2 (aG A, (aN A, aH A), qup (aV A) n (some (aG A)), A.2.2.2) := by
  obtain ⟨g1, g2, g3, g4, g5, g6, g7⟩ := hI
  have e76 := hF 76 (by decide) (by omega)
  refine ⟨q_C_e g1 fun j j1 j2 => hF j (by omega) (by omega), ?_, qs_H_e g3 (fun j j1 j2 => hF j (by omega) (by omega)), fun s hs => ?_, qt_C_e g5 (by rw [e76]) (hF 77 (by decide) (by omega)), by rw [e76]; exact g6, fun h => by rw [e76]; exact g7 h⟩
  · unfold qs_S
    rw [hF 78 (by decide) (by omega), hF 83 (by decide) (by omega), hF 84 (by decide) (by omega)]
    exact g2
  · have := g4 s hs
    show match qup (aV A) n (some (aG A)) s with | some G => M2 75 s = 1 ∧ q_C M2 (128 + 7 * s) G | none => M2 75 s = 0
    unfold qup
    by_cases e : s = n
    · rw [if_pos e, e]
      exact ⟨h1, hC⟩
    · rw [if_neg e, h75 s e]
      cases hv : aV A s with
      | none =>
        rw [hv] at this
        exact this
      | some G =>
        rw [hv] at this
        exact ⟨this.1, q_C_e this.2 fun i i1 i2 => hF i (by omega) (by omega)⟩
theorem cq_147 (hI : q_I M A) (hA : a_ok A) {x : Int} (x1 : -2147483648 ≤ x) (x2 : x ≤ 2147483647) : q_cS N xs (d + 30) 147 [(0, x)] M (qsave A (o_n 0 1 x) x.toNat) cc cs (o_n 0 1 x) 0 (qK (aG A) : Int) := by
  have hG := hA.1
  have hC := hI.1
  have hg := gs_G2_
  intro Q h0 h1
  by_cases e : 0 ≤ x ∧ x ≤ 1
  · have ho : o_n 0 1 x = 0 := if_pos e
    have h0 := h0 ho
    unfold qsave at h0
    rw [if_pos ho] at h0
    rcases (show x = 0 ∨ x = 1 by omega) with rfl | rfl
    · have h3 := hC.1.2.2.1
      have g8 := gs_G128_
      simp (disch := first | assumption | omega | exact il_cqA _ _ | exact il_cqB _ _) only [wi_147_0, wi_147_1, wi_147_2, wi_147_3, wi_147_6, wi_147_7, wi_147_10, wi_147_11, wi_147_12, wi_147_13, wi_147_16, wi_147_19, wi_147_20, wi_147_23, wi_147_24, wi_147_25, wi_147_26, wi_147_27, wi_147_30, wi_147_33, io_add_o, io_sub_o, io_mul_o, io_neg_o, io_and_r, io_or_r, io_xor_r, io_nd_r, io_shr_r, io_shl1, io_i2b_r, io_i2l_o, io_l2i_o, il_add_o, il_sub_o, il_mul_o, il_neg_o, ib_bit, Int.toNat_natCast, true_implies, false_implies, implies_true, and_true, true_and, and_self, not_true_eq_false, not_false_eq_true, wa_0, wa_1, il_cmp_o, il_cmp0, il_cmp1, il_cmp2, io_bit1, ibt0, ibt1, ibt00, ibt11, ibt10, ibt01, Int.ofNat_lt, Int.ofNat_le, Int.ofNat_inj, Nat.lt_irrefl, Int.lt_irrefl, Int.toNat_one, Int.toNat_zero, Bool.false_eq_true, reduceIte, reduceCtorEq, Nat.reduceAdd, Nat.reduceMul, Nat.reduceSub, Nat.reduceLT, Nat.reduceLeDiff, Nat.reduceEqDiff, Int.reduceNeg, Int.reduceAdd, Int.reduceMul, Int.reduceSub, Int.reduceLT, Int.reduceLE, Int.reduceEq, Int.reduceToNat, Int.reduceNatCast, icl, ico, inz, Nat.not_lt_zero, wp_needBetween]
      refine wp_copyFrom gs_G128_ hg (by decide) hG hC (fun M1 hM1 hC1 => ?_)
      have h3' : M1 2 2 = (qK (aG A) : Int) := by rw [hM1 2 (by decide)]; exact h3
      simp (disch := first | assumption | omega | exact il_cqA _ _ | exact il_cqB _ _) only [wi_147_0, wi_147_1, wi_147_2, wi_147_3, wi_147_6, wi_147_7, wi_147_10, wi_147_11, wi_147_12, wi_147_13, wi_147_16, wi_147_19, wi_147_20, wi_147_23, wi_147_24, wi_147_25, wi_147_26, wi_147_27, wi_147_30, wi_147_33, io_add_o, io_sub_o, io_mul_o, io_neg_o, io_and_r, io_or_r, io_xor_r, io_nd_r, io_shr_r, io_shl1, io_i2b_r, io_i2l_o, io_l2i_o, il_add_o, il_sub_o, il_mul_o, il_neg_o, ib_bit, Int.toNat_natCast, true_implies, false_implies, implies_true, and_true, true_and, and_self, not_true_eq_false, not_false_eq_true, wa_0, wa_1, il_cmp_o, il_cmp0, il_cmp1, il_cmp2, io_bit1, ibt0, ibt1, ibt00, ibt11, ibt10, ibt01, Int.ofNat_lt, Int.ofNat_le, Int.ofNat_inj, Nat.lt_irrefl, Int.lt_irrefl, Int.toNat_one, Int.toNat_zero, Bool.false_eq_true, reduceIte, reduceCtorEq, Nat.reduceAdd, Nat.reduceMul, Nat.reduceSub, Nat.reduceLT, Nat.reduceLeDiff, Nat.reduceEqDiff, Int.reduceNeg, Int.reduceAdd, Int.reduceMul, Int.reduceSub, Int.reduceLT, Int.reduceLE, Int.reduceEq, Int.reduceToNat, Int.reduceNatCast, icl, ico, inz, Nat.not_lt_zero, gu_n, h3']
      exact h0 _ (fun j hj => by rw [gu_n (by omega), hM1 j (by omega)]) (q_I_save (n := 0) (by decide) hI (fun j j1 j2 => by rw [gu_n j1, hM1 j (by omega)]) (fun k hk => by rw [gu_s hk, hM1 75 (by decide)]) gu_e (q_C_e hC1 fun j j1 j2 => gu_n (by omega)))
    · have h3 := hC.1.2.2.1
      have g8 := gs_G135_
      simp (disch := first | assumption | omega | exact il_cqA _ _ | exact il_cqB _ _) only [wi_147_0, wi_147_1, wi_147_2, wi_147_3, wi_147_6, wi_147_7, wi_147_10, wi_147_11, wi_147_12, wi_147_13, wi_147_16, wi_147_19, wi_147_20, wi_147_23, wi_147_24, wi_147_25, wi_147_26, wi_147_27, wi_147_30, wi_147_33, io_add_o, io_sub_o, io_mul_o, io_neg_o, io_and_r, io_or_r, io_xor_r, io_nd_r, io_shr_r, io_shl1, io_i2b_r, io_i2l_o, io_l2i_o, il_add_o, il_sub_o, il_mul_o, il_neg_o, ib_bit, Int.toNat_natCast, true_implies, false_implies, implies_true, and_true, true_and, and_self, not_true_eq_false, not_false_eq_true, wa_0, wa_1, il_cmp_o, il_cmp0, il_cmp1, il_cmp2, io_bit1, ibt0, ibt1, ibt00, ibt11, ibt10, ibt01, Int.ofNat_lt, Int.ofNat_le, Int.ofNat_inj, Nat.lt_irrefl, Int.lt_irrefl, Int.toNat_one, Int.toNat_zero, Bool.false_eq_true, reduceIte, reduceCtorEq, Nat.reduceAdd, Nat.reduceMul, Nat.reduceSub, Nat.reduceLT, Nat.reduceLeDiff, Nat.reduceEqDiff, Int.reduceNeg, Int.reduceAdd, Int.reduceMul, Int.reduceSub, Int.reduceLT, Int.reduceLE, Int.reduceEq, Int.reduceToNat, Int.reduceNatCast, icl, ico, inz, Nat.not_lt_zero, wp_needBetween]
      refine wp_copyFrom gs_G135_ hg (by decide) hG hC (fun M1 hM1 hC1 => ?_)
      have h3' : M1 2 2 = (qK (aG A) : Int) := by rw [hM1 2 (by decide)]; exact h3
      simp (disch := first | assumption | omega | exact il_cqA _ _ | exact il_cqB _ _) only [wi_147_0, wi_147_1, wi_147_2, wi_147_3, wi_147_6, wi_147_7, wi_147_10, wi_147_11, wi_147_12, wi_147_13, wi_147_16, wi_147_19, wi_147_20, wi_147_23, wi_147_24, wi_147_25, wi_147_26, wi_147_27, wi_147_30, wi_147_33, io_add_o, io_sub_o, io_mul_o, io_neg_o, io_and_r, io_or_r, io_xor_r, io_nd_r, io_shr_r, io_shl1, io_i2b_r, io_i2l_o, io_l2i_o, il_add_o, il_sub_o, il_mul_o, il_neg_o, ib_bit, Int.toNat_natCast, true_implies, false_implies, implies_true, and_true, true_and, and_self, not_true_eq_false, not_false_eq_true, wa_0, wa_1, il_cmp_o, il_cmp0, il_cmp1, il_cmp2, io_bit1, ibt0, ibt1, ibt00, ibt11, ibt10, ibt01, Int.ofNat_lt, Int.ofNat_le, Int.ofNat_inj, Nat.lt_irrefl, Int.lt_irrefl, Int.toNat_one, Int.toNat_zero, Bool.false_eq_true, reduceIte, reduceCtorEq, Nat.reduceAdd, Nat.reduceMul, Nat.reduceSub, Nat.reduceLT, Nat.reduceLeDiff, Nat.reduceEqDiff, Int.reduceNeg, Int.reduceAdd, Int.reduceMul, Int.reduceSub, Int.reduceLT, Int.reduceLE, Int.reduceEq, Int.reduceToNat, Int.reduceNatCast, icl, ico, inz, Nat.not_lt_zero, gu_n, h3']
      exact h0 _ (fun j hj => by rw [gu_n (by omega), hM1 j (by omega)]) (q_I_save (n := 1) (by decide) hI (fun j j1 j2 => by rw [gu_n j1, hM1 j (by omega)]) (fun k hk => by rw [gu_s hk, hM1 75 (by decide)]) gu_e (q_C_e hC1 fun j j1 j2 => gu_n (by omega)))
  · have ho : o_n 0 1 x = 2 := if_neg e
    simp (disch := first | assumption | omega | exact il_cqA _ _ | exact il_cqB _ _) only [wi_147_0, wi_147_1, wi_147_2, wi_147_3, wi_147_6, wi_147_7, wi_147_10, wi_147_11, wi_147_12, wi_147_13, wi_147_16, wi_147_19, wi_147_20, wi_147_23, wi_147_24, wi_147_25, wi_147_26, wi_147_27, wi_147_30, wi_147_33, io_add_o, io_sub_o, io_mul_o, io_neg_o, io_and_r, io_or_r, io_xor_r, io_nd_r, io_shr_r, io_shl1, io_i2b_r, io_i2l_o, io_l2i_o, il_add_o, il_sub_o, il_mul_o, il_neg_o, ib_bit, Int.toNat_natCast, true_implies, false_implies, implies_true, and_true, true_and, and_self, not_true_eq_false, not_false_eq_true, wa_0, wa_1, il_cmp_o, il_cmp0, il_cmp1, il_cmp2, io_bit1, ibt0, ibt1, ibt00, ibt11, ibt10, ibt01, Int.ofNat_lt, Int.ofNat_le, Int.ofNat_inj, Nat.lt_irrefl, Int.lt_irrefl, Int.toNat_one, Int.toNat_zero, Bool.false_eq_true, reduceIte, reduceCtorEq, Nat.reduceAdd, Nat.reduceMul, Nat.reduceSub, Nat.reduceLT, Nat.reduceLeDiff, Nat.reduceEqDiff, Int.reduceNeg, Int.reduceAdd, Int.reduceMul, Int.reduceSub, Int.reduceLT, Int.reduceLE, Int.reduceEq, Int.reduceToNat, Int.reduceNatCast, icl, ico, inz, Nat.not_lt_zero, wp_needBetween, if_neg e, wa_x2 (k := 147) (by decide +kernel), wa_x3 (k := 147) (by decide +kernel)]
    have := h1 (by rw [ho]; decide) (by unfold qsave; rw [if_neg (fun z => absurd (ho ▸ z) (by decide))]; exact hI)
    rw [ho] at this
    exact this
theorem q_V_save {M2 : gg_M} {n : Nat} (hn : n < 2) (hV : q_V M A) (h143 : M2 143 = M 143) (h146 : M2 146 = M 146) (h149 : M2 149 = M 149) (h142 : ∀ f, f ≠ 7 → M2 142 f = M 142 f) (h148 : ∀ k, k ≠ n → M2 148 k = M 148 k) (h1 : M2 148 n = 1) (hv : ∀ k, k < 65 → M2 147 (65 * n + k) = M 143 k) (ho : ∀ p, p < 65 * n ∨ 65 * n + 65 ≤ p → M2 147 p = M 147 p) (hA : a_ok A) : q_V M2 (aG A, (aN A, aH A), qup (aV A) n (some (aG A)), A.2.2.2) := by
  obtain ⟨g1, g2, g5, g6, g7, g8⟩ := hV
  refine ⟨by rw [h143]; exact g1, ?_, fun s hs => ?_, qt_V_e g6 (h142 9 (by decide)) h149, by rw [h142 15 (by decide)]; exact g7, by rw [h142 16 (by decide)]; exact g8⟩
  · obtain ⟨b1, b2, b3⟩ := g2
    exact ⟨by rw [h142 6 (by decide)]; exact b1, b2, by rw [h146]; exact b3⟩
  · have := g5 s hs
    show match qup (aV A) n (some (aG A)) s with | some G => M2 148 s = 1 ∧ q_R (fun k => M2 147 (65 * s + k)) G | none => M2 148 s = 0
    unfold qup
    by_cases e : s = n
    · rw [if_pos e, e]
      exact ⟨h1, q_R_congr hA.1 g1 fun k hk => hv k hk⟩
    · rw [if_neg e, h148 s e]
      cases hvv : aV A s with
      | none =>
        rw [hvv] at this
        exact this
      | some G =>
        rw [hvv] at this
        exact ⟨this.1, q_R_congr (hA.2.2.2.1 s G hvv) this.2 fun k hk => ho _ (by omega)⟩
theorem mq_285 (hV : q_V M A) (hA : a_ok A) {x : Int} (x1 : -2147483648 ≤ x) (x2 : x ≤ 2147483647) : q_mS N xs (d + 31) 285 [(0, x)] M (qsave A (o_n 0 1 x) x.toNat) cc cs (o_n 0 1 x) false 0 (qK (aG A) : Int) := by
  have hG := hA.1
  have hR := hV.1
  have p143 : gs_a 143 1 65 := gs_ab_ok (by decide +kernel)
  have p147 : gs_a 147 1 130 := gs_ab_ok (by decide +kernel)
  intro Q h0
  by_cases e : 0 ≤ x ∧ x ≤ 1
  · have ho : o_n 0 1 x = 0 := if_pos e
    unfold qsave at h0
    rw [if_pos ho] at h0
    rcases (show x = 0 ∨ x = 1 by omega) with rfl | rfl
    · simp (disch := first | assumption | omega | exact il_cqA _ _ | exact il_cqB _ _) only [wi_285_0, wi_285_1, wi_285_2, wi_285_3, wi_285_4, wi_285_5, wi_285_8, wi_285_9, wi_285_12, wi_285_15, wi_285_16, wi_285_17, wi_285_18, wi_285_21, wi_285_22, wi_285_23, wi_285_26, wi_285_27, wi_285_30, wi_285_31, wi_285_34, wi_285_35, wi_285_36, wi_285_37, wi_285_38, wi_285_41, wi_285_42, wi_285_43, io_add_o, io_sub_o, io_mul_o, io_neg_o, io_and_r, io_or_r, io_xor_r, io_nd_r, io_shr_r, io_shl1, io_i2b_r, io_i2l_o, io_l2i_o, il_add_o, il_sub_o, il_mul_o, il_neg_o, ib_bit, Int.toNat_natCast, true_implies, false_implies, implies_true, and_true, true_and, and_self, not_true_eq_false, not_false_eq_true, wa_0, wa_1, il_cmp_o, il_cmp0, il_cmp1, il_cmp2, io_bit1, ibt0, ibt1, ibt00, ibt11, ibt10, ibt01, Int.ofNat_lt, Int.ofNat_le, Int.ofNat_inj, Nat.lt_irrefl, Int.lt_irrefl, Int.toNat_one, Int.toNat_zero, Bool.false_eq_true, reduceIte, reduceCtorEq, Nat.reduceAdd, Nat.reduceMul, Nat.reduceSub, Nat.reduceLT, Nat.reduceLeDiff, Nat.reduceEqDiff, Int.reduceNeg, Int.reduceAdd, Int.reduceMul, Int.reduceSub, Int.reduceLT, Int.reduceLE, Int.reduceEq, Int.reduceToNat, Int.reduceNatCast, icl, ico, inz, Nat.not_lt_zero, wp_in, wp_isT1]
      refine wp_mcopies (here := 0) (there := 0) p143 p147 (by decide) (by decide) (by decide) (by decide) (by decide) (fun M1 hM1 hv1 hw1 => ?_)
      have h3' : M1 143 2 = (qK (aG A) : Int) := by rw [hM1 143 (by decide), gu_n (by decide)]; exact hR.1.2.2.1
      simp (disch := first | assumption | omega | exact il_cqA _ _ | exact il_cqB _ _) only [wi_285_0, wi_285_1, wi_285_2, wi_285_3, wi_285_4, wi_285_5, wi_285_8, wi_285_9, wi_285_12, wi_285_15, wi_285_16, wi_285_17, wi_285_18, wi_285_21, wi_285_22, wi_285_23, wi_285_26, wi_285_27, wi_285_30, wi_285_31, wi_285_34, wi_285_35, wi_285_36, wi_285_37, wi_285_38, wi_285_41, wi_285_42, wi_285_43, io_add_o, io_sub_o, io_mul_o, io_neg_o, io_and_r, io_or_r, io_xor_r, io_nd_r, io_shr_r, io_shl1, io_i2b_r, io_i2l_o, io_l2i_o, il_add_o, il_sub_o, il_mul_o, il_neg_o, ib_bit, Int.toNat_natCast, true_implies, false_implies, implies_true, and_true, true_and, and_self, not_true_eq_false, not_false_eq_true, wa_0, wa_1, il_cmp_o, il_cmp0, il_cmp1, il_cmp2, io_bit1, ibt0, ibt1, ibt00, ibt11, ibt10, ibt01, Int.ofNat_lt, Int.ofNat_le, Int.ofNat_inj, Nat.lt_irrefl, Int.lt_irrefl, Int.toNat_one, Int.toNat_zero, Bool.false_eq_true, reduceIte, reduceCtorEq, Nat.reduceAdd, Nat.reduceMul, Nat.reduceSub, Nat.reduceLT, Nat.reduceLeDiff, Nat.reduceEqDiff, Int.reduceNeg, Int.reduceAdd, Int.reduceMul, Int.reduceSub, Int.reduceLT, Int.reduceLE, Int.reduceEq, Int.reduceToNat, Int.reduceNatCast, icl, ico, inz, Nat.not_lt_zero, gu_n, h3']
      have eo : ∀ j, j ≠ 142 → j ≠ 147 → j ≠ 148 → gg_up M1 148 0 1 j = M j := fun j j1 j2 j3 => by rw [gu_n j3, hM1 j j2, gu_n j1]
      have e142 : ∀ f, f ≠ 7 → gg_up M1 148 0 1 142 f = M 142 f := fun f hf => by rw [gu_n (by decide), hM1 142 (by decide), gu_s hf]
      refine h0 _ _ (fun j hj => eo j (by omega) (by omega) (by omega)) (q_V_save (n := 0) (by decide) hV (eo 143 (by decide) (by decide) (by decide)) (eo 146 (by decide) (by decide) (by decide)) (eo 149 (by decide) (by decide) (by decide)) (fun f hf => e142 f hf) (fun k hk => ?_) gu_e (fun k hk => ?_) (fun p hp => ?_) hA) (by rw [gu_n (by decide), hM1 142 (by decide), gu_e, ho]; rfl) (fun _ => rfl)
      · rw [gu_s hk, hM1 148 (by decide), gu_n (by decide)]
      · have := hv1 k hk
        rw [gu_n (by decide), Nat.mul_zero, Nat.zero_add] at this
        rw [gu_n (by decide)]
        first
        | exact this
        | (rw [Nat.mul_zero, Nat.zero_add]; exact this)
      · rw [gu_n (by decide), hw1 p (by omega), gu_n (by decide)]
    · simp (disch := first | assumption | omega | exact il_cqA _ _ | exact il_cqB _ _) only [wi_285_0, wi_285_1, wi_285_2, wi_285_3, wi_285_4, wi_285_5, wi_285_8, wi_285_9, wi_285_12, wi_285_15, wi_285_16, wi_285_17, wi_285_18, wi_285_21, wi_285_22, wi_285_23, wi_285_26, wi_285_27, wi_285_30, wi_285_31, wi_285_34, wi_285_35, wi_285_36, wi_285_37, wi_285_38, wi_285_41, wi_285_42, wi_285_43, io_add_o, io_sub_o, io_mul_o, io_neg_o, io_and_r, io_or_r, io_xor_r, io_nd_r, io_shr_r, io_shl1, io_i2b_r, io_i2l_o, io_l2i_o, il_add_o, il_sub_o, il_mul_o, il_neg_o, ib_bit, Int.toNat_natCast, true_implies, false_implies, implies_true, and_true, true_and, and_self, not_true_eq_false, not_false_eq_true, wa_0, wa_1, il_cmp_o, il_cmp0, il_cmp1, il_cmp2, io_bit1, ibt0, ibt1, ibt00, ibt11, ibt10, ibt01, Int.ofNat_lt, Int.ofNat_le, Int.ofNat_inj, Nat.lt_irrefl, Int.lt_irrefl, Int.toNat_one, Int.toNat_zero, Bool.false_eq_true, reduceIte, reduceCtorEq, Nat.reduceAdd, Nat.reduceMul, Nat.reduceSub, Nat.reduceLT, Nat.reduceLeDiff, Nat.reduceEqDiff, Int.reduceNeg, Int.reduceAdd, Int.reduceMul, Int.reduceSub, Int.reduceLT, Int.reduceLE, Int.reduceEq, Int.reduceToNat, Int.reduceNatCast, icl, ico, inz, Nat.not_lt_zero, wp_in, wp_isT1]
      refine wp_mcopies (here := 0) (there := 1) p143 p147 (by decide) (by decide) (by decide) (by decide) (by decide) (fun M1 hM1 hv1 hw1 => ?_)
      have h3' : M1 143 2 = (qK (aG A) : Int) := by rw [hM1 143 (by decide), gu_n (by decide)]; exact hR.1.2.2.1
      simp (disch := first | assumption | omega | exact il_cqA _ _ | exact il_cqB _ _) only [wi_285_0, wi_285_1, wi_285_2, wi_285_3, wi_285_4, wi_285_5, wi_285_8, wi_285_9, wi_285_12, wi_285_15, wi_285_16, wi_285_17, wi_285_18, wi_285_21, wi_285_22, wi_285_23, wi_285_26, wi_285_27, wi_285_30, wi_285_31, wi_285_34, wi_285_35, wi_285_36, wi_285_37, wi_285_38, wi_285_41, wi_285_42, wi_285_43, io_add_o, io_sub_o, io_mul_o, io_neg_o, io_and_r, io_or_r, io_xor_r, io_nd_r, io_shr_r, io_shl1, io_i2b_r, io_i2l_o, io_l2i_o, il_add_o, il_sub_o, il_mul_o, il_neg_o, ib_bit, Int.toNat_natCast, true_implies, false_implies, implies_true, and_true, true_and, and_self, not_true_eq_false, not_false_eq_true, wa_0, wa_1, il_cmp_o, il_cmp0, il_cmp1, il_cmp2, io_bit1, ibt0, ibt1, ibt00, ibt11, ibt10, ibt01, Int.ofNat_lt, Int.ofNat_le, Int.ofNat_inj, Nat.lt_irrefl, Int.lt_irrefl, Int.toNat_one, Int.toNat_zero, Bool.false_eq_true, reduceIte, reduceCtorEq, Nat.reduceAdd, Nat.reduceMul, Nat.reduceSub, Nat.reduceLT, Nat.reduceLeDiff, Nat.reduceEqDiff, Int.reduceNeg, Int.reduceAdd, Int.reduceMul, Int.reduceSub, Int.reduceLT, Int.reduceLE, Int.reduceEq, Int.reduceToNat, Int.reduceNatCast, icl, ico, inz, Nat.not_lt_zero, gu_n, h3']
      have eo : ∀ j, j ≠ 142 → j ≠ 147 → j ≠ 148 → gg_up M1 148 1 1 j = M j := fun j j1 j2 j3 => by rw [gu_n j3, hM1 j j2, gu_n j1]
      have e142 : ∀ f, f ≠ 7 → gg_up M1 148 1 1 142 f = M 142 f := fun f hf => by rw [gu_n (by decide), hM1 142 (by decide), gu_s hf]
      refine h0 _ _ (fun j hj => eo j (by omega) (by omega) (by omega)) (q_V_save (n := 1) (by decide) hV (eo 143 (by decide) (by decide) (by decide)) (eo 146 (by decide) (by decide) (by decide)) (eo 149 (by decide) (by decide) (by decide)) (fun f hf => e142 f hf) (fun k hk => ?_) gu_e (fun k hk => ?_) (fun p hp => ?_) hA) (by rw [gu_n (by decide), hM1 142 (by decide), gu_e, ho]; rfl) (fun _ => rfl)
      · rw [gu_s hk, hM1 148 (by decide), gu_n (by decide)]
      · have := hv1 k hk
        rw [gu_n (by decide), Nat.mul_zero, Nat.zero_add] at this
        rw [gu_n (by decide)]
        first
        | exact this
        | (rw [Nat.mul_zero, Nat.zero_add]; exact this)
      · rw [gu_n (by decide), hw1 p (by omega), gu_n (by decide)]
  · have ho : o_n 0 1 x = 2 := if_neg e
    simp (disch := first | assumption | omega | exact il_cqA _ _ | exact il_cqB _ _) only [wi_285_0, wi_285_1, wi_285_2, wi_285_3, wi_285_4, wi_285_5, wi_285_8, wi_285_9, wi_285_12, wi_285_15, wi_285_16, wi_285_17, wi_285_18, wi_285_21, wi_285_22, wi_285_23, wi_285_26, wi_285_27, wi_285_30, wi_285_31, wi_285_34, wi_285_35, wi_285_36, wi_285_37, wi_285_38, wi_285_41, wi_285_42, wi_285_43, io_add_o, io_sub_o, io_mul_o, io_neg_o, io_and_r, io_or_r, io_xor_r, io_nd_r, io_shr_r, io_shl1, io_i2b_r, io_i2l_o, io_l2i_o, il_add_o, il_sub_o, il_mul_o, il_neg_o, ib_bit, Int.toNat_natCast, true_implies, false_implies, implies_true, and_true, true_and, and_self, not_true_eq_false, not_false_eq_true, wa_0, wa_1, il_cmp_o, il_cmp0, il_cmp1, il_cmp2, io_bit1, ibt0, ibt1, ibt00, ibt11, ibt10, ibt01, Int.ofNat_lt, Int.ofNat_le, Int.ofNat_inj, Nat.lt_irrefl, Int.lt_irrefl, Int.toNat_one, Int.toNat_zero, Bool.false_eq_true, reduceIte, reduceCtorEq, Nat.reduceAdd, Nat.reduceMul, Nat.reduceSub, Nat.reduceLT, Nat.reduceLeDiff, Nat.reduceEqDiff, Int.reduceNeg, Int.reduceAdd, Int.reduceMul, Int.reduceSub, Int.reduceLT, Int.reduceLE, Int.reduceEq, Int.reduceToNat, Int.reduceNatCast, icl, ico, inz, Nat.not_lt_zero, wp_in, if_neg e, wp_isT0]
    exact h0 _ 0 (fun j hj => gu_n (by omega)) (by unfold qsave; rw [if_neg (fun z => absurd (ho ▸ z) (by decide))]; exact q_V_t hV) (by rw [gu_e, ho]; rfl) (fun h => absurd (ho ▸ h) (by decide))
def qrest2 (A : q_A) (o s : Nat) : q_A := if o = 0 then (match aV A s with | some G => (G, (0, aH A), A.2.2) | none => A) else A
def qrestV (A : q_A) (s : Nat) : Int := match aV A s with | some G => (qK G : Int) | none => -1
theorem ok_rest2 (hA : a_ok A) {o s : Nat} : a_ok (qrest2 A o s) := by
  unfold qrest2
  by_cases e : o = 0
  · rw [if_pos e]
    obtain ⟨h1, h2, h3, h4, h5⟩ := id hA
    cases hv : aV A s with
    | none => exact hA
    | some G => exact ⟨h4 s G hv, Nat.zero_le _, fun j hj => absurd hj (Nat.not_lt_zero j), h4, h5⟩
  · rw [if_neg e]
    exact hA
theorem qs_H_0 {M2 : gg_M} {n : Nat} {Hs Hs' : Nat → q_G} (h : qs_H M n Hs) (h16 : M2 16 1 = M 16 1) (h2 : M2 16 2 = 0) : qs_H M2 0 Hs' := by
  obtain ⟨x, hx, g1, g2, g3, g4⟩ := h
  exact ⟨x, hx, by rw [h16]; exact g1, h2, Nat.zero_le _, fun j hj => absurd hj (Nat.not_lt_zero j)⟩
theorem cq_148 (hI : q_I M A) (hA : a_ok A) {x : Int} (x1 : -2147483648 ≤ x) (x2 : x ≤ 2147483647) : q_cS N xs (d + 30) 148 [(0, x)] M (qrest2 A (o_n 0 1 x) x.toNat) cc cs (o_n 0 1 x) 0 (qrestV A x.toNat) := by
  have hG := hA.1
  have hC := hI.1
  have hg := gs_G2_
  intro Q h0 h1
  by_cases e : 0 ≤ x ∧ x ≤ 1
  · have ho : o_n 0 1 x = 0 := if_pos e
    have h0 := h0 ho
    unfold qrest2 at h0
    rw [if_pos ho] at h0
    rcases (show x = 0 ∨ x = 1 by omega) with rfl | rfl
    · have h0 : ∀ M' : gg_M, (∀ j, 142 ≤ j → M' j = M j) → q_I M' (match aV A 0 with | some G => (G, (0, aH A), A.2.2) | none => A) → Q ((1, (0, qrestV A 0)), (gk_R, M', 158, cc, cs)) := h0
      unfold qrestV at h0
      have hs := hI.2.2.2.1 0 (by decide)
      cases hv : aV A 0 with
      | none =>
        simp only [hv] at h0 hs
        simp (disch := first | assumption | omega | exact il_cqA _ _ | exact il_cqB _ _) only [wi_148_0, wi_148_1, wi_148_2, wi_148_3, wi_148_6, wi_148_7, wi_148_10, wi_148_11, wi_148_12, wi_148_15, wi_148_16, wi_148_17, wi_148_18, wi_148_21, wi_148_22, wi_148_25, wi_148_26, wi_148_27, wi_148_30, wi_148_31, wi_148_34, wi_148_35, wi_148_38, wi_148_41, io_add_o, io_sub_o, io_mul_o, io_neg_o, io_and_r, io_or_r, io_xor_r, io_nd_r, io_shr_r, io_shl1, io_i2b_r, io_i2l_o, io_l2i_o, il_add_o, il_sub_o, il_mul_o, il_neg_o, ib_bit, Int.toNat_natCast, true_implies, false_implies, implies_true, and_true, true_and, and_self, not_true_eq_false, not_false_eq_true, wa_0, wa_1, il_cmp_o, il_cmp0, il_cmp1, il_cmp2, io_bit1, ibt0, ibt1, ibt00, ibt11, ibt10, ibt01, Int.ofNat_lt, Int.ofNat_le, Int.ofNat_inj, Nat.lt_irrefl, Int.lt_irrefl, Int.toNat_one, Int.toNat_zero, Bool.false_eq_true, reduceIte, reduceCtorEq, Nat.reduceAdd, Nat.reduceMul, Nat.reduceSub, Nat.reduceLT, Nat.reduceLeDiff, Nat.reduceEqDiff, Int.reduceNeg, Int.reduceAdd, Int.reduceMul, Int.reduceSub, Int.reduceLT, Int.reduceLE, Int.reduceEq, Int.reduceToNat, Int.reduceNatCast, icl, ico, inz, Nat.not_lt_zero, wp_needBetween, hs]
        exact h0 M (fun _ _ => rfl) hI
      | some G =>
        simp only [hv] at h0 hs
        obtain ⟨s1, s2⟩ := hs
        have g8 := gs_G128_
        simp (disch := first | assumption | omega | exact il_cqA _ _ | exact il_cqB _ _) only [wi_148_0, wi_148_1, wi_148_2, wi_148_3, wi_148_6, wi_148_7, wi_148_10, wi_148_11, wi_148_12, wi_148_15, wi_148_16, wi_148_17, wi_148_18, wi_148_21, wi_148_22, wi_148_25, wi_148_26, wi_148_27, wi_148_30, wi_148_31, wi_148_34, wi_148_35, wi_148_38, wi_148_41, io_add_o, io_sub_o, io_mul_o, io_neg_o, io_and_r, io_or_r, io_xor_r, io_nd_r, io_shr_r, io_shl1, io_i2b_r, io_i2l_o, io_l2i_o, il_add_o, il_sub_o, il_mul_o, il_neg_o, ib_bit, Int.toNat_natCast, true_implies, false_implies, implies_true, and_true, true_and, and_self, not_true_eq_false, not_false_eq_true, wa_0, wa_1, il_cmp_o, il_cmp0, il_cmp1, il_cmp2, io_bit1, ibt0, ibt1, ibt00, ibt11, ibt10, ibt01, Int.ofNat_lt, Int.ofNat_le, Int.ofNat_inj, Nat.lt_irrefl, Int.lt_irrefl, Int.toNat_one, Int.toNat_zero, Bool.false_eq_true, reduceIte, reduceCtorEq, Nat.reduceAdd, Nat.reduceMul, Nat.reduceSub, Nat.reduceLT, Nat.reduceLeDiff, Nat.reduceEqDiff, Int.reduceNeg, Int.reduceAdd, Int.reduceMul, Int.reduceSub, Int.reduceLT, Int.reduceLE, Int.reduceEq, Int.reduceToNat, Int.reduceNatCast, icl, ico, inz, Nat.not_lt_zero, wp_needBetween, s1]
        refine wp_copyFrom hg gs_G128_ (by decide) (hA.2.2.2.1 0 G hv) s2 (fun M1 hM1 hC1 => ?_)
        have h3' := hC1.1.2.2.1
        simp (disch := first | assumption | omega | exact il_cqA _ _ | exact il_cqB _ _) only [wi_148_0, wi_148_1, wi_148_2, wi_148_3, wi_148_6, wi_148_7, wi_148_10, wi_148_11, wi_148_12, wi_148_15, wi_148_16, wi_148_17, wi_148_18, wi_148_21, wi_148_22, wi_148_25, wi_148_26, wi_148_27, wi_148_30, wi_148_31, wi_148_34, wi_148_35, wi_148_38, wi_148_41, wi_149_0, wi_149_1, wi_149_4, wi_149_5, wi_149_8, wi_149_9, wi_149_12, wi_149_15, wi_61_0, wi_61_1, wi_61_2, wi_61_5, io_add_o, io_sub_o, io_mul_o, io_neg_o, io_and_r, io_or_r, io_xor_r, io_nd_r, io_shr_r, io_shl1, io_i2b_r, io_i2l_o, io_l2i_o, il_add_o, il_sub_o, il_mul_o, il_neg_o, ib_bit, Int.toNat_natCast, true_implies, false_implies, implies_true, and_true, true_and, and_self, not_true_eq_false, not_false_eq_true, wa_0, wa_1, il_cmp_o, il_cmp0, il_cmp1, il_cmp2, io_bit1, ibt0, ibt1, ibt00, ibt11, ibt10, ibt01, Int.ofNat_lt, Int.ofNat_le, Int.ofNat_inj, Nat.lt_irrefl, Int.lt_irrefl, Int.toNat_one, Int.toNat_zero, Bool.false_eq_true, reduceIte, reduceCtorEq, Nat.reduceAdd, Nat.reduceMul, Nat.reduceSub, Nat.reduceLT, Nat.reduceLeDiff, Nat.reduceEqDiff, Int.reduceNeg, Int.reduceAdd, Int.reduceMul, Int.reduceSub, Int.reduceLT, Int.reduceLE, Int.reduceEq, Int.reduceToNat, Int.reduceNatCast, icl, ico, inz, Nat.not_lt_zero, gu_n, h3']
        exact h0 _ (fun j hj => by rw [gu_n (by omega), gu_n (by omega), hM1 j (by omega)]) (q_I_re hI (q_C_e hC1 fun j j1 j2 => by rw [gu_n (by omega), gu_n (by omega)]) gu_e (qs_H_0 hI.2.2.1 (by rw [gu_n (by decide), gu_s (by decide), hM1 16 (by decide)]) (by rw [gu_n (by decide), gu_e])) (fun j j1 j2 => by rw [gu_n j2, gu_n (by omega), hM1 j (by omega)]))
    · have h0 : ∀ M' : gg_M, (∀ j, 142 ≤ j → M' j = M j) → q_I M' (match aV A 1 with | some G => (G, (0, aH A), A.2.2) | none => A) → Q ((1, (0, qrestV A 1)), (gk_R, M', 158, cc, cs)) := h0
      unfold qrestV at h0
      have hs := hI.2.2.2.1 1 (by decide)
      cases hv : aV A 1 with
      | none =>
        simp only [hv] at h0 hs
        simp (disch := first | assumption | omega | exact il_cqA _ _ | exact il_cqB _ _) only [wi_148_0, wi_148_1, wi_148_2, wi_148_3, wi_148_6, wi_148_7, wi_148_10, wi_148_11, wi_148_12, wi_148_15, wi_148_16, wi_148_17, wi_148_18, wi_148_21, wi_148_22, wi_148_25, wi_148_26, wi_148_27, wi_148_30, wi_148_31, wi_148_34, wi_148_35, wi_148_38, wi_148_41, io_add_o, io_sub_o, io_mul_o, io_neg_o, io_and_r, io_or_r, io_xor_r, io_nd_r, io_shr_r, io_shl1, io_i2b_r, io_i2l_o, io_l2i_o, il_add_o, il_sub_o, il_mul_o, il_neg_o, ib_bit, Int.toNat_natCast, true_implies, false_implies, implies_true, and_true, true_and, and_self, not_true_eq_false, not_false_eq_true, wa_0, wa_1, il_cmp_o, il_cmp0, il_cmp1, il_cmp2, io_bit1, ibt0, ibt1, ibt00, ibt11, ibt10, ibt01, Int.ofNat_lt, Int.ofNat_le, Int.ofNat_inj, Nat.lt_irrefl, Int.lt_irrefl, Int.toNat_one, Int.toNat_zero, Bool.false_eq_true, reduceIte, reduceCtorEq, Nat.reduceAdd, Nat.reduceMul, Nat.reduceSub, Nat.reduceLT, Nat.reduceLeDiff, Nat.reduceEqDiff, Int.reduceNeg, Int.reduceAdd, Int.reduceMul, Int.reduceSub, Int.reduceLT, Int.reduceLE, Int.reduceEq, Int.reduceToNat, Int.reduceNatCast, icl, ico, inz, Nat.not_lt_zero, wp_needBetween, hs]
        exact h0 M (fun _ _ => rfl) hI
      | some G =>
        simp only [hv] at h0 hs
        obtain ⟨s1, s2⟩ := hs
        have g8 := gs_G135_
        simp (disch := first | assumption | omega | exact il_cqA _ _ | exact il_cqB _ _) only [wi_148_0, wi_148_1, wi_148_2, wi_148_3, wi_148_6, wi_148_7, wi_148_10, wi_148_11, wi_148_12, wi_148_15, wi_148_16, wi_148_17, wi_148_18, wi_148_21, wi_148_22, wi_148_25, wi_148_26, wi_148_27, wi_148_30, wi_148_31, wi_148_34, wi_148_35, wi_148_38, wi_148_41, io_add_o, io_sub_o, io_mul_o, io_neg_o, io_and_r, io_or_r, io_xor_r, io_nd_r, io_shr_r, io_shl1, io_i2b_r, io_i2l_o, io_l2i_o, il_add_o, il_sub_o, il_mul_o, il_neg_o, ib_bit, Int.toNat_natCast, true_implies, false_implies, implies_true, and_true, true_and, and_self, not_true_eq_false, not_false_eq_true, wa_0, wa_1, il_cmp_o, il_cmp0, il_cmp1, il_cmp2, io_bit1, ibt0, ibt1, ibt00, ibt11, ibt10, ibt01, Int.ofNat_lt, Int.ofNat_le, Int.ofNat_inj, Nat.lt_irrefl, Int.lt_irrefl, Int.toNat_one, Int.toNat_zero, Bool.false_eq_true, reduceIte, reduceCtorEq, Nat.reduceAdd, Nat.reduceMul, Nat.reduceSub, Nat.reduceLT, Nat.reduceLeDiff, Nat.reduceEqDiff, Int.reduceNeg, Int.reduceAdd, Int.reduceMul, Int.reduceSub, Int.reduceLT, Int.reduceLE, Int.reduceEq, Int.reduceToNat, Int.reduceNatCast, icl, ico, inz, Nat.not_lt_zero, wp_needBetween, s1]
        refine wp_copyFrom hg gs_G135_ (by decide) (hA.2.2.2.1 1 G hv) s2 (fun M1 hM1 hC1 => ?_)
        have h3' := hC1.1.2.2.1
        simp (disch := first | assumption | omega | exact il_cqA _ _ | exact il_cqB _ _) only [wi_148_0, wi_148_1, wi_148_2, wi_148_3, wi_148_6, wi_148_7, wi_148_10, wi_148_11, wi_148_12, wi_148_15, wi_148_16, wi_148_17, wi_148_18, wi_148_21, wi_148_22, wi_148_25, wi_148_26, wi_148_27, wi_148_30, wi_148_31, wi_148_34, wi_148_35, wi_148_38, wi_148_41, wi_149_0, wi_149_1, wi_149_4, wi_149_5, wi_149_8, wi_149_9, wi_149_12, wi_149_15, wi_61_0, wi_61_1, wi_61_2, wi_61_5, io_add_o, io_sub_o, io_mul_o, io_neg_o, io_and_r, io_or_r, io_xor_r, io_nd_r, io_shr_r, io_shl1, io_i2b_r, io_i2l_o, io_l2i_o, il_add_o, il_sub_o, il_mul_o, il_neg_o, ib_bit, Int.toNat_natCast, true_implies, false_implies, implies_true, and_true, true_and, and_self, not_true_eq_false, not_false_eq_true, wa_0, wa_1, il_cmp_o, il_cmp0, il_cmp1, il_cmp2, io_bit1, ibt0, ibt1, ibt00, ibt11, ibt10, ibt01, Int.ofNat_lt, Int.ofNat_le, Int.ofNat_inj, Nat.lt_irrefl, Int.lt_irrefl, Int.toNat_one, Int.toNat_zero, Bool.false_eq_true, reduceIte, reduceCtorEq, Nat.reduceAdd, Nat.reduceMul, Nat.reduceSub, Nat.reduceLT, Nat.reduceLeDiff, Nat.reduceEqDiff, Int.reduceNeg, Int.reduceAdd, Int.reduceMul, Int.reduceSub, Int.reduceLT, Int.reduceLE, Int.reduceEq, Int.reduceToNat, Int.reduceNatCast, icl, ico, inz, Nat.not_lt_zero, gu_n, h3']
        exact h0 _ (fun j hj => by rw [gu_n (by omega), gu_n (by omega), hM1 j (by omega)]) (q_I_re hI (q_C_e hC1 fun j j1 j2 => by rw [gu_n (by omega), gu_n (by omega)]) gu_e (qs_H_0 hI.2.2.1 (by rw [gu_n (by decide), gu_s (by decide), hM1 16 (by decide)]) (by rw [gu_n (by decide), gu_e])) (fun j j1 j2 => by rw [gu_n j2, gu_n (by omega), hM1 j (by omega)]))
  · have ho : o_n 0 1 x = 2 := if_neg e
    simp (disch := first | assumption | omega | exact il_cqA _ _ | exact il_cqB _ _) only [wi_148_0, wi_148_1, wi_148_2, wi_148_3, wi_148_6, wi_148_7, wi_148_10, wi_148_11, wi_148_12, wi_148_15, wi_148_16, wi_148_17, wi_148_18, wi_148_21, wi_148_22, wi_148_25, wi_148_26, wi_148_27, wi_148_30, wi_148_31, wi_148_34, wi_148_35, wi_148_38, wi_148_41, io_add_o, io_sub_o, io_mul_o, io_neg_o, io_and_r, io_or_r, io_xor_r, io_nd_r, io_shr_r, io_shl1, io_i2b_r, io_i2l_o, io_l2i_o, il_add_o, il_sub_o, il_mul_o, il_neg_o, ib_bit, Int.toNat_natCast, true_implies, false_implies, implies_true, and_true, true_and, and_self, not_true_eq_false, not_false_eq_true, wa_0, wa_1, il_cmp_o, il_cmp0, il_cmp1, il_cmp2, io_bit1, ibt0, ibt1, ibt00, ibt11, ibt10, ibt01, Int.ofNat_lt, Int.ofNat_le, Int.ofNat_inj, Nat.lt_irrefl, Int.lt_irrefl, Int.toNat_one, Int.toNat_zero, Bool.false_eq_true, reduceIte, reduceCtorEq, Nat.reduceAdd, Nat.reduceMul, Nat.reduceSub, Nat.reduceLT, Nat.reduceLeDiff, Nat.reduceEqDiff, Int.reduceNeg, Int.reduceAdd, Int.reduceMul, Int.reduceSub, Int.reduceLT, Int.reduceLE, Int.reduceEq, Int.reduceToNat, Int.reduceNatCast, icl, ico, inz, Nat.not_lt_zero, wp_needBetween, if_neg e, wa_x2 (k := 148) (by decide +kernel), wa_x3 (k := 148) (by decide +kernel)]
    have := h1 (by rw [ho]; decide) (by unfold qrest2; rw [if_neg (fun z => absurd (ho ▸ z) (by decide))]; exact hI)
    rw [ho] at this
    exact this
theorem mq_286 (hV : q_V M A) (hA : a_ok A) {x : Int} (x1 : -2147483648 ≤ x) (x2 : x ≤ 2147483647) : q_mS N xs (d + 31) 286 [(0, x)] M (qrest2 A (o_n 0 1 x) x.toNat) cc cs (o_n 0 1 x) false 0 (qrestV A x.toNat) := by
  have hG := hA.1
  have hR := hV.1
  have hV1 := q_V_t (x := 0) hV
  have p143 : gs_a 143 1 65 := gs_ab_ok (by decide +kernel)
  have p147 : gs_a 147 1 130 := gs_ab_ok (by decide +kernel)
  intro Q h0
  by_cases e : 0 ≤ x ∧ x ≤ 1
  · have ho : o_n 0 1 x = 0 := if_pos e
    unfold qrest2 at h0
    rw [if_pos ho] at h0
    rcases (show x = 0 ∨ x = 1 by omega) with rfl | rfl
    · have h0 : ∀ (M' : gg_M) (b : Int), (∀ j, j < 142 ∨ j = 157 → M' j = M j) → q_V M' (match aV A 0 with | some G => (G, (0, aH A), A.2.2) | none => A) → M' 142 7 = qthr (o_n 0 1 0) false → (o_n 0 1 0 = 0 → b = qrestV A 0) → Q ((1, (0, b)), (gk_R, M', 158, cc, cs)) := h0
      unfold qrestV at h0
      have hs := hV1.2.2.1 0 (by decide)
      cases hv : aV A 0 with
      | none =>
        simp only [hv] at h0 hs
        simp (disch := first | assumption | omega | exact il_cqA _ _ | exact il_cqB _ _) only [wi_286_0, wi_286_1, wi_286_2, wi_286_3, wi_286_4, wi_286_5, wi_286_8, wi_286_9, wi_286_12, wi_286_15, wi_286_16, wi_286_17, wi_286_18, wi_286_21, wi_286_22, wi_286_23, wi_286_26, wi_286_27, wi_286_28, wi_286_29, wi_286_32, wi_286_33, wi_286_34, wi_286_37, wi_286_38, wi_286_41, wi_286_42, wi_286_43, wi_286_46, wi_286_47, wi_286_50, wi_286_51, wi_286_52, io_add_o, io_sub_o, io_mul_o, io_neg_o, io_and_r, io_or_r, io_xor_r, io_nd_r, io_shr_r, io_shl1, io_i2b_r, io_i2l_o, io_l2i_o, il_add_o, il_sub_o, il_mul_o, il_neg_o, ib_bit, Int.toNat_natCast, true_implies, false_implies, implies_true, and_true, true_and, and_self, not_true_eq_false, not_false_eq_true, wa_0, wa_1, il_cmp_o, il_cmp0, il_cmp1, il_cmp2, io_bit1, ibt0, ibt1, ibt00, ibt11, ibt10, ibt01, Int.ofNat_lt, Int.ofNat_le, Int.ofNat_inj, Nat.lt_irrefl, Int.lt_irrefl, Int.toNat_one, Int.toNat_zero, Bool.false_eq_true, reduceIte, reduceCtorEq, Nat.reduceAdd, Nat.reduceMul, Nat.reduceSub, Nat.reduceLT, Nat.reduceLeDiff, Nat.reduceEqDiff, Int.reduceNeg, Int.reduceAdd, Int.reduceMul, Int.reduceSub, Int.reduceLT, Int.reduceLE, Int.reduceEq, Int.reduceToNat, Int.reduceNatCast, icl, ico, inz, Nat.not_lt_zero, wp_in, wp_isT1, hs]
        exact h0 _ _ (fun j hj => gu_n (by omega)) hV1 (by rw [gu_e, ho]; rfl) (fun _ => rfl)
      | some G =>
        simp only [hv] at h0 hs
        obtain ⟨s1, s2⟩ := hs
        simp (disch := first | assumption | omega | exact il_cqA _ _ | exact il_cqB _ _) only [wi_286_0, wi_286_1, wi_286_2, wi_286_3, wi_286_4, wi_286_5, wi_286_8, wi_286_9, wi_286_12, wi_286_15, wi_286_16, wi_286_17, wi_286_18, wi_286_21, wi_286_22, wi_286_23, wi_286_26, wi_286_27, wi_286_28, wi_286_29, wi_286_32, wi_286_33, wi_286_34, wi_286_37, wi_286_38, wi_286_41, wi_286_42, wi_286_43, wi_286_46, wi_286_47, wi_286_50, wi_286_51, wi_286_52, io_add_o, io_sub_o, io_mul_o, io_neg_o, io_and_r, io_or_r, io_xor_r, io_nd_r, io_shr_r, io_shl1, io_i2b_r, io_i2l_o, io_l2i_o, il_add_o, il_sub_o, il_mul_o, il_neg_o, ib_bit, Int.toNat_natCast, true_implies, false_implies, implies_true, and_true, true_and, and_self, not_true_eq_false, not_false_eq_true, wa_0, wa_1, il_cmp_o, il_cmp0, il_cmp1, il_cmp2, io_bit1, ibt0, ibt1, ibt00, ibt11, ibt10, ibt01, Int.ofNat_lt, Int.ofNat_le, Int.ofNat_inj, Nat.lt_irrefl, Int.lt_irrefl, Int.toNat_one, Int.toNat_zero, Bool.false_eq_true, reduceIte, reduceCtorEq, Nat.reduceAdd, Nat.reduceMul, Nat.reduceSub, Nat.reduceLT, Nat.reduceLeDiff, Nat.reduceEqDiff, Int.reduceNeg, Int.reduceAdd, Int.reduceMul, Int.reduceSub, Int.reduceLT, Int.reduceLE, Int.reduceEq, Int.reduceToNat, Int.reduceNatCast, icl, ico, inz, Nat.not_lt_zero, wp_in, wp_isT1, s1]
        refine wp_mcopies (here := 0) (there := 0) p147 p143 (by decide) (by decide) (by decide) (by decide) (by decide) (fun M1 hM1 hv1 hw1 => ?_)
        have hR2 : q_R (M1 143) G := q_R_congr (hA.2.2.2.1 0 G hv) s2 fun k hk => by
          have := hv1 k hk
          rw [Nat.mul_zero, Nat.zero_add] at this
          first
          | exact this
          | (rw [this]; show _ = gg_up M 142 7 0 147 (65 * 0 + k); rw [Nat.mul_zero, Nat.zero_add])
        have h3' := hR2.1.2.2.1
        simp (disch := first | assumption | omega | exact il_cqA _ _ | exact il_cqB _ _) only [wi_286_0, wi_286_1, wi_286_2, wi_286_3, wi_286_4, wi_286_5, wi_286_8, wi_286_9, wi_286_12, wi_286_15, wi_286_16, wi_286_17, wi_286_18, wi_286_21, wi_286_22, wi_286_23, wi_286_26, wi_286_27, wi_286_28, wi_286_29, wi_286_32, wi_286_33, wi_286_34, wi_286_37, wi_286_38, wi_286_41, wi_286_42, wi_286_43, wi_286_46, wi_286_47, wi_286_50, wi_286_51, wi_286_52, io_add_o, io_sub_o, io_mul_o, io_neg_o, io_and_r, io_or_r, io_xor_r, io_nd_r, io_shr_r, io_shl1, io_i2b_r, io_i2l_o, io_l2i_o, il_add_o, il_sub_o, il_mul_o, il_neg_o, ib_bit, Int.toNat_natCast, true_implies, false_implies, implies_true, and_true, true_and, and_self, not_true_eq_false, not_false_eq_true, wa_0, wa_1, il_cmp_o, il_cmp0, il_cmp1, il_cmp2, io_bit1, ibt0, ibt1, ibt00, ibt11, ibt10, ibt01, Int.ofNat_lt, Int.ofNat_le, Int.ofNat_inj, Nat.lt_irrefl, Int.lt_irrefl, Int.toNat_one, Int.toNat_zero, Bool.false_eq_true, reduceIte, reduceCtorEq, Nat.reduceAdd, Nat.reduceMul, Nat.reduceSub, Nat.reduceLT, Nat.reduceLeDiff, Nat.reduceEqDiff, Int.reduceNeg, Int.reduceAdd, Int.reduceMul, Int.reduceSub, Int.reduceLT, Int.reduceLE, Int.reduceEq, Int.reduceToNat, Int.reduceNatCast, icl, ico, inz, Nat.not_lt_zero, gu_n, h3']
        have eo : ∀ j, j ≠ 142 → j ≠ 143 → gg_up M1 142 6 0 j = M j := fun j j1 j2 => by rw [gu_n j1, hM1 j j2, gu_n j1]
        refine h0 _ _ (fun j hj => eo j (by omega) (by omega)) (q_V_re hV (by rw [gu_n (by decide)]; exact hR2) ⟨gu_e, Nat.zero_le _, fun j hj => absurd hj (Nat.not_lt_zero j)⟩ (eo 147 (by decide) (by decide)) (eo 148 (by decide) (by decide)) (eo 149 (by decide) (by decide)) (fun f hf => by rw [gu_s (by omega), hM1 142 (by decide), gu_s (by omega)])) (by rw [gu_s (by decide), hM1 142 (by decide), gu_e, ho]; rfl) (fun _ => rfl)
    · have h0 : ∀ (M' : gg_M) (b : Int), (∀ j, j < 142 ∨ j = 157 → M' j = M j) → q_V M' (match aV A 1 with | some G => (G, (0, aH A), A.2.2) | none => A) → M' 142 7 = qthr (o_n 0 1 1) false → (o_n 0 1 1 = 0 → b = qrestV A 1) → Q ((1, (0, b)), (gk_R, M', 158, cc, cs)) := h0
      unfold qrestV at h0
      have hs := hV1.2.2.1 1 (by decide)
      cases hv : aV A 1 with
      | none =>
        simp only [hv] at h0 hs
        simp (disch := first | assumption | omega | exact il_cqA _ _ | exact il_cqB _ _) only [wi_286_0, wi_286_1, wi_286_2, wi_286_3, wi_286_4, wi_286_5, wi_286_8, wi_286_9, wi_286_12, wi_286_15, wi_286_16, wi_286_17, wi_286_18, wi_286_21, wi_286_22, wi_286_23, wi_286_26, wi_286_27, wi_286_28, wi_286_29, wi_286_32, wi_286_33, wi_286_34, wi_286_37, wi_286_38, wi_286_41, wi_286_42, wi_286_43, wi_286_46, wi_286_47, wi_286_50, wi_286_51, wi_286_52, io_add_o, io_sub_o, io_mul_o, io_neg_o, io_and_r, io_or_r, io_xor_r, io_nd_r, io_shr_r, io_shl1, io_i2b_r, io_i2l_o, io_l2i_o, il_add_o, il_sub_o, il_mul_o, il_neg_o, ib_bit, Int.toNat_natCast, true_implies, false_implies, implies_true, and_true, true_and, and_self, not_true_eq_false, not_false_eq_true, wa_0, wa_1, il_cmp_o, il_cmp0, il_cmp1, il_cmp2, io_bit1, ibt0, ibt1, ibt00, ibt11, ibt10, ibt01, Int.ofNat_lt, Int.ofNat_le, Int.ofNat_inj, Nat.lt_irrefl, Int.lt_irrefl, Int.toNat_one, Int.toNat_zero, Bool.false_eq_true, reduceIte, reduceCtorEq, Nat.reduceAdd, Nat.reduceMul, Nat.reduceSub, Nat.reduceLT, Nat.reduceLeDiff, Nat.reduceEqDiff, Int.reduceNeg, Int.reduceAdd, Int.reduceMul, Int.reduceSub, Int.reduceLT, Int.reduceLE, Int.reduceEq, Int.reduceToNat, Int.reduceNatCast, icl, ico, inz, Nat.not_lt_zero, wp_in, wp_isT1, hs]
        exact h0 _ _ (fun j hj => gu_n (by omega)) hV1 (by rw [gu_e, ho]; rfl) (fun _ => rfl)
      | some G =>
        simp only [hv] at h0 hs
        obtain ⟨s1, s2⟩ := hs
        simp (disch := first | assumption | omega | exact il_cqA _ _ | exact il_cqB _ _) only [wi_286_0, wi_286_1, wi_286_2, wi_286_3, wi_286_4, wi_286_5, wi_286_8, wi_286_9, wi_286_12, wi_286_15, wi_286_16, wi_286_17, wi_286_18, wi_286_21, wi_286_22, wi_286_23, wi_286_26, wi_286_27, wi_286_28, wi_286_29, wi_286_32, wi_286_33, wi_286_34, wi_286_37, wi_286_38, wi_286_41, wi_286_42, wi_286_43, wi_286_46, wi_286_47, wi_286_50, wi_286_51, wi_286_52, io_add_o, io_sub_o, io_mul_o, io_neg_o, io_and_r, io_or_r, io_xor_r, io_nd_r, io_shr_r, io_shl1, io_i2b_r, io_i2l_o, io_l2i_o, il_add_o, il_sub_o, il_mul_o, il_neg_o, ib_bit, Int.toNat_natCast, true_implies, false_implies, implies_true, and_true, true_and, and_self, not_true_eq_false, not_false_eq_true, wa_0, wa_1, il_cmp_o, il_cmp0, il_cmp1, il_cmp2, io_bit1, ibt0, ibt1, ibt00, ibt11, ibt10, ibt01, Int.ofNat_lt, Int.ofNat_le, Int.ofNat_inj, Nat.lt_irrefl, Int.lt_irrefl, Int.toNat_one, Int.toNat_zero, Bool.false_eq_true, reduceIte, reduceCtorEq, Nat.reduceAdd, Nat.reduceMul, Nat.reduceSub, Nat.reduceLT, Nat.reduceLeDiff, Nat.reduceEqDiff, Int.reduceNeg, Int.reduceAdd, Int.reduceMul, Int.reduceSub, Int.reduceLT, Int.reduceLE, Int.reduceEq, Int.reduceToNat, Int.reduceNatCast, icl, ico, inz, Nat.not_lt_zero, wp_in, wp_isT1, s1]
        refine wp_mcopies (here := 1) (there := 0) p147 p143 (by decide) (by decide) (by decide) (by decide) (by decide) (fun M1 hM1 hv1 hw1 => ?_)
        have hR2 : q_R (M1 143) G := q_R_congr (hA.2.2.2.1 1 G hv) s2 fun k hk => by
          have := hv1 k hk
          rw [Nat.mul_zero, Nat.zero_add] at this
          first
          | exact this
          | (rw [this]; show _ = gg_up M 142 7 0 147 (65 * 0 + k); rw [Nat.mul_zero, Nat.zero_add])
        have h3' := hR2.1.2.2.1
        simp (disch := first | assumption | omega | exact il_cqA _ _ | exact il_cqB _ _) only [wi_286_0, wi_286_1, wi_286_2, wi_286_3, wi_286_4, wi_286_5, wi_286_8, wi_286_9, wi_286_12, wi_286_15, wi_286_16, wi_286_17, wi_286_18, wi_286_21, wi_286_22, wi_286_23, wi_286_26, wi_286_27, wi_286_28, wi_286_29, wi_286_32, wi_286_33, wi_286_34, wi_286_37, wi_286_38, wi_286_41, wi_286_42, wi_286_43, wi_286_46, wi_286_47, wi_286_50, wi_286_51, wi_286_52, io_add_o, io_sub_o, io_mul_o, io_neg_o, io_and_r, io_or_r, io_xor_r, io_nd_r, io_shr_r, io_shl1, io_i2b_r, io_i2l_o, io_l2i_o, il_add_o, il_sub_o, il_mul_o, il_neg_o, ib_bit, Int.toNat_natCast, true_implies, false_implies, implies_true, and_true, true_and, and_self, not_true_eq_false, not_false_eq_true, wa_0, wa_1, il_cmp_o, il_cmp0, il_cmp1, il_cmp2, io_bit1, ibt0, ibt1, ibt00, ibt11, ibt10, ibt01, Int.ofNat_lt, Int.ofNat_le, Int.ofNat_inj, Nat.lt_irrefl, Int.lt_irrefl, Int.toNat_one, Int.toNat_zero, Bool.false_eq_true, reduceIte, reduceCtorEq, Nat.reduceAdd, Nat.reduceMul, Nat.reduceSub, Nat.reduceLT, Nat.reduceLeDiff, Nat.reduceEqDiff, Int.reduceNeg, Int.reduceAdd, Int.reduceMul, Int.reduceSub, Int.reduceLT, Int.reduceLE, Int.reduceEq, Int.reduceToNat, Int.reduceNatCast, icl, ico, inz, Nat.not_lt_zero, gu_n, h3']
        have eo : ∀ j, j ≠ 142 → j ≠ 143 → gg_up M1 142 6 0 j = M j := fun j j1 j2 => by rw [gu_n j1, hM1 j j2, gu_n j1]
        refine h0 _ _ (fun j hj => eo j (by omega) (by omega)) (q_V_re hV (by rw [gu_n (by decide)]; exact hR2) ⟨gu_e, Nat.zero_le _, fun j hj => absurd hj (Nat.not_lt_zero j)⟩ (eo 147 (by decide) (by decide)) (eo 148 (by decide) (by decide)) (eo 149 (by decide) (by decide)) (fun f hf => by rw [gu_s (by omega), hM1 142 (by decide), gu_s (by omega)])) (by rw [gu_s (by decide), hM1 142 (by decide), gu_e, ho]; rfl) (fun _ => rfl)
  · have ho : o_n 0 1 x = 2 := if_neg e
    simp (disch := first | assumption | omega | exact il_cqA _ _ | exact il_cqB _ _) only [wi_286_0, wi_286_1, wi_286_2, wi_286_3, wi_286_4, wi_286_5, wi_286_8, wi_286_9, wi_286_12, wi_286_15, wi_286_16, wi_286_17, wi_286_18, wi_286_21, wi_286_22, wi_286_23, wi_286_26, wi_286_27, wi_286_28, wi_286_29, wi_286_32, wi_286_33, wi_286_34, wi_286_37, wi_286_38, wi_286_41, wi_286_42, wi_286_43, wi_286_46, wi_286_47, wi_286_50, wi_286_51, wi_286_52, io_add_o, io_sub_o, io_mul_o, io_neg_o, io_and_r, io_or_r, io_xor_r, io_nd_r, io_shr_r, io_shl1, io_i2b_r, io_i2l_o, io_l2i_o, il_add_o, il_sub_o, il_mul_o, il_neg_o, ib_bit, Int.toNat_natCast, true_implies, false_implies, implies_true, and_true, true_and, and_self, not_true_eq_false, not_false_eq_true, wa_0, wa_1, il_cmp_o, il_cmp0, il_cmp1, il_cmp2, io_bit1, ibt0, ibt1, ibt00, ibt11, ibt10, ibt01, Int.ofNat_lt, Int.ofNat_le, Int.ofNat_inj, Nat.lt_irrefl, Int.lt_irrefl, Int.toNat_one, Int.toNat_zero, Bool.false_eq_true, reduceIte, reduceCtorEq, Nat.reduceAdd, Nat.reduceMul, Nat.reduceSub, Nat.reduceLT, Nat.reduceLeDiff, Nat.reduceEqDiff, Int.reduceNeg, Int.reduceAdd, Int.reduceMul, Int.reduceSub, Int.reduceLT, Int.reduceLE, Int.reduceEq, Int.reduceToNat, Int.reduceNatCast, icl, ico, inz, Nat.not_lt_zero, wp_in, if_neg e, wp_isT0]
    exact h0 _ 0 (fun j hj => gu_n (by omega)) (by unfold qrest2; rw [if_neg (fun z => absurd (ho ▸ z) (by decide))]; exact q_V_t hV) (by rw [gu_e, ho]; rfl) (fun h => absurd (ho ▸ h) (by decide))
end SG
