/-! undo and snapshots -/
section SG
variable {N : Nat} {xs : Nat → Int32} {d : Nat} {M : gg_M} {cc cs : Nat} {A : q_A}
theorem q_I_re {M2 : gg_M} {G : q_G} {n : Nat} {Hs : Nat → q_G} (hI : q_I M A) (hC : q_C M2 2 G) (hS : M2 78 4 = 0) (hH : qs_H M2 n Hs) (hF : ∀ j, 73 < j → j ≠ 78 → M2 j = M j) : q_I M2 (G, (n, Hs), A.2.2) := by
  obtain ⟨h1, h2, h3, h4, h5, h6, h7⟩ := hI
  refine ⟨hC, Or.inl hS, hH, fun s hs => ?_, qt_C_e h5 (by rw [hF 76 (by decide) (by decide)]) (hF 77 (by decide) (by decide)), by rw [hF 76 (by decide) (by decide)]; exact h6, fun h => by rw [hF 76 (by decide) (by decide)]; exact h7 h⟩
  have := h4 s hs
  show match aV A s with | some G => M2 75 s = 1 ∧ q_C M2 (128 + 7 * s) G | none => M2 75 s = 0
  cases hv : aV A s with
  | none =>
    rw [hv] at this
    rw [hF 75 (by decide) (by decide)]
    exact this
  | some G =>
    rw [hv] at this
    exact ⟨by rw [hF 75 (by decide) (by decide)]; exact this.1, q_C_e this.2 fun i i1 i2 => hF i (by omega) (by omega)⟩
def qundo (A : q_A) : q_A := if aN A = 0 then A else (aH A 0, (aN A - 1, fun j => aH A (j + 1)), A.2.2)
def qundoV (A : q_A) : Int := if aN A = 0 then -1 else ((aN A - 1 : Nat) : Int)
theorem cq_146 (hI : q_I M A) (hA : a_ok A) : q_cS N xs (d + 31) 146 [] M (qundo A) cc cs 0 0 (qundoV A) := by
  intro Q h0 h1
  have h0 := h0 rfl
  obtain ⟨x0, hx0, g1, g2, g3, g4⟩ := id hI.2.2.1
  unfold qundo qundoV at h0
  by_cases e : aN A = 0
  · rw [if_pos e, if_pos e] at h0
    have g5 : M 16 2 = 0 := by rw [g2, e]; rfl
    simp (disch := first | assumption | omega | exact il_cqA _ _ | exact il_cqB _ _) only [wi_146_0, wi_146_1, wi_146_4, wi_146_7, wi_146_10, wi_146_11, wi_146_12, wi_146_13, wi_146_16, wi_146_17, wi_146_20, wi_146_23, wi_146_24, wi_146_27, wi_146_30, wi_146_31, wi_146_34, wi_146_37, io_add_o, io_sub_o, io_mul_o, io_neg_o, io_and_r, io_or_r, io_xor_r, io_nd_r, io_shr_r, io_shl1, io_i2b_r, io_i2l_o, io_l2i_o, il_add_o, il_sub_o, il_mul_o, il_neg_o, ib_bit, Int.toNat_natCast, true_implies, false_implies, implies_true, and_true, true_and, and_self, not_true_eq_false, not_false_eq_true, wa_0, wa_1, il_cmp_o, il_cmp0, il_cmp1, il_cmp2, io_bit1, ibt0, ibt1, ibt00, ibt11, ibt10, ibt01, Int.ofNat_lt, Int.ofNat_le, Int.ofNat_inj, Nat.lt_irrefl, Int.lt_irrefl, Int.toNat_one, Int.toNat_zero, Bool.false_eq_true, reduceIte, reduceCtorEq, Nat.reduceAdd, Nat.reduceMul, Nat.reduceSub, Nat.reduceLT, Nat.reduceLeDiff, Nat.reduceEqDiff, Int.reduceNeg, Int.reduceAdd, Int.reduceMul, Int.reduceSub, Int.reduceLT, Int.reduceLE, Int.reduceEq, Int.reduceToNat, Int.reduceNatCast, icl, ico, inz, Nat.not_lt_zero, g5]
    exact h0 M (fun _ _ => rfl) hI
  · rw [if_neg e, if_neg e] at h0
    have g5 : ¬ (aN A : Int) = 0 := by omega
    simp (disch := first | assumption | omega | exact il_cqA _ _ | exact il_cqB _ _) only [wi_146_0, wi_146_1, wi_146_4, wi_146_7, wi_146_10, wi_146_11, wi_146_12, wi_146_13, wi_146_16, wi_146_17, wi_146_20, wi_146_23, wi_146_24, wi_146_27, wi_146_30, wi_146_31, wi_146_34, wi_146_37, io_add_o, io_sub_o, io_mul_o, io_neg_o, io_and_r, io_or_r, io_xor_r, io_nd_r, io_shr_r, io_shl1, io_i2b_r, io_i2l_o, io_l2i_o, il_add_o, il_sub_o, il_mul_o, il_neg_o, ib_bit, Int.toNat_natCast, true_implies, false_implies, implies_true, and_true, true_and, and_self, not_true_eq_false, not_false_eq_true, wa_0, wa_1, il_cmp_o, il_cmp0, il_cmp1, il_cmp2, io_bit1, ibt0, ibt1, ibt00, ibt11, ibt10, ibt01, Int.ofNat_lt, Int.ofNat_le, Int.ofNat_inj, Nat.lt_irrefl, Int.lt_irrefl, Int.toNat_one, Int.toNat_zero, Bool.false_eq_true, reduceIte, reduceCtorEq, Nat.reduceAdd, Nat.reduceMul, Nat.reduceSub, Nat.reduceLT, Nat.reduceLeDiff, Nat.reduceEqDiff, Int.reduceNeg, Int.reduceAdd, Int.reduceMul, Int.reduceSub, Int.reduceLT, Int.reduceLE, Int.reduceEq, Int.reduceToNat, Int.reduceNatCast, icl, ico, inz, Nat.not_lt_zero, g2, g5]
    refine wp_htake (by omega) hI.2.2.1 hA.2.2.1 (fun M1 hM hC hH => ?_)
    obtain ⟨x1, hx1, b1, b2, b3, b4⟩ := id hH
    simp (disch := first | assumption | omega | exact il_cqA _ _ | exact il_cqB _ _) only [wi_146_0, wi_146_1, wi_146_4, wi_146_7, wi_146_10, wi_146_11, wi_146_12, wi_146_13, wi_146_16, wi_146_17, wi_146_20, wi_146_23, wi_146_24, wi_146_27, wi_146_30, wi_146_31, wi_146_34, wi_146_37, wi_61_0, wi_61_1, wi_61_2, wi_61_5, io_add_o, io_sub_o, io_mul_o, io_neg_o, io_and_r, io_or_r, io_xor_r, io_nd_r, io_shr_r, io_shl1, io_i2b_r, io_i2l_o, io_l2i_o, il_add_o, il_sub_o, il_mul_o, il_neg_o, ib_bit, Int.toNat_natCast, true_implies, false_implies, implies_true, and_true, true_and, and_self, not_true_eq_false, not_false_eq_true, wa_0, wa_1, il_cmp_o, il_cmp0, il_cmp1, il_cmp2, io_bit1, ibt0, ibt1, ibt00, ibt11, ibt10, ibt01, Int.ofNat_lt, Int.ofNat_le, Int.ofNat_inj, Nat.lt_irrefl, Int.lt_irrefl, Int.toNat_one, Int.toNat_zero, Bool.false_eq_true, reduceIte, reduceCtorEq, Nat.reduceAdd, Nat.reduceMul, Nat.reduceSub, Nat.reduceLT, Nat.reduceLeDiff, Nat.reduceEqDiff, Int.reduceNeg, Int.reduceAdd, Int.reduceMul, Int.reduceSub, Int.reduceLT, Int.reduceLE, Int.reduceEq, Int.reduceToNat, Int.reduceNatCast, icl, ico, inz, Nat.not_lt_zero, gu_n, b2]
    exact h0 _ (fun j hj => by rw [gu_n (by omega), hM j (by omega) (by omega)]) (q_I_re hI (q_C_e hC fun j j1 j2 => gu_n (by omega)) gu_e (qs_H_e hH fun j j1 j2 => gu_n (by omega)) (fun j j1 j2 => by rw [gu_n j2, hM j (by omega) (by omega)]))
theorem qs_H_0 {M2 : gg_M} {n : Nat} {Hs Hs' : Nat → q_G} (h : qs_H M n Hs) (h16 : M2 16 1 = M 16 1) (h2 : M2 16 2 = 0) : qs_H M2 0 Hs' := by
  obtain ⟨x, hx, g1, g2, g3, g4⟩ := h
  exact ⟨x, hx, by rw [h16]; exact g1, h2, Nat.zero_le _, fun j hj => absurd hj (Nat.not_lt_zero j)⟩
end SG
