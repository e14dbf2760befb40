/-! a graph, apart from its place in memory -/
abbrev q_G : Type := (Nat → Nat → Nat) × (Nat → Int) × (Nat → Int)
def qN (G : q_G) : Nat := G.1 0 0
def qM (G : q_G) : Nat := G.1 0 1
def qK (G : q_G) : Nat := G.1 0 2
def qS (G : q_G) : Nat := G.1 0 3
def qL (G : q_G) : Nat := G.1 0 4
def qF (G : q_G) (a : Nat) : Nat := G.1 1 a
def qT (G : q_G) (a : Nat) : Nat := G.1 2 a
def qA (G : q_G) (a : Nat) : Nat := G.1 3 a
def qW (G : q_G) (a : Nat) : Nat := G.1 4 a
def qP (G : q_G) (v : Nat) : Int := G.2.1 v
def qO (G : q_G) (t : Nat) : Int := G.2.2 t
def q_ok (G : q_G) : Prop := (1 ≤ qN G ∧ qN G ≤ 8 ∧ 1 ≤ qM G ∧ qM G ≤ 12 ∧ qK G ≤ 12 ∧ qS G < 2 ^ qK G ∧ 1 ≤ qL G ∧ qL G ≤ 5) ∧ (∀ a, a < qK G → qF G a < qN G ∧ qT G a < qN G ∧ qA G a < qM G ∧ qW G a ≤ 99) ∧ (∀ v, v < 8 → -1 ≤ qP G v ∧ qP G v ≤ ((qM G * qL G : Nat) : Int)) ∧ (∀ v, qN G ≤ v → v < 8 → qP G v = -1)
/-- the class's graph at g is G -/
def q_C (M : gg_M) (g : Nat) (G : q_G) : Prop := (M g 0 = qN G ∧ M g 1 = qM G ∧ M g 2 = qK G ∧ M g 3 = qS G ∧ M g 4 = qL G) ∧ (∀ a, a < qK G → M (g + 1) a = qF G a) ∧ (∀ a, a < qK G → M (g + 2) a = qT G a) ∧ (∀ a, a < qK G → M (g + 3) a = qA G a) ∧ (∀ a, a < qK G → M (g + 4) a = qW G a) ∧ (∀ v, v < 8 → M (g + 5) v = qP G v) ∧ (∀ t, t < 4 → M (g + 6) t = qO G t)
section SG
variable {N : Nat} {xs : Nat → Int32} {d : Nat} {M : gg_M} {cc cs : Nat} {Q : gg_O → Prop} {g : Nat} {G : q_G}
/-- the weight of the arcs of s before a -/
def qw_sum (G : q_G) (s : Nat) : Nat → Nat
  | 0 => 0
  | a + 1 => qw_sum G s a + if s.testBit a then qW G a else 0
theorem qw_le (h : q_ok G) (s a : Nat) (ha : a ≤ qK G) : qw_sum G s a ≤ 99 * a := by
  induction a with
  | zero => exact Nat.le_refl _
  | succ a ih =>
    have := ih (by omega)
    have := (h.2.1 a (by omega)).2.2.2
    unfold qw_sum
    split <;> omega
theorem wp_weightOf (hg : gs_G g) (hG : q_ok G) (h : q_C M g G) (s : Nat) (hs : s < 4096) :
    wp N xs d 8 0 [gr g, (0, (s : Int)), (3, 0), (3, 0)] [] (gk_R, M, 158, cc, cs) Q ↔ Q ((1, (0, (qw_sum G s (qK G) : Int))), (gk_R, M, 158, cc, cs)) := by
  refine wp_det ?_
  obtain ⟨⟨h1, h2, h3, h4, h5⟩, hF, hT, hA, hW, hP, hO⟩ := id h
  obtain ⟨⟨k1, k2, k3, k4, k5, k6, k7, k8⟩, hk, hp, hp2⟩ := id hG
  simp (contextual := true) (disch := first | assumption | omega) only [wi_8_0, wi_8_1, wi_8_2, wi_8_3, wi_8_5, wi_8_6, wi_8_9, wi_8_12, wi_8_13, wi_8_14, wi_8_15, wi_8_16, wi_8_17, wi_8_20, wi_8_21, wi_8_22, wi_8_25, wi_8_26, wi_8_27, wi_8_28, wi_8_29, wi_8_32, wi_8_35, wi_8_36, io_add_o, io_sub_o, io_mul_o, io_neg_o, io_and_r, io_or_r, io_xor_r, io_nd_r, io_shr_r, io_shl1, io_i2b_r, io_i2l_o, io_l2i_o, il_add_o, il_sub_o, il_mul_o, il_neg_o, ib_bit, Int.toNat_natCast, true_implies, false_implies, implies_true, and_true, true_and, and_self, not_true_eq_false, not_false_eq_true, wa_0, wa_1, il_cmp_o, il_cmp0, il_cmp1, il_cmp2, io_bit1, ibt0, ibt1, ibt00, ibt11, ibt10, ibt01, Int.ofNat_lt, Int.ofNat_le, Int.ofNat_inj, Nat.lt_irrefl, Int.lt_irrefl, Int.toNat_one, Int.toNat_zero, Bool.false_eq_true, reduceIte, reduceCtorEq, Nat.reduceAdd, Nat.reduceMul, Nat.reduceSub, Nat.reduceLT, Nat.reduceLeDiff, Nat.reduceEqDiff, Int.reduceNeg, Int.reduceAdd, Int.reduceMul, Int.reduceSub, Int.reduceLT, Int.reduceLE, Int.reduceEq, Int.reduceToNat, Int.reduceNatCast]
  refine wl_for (P := fun i => wp N xs d 8 4 [gr g, (0, (s : Int)), (0, (qw_sum G s i : Int)), (0, (i : Int))] [] (gk_R, M, 158, cc, cs) _) (qK G) (fun i hi ih => ?_) ?_
  · have := qw_le hG s i (by omega)
    have := hk i hi
    rw [wi_8_4]
    cases hb : s.testBit i
    all_goals
      simp (contextual := true) (disch := first | assumption | omega) only [wi_8_0, wi_8_1, wi_8_2, wi_8_3, wi_8_5, wi_8_6, wi_8_9, wi_8_12, wi_8_13, wi_8_14, wi_8_15, wi_8_16, wi_8_17, wi_8_20, wi_8_21, wi_8_22, wi_8_25, wi_8_26, wi_8_27, wi_8_28, wi_8_29, wi_8_32, wi_8_35, wi_8_36, io_add_o, io_sub_o, io_mul_o, io_neg_o, io_and_r, io_or_r, io_xor_r, io_nd_r, io_shr_r, io_shl1, io_i2b_r, io_i2l_o, io_l2i_o, il_add_o, il_sub_o, il_mul_o, il_neg_o, ib_bit, Int.toNat_natCast, true_implies, false_implies, implies_true, and_true, true_and, and_self, not_true_eq_false, not_false_eq_true, wa_0, wa_1, il_cmp_o, il_cmp0, il_cmp1, il_cmp2, io_bit1, ibt0, ibt1, ibt00, ibt11, ibt10, ibt01, Int.ofNat_lt, Int.ofNat_le, Int.ofNat_inj, Nat.lt_irrefl, Int.lt_irrefl, Int.toNat_one, Int.toNat_zero, Bool.false_eq_true, reduceIte, reduceCtorEq, Nat.reduceAdd, Nat.reduceMul, Nat.reduceSub, Nat.reduceLT, Nat.reduceLeDiff, Nat.reduceEqDiff, Int.reduceNeg, Int.reduceAdd, Int.reduceMul, Int.reduceSub, Int.reduceLT, Int.reduceLE, Int.reduceEq, Int.reduceToNat, Int.reduceNatCast, h3, hW, hi, hb]
      simpa [qw_sum, hb] using ih
  · rw [wi_8_4]
    simp (contextual := true) (disch := first | assumption | omega) only [wi_8_0, wi_8_1, wi_8_2, wi_8_3, wi_8_5, wi_8_6, wi_8_9, wi_8_12, wi_8_13, wi_8_14, wi_8_15, wi_8_16, wi_8_17, wi_8_20, wi_8_21, wi_8_22, wi_8_25, wi_8_26, wi_8_27, wi_8_28, wi_8_29, wi_8_32, wi_8_35, wi_8_36, io_add_o, io_sub_o, io_mul_o, io_neg_o, io_and_r, io_or_r, io_xor_r, io_nd_r, io_shr_r, io_shl1, io_i2b_r, io_i2l_o, io_l2i_o, il_add_o, il_sub_o, il_mul_o, il_neg_o, ib_bit, Int.toNat_natCast, true_implies, false_implies, implies_true, and_true, true_and, and_self, not_true_eq_false, not_false_eq_true, wa_0, wa_1, il_cmp_o, il_cmp0, il_cmp1, il_cmp2, io_bit1, ibt0, ibt1, ibt00, ibt11, ibt10, ibt01, Int.ofNat_lt, Int.ofNat_le, Int.ofNat_inj, Nat.lt_irrefl, Int.lt_irrefl, Int.toNat_one, Int.toNat_zero, Bool.false_eq_true, reduceIte, reduceCtorEq, Nat.reduceAdd, Nat.reduceMul, Nat.reduceSub, Nat.reduceLT, Nat.reduceLeDiff, Nat.reduceEqDiff, Int.reduceNeg, Int.reduceAdd, Int.reduceMul, Int.reduceSub, Int.reduceLT, Int.reduceLE, Int.reduceEq, Int.reduceToNat, Int.reduceNatCast, h3, hW]
end SG
