/-! load -/
theorem n11 : (1 : Nat) ≤ 1 := by decide
theorem n12 : (1 : Nat) ≤ 2 := by decide
theorem n13 : (1 : Nat) ≤ 3 := by decide
theorem n23 : (2 : Nat) ≤ 3 := by decide
theorem n33 : (3 : Nat) ≤ 3 := by decide
theorem io_subr (q : Nat) (h : q ≤ 400) : io_sub (-100) (q : Int) = -100 - (q : Int) := io_sub_o (by omega) (by omega)
/-- what a reading gives is in order -/
def r_num (B : Nat) (lo hi : Int) : Except (Nat × Nat) (Nat × Nat) → Prop
  | .ok r => lo ≤ (r.1 : Int) ∧ (r.1 : Int) ≤ hi ∧ r.2 ≤ B
  | .error e => 1 ≤ e.1 ∧ e.1 ≤ 3 ∧ e.2 ≤ B
def r_gr (B : Nat) : Except (Nat × Nat) (q_G × Nat) → Prop
  | .ok r => q_ok r.1 ∧ r.2 ≤ B
  | .error e => 1 ≤ e.1 ∧ e.1 ≤ 3 ∧ e.2 ≤ B
def r_all (B s : Nat) : Except ((Nat × Nat) × Nat) q_G → Prop
  | .ok G => q_ok G
  | .error e => 1 ≤ e.1.1 ∧ e.1.1 ≤ 3 ∧ e.1.2 ≤ B ∧ e.2 ≤ s
theorem qnumb_ok {X : Nat → Nat} {B p : Nat} {lo hi : Int} (hp : p ≤ B) : r_num B lo hi (qnumb X B p lo hi) := by
  obtain ⟨h1, h2⟩ := qws_rg (X := X) hp
  unfold qnumb
  by_cases e : qws X B p < B ∧ qdi X (qws X B p) = true
  · rw [if_pos e]
    by_cases e2 : lo ≤ (qval X (qws X B p) (qend (qdi X) B (qws X B p) - qws X B p) : Int) ∧ (qval X (qws X B p) (qend (qdi X) B (qws X B p) - qws X B p) : Int) ≤ hi
    · rw [if_pos e2]
      exact ⟨e2.1, e2.2, (qend_rg h2).2.1⟩
    · rw [if_neg e2]
      exact ⟨n12, n23, h2⟩
  · rw [if_neg e]
    exact ⟨n11, n13, h2⟩
theorem qwe_B {X : Nat → Nat} {B p : Nat} (hp : p ≤ B) : qwe X B p ≤ B := (qend_rg (qws_rg (X := X) hp).2).2.1
theorem qp_graph_ok {X : Nat → Nat} {B : Nat} : r_gr B (qp_graph X B) := by
  have h0 : (0 : Nat) ≤ B := Nat.zero_le _
  unfold qp_graph
  by_cases e : qword X (qws X B 0) (qwe X B 0) 0 = true
  · rw [if_pos e]
    have hn1 := qnumb_ok (X := X) (B := B) (lo := 1) (hi := 8) (p := (qwe X B 0)) (qwe_B h0)
    cases hq1 : qnumb X B (qwe X B 0) 1 8 with
    | error e =>
      rw [hq1] at hn1
      exact hn1
    | ok r1 =>
      obtain ⟨v1, p1⟩ := r1
      rw [hq1] at hn1
      obtain ⟨a1, b1, c1⟩ := hn1
      dsimp only
      have hn2 := qnumb_ok (X := X) (B := B) (lo := 1) (hi := 12) (p := p1) c1
      cases hq2 : qnumb X B p1 1 12 with
      | error e =>
        rw [hq2] at hn2
        exact hn2
      | ok r2 =>
        obtain ⟨v2, p2⟩ := r2
        rw [hq2] at hn2
        obtain ⟨a2, b2, c2⟩ := hn2
        exact ⟨qok_new (by omega) (by omega) (by omega) (by omega), c2⟩
  · rw [if_neg e]
    exact ⟨n11, n13, (qws_rg h0).2⟩
theorem qp_arc_ok {X : Nat → Nat} {B b p : Nat} {G : q_G} (hG : q_ok G) (hb : b ≤ B) (hp : p ≤ B) : r_gr B (qp_arc X B G b p) := by
  unfold qp_arc
  by_cases e : qK G < 12
  · rw [if_pos e]
    have hn1 := qnumb_ok (X := X) (B := B) (lo := 0) (hi := (qN G : Int) - 1) (p := p) hp
    cases hq1 : qnumb X B p 0 ((qN G : Int) - 1) with
    | error e =>
      rw [hq1] at hn1
      exact hn1
    | ok r1 =>
      obtain ⟨v1, p1⟩ := r1
      rw [hq1] at hn1
      obtain ⟨a1, b1, c1⟩ := hn1
      dsimp only
      have hn2 := qnumb_ok (X := X) (B := B) (lo := 0) (hi := (qN G : Int) - 1) (p := p1) c1
      cases hq2 : qnumb X B p1 0 ((qN G : Int) - 1) with
      | error e =>
        rw [hq2] at hn2
        exact hn2
      | ok r2 =>
        obtain ⟨v2, p2⟩ := r2
        rw [hq2] at hn2
        obtain ⟨a2, b2, c2⟩ := hn2
        dsimp only
        have hn3 := qnumb_ok (X := X) (B := B) (lo := 0) (hi := (qM G : Int) - 1) (p := p2) c2
        cases hq3 : qnumb X B p2 0 ((qM G : Int) - 1) with
        | error e =>
          rw [hq3] at hn3
          exact hn3
        | ok r3 =>
          obtain ⟨v3, p3⟩ := r3
          rw [hq3] at hn3
          obtain ⟨a3, b3, c3⟩ := hn3
          dsimp only
          by_cases e2 : qws X B p3 < B ∧ qdi X (qws X B p3) = true
          · rw [if_pos e2]
            have hn4 := qnumb_ok (X := X) (B := B) (lo := 0) (hi := 99) (p := p3) c3
            cases hq4 : qnumb X B p3 0 99 with
            | error e =>
              rw [hq4] at hn4
              exact hn4
            | ok r4 =>
              obtain ⟨v4, p4⟩ := r4
              rw [hq4] at hn4
              obtain ⟨a4, b4, c4⟩ := hn4
              exact ⟨qok_put hG (by omega) (by omega) (by omega) (by omega) e, c4⟩
          · rw [if_neg e2]
            exact ⟨qok_put hG (by omega) (by omega) (by omega) (by decide) e, (qws_rg c3).2⟩
  · rw [if_neg e]
    exact ⟨n13, n33, hb⟩
theorem qp_marks_ok {X : Nat → Nat} {B : Nat} {G : q_G} (hG : q_ok G) (k : Nat) : ∀ S p, S < 2 ^ qK G → p ≤ B → r_gr B (qp_marks X B G k S p) := by
  induction k with
  | zero =>
    intro S p hS hp
    exact ⟨qok_setS hG hS, hp⟩
  | succ k ih =>
    intro S p hS hp
    unfold qp_marks
    have hn1 := qnumb_ok (X := X) (B := B) (lo := 0) (hi := (qK G : Int) - 1) (p := p) hp
    cases hq1 : qnumb X B p 0 ((qK G : Int) - 1) with
    | error e =>
      rw [hq1] at hn1
      exact hn1
    | ok r1 =>
      obtain ⟨v1, p1⟩ := r1
      rw [hq1] at hn1
      obtain ⟨a1, b1, c1⟩ := hn1
      dsimp only
      have hS2 : S ||| 2 ^ v1 < 2 ^ qK G := Nat.or_lt_two_pow hS (Nat.pow_lt_pow_right (by decide) (by omega))
      by_cases e2 : qws X B p1 < B ∧ qdi X (qws X B p1) = true
      · rw [if_pos e2]
        exact ih _ _ hS2 c1
      · rw [if_neg e2]
        exact ⟨qok_setS hG hS2, (qws_rg c1).2⟩
theorem qp_stmt_ok {X : Nat → Nat} {B p : Nat} {G : q_G} (hG : q_ok G) (hp : p ≤ B) : r_gr B (qp_stmt X B G p) := by
  unfold qp_stmt
  by_cases e : qword X (qws X B p) (qwe X B p) 1 = true
  · rw [if_pos e]
    exact qp_arc_ok hG (qws_rg hp).2 (qwe_B hp)
  · rw [if_neg e]
    by_cases e2 : qword X (qws X B p) (qwe X B p) 2 = true
    · rw [if_pos e2]
      exact qp_marks_ok hG 401 _ _ hG.1.2.2.2.2.2.1 (qwe_B hp)
    · rw [if_neg e2]
      exact ⟨n11, n13, (qws_rg hp).2⟩
theorem qp_rest_ok {X : Nat → Nat} {B : Nat} (k : Nat) : ∀ (G : q_G) (s p : Nat), q_ok G → p ≤ B → r_all B (s + k) (qp_rest X B k G s p) := by
  induction k with
  | zero =>
    intro G s p hG _
    exact hG
  | succ k ih =>
    intro G s p hG hp
    obtain ⟨h1, h2⟩ := qws_rg (X := X) hp
    unfold qp_rest
    by_cases e : qws X B p < B
    · rw [if_pos e]
      by_cases e2 : X (qws X B p) = 59
      · rw [if_pos e2]
        have hs := qp_stmt_ok (X := X) hG (show qws X B p + 1 ≤ B by omega)
        cases hq : qp_stmt X B G (qws X B p + 1) with
        | error e3 =>
          rw [hq] at hs
          exact ⟨hs.1, hs.2.1, hs.2.2, by show s + 1 ≤ s + (k + 1); omega⟩
        | ok r =>
          obtain ⟨G2, p2⟩ := r
          rw [hq] at hs
          have := ih G2 (s + 1) p2 hs.1 hs.2
          rw [show s + 1 + k = s + (k + 1) by omega] at this
          exact this
      · rw [if_neg e2]
        exact ⟨n11, n13, h2, Nat.le_add_right _ _⟩
    · rw [if_neg e]
      exact hG
theorem qparse_ok {X : Nat → Nat} {B : Nat} : r_all B 401 (qparse X B) := by
  unfold qparse
  have hs := qp_graph_ok (X := X) (B := B)
  cases hq : qp_graph X B with
  | error e3 =>
    rw [hq] at hs
    exact ⟨hs.1, hs.2.1, hs.2.2, Nat.zero_le _⟩
  | ok r =>
    obtain ⟨G2, p2⟩ := r
    rw [hq] at hs
    have := qp_rest_ok (X := X) 401 G2 0 p2 hs.1 hs.2
    rw [Nat.zero_add] at this
    exact this
def qloadA (A : q_A) : q_A := match qparse (aX A) (aB A) with
  | .ok G => (G, (0, aH A), aV A, (0, aX A), (0, -1))
  | .error ((k, _), s) => (aG A, (aN A, aH A), aV A, (0, aX A), (k, (s : Int)))
def qloadV (A : q_A) : Int := match qparse (aX A) (aB A) with
  | .ok G => (qK G : Int)
  | .error ((_, q), _) => -100 - (q : Int)
section SG
variable {N : Nat} {xs : Nat → Int32} {d : Nat} {M : gg_M} {cc cs : Nat} {A : q_A}
theorem qs_H_q {M' : gg_M} {n : Nat} {Hs : Nat → q_G} (h : qs_H M n Hs) (he : ∀ j, 16 ≤ j → j ≤ 73 → j ≠ 76 → M' j = M j) : qs_H M' n Hs := by
  obtain ⟨x, hx, g1, g2, g3, g4⟩ := h
  refine ⟨x, hx, by rw [he 16 (by decide) (by decide) (by decide)]; exact g1, by rw [he 16 (by decide) (by decide) (by decide)]; exact g2, g3, fun j hj => q_C_e (g4 j hj) fun i i1 i2 => he i ?_ ?_ ?_⟩
  · omega
  · have : (x + 7 - j) % 8 < 8 := Nat.mod_lt _ (by decide)
    omega
  · have : (x + 7 - j) % 8 < 8 := Nat.mod_lt _ (by decide)
    omega
theorem cq_88 (hI : q_I M A) (hA : a_ok A) : q_cS N xs (d + 31) 88 [(3, 0)] M (qloadA A) cc cs 0 0 (qloadV A) := by
  intro Q h0 _
  have h0 := h0 rfl
  have hpk := qparse_ok (X := aX A) (B := aB A)
  have hB := hI.2.2.2.2.1.2.1
  unfold qloadA qloadV at h0
  simp (disch := first | assumption | omega | exact il_cqA _ _ | exact il_cqB _ _) only [wi_88_0, wi_88_1, wi_88_4, wi_88_5, wi_88_8, wi_88_11, wi_88_12, wi_88_13, wi_88_16, wi_88_17, wi_88_20, wi_88_21, wi_88_24, wi_88_26, wi_88_27, wi_88_30, wi_88_33, wi_88_34, wi_88_35, wi_88_36, wi_88_39, wi_88_40, wi_88_43, wi_88_46, wi_88_47, wi_88_50, wi_88_51, wi_88_54, wi_88_57, io_add_o, io_sub_o, io_mul_o, io_neg_o, io_and_r, io_or_r, io_xor_r, io_nd_r, io_shr_r, io_shl1, io_i2b_r, io_i2l_o, io_l2i_o, il_add_o, il_sub_o, il_mul_o, il_neg_o, ib_bit, Int.toNat_natCast, true_implies, false_implies, implies_true, and_true, true_and, and_self, not_true_eq_false, not_false_eq_true, wa_0, wa_1, il_cmp_o, il_cmp0, il_cmp1, il_cmp2, io_bit1, ibt0, ibt1, ibt00, ibt11, ibt10, ibt01, Int.ofNat_lt, Int.ofNat_le, Int.ofNat_inj, Nat.lt_irrefl, Int.lt_irrefl, Int.toNat_one, Int.toNat_zero, Bool.false_eq_true, reduceIte, reduceCtorEq, Nat.reduceAdd, Nat.reduceMul, Nat.reduceSub, Nat.reduceLT, Nat.reduceLeDiff, Nat.reduceEqDiff, Int.reduceNeg, Int.reduceAdd, Int.reduceMul, Int.reduceSub, Int.reduceLT, Int.reduceLE, Int.reduceEq, Int.reduceToNat, Int.reduceNatCast, icl, ico, inz, Nat.not_lt_zero]
  refine wp_read hI.2.2.2.2.1 ?_
  cases hq : qparse (aX A) (aB A) with
  | ok G =>
    simp only [hq] at h0
    intro M1 f1 f2 f3 hC hGk
    simp (disch := first | assumption | omega | exact il_cqA _ _ | exact il_cqB _ _) only [wi_88_0, wi_88_1, wi_88_4, wi_88_5, wi_88_8, wi_88_11, wi_88_12, wi_88_13, wi_88_16, wi_88_17, wi_88_20, wi_88_21, wi_88_24, wi_88_26, wi_88_27, wi_88_30, wi_88_33, wi_88_34, wi_88_35, wi_88_36, wi_88_39, wi_88_40, wi_88_43, wi_88_46, wi_88_47, wi_88_50, wi_88_51, wi_88_54, wi_88_57, io_add_o, io_sub_o, io_mul_o, io_neg_o, io_and_r, io_or_r, io_xor_r, io_nd_r, io_shr_r, io_shl1, io_i2b_r, io_i2l_o, io_l2i_o, il_add_o, il_sub_o, il_mul_o, il_neg_o, ib_bit, Int.toNat_natCast, true_implies, false_implies, implies_true, and_true, true_and, and_self, not_true_eq_false, not_false_eq_true, wa_0, wa_1, il_cmp_o, il_cmp0, il_cmp1, il_cmp2, io_bit1, ibt0, ibt1, ibt00, ibt11, ibt10, ibt01, Int.ofNat_lt, Int.ofNat_le, Int.ofNat_inj, Nat.lt_irrefl, Int.lt_irrefl, Int.toNat_one, Int.toNat_zero, Bool.false_eq_true, reduceIte, reduceCtorEq, Nat.reduceAdd, Nat.reduceMul, Nat.reduceSub, Nat.reduceLT, Nat.reduceLeDiff, Nat.reduceEqDiff, Int.reduceNeg, Int.reduceAdd, Int.reduceMul, Int.reduceSub, Int.reduceLT, Int.reduceLE, Int.reduceEq, Int.reduceToNat, Int.reduceNatCast, icl, ico, inz, Nat.not_lt_zero]
    refine wp_copyFrom gs_G2_ gs_G9 (by decide) hGk (q_C_e hC fun j j1 j2 => gu_n (by omega)) (fun M2 hM2 hC2 => ?_)
    have h3' := hC2.1.2.2.1
    simp (disch := first | assumption | omega | exact il_cqA _ _ | exact il_cqB _ _) only [wi_88_0, wi_88_1, wi_88_4, wi_88_5, wi_88_8, wi_88_11, wi_88_12, wi_88_13, wi_88_16, wi_88_17, wi_88_20, wi_88_21, wi_88_24, wi_88_26, wi_88_27, wi_88_30, wi_88_33, wi_88_34, wi_88_35, wi_88_36, wi_88_39, wi_88_40, wi_88_43, wi_88_46, wi_88_47, wi_88_50, wi_88_51, wi_88_54, wi_88_57, wi_149_0, wi_149_1, wi_149_4, wi_149_5, wi_149_8, wi_149_9, wi_149_12, wi_149_15, wi_61_0, wi_61_1, wi_61_2, wi_61_5, io_add_o, io_sub_o, io_mul_o, io_neg_o, io_and_r, io_or_r, io_xor_r, io_nd_r, io_shr_r, io_shl1, io_i2b_r, io_i2l_o, io_l2i_o, il_add_o, il_sub_o, il_mul_o, il_neg_o, ib_bit, Int.toNat_natCast, true_implies, false_implies, implies_true, and_true, true_and, and_self, not_true_eq_false, not_false_eq_true, wa_0, wa_1, il_cmp_o, il_cmp0, il_cmp1, il_cmp2, io_bit1, ibt0, ibt1, ibt00, ibt11, ibt10, ibt01, Int.ofNat_lt, Int.ofNat_le, Int.ofNat_inj, Nat.lt_irrefl, Int.lt_irrefl, Int.toNat_one, Int.toNat_zero, Bool.false_eq_true, reduceIte, reduceCtorEq, Nat.reduceAdd, Nat.reduceMul, Nat.reduceSub, Nat.reduceLT, Nat.reduceLeDiff, Nat.reduceEqDiff, Int.reduceNeg, Int.reduceAdd, Int.reduceMul, Int.reduceSub, Int.reduceLT, Int.reduceLE, Int.reduceEq, Int.reduceToNat, Int.reduceNatCast, icl, ico, inz, Nat.not_lt_zero, gu_n, h3']
    have eo : ∀ j, 16 < j → j ≠ 76 → j ≠ 78 → gg_up (gg_up M2 16 2 0) 78 4 0 j = M j := fun j j1 j2 j3 => by rw [gu_n j3, gu_n (by omega), hM2 j (by omega), gu_n j2, f1 j (by omega) j2]
    have e76 : ∀ f, gg_up (gg_up M2 16 2 0) 78 4 0 76 f = gg_up M1 76 1 0 76 f := fun f => by rw [gu_n (by decide), gu_n (by decide), hM2 76 (by decide)]
    obtain ⟨g1, g2, g3, g4, g5, g6, g7⟩ := hI
    refine h0 _ (fun j hj => eo j (by omega) (by omega) (by omega)) ⟨q_C_e hC2 fun j j1 j2 => by rw [gu_n (by omega), gu_n (by omega)], Or.inl gu_e, qs_H_0 g3 (by rw [gu_n (by decide), gu_s (by decide), hM2 16 (by decide), gu_n (by decide), f1 16 (by decide) (by decide)]) (by rw [gu_n (by decide), gu_e]), fun s hs => ?_, ⟨by rw [e76, gu_e]; rfl, Nat.zero_le _, g5.2.2.1, fun i hi => absurd hi (Nat.not_lt_zero i)⟩, by rw [e76, gu_s (by decide), f3]; rfl, fun h => absurd rfl h⟩
    have := g4 s hs
    show match aV A s with | some G => gg_up (gg_up M2 16 2 0) 78 4 0 75 s = 1 ∧ q_C (gg_up (gg_up M2 16 2 0) 78 4 0) (128 + 7 * s) G | none => gg_up (gg_up M2 16 2 0) 78 4 0 75 s = 0
    cases hv : aV A s with
    | none =>
      rw [hv] at this
      rw [eo 75 (by decide) (by decide) (by decide)]
      exact this
    | some G' =>
      rw [hv] at this
      exact ⟨by rw [eo 75 (by decide) (by decide) (by decide)]; exact this.1, q_C_e this.2 fun i i1 i2 => eo i (by omega) (by omega) (by omega)⟩
  | error e =>
    obtain ⟨⟨k, q⟩, s⟩ := e
    simp only [hq] at h0
    rw [hq] at hpk
    obtain ⟨p1, p2, p3, p4⟩ := hpk
    have p3' : q ≤ aB A := p3
    have hsb := io_subr q (by omega)
    intro M1 f1 f2 f3 f4 f5
    simp (disch := first | assumption | omega | exact il_cqA _ _ | exact il_cqB _ _) only [wi_88_0, wi_88_1, wi_88_4, wi_88_5, wi_88_8, wi_88_11, wi_88_12, wi_88_13, wi_88_16, wi_88_17, wi_88_20, wi_88_21, wi_88_24, wi_88_26, wi_88_27, wi_88_30, wi_88_33, wi_88_34, wi_88_35, wi_88_36, wi_88_39, wi_88_40, wi_88_43, wi_88_46, wi_88_47, wi_88_50, wi_88_51, wi_88_54, wi_88_57, io_add_o, io_sub_o, io_mul_o, io_neg_o, io_and_r, io_or_r, io_xor_r, io_nd_r, io_shr_r, io_shl1, io_i2b_r, io_i2l_o, io_l2i_o, il_add_o, il_sub_o, il_mul_o, il_neg_o, ib_bit, Int.toNat_natCast, true_implies, false_implies, implies_true, and_true, true_and, and_self, not_true_eq_false, not_false_eq_true, wa_0, wa_1, il_cmp_o, il_cmp0, il_cmp1, il_cmp2, io_bit1, ibt0, ibt1, ibt00, ibt11, ibt10, ibt01, Int.ofNat_lt, Int.ofNat_le, Int.ofNat_inj, Nat.lt_irrefl, Int.lt_irrefl, Int.toNat_one, Int.toNat_zero, Bool.false_eq_true, reduceIte, reduceCtorEq, Nat.reduceAdd, Nat.reduceMul, Nat.reduceSub, Nat.reduceLT, Nat.reduceLeDiff, Nat.reduceEqDiff, Int.reduceNeg, Int.reduceAdd, Int.reduceMul, Int.reduceSub, Int.reduceLT, Int.reduceLE, Int.reduceEq, Int.reduceToNat, Int.reduceNatCast, icl, ico, inz, Nat.not_lt_zero, gu_s, f4, hsb]
    have eo : ∀ j, (j < 9 ∨ 15 < j) → j ≠ 76 → gg_up M1 76 1 0 j = M j := fun j j1 j2 => by rw [gu_n j2, f1 j j1 j2]
    obtain ⟨g1, g2, g3, g4, g5, g6, g7⟩ := hI
    refine h0 _ (fun j hj => eo j (by omega) (by omega)) ⟨q_C_e g1 fun j j1 j2 => eo j (by omega) (by omega), ?_, qs_H_q g3 (fun j j1 j2 j3 => eo j (by omega) (by omega)), fun s hs => ?_, ⟨by rw [gu_e]; rfl, Nat.zero_le _, g5.2.2.1, fun i hi => absurd hi (Nat.not_lt_zero i)⟩, by rw [gu_s (by decide), f3]; rfl, fun h => by rw [gu_s (by decide), f5]; rfl⟩
    · unfold qs_S
      rw [eo 78 (by decide) (by decide), eo 83 (by decide) (by decide), eo 84 (by decide) (by decide)]
      exact g2
    · have := g4 s hs
      show match aV A s with | some G => gg_up M1 76 1 0 75 s = 1 ∧ q_C (gg_up M1 76 1 0) (128 + 7 * s) G | none => gg_up M1 76 1 0 75 s = 0
      cases hv : aV A s with
      | none =>
        rw [hv] at this
        rw [eo 75 (by decide) (by decide)]
        exact this
      | some G' =>
        rw [hv] at this
        exact ⟨by rw [eo 75 (by decide) (by decide)]; exact this.1, q_C_e this.2 fun i i1 i2 => eo i (by omega) (by omega)⟩
end SG
