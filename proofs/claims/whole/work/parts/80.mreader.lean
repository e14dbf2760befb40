/-! the model reads -/
/-- a byte as the machine keeps it -/
def qsb (x : Nat) : Int := if x < 128 then (x : Int) else (x : Int) - 256
theorem qsb_and : ∀ x : Fin 256, io_and (qsb x.1) 255 = (x.1 : Int) ∧ (qsb x.1 ≤ 127 ∧ -128 ≤ qsb x.1) := by decide +kernel
def qt_V (M : gg_M) (X : Nat → Nat) (B : Nat) : Prop := M 142 9 = (B : Int) ∧ B ≤ 400 ∧ (∀ i, X i ≤ 255) ∧ ∀ i, i < B → M 149 i = qsb (X i)
theorem qt_V_e {M M' : gg_M} {X : Nat → Nat} {B : Nat} (h : qt_V M X B) (h1 : M' 142 9 = M 142 9) (h2 : M' 149 = M 149) : qt_V M' X B :=
  ⟨by rw [h1]; exact h.1, h.2.1, h.2.2.1, fun i hi => by rw [h2]; exact h.2.2.2 i hi⟩
theorem qt_V_u {M : gg_M} {X : Nat → Nat} {B f : Nat} {x : Int} (h : qt_V M X B) (hf : f ≠ 9) : qt_V (gg_up M 142 f x) X B :=
  qt_V_e h (gu_s (Ne.symm hf)) (gu_n (by decide))
def qhv (X : Nat → Nat) (B p : Nat) : Int := if p < B then (X p : Int) else -1
theorem qhv_rg {X : Nat → Nat} {B : Nat} (h : ∀ i, X i ≤ 255) (p : Nat) : -1 ≤ qhv X B p ∧ qhv X B p ≤ 255 := by
  have := h p
  unfold qhv
  split <;> omega
section SG
variable {N : Nat} {xs : Nat → Int32} {d : Nat} {cc cs : Nat} {Q : gg_O → Prop} {X : Nat → Nat} {B : Nat}
theorem wp_here {M : gg_M} {p : Nat} (hV : qt_V M X B) (hp : p ≤ 1000) (hat : M 142 10 = (p : Int)) :
    wp N xs d 177 0 [gr 142] [] (gk_R, M, 158, cc, cs) Q ↔ Q ((1, (0, qhv X B p)), (gk_R, M, 158, cc, cs)) := by
  obtain ⟨c1, c2, c3, c4⟩ := id hV
  by_cases e : p < B
  · have e1 : qhv X B p = (X p : Int) := if_pos e
    have hx := c4 p e
    have hx2 := (qsb_and ⟨X p, by have := c3 p; omega⟩).1
    simp only at hx2
    rw [e1]
    simp (disch := first | assumption | omega | exact il_cqA _ _ | exact il_cqB _ _) only [wi_177_0, wi_177_1, wi_177_4, wi_177_5, wi_177_8, wi_177_11, wi_177_12, wi_177_15, wi_177_16, wi_177_19, wi_177_20, wi_177_23, wi_177_24, wi_177_27, wi_177_28, io_add_o, io_sub_o, io_mul_o, io_neg_o, io_and_r, io_or_r, io_xor_r, io_nd_r, io_shr_r, io_shl1, io_i2b_r, io_i2l_o, io_l2i_o, il_add_o, il_sub_o, il_mul_o, il_neg_o, ib_bit, Int.toNat_natCast, true_implies, false_implies, implies_true, and_true, true_and, and_self, not_true_eq_false, not_false_eq_true, wa_0, wa_1, il_cmp_o, il_cmp0, il_cmp1, il_cmp2, io_bit1, ibt0, ibt1, ibt00, ibt11, ibt10, ibt01, Int.ofNat_lt, Int.ofNat_le, Int.ofNat_inj, Nat.lt_irrefl, Int.lt_irrefl, Int.toNat_one, Int.toNat_zero, Bool.false_eq_true, reduceIte, reduceCtorEq, Nat.reduceAdd, Nat.reduceMul, Nat.reduceSub, Nat.reduceLT, Nat.reduceLeDiff, Nat.reduceEqDiff, Int.reduceNeg, Int.reduceAdd, Int.reduceMul, Int.reduceSub, Int.reduceLT, Int.reduceLE, Int.reduceEq, Int.reduceToNat, Int.reduceNatCast, icl, ico, inz, Nat.not_lt_zero, hat, c1, e, hx, hx2]
  · have e1 : qhv X B p = -1 := if_neg e
    rw [e1]
    simp (disch := first | assumption | omega | exact il_cqA _ _ | exact il_cqB _ _) only [wi_177_0, wi_177_1, wi_177_4, wi_177_5, wi_177_8, wi_177_11, wi_177_12, wi_177_15, wi_177_16, wi_177_19, wi_177_20, wi_177_23, wi_177_24, wi_177_27, wi_177_28, io_add_o, io_sub_o, io_mul_o, io_neg_o, io_and_r, io_or_r, io_xor_r, io_nd_r, io_shr_r, io_shl1, io_i2b_r, io_i2l_o, io_l2i_o, il_add_o, il_sub_o, il_mul_o, il_neg_o, ib_bit, Int.toNat_natCast, true_implies, false_implies, implies_true, and_true, true_and, and_self, not_true_eq_false, not_false_eq_true, wa_0, wa_1, il_cmp_o, il_cmp0, il_cmp1, il_cmp2, io_bit1, ibt0, ibt1, ibt00, ibt11, ibt10, ibt01, Int.ofNat_lt, Int.ofNat_le, Int.ofNat_inj, Nat.lt_irrefl, Int.lt_irrefl, Int.toNat_one, Int.toNat_zero, Bool.false_eq_true, reduceIte, reduceCtorEq, Nat.reduceAdd, Nat.reduceMul, Nat.reduceSub, Nat.reduceLT, Nat.reduceLeDiff, Nat.reduceEqDiff, Int.reduceNeg, Int.reduceAdd, Int.reduceMul, Int.reduceSub, Int.reduceLT, Int.reduceLE, Int.reduceEq, Int.reduceToNat, Int.reduceNatCast, icl, ico, inz, Nat.not_lt_zero, hat, c1, e]
theorem wp_next (k : Nat) : ∀ (p : Nat) (M : gg_M) (Q : gg_O → Prop), qt_V M X B → p ≤ B → k = B - p → M 142 10 = (p : Int) →
    (wp N xs (d + 1) 178 0 [gr 142] [] (gk_R, M, 158, cc, cs) Q ↔ Q ((1, (0, qhv X B (qws X B p))), (gk_R, gg_up (gg_up M 142 10 (qws X B p : Int)) 142 11 (qws X B p : Int), 158, cc, cs))) := by
  have fin : ∀ (p : Nat) (M : gg_M) (Q : gg_O → Prop), qt_V M X B → p ≤ B → M 142 10 = (p : Int) → ¬ qhv X B p = 32 → (wp N xs (d + 1) 178 0 [gr 142] [] (gk_R, M, 158, cc, cs) Q ↔ Q ((1, (0, qhv X B p)), (gk_R, gg_up (gg_up M 142 10 (p : Int)) 142 11 (p : Int), 158, cc, cs))) := by
    intro p M Q hV hp hat h32
    have hB := hV.2.1
    have hr := qhv_rg (B := B) hV.2.2.1 p
    have hV2 := qt_V_u (x := (p : Int)) hV (show 11 ≠ 9 by decide)
    have hh : ∀ Q' : gg_O → Prop, wp N xs d 177 0 [gr 142] [] (gk_R, gg_up M 142 11 (p : Int), 158, cc, cs) Q' ↔ Q' ((1, (0, qhv X B p)), (gk_R, gg_up M 142 11 (p : Int), 158, cc, cs)) := fun Q' => wp_here hV2 (by omega) (by rw [gu_s (by decide)]; exact hat)
    rw [gu_id hat]
    rw [wi_178_0]
    simp (disch := first | assumption | omega | exact il_cqA _ _ | exact il_cqB _ _) only [wi_178_1, wi_178_4, wi_178_6, wi_178_9, wi_178_10, wi_178_11, wi_178_14, wi_178_15, wi_178_16, wi_178_19, wi_178_22, wi_178_23, wi_178_24, wi_178_27, wi_178_30, wi_178_31, wi_178_34, io_add_o, io_sub_o, io_mul_o, io_neg_o, io_and_r, io_or_r, io_xor_r, io_nd_r, io_shr_r, io_shl1, io_i2b_r, io_i2l_o, io_l2i_o, il_add_o, il_sub_o, il_mul_o, il_neg_o, ib_bit, Int.toNat_natCast, true_implies, false_implies, implies_true, and_true, true_and, and_self, not_true_eq_false, not_false_eq_true, wa_0, wa_1, il_cmp_o, il_cmp0, il_cmp1, il_cmp2, io_bit1, ibt0, ibt1, ibt00, ibt11, ibt10, ibt01, Int.ofNat_lt, Int.ofNat_le, Int.ofNat_inj, Nat.lt_irrefl, Int.lt_irrefl, Int.toNat_one, Int.toNat_zero, Bool.false_eq_true, reduceIte, reduceCtorEq, Nat.reduceAdd, Nat.reduceMul, Nat.reduceSub, Nat.reduceLT, Nat.reduceLeDiff, Nat.reduceEqDiff, Int.reduceNeg, Int.reduceAdd, Int.reduceMul, Int.reduceSub, Int.reduceLT, Int.reduceLE, Int.reduceEq, Int.reduceToNat, Int.reduceNatCast, icl, ico, inz, Nat.not_lt_zero, wp_here hV (show p ≤ 1000 by omega) hat, h32, hat, hh]
  induction k with
  | zero =>
    intro p M Q hV hp hk hat
    have e : p = B := by omega
    have e2 : qws X B p = p := qend_B (by omega)
    rw [e2]
    refine fin p M Q hV hp hat ?_
    unfold qhv
    rw [if_neg (by omega)]
    decide
  | succ k ih =>
    intro p M Q hV hp hk hat
    have hB := hV.2.1
    have hlt : p < B := by omega
    by_cases e : X p = 32
    · have e2 : qws X B p = qws X B (p + 1) := qend_s hlt (decide_eq_true e)
      have e3 : qhv X B p = 32 := by
        unfold qhv
        rw [if_pos hlt, e]
        rfl
      have hi := ih (p + 1) (gg_up M 142 10 ((p : Int) + 1)) Q (qt_V_u hV (by decide)) (by omega) (by omega) gu_e
      rw [gu_gu] at hi
      rw [wi_178_0, e2, ← hi]
      simp (disch := first | assumption | omega | exact il_cqA _ _ | exact il_cqB _ _) only [wi_178_1, wi_178_4, wi_178_6, wi_178_9, wi_178_10, wi_178_11, wi_178_14, wi_178_15, wi_178_16, wi_178_19, wi_178_22, wi_178_23, wi_178_24, wi_178_27, wi_178_30, wi_178_31, wi_178_34, io_add_o, io_sub_o, io_mul_o, io_neg_o, io_and_r, io_or_r, io_xor_r, io_nd_r, io_shr_r, io_shl1, io_i2b_r, io_i2l_o, io_l2i_o, il_add_o, il_sub_o, il_mul_o, il_neg_o, ib_bit, Int.toNat_natCast, true_implies, false_implies, implies_true, and_true, true_and, and_self, not_true_eq_false, not_false_eq_true, wa_0, wa_1, il_cmp_o, il_cmp0, il_cmp1, il_cmp2, io_bit1, ibt0, ibt1, ibt00, ibt11, ibt10, ibt01, Int.ofNat_lt, Int.ofNat_le, Int.ofNat_inj, Nat.lt_irrefl, Int.lt_irrefl, Int.toNat_one, Int.toNat_zero, Bool.false_eq_true, reduceIte, reduceCtorEq, Nat.reduceAdd, Nat.reduceMul, Nat.reduceSub, Nat.reduceLT, Nat.reduceLeDiff, Nat.reduceEqDiff, Int.reduceNeg, Int.reduceAdd, Int.reduceMul, Int.reduceSub, Int.reduceLT, Int.reduceLE, Int.reduceEq, Int.reduceToNat, Int.reduceNatCast, icl, ico, inz, Nat.not_lt_zero, wp_here hV (show p ≤ 1000 by omega) hat, e3, hat]
    · have e2 : qws X B p = p := qend_f (decide_eq_false e)
      rw [e2]
      refine fin p M Q hV hp hat ?_
      unfold qhv
      rw [if_pos hlt]
      omega
theorem qhv_le {p : Nat} : (97 ≤ qhv X B p ∧ qhv X B p ≤ 122) ↔ (p < B ∧ qle X p = true) := by
  unfold qhv qle
  rw [Bool.and_eq_true, decide_eq_true_eq, decide_eq_true_eq]
  split
  · rename_i h
    omega
  · rename_i h
    omega
theorem qhv_di {p : Nat} : (48 ≤ qhv X B p ∧ qhv X B p ≤ 57) ↔ (p < B ∧ qdi X p = true) := by
  unfold qhv qdi
  rw [Bool.and_eq_true, decide_eq_true_eq, decide_eq_true_eq]
  split
  · rename_i h
    omega
  · rename_i h
    omega
theorem wp_reads {M : gg_M} {p : Nat} (hV : qt_V M X B) (hp : p ≤ B) (hat : M 142 10 = (p : Int)) (hQ : ∀ M' : gg_M, (∀ j, j ≠ 142 → M' j = M j) → (∀ f, f ≠ 10 → f ≠ 11 → M' 142 f = M 142 f) → M' 142 10 = (qwe X B p : Int) → M' 142 11 = (qws X B p : Int) → Q ((0, (3, 0)), (gk_R, M', 158, cc, cs))) :
    wp N xs (d + 2) 180 0 [gr 142] [] (gk_R, M, 158, cc, cs) Q := by
  have hB := hV.2.1
  obtain ⟨r1, r2⟩ := qws_rg (X := X) hp
  have key : ∀ k q (M1 : gg_M), k = B - q → q ≤ B → (∀ j, j ≠ 142 → M1 j = M j) → (∀ f, f ≠ 10 → f ≠ 11 → M1 142 f = M 142 f) → M1 142 10 = (q : Int) → M1 142 11 = (qws X B p : Int) → qend (qle X) B q = qwe X B p → wp N xs (d + 2) 180 5 [gr 142] [] (gk_R, M1, 158, cc, cs) Q := by
    intro k
    induction k with
    | zero =>
      intro q M1 hk h1 g1 g2 g3 g4 g5
      have hV1 : qt_V M1 X B := qt_V_e hV (g2 9 (by decide) (by decide)) (g1 149 (by decide))
      have hr := qhv_rg (B := B) hV.2.2.1 q
      have e1 : ¬ ((97 : Int) ≤ qhv X B q ∧ qhv X B q ≤ 122) := fun h => by
        have := qhv_le.1 h
        omega
      rw [qend_B (by omega)] at g5
      have := hQ M1 g1 g2 (by rw [g3, g5]) g4
      rw [wi_180_5]
      simp (disch := first | assumption | omega | exact il_cqA _ _ | exact il_cqB _ _) only [wi_180_0, wi_180_1, wi_180_4, wi_180_6, wi_180_9, wi_180_10, wi_180_13, wi_180_16, wi_180_19, wi_180_22, wi_180_23, wi_180_24, wi_180_27, wi_180_28, wi_180_29, wi_180_32, wi_180_35, io_add_o, io_sub_o, io_mul_o, io_neg_o, io_and_r, io_or_r, io_xor_r, io_nd_r, io_shr_r, io_shl1, io_i2b_r, io_i2l_o, io_l2i_o, il_add_o, il_sub_o, il_mul_o, il_neg_o, ib_bit, Int.toNat_natCast, true_implies, false_implies, implies_true, and_true, true_and, and_self, not_true_eq_false, not_false_eq_true, wa_0, wa_1, il_cmp_o, il_cmp0, il_cmp1, il_cmp2, io_bit1, ibt0, ibt1, ibt00, ibt11, ibt10, ibt01, Int.ofNat_lt, Int.ofNat_le, Int.ofNat_inj, Nat.lt_irrefl, Int.lt_irrefl, Int.toNat_one, Int.toNat_zero, Bool.false_eq_true, reduceIte, reduceCtorEq, Nat.reduceAdd, Nat.reduceMul, Nat.reduceSub, Nat.reduceLT, Nat.reduceLeDiff, Nat.reduceEqDiff, Int.reduceNeg, Int.reduceAdd, Int.reduceMul, Int.reduceSub, Int.reduceLT, Int.reduceLE, Int.reduceEq, Int.reduceToNat, Int.reduceNatCast, icl, ico, inz, Nat.not_lt_zero, wp_here hV1 (show q ≤ 1000 by omega) g3, wp_in, if_neg e1]
      exact this
    | succ k ih =>
      intro q M1 hk h1 g1 g2 g3 g4 g5
      have hV1 : qt_V M1 X B := qt_V_e hV (g2 9 (by decide) (by decide)) (g1 149 (by decide))
      have hr := qhv_rg (B := B) hV.2.2.1 q
      have hlt : q < B := by omega
      rw [wi_180_5]
      cases hq : qle X q
      · have e1 : ¬ ((97 : Int) ≤ qhv X B q ∧ qhv X B q ≤ 122) := fun h => by
          have := (qhv_le.1 h).2
          rw [hq] at this
          cases this
        rw [qend_f hq] at g5
        have := hQ M1 g1 g2 (by rw [g3, g5]) g4
        simp (disch := first | assumption | omega | exact il_cqA _ _ | exact il_cqB _ _) only [wi_180_0, wi_180_1, wi_180_4, wi_180_6, wi_180_9, wi_180_10, wi_180_13, wi_180_16, wi_180_19, wi_180_22, wi_180_23, wi_180_24, wi_180_27, wi_180_28, wi_180_29, wi_180_32, wi_180_35, io_add_o, io_sub_o, io_mul_o, io_neg_o, io_and_r, io_or_r, io_xor_r, io_nd_r, io_shr_r, io_shl1, io_i2b_r, io_i2l_o, io_l2i_o, il_add_o, il_sub_o, il_mul_o, il_neg_o, ib_bit, Int.toNat_natCast, true_implies, false_implies, implies_true, and_true, true_and, and_self, not_true_eq_false, not_false_eq_true, wa_0, wa_1, il_cmp_o, il_cmp0, il_cmp1, il_cmp2, io_bit1, ibt0, ibt1, ibt00, ibt11, ibt10, ibt01, Int.ofNat_lt, Int.ofNat_le, Int.ofNat_inj, Nat.lt_irrefl, Int.lt_irrefl, Int.toNat_one, Int.toNat_zero, Bool.false_eq_true, reduceIte, reduceCtorEq, Nat.reduceAdd, Nat.reduceMul, Nat.reduceSub, Nat.reduceLT, Nat.reduceLeDiff, Nat.reduceEqDiff, Int.reduceNeg, Int.reduceAdd, Int.reduceMul, Int.reduceSub, Int.reduceLT, Int.reduceLE, Int.reduceEq, Int.reduceToNat, Int.reduceNatCast, icl, ico, inz, Nat.not_lt_zero, wp_here hV1 (show q ≤ 1000 by omega) g3, wp_in, if_neg e1]
        exact this
      · have e1 : (97 : Int) ≤ qhv X B q ∧ qhv X B q ≤ 122 := qhv_le.2 ⟨hlt, hq⟩
        rw [qend_s hlt hq] at g5
        simp (disch := first | assumption | omega | exact il_cqA _ _ | exact il_cqB _ _) only [wi_180_0, wi_180_1, wi_180_4, wi_180_6, wi_180_9, wi_180_10, wi_180_13, wi_180_16, wi_180_19, wi_180_22, wi_180_23, wi_180_24, wi_180_27, wi_180_28, wi_180_29, wi_180_32, wi_180_35, io_add_o, io_sub_o, io_mul_o, io_neg_o, io_and_r, io_or_r, io_xor_r, io_nd_r, io_shr_r, io_shl1, io_i2b_r, io_i2l_o, io_l2i_o, il_add_o, il_sub_o, il_mul_o, il_neg_o, ib_bit, Int.toNat_natCast, true_implies, false_implies, implies_true, and_true, true_and, and_self, not_true_eq_false, not_false_eq_true, wa_0, wa_1, il_cmp_o, il_cmp0, il_cmp1, il_cmp2, io_bit1, ibt0, ibt1, ibt00, ibt11, ibt10, ibt01, Int.ofNat_lt, Int.ofNat_le, Int.ofNat_inj, Nat.lt_irrefl, Int.lt_irrefl, Int.toNat_one, Int.toNat_zero, Bool.false_eq_true, reduceIte, reduceCtorEq, Nat.reduceAdd, Nat.reduceMul, Nat.reduceSub, Nat.reduceLT, Nat.reduceLeDiff, Nat.reduceEqDiff, Int.reduceNeg, Int.reduceAdd, Int.reduceMul, Int.reduceSub, Int.reduceLT, Int.reduceLE, Int.reduceEq, Int.reduceToNat, Int.reduceNatCast, icl, ico, inz, Nat.not_lt_zero, wp_here hV1 (show q ≤ 1000 by omega) g3, wp_in, if_pos e1, g3]
        exact ih (q + 1) _ (by omega) (by omega) (fun j hj => by rw [gu_n hj, g1 j hj]) (fun f f1 f2 => by rw [gu_s f1, g2 f f1 f2]) gu_e (by rw [gu_s (by decide)]; exact g4) g5
  simp (disch := first | assumption | omega | exact il_cqA _ _ | exact il_cqB _ _) only [wi_180_0, wi_180_1, wi_180_4, wi_180_6, wi_180_9, wi_180_10, wi_180_13, wi_180_16, wi_180_19, wi_180_22, wi_180_23, wi_180_24, wi_180_27, wi_180_28, wi_180_29, wi_180_32, wi_180_35, io_add_o, io_sub_o, io_mul_o, io_neg_o, io_and_r, io_or_r, io_xor_r, io_nd_r, io_shr_r, io_shl1, io_i2b_r, io_i2l_o, io_l2i_o, il_add_o, il_sub_o, il_mul_o, il_neg_o, ib_bit, Int.toNat_natCast, true_implies, false_implies, implies_true, and_true, true_and, and_self, not_true_eq_false, not_false_eq_true, wa_0, wa_1, il_cmp_o, il_cmp0, il_cmp1, il_cmp2, io_bit1, ibt0, ibt1, ibt00, ibt11, ibt10, ibt01, Int.ofNat_lt, Int.ofNat_le, Int.ofNat_inj, Nat.lt_irrefl, Int.lt_irrefl, Int.toNat_one, Int.toNat_zero, Bool.false_eq_true, reduceIte, reduceCtorEq, Nat.reduceAdd, Nat.reduceMul, Nat.reduceSub, Nat.reduceLT, Nat.reduceLeDiff, Nat.reduceEqDiff, Int.reduceNeg, Int.reduceAdd, Int.reduceMul, Int.reduceSub, Int.reduceLT, Int.reduceLE, Int.reduceEq, Int.reduceToNat, Int.reduceNatCast, icl, ico, inz, Nat.not_lt_zero, wp_next _ p M _ hV hp rfl hat]
  exact key _ (qws X B p) _ rfl r2 (fun j hj => by rw [gu_n hj, gu_n hj]) (fun f f1 f2 => by rw [gu_s f2, gu_s f1]) (by rw [gu_s (by decide), gu_e]) gu_e rfl
theorem wp_fails {M : gg_M} {k : Int} (he : M 142 12 = 0) :
    wp N xs d 179 0 [gr 142, (0, k)] [] (gk_R, M, 158, cc, cs) Q ↔ Q ((0, (3, 0)), (gk_R, gg_up (gg_up M 142 12 k) 142 13 (M 142 11), 158, cc, cs)) := by
  simp (disch := first | assumption | omega | exact il_cqA _ _ | exact il_cqB _ _) only [wi_179_0, wi_179_1, wi_179_4, wi_179_7, wi_179_8, wi_179_9, wi_179_12, wi_179_13, wi_179_14, wi_179_17, wi_179_20, io_add_o, io_sub_o, io_mul_o, io_neg_o, io_and_r, io_or_r, io_xor_r, io_nd_r, io_shr_r, io_shl1, io_i2b_r, io_i2l_o, io_l2i_o, il_add_o, il_sub_o, il_mul_o, il_neg_o, ib_bit, Int.toNat_natCast, true_implies, false_implies, implies_true, and_true, true_and, and_self, not_true_eq_false, not_false_eq_true, wa_0, wa_1, il_cmp_o, il_cmp0, il_cmp1, il_cmp2, io_bit1, ibt0, ibt1, ibt00, ibt11, ibt10, ibt01, Int.ofNat_lt, Int.ofNat_le, Int.ofNat_inj, Nat.lt_irrefl, Int.lt_irrefl, Int.toNat_one, Int.toNat_zero, Bool.false_eq_true, reduceIte, reduceCtorEq, Nat.reduceAdd, Nat.reduceMul, Nat.reduceSub, Nat.reduceLT, Nat.reduceLeDiff, Nat.reduceEqDiff, Int.reduceNeg, Int.reduceAdd, Int.reduceMul, Int.reduceSub, Int.reduceLT, Int.reduceLE, Int.reduceEq, Int.reduceToNat, Int.reduceNatCast, icl, ico, inz, Nat.not_lt_zero, he, gu_s]
theorem wp_misWord {M : gg_M} {b e s : Nat} (hs : s < 3) (hV : qt_V M X B) (hbe : b ≤ e) (he : e ≤ B) (hat : M 142 10 = (e : Int)) (hw : M 142 11 = (b : Int)) :
    wp N xs (d + 4) 181 0 [gr 142, gtx s, (3, 0), (3, 0)] [] (gk_R, M, 158, cc, cs) Q ↔ Q ((1, (0, ((qword X b e s).toNat : Int))), (gk_R, M, 158, cc, cs)) := by
  refine wp_det ?_
  obtain ⟨c1, c2, c3, c4⟩ := id hV
  have h5 := gtx_len s
  by_cases e1 : e - b = (gg_tx s).length
  · have e2 : (e : Int) - (b : Int) = ((gg_tx s).length : Int) := by omega
    have hq : qword X b e s = (List.range (gg_tx s).length).all fun k => decide ((X (b + k) : Int) = gch s k) := by
      unfold qword
      rw [decide_eq_true e1, Bool.true_and]
    rw [hq]
    simp (disch := first | assumption | omega | exact il_cqA _ _ | exact il_cqB _ _) only [wi_181_0, wi_181_1, wi_181_4, wi_181_5, wi_181_8, wi_181_9, wi_181_10, wi_181_13, wi_181_16, wi_181_17, wi_181_20, wi_181_21, wi_181_22, wi_181_23, wi_181_25, wi_181_28, wi_181_29, wi_181_30, wi_181_33, wi_181_36, wi_181_37, wi_181_40, wi_181_41, wi_181_44, wi_181_45, wi_181_46, wi_181_47, wi_181_48, wi_181_49, wi_181_52, wi_181_55, wi_181_56, wi_181_59, wi_181_60, wi_181_61, wi_181_64, wi_181_67, wi_181_68, io_add_o, io_sub_o, io_mul_o, io_neg_o, io_and_r, io_or_r, io_xor_r, io_nd_r, io_shr_r, io_shl1, io_i2b_r, io_i2l_o, io_l2i_o, il_add_o, il_sub_o, il_mul_o, il_neg_o, ib_bit, Int.toNat_natCast, true_implies, false_implies, implies_true, and_true, true_and, and_self, not_true_eq_false, not_false_eq_true, wa_0, wa_1, il_cmp_o, il_cmp0, il_cmp1, il_cmp2, io_bit1, ibt0, ibt1, ibt00, ibt11, ibt10, ibt01, Int.ofNat_lt, Int.ofNat_le, Int.ofNat_inj, Nat.lt_irrefl, Int.lt_irrefl, Int.toNat_one, Int.toNat_zero, Bool.false_eq_true, reduceIte, reduceCtorEq, Nat.reduceAdd, Nat.reduceMul, Nat.reduceSub, Nat.reduceLT, Nat.reduceLeDiff, Nat.reduceEqDiff, Int.reduceNeg, Int.reduceAdd, Int.reduceMul, Int.reduceSub, Int.reduceLT, Int.reduceLE, Int.reduceEq, Int.reduceToNat, Int.reduceNatCast, icl, ico, inz, Nat.not_lt_zero, hat, hw, wp_len hs, e2]
    refine wl_i (P := fun i I => (∀ k, k < i → (X (b + k) : Int) = gch s k) → wp N xs (d + 4) 181 24 [gr 142, gtx s, (0, 1), (0, I)] [] (gk_R, M, 158, cc, cs) _) (gg_tx s).length (fun i hi ih hv => ?_) (fun hv => ?_) (fun k hk => absurd hk (Nat.not_lt_zero k))
    · have hx := c4 (b + i) (by omega)
      have hx2 := c3 (b + i)
      have hsb := (qsb_and ⟨X (b + i), by omega⟩).2
      simp only at hsb
      have e3 : ((b : Int) + (i : Int)).toNat = b + i := by omega
      have hg := gch_ok ⟨s, hs⟩ ⟨i, by omega⟩ hi
      simp only at hg
      obtain ⟨_, _, hg3, hg4⟩ := hg
      have hsb2 : qsb (X (b + i)) = gch s i ↔ (X (b + i) : Int) = gch s i := by
        unfold qsb
        split <;> omega
      rw [wi_181_24]
      by_cases e4 : (X (b + i) : Int) = gch s i
      · have e5 := hsb2.2 e4
        simp (disch := first | assumption | omega | exact il_cqA _ _ | exact il_cqB _ _) only [wi_181_0, wi_181_1, wi_181_4, wi_181_5, wi_181_8, wi_181_9, wi_181_10, wi_181_13, wi_181_16, wi_181_17, wi_181_20, wi_181_21, wi_181_22, wi_181_23, wi_181_25, wi_181_28, wi_181_29, wi_181_30, wi_181_33, wi_181_36, wi_181_37, wi_181_40, wi_181_41, wi_181_44, wi_181_45, wi_181_46, wi_181_47, wi_181_48, wi_181_49, wi_181_52, wi_181_55, wi_181_56, wi_181_59, wi_181_60, wi_181_61, wi_181_64, wi_181_67, wi_181_68, io_add_o, io_sub_o, io_mul_o, io_neg_o, io_and_r, io_or_r, io_xor_r, io_nd_r, io_shr_r, io_shl1, io_i2b_r, io_i2l_o, io_l2i_o, il_add_o, il_sub_o, il_mul_o, il_neg_o, ib_bit, Int.toNat_natCast, true_implies, false_implies, implies_true, and_true, true_and, and_self, not_true_eq_false, not_false_eq_true, wa_0, wa_1, il_cmp_o, il_cmp0, il_cmp1, il_cmp2, io_bit1, ibt0, ibt1, ibt00, ibt11, ibt10, ibt01, Int.ofNat_lt, Int.ofNat_le, Int.ofNat_inj, Nat.lt_irrefl, Int.lt_irrefl, Int.toNat_one, Int.toNat_zero, Bool.false_eq_true, reduceIte, reduceCtorEq, Nat.reduceAdd, Nat.reduceMul, Nat.reduceSub, Nat.reduceLT, Nat.reduceLeDiff, Nat.reduceEqDiff, Int.reduceNeg, Int.reduceAdd, Int.reduceMul, Int.reduceSub, Int.reduceLT, Int.reduceLE, Int.reduceEq, Int.reduceToNat, Int.reduceNatCast, icl, ico, inz, Nat.not_lt_zero, hw, wp_len hs, hi, e3, hx, wp_charAt hs hi, e5]
        refine ih fun k hk => ?_
        by_cases e5 : k = i
        · subst e5
          exact e4
        · exact hv k (by omega)
      · have e5 : ¬ qsb (X (b + i)) = gch s i := fun h => e4 (hsb2.1 h)
        have : ((List.range (gg_tx s).length).all fun k => decide ((X (b + k) : Int) = gch s k)) = false := by
          rw [← Bool.not_eq_true, List.all_eq_true]
          intro h
          exact e4 (of_decide_eq_true (h i (List.mem_range.2 hi)))
        rw [this]
        simp (disch := first | assumption | omega | exact il_cqA _ _ | exact il_cqB _ _) only [wi_181_0, wi_181_1, wi_181_4, wi_181_5, wi_181_8, wi_181_9, wi_181_10, wi_181_13, wi_181_16, wi_181_17, wi_181_20, wi_181_21, wi_181_22, wi_181_23, wi_181_25, wi_181_28, wi_181_29, wi_181_30, wi_181_33, wi_181_36, wi_181_37, wi_181_40, wi_181_41, wi_181_44, wi_181_45, wi_181_46, wi_181_47, wi_181_48, wi_181_49, wi_181_52, wi_181_55, wi_181_56, wi_181_59, wi_181_60, wi_181_61, wi_181_64, wi_181_67, wi_181_68, io_add_o, io_sub_o, io_mul_o, io_neg_o, io_and_r, io_or_r, io_xor_r, io_nd_r, io_shr_r, io_shl1, io_i2b_r, io_i2l_o, io_l2i_o, il_add_o, il_sub_o, il_mul_o, il_neg_o, ib_bit, Int.toNat_natCast, true_implies, false_implies, implies_true, and_true, true_and, and_self, not_true_eq_false, not_false_eq_true, wa_0, wa_1, il_cmp_o, il_cmp0, il_cmp1, il_cmp2, io_bit1, ibt0, ibt1, ibt00, ibt11, ibt10, ibt01, Int.ofNat_lt, Int.ofNat_le, Int.ofNat_inj, Nat.lt_irrefl, Int.lt_irrefl, Int.toNat_one, Int.toNat_zero, Bool.false_eq_true, reduceIte, reduceCtorEq, Nat.reduceAdd, Nat.reduceMul, Nat.reduceSub, Nat.reduceLT, Nat.reduceLeDiff, Nat.reduceEqDiff, Int.reduceNeg, Int.reduceAdd, Int.reduceMul, Int.reduceSub, Int.reduceLT, Int.reduceLE, Int.reduceEq, Int.reduceToNat, Int.reduceNatCast, icl, ico, inz, Nat.not_lt_zero, hw, wp_len hs, hi, e3, hx, wp_charAt hs hi, e5]
        rw [wi_181_24]
        simp (disch := first | assumption | omega | exact il_cqA _ _ | exact il_cqB _ _) only [wi_181_0, wi_181_1, wi_181_4, wi_181_5, wi_181_8, wi_181_9, wi_181_10, wi_181_13, wi_181_16, wi_181_17, wi_181_20, wi_181_21, wi_181_22, wi_181_23, wi_181_25, wi_181_28, wi_181_29, wi_181_30, wi_181_33, wi_181_36, wi_181_37, wi_181_40, wi_181_41, wi_181_44, wi_181_45, wi_181_46, wi_181_47, wi_181_48, wi_181_49, wi_181_52, wi_181_55, wi_181_56, wi_181_59, wi_181_60, wi_181_61, wi_181_64, wi_181_67, wi_181_68, io_add_o, io_sub_o, io_mul_o, io_neg_o, io_and_r, io_or_r, io_xor_r, io_nd_r, io_shr_r, io_shl1, io_i2b_r, io_i2l_o, io_l2i_o, il_add_o, il_sub_o, il_mul_o, il_neg_o, ib_bit, Int.toNat_natCast, true_implies, false_implies, implies_true, and_true, true_and, and_self, not_true_eq_false, not_false_eq_true, wa_0, wa_1, il_cmp_o, il_cmp0, il_cmp1, il_cmp2, io_bit1, ibt0, ibt1, ibt00, ibt11, ibt10, ibt01, Int.ofNat_lt, Int.ofNat_le, Int.ofNat_inj, Nat.lt_irrefl, Int.lt_irrefl, Int.toNat_one, Int.toNat_zero, Bool.false_eq_true, reduceIte, reduceCtorEq, Nat.reduceAdd, Nat.reduceMul, Nat.reduceSub, Nat.reduceLT, Nat.reduceLeDiff, Nat.reduceEqDiff, Int.reduceNeg, Int.reduceAdd, Int.reduceMul, Int.reduceSub, Int.reduceLT, Int.reduceLE, Int.reduceEq, Int.reduceToNat, Int.reduceNatCast, icl, ico, inz, Nat.not_lt_zero]
    · have : ((List.range (gg_tx s).length).all fun k => decide ((X (b + k) : Int) = gch s k)) = true := by
        rw [List.all_eq_true]
        intro k hk
        exact decide_eq_true (hv k (List.mem_range.1 hk))
      rw [this]
      rw [wi_181_24]
      simp (disch := first | assumption | omega | exact il_cqA _ _ | exact il_cqB _ _) only [wi_181_0, wi_181_1, wi_181_4, wi_181_5, wi_181_8, wi_181_9, wi_181_10, wi_181_13, wi_181_16, wi_181_17, wi_181_20, wi_181_21, wi_181_22, wi_181_23, wi_181_25, wi_181_28, wi_181_29, wi_181_30, wi_181_33, wi_181_36, wi_181_37, wi_181_40, wi_181_41, wi_181_44, wi_181_45, wi_181_46, wi_181_47, wi_181_48, wi_181_49, wi_181_52, wi_181_55, wi_181_56, wi_181_59, wi_181_60, wi_181_61, wi_181_64, wi_181_67, wi_181_68, io_add_o, io_sub_o, io_mul_o, io_neg_o, io_and_r, io_or_r, io_xor_r, io_nd_r, io_shr_r, io_shl1, io_i2b_r, io_i2l_o, io_l2i_o, il_add_o, il_sub_o, il_mul_o, il_neg_o, ib_bit, Int.toNat_natCast, true_implies, false_implies, implies_true, and_true, true_and, and_self, not_true_eq_false, not_false_eq_true, wa_0, wa_1, il_cmp_o, il_cmp0, il_cmp1, il_cmp2, io_bit1, ibt0, ibt1, ibt00, ibt11, ibt10, ibt01, Int.ofNat_lt, Int.ofNat_le, Int.ofNat_inj, Nat.lt_irrefl, Int.lt_irrefl, Int.toNat_one, Int.toNat_zero, Bool.false_eq_true, reduceIte, reduceCtorEq, Nat.reduceAdd, Nat.reduceMul, Nat.reduceSub, Nat.reduceLT, Nat.reduceLeDiff, Nat.reduceEqDiff, Int.reduceNeg, Int.reduceAdd, Int.reduceMul, Int.reduceSub, Int.reduceLT, Int.reduceLE, Int.reduceEq, Int.reduceToNat, Int.reduceNatCast, icl, ico, inz, Nat.not_lt_zero, wp_len hs]
  · have e2 : ¬ (e : Int) - (b : Int) = ((gg_tx s).length : Int) := by omega
    have hq : qword X b e s = false := by
      unfold qword
      rw [decide_eq_false e1]
      rfl
    rw [hq]
    simp (disch := first | assumption | omega | exact il_cqA _ _ | exact il_cqB _ _) only [wi_181_0, wi_181_1, wi_181_4, wi_181_5, wi_181_8, wi_181_9, wi_181_10, wi_181_13, wi_181_16, wi_181_17, wi_181_20, wi_181_21, wi_181_22, wi_181_23, wi_181_25, wi_181_28, wi_181_29, wi_181_30, wi_181_33, wi_181_36, wi_181_37, wi_181_40, wi_181_41, wi_181_44, wi_181_45, wi_181_46, wi_181_47, wi_181_48, wi_181_49, wi_181_52, wi_181_55, wi_181_56, wi_181_59, wi_181_60, wi_181_61, wi_181_64, wi_181_67, wi_181_68, io_add_o, io_sub_o, io_mul_o, io_neg_o, io_and_r, io_or_r, io_xor_r, io_nd_r, io_shr_r, io_shl1, io_i2b_r, io_i2l_o, io_l2i_o, il_add_o, il_sub_o, il_mul_o, il_neg_o, ib_bit, Int.toNat_natCast, true_implies, false_implies, implies_true, and_true, true_and, and_self, not_true_eq_false, not_false_eq_true, wa_0, wa_1, il_cmp_o, il_cmp0, il_cmp1, il_cmp2, io_bit1, ibt0, ibt1, ibt00, ibt11, ibt10, ibt01, Int.ofNat_lt, Int.ofNat_le, Int.ofNat_inj, Nat.lt_irrefl, Int.lt_irrefl, Int.toNat_one, Int.toNat_zero, Bool.false_eq_true, reduceIte, reduceCtorEq, Nat.reduceAdd, Nat.reduceMul, Nat.reduceSub, Nat.reduceLT, Nat.reduceLeDiff, Nat.reduceEqDiff, Int.reduceNeg, Int.reduceAdd, Int.reduceMul, Int.reduceSub, Int.reduceLT, Int.reduceLE, Int.reduceEq, Int.reduceToNat, Int.reduceNatCast, icl, ico, inz, Nat.not_lt_zero, hat, hw, wp_len hs, e2]
    rw [wi_181_24]
    simp (disch := first | assumption | omega | exact il_cqA _ _ | exact il_cqB _ _) only [wi_181_0, wi_181_1, wi_181_4, wi_181_5, wi_181_8, wi_181_9, wi_181_10, wi_181_13, wi_181_16, wi_181_17, wi_181_20, wi_181_21, wi_181_22, wi_181_23, wi_181_25, wi_181_28, wi_181_29, wi_181_30, wi_181_33, wi_181_36, wi_181_37, wi_181_40, wi_181_41, wi_181_44, wi_181_45, wi_181_46, wi_181_47, wi_181_48, wi_181_49, wi_181_52, wi_181_55, wi_181_56, wi_181_59, wi_181_60, wi_181_61, wi_181_64, wi_181_67, wi_181_68, io_add_o, io_sub_o, io_mul_o, io_neg_o, io_and_r, io_or_r, io_xor_r, io_nd_r, io_shr_r, io_shl1, io_i2b_r, io_i2l_o, io_l2i_o, il_add_o, il_sub_o, il_mul_o, il_neg_o, ib_bit, Int.toNat_natCast, true_implies, false_implies, implies_true, and_true, true_and, and_self, not_true_eq_false, not_false_eq_true, wa_0, wa_1, il_cmp_o, il_cmp0, il_cmp1, il_cmp2, io_bit1, ibt0, ibt1, ibt00, ibt11, ibt10, ibt01, Int.ofNat_lt, Int.ofNat_le, Int.ofNat_inj, Nat.lt_irrefl, Int.lt_irrefl, Int.toNat_one, Int.toNat_zero, Bool.false_eq_true, reduceIte, reduceCtorEq, Nat.reduceAdd, Nat.reduceMul, Nat.reduceSub, Nat.reduceLT, Nat.reduceLeDiff, Nat.reduceEqDiff, Int.reduceNeg, Int.reduceAdd, Int.reduceMul, Int.reduceSub, Int.reduceLT, Int.reduceLE, Int.reduceEq, Int.reduceToNat, Int.reduceNatCast, icl, ico, inz, Nat.not_lt_zero]
theorem wp_numErr {M : gg_M} {lo hi : Int} (he : ¬ M 142 12 = 0) (he1 : -1000 ≤ M 142 12) (he2 : M 142 12 ≤ 1000) :
    wp N xs (d + 2) 182 0 [gr 142, (0, lo), (0, hi), (3, 0)] [] (gk_R, M, 158, cc, cs) Q ↔ Q ((1, (0, lo)), (gk_R, M, 158, cc, cs)) := by
  simp (disch := first | assumption | omega | exact il_cqA _ _ | exact il_cqB _ _) only [wi_182_0, wi_182_1, wi_182_4, wi_182_7, wi_182_8, wi_182_9, wi_182_10, wi_182_13, wi_182_14, wi_182_17, wi_182_20, wi_182_23, wi_182_26, wi_182_27, wi_182_28, wi_182_31, wi_182_32, wi_182_33, wi_182_34, wi_182_36, wi_182_39, wi_182_40, wi_182_43, wi_182_46, wi_182_49, wi_182_52, wi_182_54, wi_182_56, wi_182_57, wi_182_58, wi_182_59, wi_182_62, wi_182_63, wi_182_65, wi_182_66, wi_182_69, wi_182_70, wi_182_71, wi_182_72, wi_182_75, wi_182_76, wi_182_77, wi_182_80, wi_182_83, wi_182_84, wi_182_85, wi_182_86, wi_182_87, wi_182_88, wi_182_89, wi_182_92, wi_182_95, wi_182_96, wi_182_97, wi_182_100, wi_182_101, wi_182_102, wi_182_103, io_add_o, io_sub_o, io_mul_o, io_neg_o, io_and_r, io_or_r, io_xor_r, io_nd_r, io_shr_r, io_shl1, io_i2b_r, io_i2l_o, io_l2i_o, il_add_o, il_sub_o, il_mul_o, il_neg_o, ib_bit, Int.toNat_natCast, true_implies, false_implies, implies_true, and_true, true_and, and_self, not_true_eq_false, not_false_eq_true, wa_0, wa_1, il_cmp_o, il_cmp0, il_cmp1, il_cmp2, io_bit1, ibt0, ibt1, ibt00, ibt11, ibt10, ibt01, Int.ofNat_lt, Int.ofNat_le, Int.ofNat_inj, Nat.lt_irrefl, Int.lt_irrefl, Int.toNat_one, Int.toNat_zero, Bool.false_eq_true, reduceIte, reduceCtorEq, Nat.reduceAdd, Nat.reduceMul, Nat.reduceSub, Nat.reduceLT, Nat.reduceLeDiff, Nat.reduceEqDiff, Int.reduceNeg, Int.reduceAdd, Int.reduceMul, Int.reduceSub, Int.reduceLT, Int.reduceLE, Int.reduceEq, Int.reduceToNat, Int.reduceNatCast, icl, ico, inz, Nat.not_lt_zero, he]
theorem wp_number {M : gg_M} {p : Nat} {lo hi : Int} (hlo : 0 ≤ lo) (hlo2 : lo ≤ 10) (hhi : -1 ≤ hi) (hhi2 : hi ≤ 99) (hV : qt_V M X B) (hp : p ≤ B) (hat : M 142 10 = (p : Int)) (he : M 142 12 = 0)
    (hok : ∀ v e, qnumb X B p lo hi = .ok (v, e) → p < e → e ≤ B → ∀ M' : gg_M, (∀ j, j ≠ 142 → M' j = M j) → (∀ f, f ≠ 10 → f ≠ 11 → M' 142 f = M 142 f) → M' 142 10 = (e : Int) → Q ((1, (0, (v : Int))), (gk_R, M', 158, cc, cs)))
    (herr : ∀ k q, qnumb X B p lo hi = .error (k, q) → ∀ M' : gg_M, (∀ j, j ≠ 142 → M' j = M j) → (∀ f, f ≠ 10 → f ≠ 11 → f ≠ 12 → f ≠ 13 → M' 142 f = M 142 f) → M' 142 12 = (k : Int) → M' 142 13 = (q : Int) → 1 ≤ k → k ≤ 2 → Q ((1, (0, lo)), (gk_R, M', 158, cc, cs))) :
    wp N xs (d + 2) 182 0 [gr 142, (0, lo), (0, hi), (3, 0)] [] (gk_R, M, 158, cc, cs) Q := by
  obtain ⟨hr1, hr⟩ := qws_rg (X := X) hp
  have hB := hV.2.1
  have h255 := hV.2.2.1
  have hrw := qhv_rg (B := B) h255 (qws X B p)
  by_cases e : qws X B p < B ∧ qdi X (qws X B p) = true
  · have e1 : (48 : Int) ≤ qhv X B (qws X B p) ∧ qhv X B (qws X B p) ≤ 57 := qhv_di.2 e
    obtain ⟨q1, q2, q3, q4⟩ := qend_rg (f := qdi X) (B := B) hr
    have hnum : qnumb X B p lo hi = (if lo ≤ (qval X (qws X B p) (qend (qdi X) B (qws X B p) - qws X B p) : Int) ∧ (qval X (qws X B p) (qend (qdi X) B (qws X B p) - qws X B p) : Int) ≤ hi then .ok (qval X (qws X B p) (qend (qdi X) B (qws X B p) - qws X B p), qend (qdi X) B (qws X B p)) else .error (2, qws X B p)) := by
      unfold qnumb
      rw [if_pos e]
    have hlt1 : qws X B p < qend (qdi X) B (qws X B p) := by
      rw [qend_s e.1 e.2]
      have := (qend_rg (f := qdi X) (B := B) (p := qws X B p + 1) (by omega)).1
      omega
    simp (disch := first | assumption | omega | exact il_cqA _ _ | exact il_cqB _ _) only [wi_182_0, wi_182_1, wi_182_4, wi_182_7, wi_182_8, wi_182_9, wi_182_10, wi_182_13, wi_182_14, wi_182_17, wi_182_20, wi_182_23, wi_182_26, wi_182_27, wi_182_28, wi_182_31, wi_182_32, wi_182_33, wi_182_34, wi_182_36, wi_182_39, wi_182_40, wi_182_43, wi_182_46, wi_182_49, wi_182_52, wi_182_54, wi_182_56, wi_182_57, wi_182_58, wi_182_59, wi_182_62, wi_182_63, wi_182_65, wi_182_66, wi_182_69, wi_182_70, wi_182_71, wi_182_72, wi_182_75, wi_182_76, wi_182_77, wi_182_80, wi_182_83, wi_182_84, wi_182_85, wi_182_86, wi_182_87, wi_182_88, wi_182_89, wi_182_92, wi_182_95, wi_182_96, wi_182_97, wi_182_100, wi_182_101, wi_182_102, wi_182_103, io_add_o, io_sub_o, io_mul_o, io_neg_o, io_and_r, io_or_r, io_xor_r, io_nd_r, io_shr_r, io_shl1, io_i2b_r, io_i2l_o, io_l2i_o, il_add_o, il_sub_o, il_mul_o, il_neg_o, ib_bit, Int.toNat_natCast, true_implies, false_implies, implies_true, and_true, true_and, and_self, not_true_eq_false, not_false_eq_true, wa_0, wa_1, il_cmp_o, il_cmp0, il_cmp1, il_cmp2, io_bit1, ibt0, ibt1, ibt00, ibt11, ibt10, ibt01, Int.ofNat_lt, Int.ofNat_le, Int.ofNat_inj, Nat.lt_irrefl, Int.lt_irrefl, Int.toNat_one, Int.toNat_zero, Bool.false_eq_true, reduceIte, reduceCtorEq, Nat.reduceAdd, Nat.reduceMul, Nat.reduceSub, Nat.reduceLT, Nat.reduceLeDiff, Nat.reduceEqDiff, Int.reduceNeg, Int.reduceAdd, Int.reduceMul, Int.reduceSub, Int.reduceLT, Int.reduceLE, Int.reduceEq, Int.reduceToNat, Int.reduceNatCast, icl, ico, inz, Nat.not_lt_zero, he, wp_next _ p M _ hV hp rfl hat, wp_in, if_pos e1]
    obtain ⟨w, hw⟩ : ∃ w, qws X B p = w := ⟨_, rfl⟩
    rw [hw] at e e1 q1 q2 q3 q4 hnum hlt1 hr1 hr ⊢
    have key : ∀ k n (M1 : gg_M), k = qend (qdi X) B w - (w + n) → w + n ≤ qend (qdi X) B w → (∀ j, j ≠ 142 → M1 j = M j) → (∀ f, f ≠ 10 → f ≠ 11 → M1 142 f = M 142 f) → M1 142 10 = ((w + n : Nat) : Int) → M1 142 11 = (w : Int) → wp N xs (d + 2) 182 35 [gr 142, (0, lo), (0, hi), (0, ((min (qval X w n) 10000000 : Nat) : Int))] [] (gk_R, M1, 158, cc, cs) Q := by
      intro k
      induction k with
      | zero =>
        intro n M1 hk hn g1 g2 g3 g4
        have en : w + n = qend (qdi X) B w := by omega
        have hV1 : qt_V M1 X B := qt_V_e hV (g2 9 (by decide) (by decide)) (g1 149 (by decide))
        have en2 : qend (qdi X) B w - w = n := by omega
        rw [en2] at hnum
        have z12 : M1 142 12 = 0 := by rw [g2 12 (by decide) (by decide)]; exact he
        have hrr := qhv_rg (B := B) h255 (w + n)
        have e5 : ¬ ((48 : Int) ≤ qhv X B (w + n) ∧ qhv X B (w + n) ≤ 57) := fun h => by
          have h2 := qhv_di.1 h
          rw [en] at h2
          rw [q3 h2.1] at h2
          cases h2.2
        rw [wi_182_35]
        obtain ⟨V, hV0⟩ : ∃ V, V = min (qval X w n) 10000000 := ⟨_, rfl⟩
        rw [← hV0]
        generalize hwn : w + n = wn at *
        by_cases r1 : lo ≤ (qval X w n : Int) ∧ (qval X w n : Int) ≤ hi
        · rw [if_pos r1] at hnum
          have f1 : lo ≤ (V : Int) ∧ (V : Int) ≤ hi := by omega
          have := hok _ _ hnum (by omega) (by omega) M1 g1 g2 (by rw [g3, en])
          have eV : (V : Int) = (qval X w n : Int) := by omega
          simp (disch := first | assumption | omega | exact il_cqA _ _ | exact il_cqB _ _) only [wi_182_0, wi_182_1, wi_182_4, wi_182_7, wi_182_8, wi_182_9, wi_182_10, wi_182_13, wi_182_14, wi_182_17, wi_182_20, wi_182_23, wi_182_26, wi_182_27, wi_182_28, wi_182_31, wi_182_32, wi_182_33, wi_182_34, wi_182_36, wi_182_39, wi_182_40, wi_182_43, wi_182_46, wi_182_49, wi_182_52, wi_182_54, wi_182_56, wi_182_57, wi_182_58, wi_182_59, wi_182_62, wi_182_63, wi_182_65, wi_182_66, wi_182_69, wi_182_70, wi_182_71, wi_182_72, wi_182_75, wi_182_76, wi_182_77, wi_182_80, wi_182_83, wi_182_84, wi_182_85, wi_182_86, wi_182_87, wi_182_88, wi_182_89, wi_182_92, wi_182_95, wi_182_96, wi_182_97, wi_182_100, wi_182_101, wi_182_102, wi_182_103, io_add_o, io_sub_o, io_mul_o, io_neg_o, io_and_r, io_or_r, io_xor_r, io_nd_r, io_shr_r, io_shl1, io_i2b_r, io_i2l_o, io_l2i_o, il_add_o, il_sub_o, il_mul_o, il_neg_o, ib_bit, Int.toNat_natCast, true_implies, false_implies, implies_true, and_true, true_and, and_self, not_true_eq_false, not_false_eq_true, wa_0, wa_1, il_cmp_o, il_cmp0, il_cmp1, il_cmp2, io_bit1, ibt0, ibt1, ibt00, ibt11, ibt10, ibt01, Int.ofNat_lt, Int.ofNat_le, Int.ofNat_inj, Nat.lt_irrefl, Int.lt_irrefl, Int.toNat_one, Int.toNat_zero, Bool.false_eq_true, reduceIte, reduceCtorEq, Nat.reduceAdd, Nat.reduceMul, Nat.reduceSub, Nat.reduceLT, Nat.reduceLeDiff, Nat.reduceEqDiff, Int.reduceNeg, Int.reduceAdd, Int.reduceMul, Int.reduceSub, Int.reduceLT, Int.reduceLE, Int.reduceEq, Int.reduceToNat, Int.reduceNatCast, icl, ico, inz, Nat.not_lt_zero, wp_here hV1 (show wn ≤ 1000 by omega) g3, wp_in, if_neg e5, if_pos f1]
          rw [eV]
          exact this
        · rw [if_neg r1] at hnum
          have f1 : ¬ (lo ≤ (V : Int) ∧ (V : Int) ≤ hi) := by omega
          have := herr _ _ hnum (gg_up (gg_up M1 142 12 2) 142 13 (M1 142 11)) (fun j hj => by rw [gu_n hj, gu_n hj, g1 j hj]) (fun f a0 a1 a2 a3 => by rw [gu_s a3, gu_s a2, g2 f a0 a1]) (by rw [gu_s (by decide), gu_e]; rfl) (by rw [gu_e]; exact g4) (by decide) (by decide)
          simp (disch := first | assumption | omega | exact il_cqA _ _ | exact il_cqB _ _) only [wi_182_0, wi_182_1, wi_182_4, wi_182_7, wi_182_8, wi_182_9, wi_182_10, wi_182_13, wi_182_14, wi_182_17, wi_182_20, wi_182_23, wi_182_26, wi_182_27, wi_182_28, wi_182_31, wi_182_32, wi_182_33, wi_182_34, wi_182_36, wi_182_39, wi_182_40, wi_182_43, wi_182_46, wi_182_49, wi_182_52, wi_182_54, wi_182_56, wi_182_57, wi_182_58, wi_182_59, wi_182_62, wi_182_63, wi_182_65, wi_182_66, wi_182_69, wi_182_70, wi_182_71, wi_182_72, wi_182_75, wi_182_76, wi_182_77, wi_182_80, wi_182_83, wi_182_84, wi_182_85, wi_182_86, wi_182_87, wi_182_88, wi_182_89, wi_182_92, wi_182_95, wi_182_96, wi_182_97, wi_182_100, wi_182_101, wi_182_102, wi_182_103, io_add_o, io_sub_o, io_mul_o, io_neg_o, io_and_r, io_or_r, io_xor_r, io_nd_r, io_shr_r, io_shl1, io_i2b_r, io_i2l_o, io_l2i_o, il_add_o, il_sub_o, il_mul_o, il_neg_o, ib_bit, Int.toNat_natCast, true_implies, false_implies, implies_true, and_true, true_and, and_self, not_true_eq_false, not_false_eq_true, wa_0, wa_1, il_cmp_o, il_cmp0, il_cmp1, il_cmp2, io_bit1, ibt0, ibt1, ibt00, ibt11, ibt10, ibt01, Int.ofNat_lt, Int.ofNat_le, Int.ofNat_inj, Nat.lt_irrefl, Int.lt_irrefl, Int.toNat_one, Int.toNat_zero, Bool.false_eq_true, reduceIte, reduceCtorEq, Nat.reduceAdd, Nat.reduceMul, Nat.reduceSub, Nat.reduceLT, Nat.reduceLeDiff, Nat.reduceEqDiff, Int.reduceNeg, Int.reduceAdd, Int.reduceMul, Int.reduceSub, Int.reduceLT, Int.reduceLE, Int.reduceEq, Int.reduceToNat, Int.reduceNatCast, icl, ico, inz, Nat.not_lt_zero, wp_here hV1 (show wn ≤ 1000 by omega) g3, wp_in, if_neg e5, if_neg f1, wp_fails z12]
          exact this
      | succ k ih =>
        intro n M1 hk hn g1 g2 g3 g4
        have hV1 : qt_V M1 X B := qt_V_e hV (g2 9 (by decide) (by decide)) (g1 149 (by decide))
        have hq := q4 (w + n) (by omega) (by omega)
        have hltB : w + n < B := by omega
        have e5 : (48 : Int) ≤ qhv X B (w + n) ∧ qhv X B (w + n) ≤ 57 := qhv_di.2 ⟨hltB, hq⟩
        have hhv : qhv X B (w + n) = (X (w + n) : Int) := if_pos hltB
        rw [hhv] at e5
        have hmin := qval_min X w n 10000000 (by omega) (by decide)
        have hnx := ih (n + 1)
        have e8 : ((w + (n + 1) : Nat) : Int) = ((w + n : Nat) : Int) + 1 := by omega
        rw [e8] at hnx
        have e9 : w + (n + 1) = (w + n) + 1 := by omega
        rw [e9] at hnx
        rw [wi_182_35]
        obtain ⟨V, hV0⟩ : ∃ V, V = min (qval X w n) 10000000 := ⟨_, rfl⟩
        rw [← hV0] at hmin ⊢
        rw [← hmin] at hnx
        have hV2 : V ≤ 10000000 := by omega
        generalize hwn : w + n = wn at *
        obtain ⟨c, hc⟩ : ∃ c, X wn = c := ⟨_, rfl⟩
        rw [hc] at hhv e5 hmin hnx
        have hgo : ∀ x : Int, x = ((min (V * 10 + (c - 48)) 10000000 : Nat) : Int) → wp N xs (d + 2) 182 35 [gr 142, (0, lo), (0, hi), (0, x)] [] (gk_R, gg_up M1 142 10 ((wn : Int) + 1), 158, cc, cs) Q := fun x hx => by
          rw [hx]
          exact hnx _ (by omega) (by omega) (fun j hj => by rw [gu_n hj, g1 j hj]) (fun f a0 a1 => by rw [gu_s a0, g2 f a0 a1]) gu_e (by rw [gu_s (by decide)]; exact g4)
        by_cases e6 : (10000000 : Int) ≤ 10 * (V : Int) + (c : Int) - 48
        · simp (disch := first | assumption | omega | exact il_cqA _ _ | exact il_cqB _ _) only [wi_182_0, wi_182_1, wi_182_4, wi_182_7, wi_182_8, wi_182_9, wi_182_10, wi_182_13, wi_182_14, wi_182_17, wi_182_20, wi_182_23, wi_182_26, wi_182_27, wi_182_28, wi_182_31, wi_182_32, wi_182_33, wi_182_34, wi_182_36, wi_182_39, wi_182_40, wi_182_43, wi_182_46, wi_182_49, wi_182_52, wi_182_54, wi_182_56, wi_182_57, wi_182_58, wi_182_59, wi_182_62, wi_182_63, wi_182_65, wi_182_66, wi_182_69, wi_182_70, wi_182_71, wi_182_72, wi_182_75, wi_182_76, wi_182_77, wi_182_80, wi_182_83, wi_182_84, wi_182_85, wi_182_86, wi_182_87, wi_182_88, wi_182_89, wi_182_92, wi_182_95, wi_182_96, wi_182_97, wi_182_100, wi_182_101, wi_182_102, wi_182_103, io_add_o, io_sub_o, io_mul_o, io_neg_o, io_and_r, io_or_r, io_xor_r, io_nd_r, io_shr_r, io_shl1, io_i2b_r, io_i2l_o, io_l2i_o, il_add_o, il_sub_o, il_mul_o, il_neg_o, ib_bit, Int.toNat_natCast, true_implies, false_implies, implies_true, and_true, true_and, and_self, not_true_eq_false, not_false_eq_true, wa_0, wa_1, il_cmp_o, il_cmp0, il_cmp1, il_cmp2, io_bit1, ibt0, ibt1, ibt00, ibt11, ibt10, ibt01, Int.ofNat_lt, Int.ofNat_le, Int.ofNat_inj, Nat.lt_irrefl, Int.lt_irrefl, Int.toNat_one, Int.toNat_zero, Bool.false_eq_true, reduceIte, reduceCtorEq, Nat.reduceAdd, Nat.reduceMul, Nat.reduceSub, Nat.reduceLT, Nat.reduceLeDiff, Nat.reduceEqDiff, Int.reduceNeg, Int.reduceAdd, Int.reduceMul, Int.reduceSub, Int.reduceLT, Int.reduceLE, Int.reduceEq, Int.reduceToNat, Int.reduceNatCast, icl, ico, inz, Nat.not_lt_zero, wp_here hV1 (show wn ≤ 1000 by omega) g3, wp_in, hhv, if_pos e5, e6, g3]
          exact hgo _ (by omega)
        · simp (disch := first | assumption | omega | exact il_cqA _ _ | exact il_cqB _ _) only [wi_182_0, wi_182_1, wi_182_4, wi_182_7, wi_182_8, wi_182_9, wi_182_10, wi_182_13, wi_182_14, wi_182_17, wi_182_20, wi_182_23, wi_182_26, wi_182_27, wi_182_28, wi_182_31, wi_182_32, wi_182_33, wi_182_34, wi_182_36, wi_182_39, wi_182_40, wi_182_43, wi_182_46, wi_182_49, wi_182_52, wi_182_54, wi_182_56, wi_182_57, wi_182_58, wi_182_59, wi_182_62, wi_182_63, wi_182_65, wi_182_66, wi_182_69, wi_182_70, wi_182_71, wi_182_72, wi_182_75, wi_182_76, wi_182_77, wi_182_80, wi_182_83, wi_182_84, wi_182_85, wi_182_86, wi_182_87, wi_182_88, wi_182_89, wi_182_92, wi_182_95, wi_182_96, wi_182_97, wi_182_100, wi_182_101, wi_182_102, wi_182_103, io_add_o, io_sub_o, io_mul_o, io_neg_o, io_and_r, io_or_r, io_xor_r, io_nd_r, io_shr_r, io_shl1, io_i2b_r, io_i2l_o, io_l2i_o, il_add_o, il_sub_o, il_mul_o, il_neg_o, ib_bit, Int.toNat_natCast, true_implies, false_implies, implies_true, and_true, true_and, and_self, not_true_eq_false, not_false_eq_true, wa_0, wa_1, il_cmp_o, il_cmp0, il_cmp1, il_cmp2, io_bit1, ibt0, ibt1, ibt00, ibt11, ibt10, ibt01, Int.ofNat_lt, Int.ofNat_le, Int.ofNat_inj, Nat.lt_irrefl, Int.lt_irrefl, Int.toNat_one, Int.toNat_zero, Bool.false_eq_true, reduceIte, reduceCtorEq, Nat.reduceAdd, Nat.reduceMul, Nat.reduceSub, Nat.reduceLT, Nat.reduceLeDiff, Nat.reduceEqDiff, Int.reduceNeg, Int.reduceAdd, Int.reduceMul, Int.reduceSub, Int.reduceLT, Int.reduceLE, Int.reduceEq, Int.reduceToNat, Int.reduceNatCast, icl, ico, inz, Nat.not_lt_zero, wp_here hV1 (show wn ≤ 1000 by omega) g3, wp_in, hhv, if_pos e5, e6, g3]
          exact hgo _ (by omega)
    exact key _ 0 _ rfl (by omega) (fun j hj => by rw [gu_n hj, gu_n hj]) (fun f a0 a1 => by rw [gu_s a1, gu_s a0]) (by rw [gu_s (by decide), gu_e]; rfl) gu_e
  · have e1 : ¬ ((48 : Int) ≤ qhv X B (qws X B p) ∧ qhv X B (qws X B p) ≤ 57) := fun h => e (qhv_di.1 h)
    have hnum : qnumb X B p lo hi = .error (1, qws X B p) := by
      unfold qnumb
      rw [if_neg e]
    have z12 : gg_up (gg_up M 142 10 (qws X B p : Int)) 142 11 (qws X B p : Int) 142 12 = 0 := by rw [gu_s (by decide), gu_s (by decide)]; exact he
    have := herr _ _ hnum (gg_up (gg_up (gg_up (gg_up M 142 10 (qws X B p : Int)) 142 11 (qws X B p : Int)) 142 12 1) 142 13 (gg_up (gg_up M 142 10 (qws X B p : Int)) 142 11 (qws X B p : Int) 142 11)) (fun j hj => by rw [gu_n hj, gu_n hj, gu_n hj, gu_n hj]) (fun f a0 a1 a2 a3 => by rw [gu_s a3, gu_s a2, gu_s a1, gu_s a0]) (by rw [gu_s (by decide), gu_e]; rfl) (by rw [gu_e, gu_e]) (by decide) (by decide)
    simp (disch := first | assumption | omega | exact il_cqA _ _ | exact il_cqB _ _) only [wi_182_0, wi_182_1, wi_182_4, wi_182_7, wi_182_8, wi_182_9, wi_182_10, wi_182_13, wi_182_14, wi_182_17, wi_182_20, wi_182_23, wi_182_26, wi_182_27, wi_182_28, wi_182_31, wi_182_32, wi_182_33, wi_182_34, wi_182_36, wi_182_39, wi_182_40, wi_182_43, wi_182_46, wi_182_49, wi_182_52, wi_182_54, wi_182_56, wi_182_57, wi_182_58, wi_182_59, wi_182_62, wi_182_63, wi_182_65, wi_182_66, wi_182_69, wi_182_70, wi_182_71, wi_182_72, wi_182_75, wi_182_76, wi_182_77, wi_182_80, wi_182_83, wi_182_84, wi_182_85, wi_182_86, wi_182_87, wi_182_88, wi_182_89, wi_182_92, wi_182_95, wi_182_96, wi_182_97, wi_182_100, wi_182_101, wi_182_102, wi_182_103, io_add_o, io_sub_o, io_mul_o, io_neg_o, io_and_r, io_or_r, io_xor_r, io_nd_r, io_shr_r, io_shl1, io_i2b_r, io_i2l_o, io_l2i_o, il_add_o, il_sub_o, il_mul_o, il_neg_o, ib_bit, Int.toNat_natCast, true_implies, false_implies, implies_true, and_true, true_and, and_self, not_true_eq_false, not_false_eq_true, wa_0, wa_1, il_cmp_o, il_cmp0, il_cmp1, il_cmp2, io_bit1, ibt0, ibt1, ibt00, ibt11, ibt10, ibt01, Int.ofNat_lt, Int.ofNat_le, Int.ofNat_inj, Nat.lt_irrefl, Int.lt_irrefl, Int.toNat_one, Int.toNat_zero, Bool.false_eq_true, reduceIte, reduceCtorEq, Nat.reduceAdd, Nat.reduceMul, Nat.reduceSub, Nat.reduceLT, Nat.reduceLeDiff, Nat.reduceEqDiff, Int.reduceNeg, Int.reduceAdd, Int.reduceMul, Int.reduceSub, Int.reduceLT, Int.reduceLE, Int.reduceEq, Int.reduceToNat, Int.reduceNatCast, icl, ico, inz, Nat.not_lt_zero, he, wp_next _ p M _ hV hp rfl hat, wp_in, if_neg e1, wp_fails z12]
    exact this
end SG
