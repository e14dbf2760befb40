/-! the lightest basis: arc by arc, by weight, then by number -/
/-- the lightest arc not seen yet, among those before n -/
def qlt (G : q_G) (seen : Nat) : Nat → Nat × Nat
  | 0 => (0, 100)
  | a + 1 => if seen.testBit a = false ∧ qW G a < (qlt G seen a).2 then (a, qW G a) else qlt G seen a
/-- one more arc, if the basis stays independent -/
def qtake (G : q_G) (b a : Nat) : Nat := if qfr G (b ||| 2 ^ a) then b ||| 2 ^ a else b
/-- the class: seen, basis -/
def qlb (G : q_G) : Nat → Nat × Nat
  | 0 => (0, 0)
  | r + 1 => ((qlb G r).1 ||| 2 ^ (qlt G (qlb G r).1 (qK G)).1, qtake G (qlb G r).2 (qlt G (qlb G r).1 (qK G)).1)
/-- the model: a row of arcs of a weight -/
def qmw (G : q_G) (w b : Nat) : Nat → Nat
  | 0 => b
  | a + 1 => if qW G a = w then qtake G (qmw G w b a) a else qmw G w b a
def qmb (G : q_G) : Nat → Nat
  | 0 => 0
  | w + 1 => qmw G w (qmb G w) (qK G)
theorem qlt_spec {G : q_G} (hG : q_ok G) (seen : Nat) {n : Nat} (hn : n ≤ qK G) : ((qlt G seen n).2 = 100 ∧ ∀ x, x < n → seen.testBit x = true) ∨ ((qlt G seen n).1 < n ∧ seen.testBit (qlt G seen n).1 = false ∧ (qlt G seen n).2 = qW G (qlt G seen n).1 ∧ (qlt G seen n).2 ≤ 99 ∧ ∀ x, x < n → seen.testBit x = false → qW G (qlt G seen n).1 < qW G x ∨ (qW G (qlt G seen n).1 = qW G x ∧ (qlt G seen n).1 ≤ x)) := by
  induction n with
  | zero => exact Or.inl ⟨rfl, fun x hx => absurd hx (Nat.not_lt_zero x)⟩
  | succ n ih =>
    have h := ih (by omega)
    have hw := (hG.2.1 n (by omega)).2.2.2
    unfold qlt
    split
    · rename_i e
      refine Or.inr ⟨by show n < n + 1; omega, e.1, rfl, hw, fun x hx hs => ?_⟩
      show qW G n < qW G x ∨ qW G n = qW G x ∧ n ≤ x
      by_cases e2 : x = n
      · subst e2
        exact Or.inr ⟨rfl, Nat.le_refl _⟩
      · rcases h with ⟨_, h2⟩ | ⟨h1, h2, h3, h4, h5⟩
        · rw [h2 x (by omega)] at hs
          cases hs
        · have := h5 x (by omega) hs
          omega
    · rename_i e
      rcases h with ⟨h1, h2⟩ | ⟨h1, h2, h3, h4, h5⟩
      · refine Or.inl ⟨h1, fun x hx => ?_⟩
        by_cases e2 : x = n
        · subst e2
          cases e3 : seen.testBit x with
          | true => rfl
          | false => exact absurd ⟨e3, by omega⟩ e
        · exact h2 x (by omega)
      · refine Or.inr ⟨by omega, h2, h3, h4, fun x hx hs => ?_⟩
        by_cases e2 : x = n
        · subst e2
          have : ¬ qW G x < (qlt G seen x).2 := fun y => e ⟨hs, y⟩
          omega
        · exact h5 x (by omega) hs
/-- the arcs before weight w and number a -/
def qbf (G : q_G) (w a x : Nat) : Bool := decide (qW G x < w) || (decide (qW G x = w) && decide (x < a))
theorem qlb_inv {G : q_G} (hG : q_ok G) (w : Nat) (b0 : Nat) (hb0 : ∃ r, (qlb G r).2 = b0 ∧ (∀ x, x < qK G → (qlb G r).1.testBit x = qbf G w 0 x) ∧ r = qcnt (qbf G w 0) (qK G)) (a : Nat) (ha : a ≤ qK G) : ∃ r, (qlb G r).2 = qmw G w b0 a ∧ (∀ x, x < qK G → (qlb G r).1.testBit x = qbf G w a x) ∧ r = qcnt (qbf G w a) (qK G) := by
  induction a with
  | zero => exact hb0
  | succ a ih =>
    obtain ⟨r, h1, h2, h3⟩ := ih (by omega)
    by_cases e : qW G a = w
    · have hlt : (qlt G (qlb G r).1 (qK G)).1 = a := by
        have hu : (qlb G r).1.testBit a = false := by
          rw [h2 a (by omega)]
          simp [qbf, e]
        rcases qlt_spec hG (qlb G r).1 (Nat.le_refl _) with ⟨_, g2⟩ | ⟨g1, g2, g3, g4, g5⟩
        · rw [g2 a (by omega)] at hu
          cases hu
        · have g6 := g5 a (by omega) hu
          have g7 := h2 _ g1
          rw [g2] at g7
          have g8 : ¬ (qW G (qlt G (qlb G r).1 (qK G)).1 < w ∨ qW G (qlt G (qlb G r).1 (qK G)).1 = w ∧ (qlt G (qlb G r).1 (qK G)).1 < a) := by
            intro h
            have : qbf G w a (qlt G (qlb G r).1 (qK G)).1 = true := by
              simp only [qbf, Bool.or_eq_true, Bool.and_eq_true, decide_eq_true_eq]
              exact h
            rw [this] at g7
            cases g7
          omega
      refine ⟨r + 1, ?_, fun x hx => ?_, ?_⟩
      · rw [qlb, qmw, hlt, h1, if_pos e]
      · rw [qlb, hlt]
        show ((qlb G r).1 ||| 2 ^ a).testBit x = _
        rw [Nat.testBit_or, Nat.testBit_two_pow, h2 x hx]
        unfold qbf
        by_cases e2 : a = x
        · subst e2
          simp [e]
        · by_cases e3 : x < a
          · simp [e2, e3, show x < a + 1 by omega]
          · simp [e2, e3, show ¬ x < a + 1 by omega]
      · have h4 := qcnt_up (f := qbf G w a) (g := qbf G w (a + 1)) (n := qK G) (j := a) (by omega) (fun i _ hi => by
          unfold qbf
          by_cases e3 : i < a
          · simp [e3, show i < a + 1 by omega]
          · simp [e3, show ¬ i < a + 1 by omega])
        have h5 : qbf G w a a = false := by simp [qbf, e]
        have h6 : qbf G w (a + 1) a = true := by simp [qbf, e]
        rw [h5, h6] at h4
        simp at h4
        omega
    · have h4 : ∀ x, qbf G w (a + 1) x = qbf G w a x := by
        intro x
        unfold qbf
        by_cases e2 : x = a
        · subst e2
          simp [e]
        · by_cases e3 : x < a
          · simp [e3, show x < a + 1 by omega]
          · simp [e3, show ¬ x < a + 1 by omega]
      refine ⟨r, ?_, fun x hx => ?_, ?_⟩
      · rw [qmw, if_neg e, h1]
      · rw [h4, h2 x hx]
      · rw [h3, qcnt_congr fun x _ => (h4 x).symm]
theorem qlb_mb {G : q_G} (hG : q_ok G) (w : Nat) : ∃ r, (qlb G r).2 = qmb G w ∧ (∀ x, x < qK G → (qlb G r).1.testBit x = qbf G w 0 x) ∧ r = qcnt (qbf G w 0) (qK G) := by
  induction w with
  | zero =>
    refine ⟨0, rfl, fun x _ => ?_, ?_⟩
    · show (0 : Nat).testBit x = _
      rw [Nat.zero_testBit]
      simp [qbf]
    · rw [qcnt_0 fun x _ => by simp [qbf]]
  | succ w ih =>
    obtain ⟨r, h1, h2, h3⟩ := qlb_inv hG w (qmb G w) ih (qK G) (Nat.le_refl _)
    have h4 : ∀ x, x < qK G → qbf G (w + 1) 0 x = qbf G w (qK G) x := by
      intro x hx
      unfold qbf
      by_cases e : qW G x = w
      · simp [e, hx]
      · by_cases e2 : qW G x < w
        · simp [e2, show qW G x < w + 1 by omega]
        · simp [e, e2, show ¬ qW G x < w + 1 by omega]
    refine ⟨r, h1, fun x hx => ?_, ?_⟩
    · rw [h4 x hx, h2 x hx]
    · rw [h3, qcnt_congr fun x hx => (h4 x hx).symm]
/-- both come to one basis -/
theorem qlb_eq {G : q_G} (hG : q_ok G) : (qlb G (qK G)).2 = qmb G 100 := by
  obtain ⟨r, h1, _, h3⟩ := qlb_mb hG 100
  rw [qcnt_all fun x hx => by
    have := (hG.2.1 x hx).2.2.2
    simp [qbf, show qW G x < 100 by omega]] at h3
  rw [← h3]
  exact h1
theorem qtake_lt {G : q_G} {b a n : Nat} (hb : b < 2 ^ n) (ha : a < n) : qtake G b a < 2 ^ n := by
  unfold qtake
  split
  · exact Nat.or_lt_two_pow hb (Nat.pow_lt_pow_right (by decide) ha)
  · exact hb
