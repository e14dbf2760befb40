/-! the arcs that join decide the potentials -/
/-- the forest among the arcs before a -/
def qfo (G : q_G) : Nat → Nat
  | 0 => 0
  | a + 1 => qfo G a ||| (if pl (qPs G (qfo G a)) (qF G a) = pl (qPs G (qfo G a)) (qT G a) then 0 else 2 ^ a)
theorem qfo_lt (G : q_G) (a : Nat) : qfo G a < 2 ^ a := by
  induction a with
  | zero => exact Nat.one_pos
  | succ a ih =>
    unfold qfo
    refine Nat.or_lt_two_pow (Nat.lt_of_lt_of_le ih (Nat.pow_le_pow_right (by decide) (by omega))) ?_
    split
    · exact Nat.two_pow_pos _
    · exact Nat.pow_lt_pow_right (by decide) (by omega)
theorem ps_end {G : q_G} {s a : Nat} (h : ∀ i, a ≤ i → s.testBit i = false) (k : Nat) : ps G s (a + k) = ps G s a := by
  induction k with
  | zero => rfl
  | succ k ih =>
    show (if s.testBit (a + k) then _ else ps G s (a + k)) = _
    rw [h (a + k) (by omega), if_neg (by decide), ih]
theorem qfo_bit {G : q_G} {a i : Nat} (h : a ≤ i) : (qfo G a).testBit i = false := Nat.testBit_lt_two_pow (Nat.lt_of_lt_of_le (qfo_lt G a) (Nat.pow_le_pow_right (by decide) h))
theorem qPs_fo {G : q_G} {a : Nat} (ha : a ≤ qK G) : qPs G (qfo G a) = ps G (qfo G a) a := by
  unfold qPs
  have := ps_end (G := G) (s := qfo G a) (a := a) (fun i hi => qfo_bit hi) (qK G - a)
  rw [show a + (qK G - a) = qK G by omega] at this
  exact this
/-- the lowest vertices and potentials of two states are the same -/
def qsame (P P' : q_P) : Prop := (∀ v, pl P v = pl P' v) ∧ ∀ v, ph P v = ph P' v
theorem qsame_j {G : q_G} {P P' : q_P} (h : qsame P P') (a : Nat) : qsame (pj G P a) (pj G P' a) := by
  have e : plk G P a = plk G P' a := by
    unfold plk
    rw [h.2, h.2]
  unfold pj
  rw [h.1, h.1, e]
  split
  · exact h
  · split
    · exact ⟨fun v => by rw [pl_mg, pl_mg, h.1], fun v => by rw [ph_mg, ph_mg, h.1, h.2]⟩
    · exact ⟨fun v => by rw [pl_mg, pl_mg, h.1], fun v => by rw [ph_mg, ph_mg, h.1, h.2]⟩
theorem qsame_in {G : q_G} {P : q_P} {a : Nat} (h : pl P (qF G a) = pl P (qT G a)) : qsame (pj G P a) P := by
  unfold pj
  rw [if_pos h]
  exact ⟨fun _ => rfl, fun _ => rfl⟩
theorem qfo_same {G : q_G} {a : Nat} (ha : a ≤ qK G) : qsame (ps G (qU G) a) (ps G (qfo G a) a) := by
  induction a with
  | zero => exact ⟨fun _ => rfl, fun _ => rfl⟩
  | succ a ih =>
    have h := ih (by omega)
    have hb : (qU G).testBit a = true := by rw [qU_bit]; exact decide_eq_true (by omega)
    have e1 : ps G (qU G) (a + 1) = pj G (ps G (qU G) a) a := by
      rw [ps, if_pos hb]
    have hP := qPs_fo (G := G) (a := a) (by omega)
    have e2 : ps G (qfo G (a + 1)) a = ps G (qfo G a) a := ps_congr fun i hi => by
      rw [qfo, Nat.testBit_or]
      split
      · rw [Nat.zero_testBit, Bool.or_false]
      · rw [Nat.testBit_two_pow, decide_eq_false (by omega : ¬ a = i), Bool.or_false]
    rw [e1, ps, e2]
    by_cases e : pl (qPs G (qfo G a)) (qF G a) = pl (qPs G (qfo G a)) (qT G a)
    · have e3 : (qfo G (a + 1)).testBit a = false := by
        rw [qfo, if_pos e, Nat.testBit_or, qfo_bit (Nat.le_refl a), Nat.zero_testBit]
        rfl
      rw [e3, if_neg (by decide)]
      have e4 : pl (ps G (qU G) a) (qF G a) = pl (ps G (qU G) a) (qT G a) := by
        rw [h.1, h.1, ← hP]
        exact e
      have h5 := qsame_in (G := G) e4
      exact ⟨fun v => by rw [h5.1, h.1], fun v => by rw [h5.2, h.2]⟩
    · have e3 : (qfo G (a + 1)).testBit a = true := by
        rw [qfo, if_neg e, Nat.testBit_or, Nat.testBit_two_pow, decide_eq_true rfl, Bool.or_true]
      rw [e3, if_pos rfl]
      exact qsame_j h a
/-- the gain of an arc when the forest's arcs have none -/
def qrest (G : q_G) (a : Nat) : Nat := qmi (qM G) (qpl (qM G) (ph (qPs G (qU G)) (qF G a)) (qA G a)) (ph (qPs G (qU G)) (qT G a))
theorem qrest_eq {G : q_G} (a : Nat) : qrest G a = qmi (qM G) (qpl (qM G) (ph (qPs G (qfo G (qK G))) (qF G a)) (qA G a)) (ph (qPs G (qfo G (qK G))) (qT G a)) := by
  have h := qfo_same (G := G) (Nat.le_refl _)
  unfold qrest
  rw [show qPs G (qU G) = ps G (qU G) (qK G) from rfl, h.2, h.2]
  rfl
