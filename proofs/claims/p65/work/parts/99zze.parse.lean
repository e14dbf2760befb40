/-! the law's text, read back (no machine in it) -/
def At (X : Nat → Nat) (B p : Nat) (r : List Nat) : Prop := p + r.length = B ∧ ∀ j, j < r.length → X (p + j) = r.getD j 0
section PA
variable {X : Nat → Nat} {B p : Nat} {r u : List Nat} {c : Nat}
theorem At.hd (h : At X B p (c :: r)) : p < B ∧ X p = c ∧ At X B (p + 1) r := by
  obtain ⟨h1, h2⟩ := h
  rw [List.length_cons] at h1 h2
  refine ⟨by omega, h2 0 (by omega), by omega, fun j hj => ?_⟩
  have := h2 (j + 1) (by omega)
  rw [show p + 1 + j = p + (j + 1) by omega, this]
  rfl
theorem At.nil (h : At X B p []) : p = B := h.1
theorem sp_no (h : At X B p (c :: r)) (hc : c ≠ 32) : qws X B p = p := qend_f (by unfold qsp; rw [h.hd.2.1]; exact decide_eq_false hc)
theorem sp_one (h : At X B p (32 :: c :: r)) (hc : c ≠ 32) : qws X B p = p + 1 := by
  obtain ⟨a1, a2, a3⟩ := h.hd
  have : qws X B p = qws X B (p + 1) := qend_s a1 (by unfold qsp; rw [a2]; rfl)
  rw [this, sp_no a3 hc]
theorem sp_end (h : At X B p []) : qws X B p = p := qend_B (by rw [h.nil]; exact Nat.le_refl _)
/-- no digit stands in front -/
def nd (r : List Nat) : Prop := ∀ c r', r = c :: r' → ¬ (48 ≤ c ∧ c ≤ 57)
theorem di_no (h : At X B p r) (hr : nd r) : qend (qdi X) B p = p := by
  cases r with
  | nil => exact qend_B (by rw [h.nil]; exact Nat.le_refl _)
  | cons c r =>
    refine qend_f ?_
    unfold qdi
    rw [h.hd.2.1]
    have := hr c r rfl
    by_cases h1 : 48 ≤ c
    · rw [decide_eq_false (show ¬ c ≤ 57 by omega), Bool.and_false]
    · rw [decide_eq_false h1, Bool.false_and]
theorem di_yes {p : Nat} (h : X p = c) (h1 : 48 ≤ c) (h2 : c ≤ 57) : qdi X p = true := by
  unfold qdi
  rw [h, decide_eq_true h1, decide_eq_true h2]
  rfl
/-- a number -/
theorem num_at {i : Nat} {lo up : Int} {p q : Nat} (hq : qws X B p = q) (h : At X B q (dig i ++ r)) (hi : i < 100) (hr : nd r) (h1 : lo ≤ (i : Int)) (h2 : (i : Int) ≤ up) : qnumb X B p lo up = .ok (i, q + (dig i).length) ∧ At X B (q + (dig i).length) r ∧ qdi X q = true ∧ q < B := by
  have key : q < B ∧ qdi X q = true ∧ qend (qdi X) B q = q + (dig i).length ∧ qval X q (dig i).length = i ∧ At X B (q + (dig i).length) r := by
    unfold dig at h ⊢
    by_cases h10 : i < 10
    · rw [if_pos h10] at h ⊢
      obtain ⟨a1, a2, a3⟩ := At.hd (r := r) h
      have y1 := di_yes a2 (by omega) (by omega)
      refine ⟨a1, y1, ?_, ?_, a3⟩
      · rw [qend_s a1 y1]
        exact di_no a3 hr
      · show 0 * 10 + (X (q + 0) - 48) = i
        rw [Nat.add_zero, a2]
        omega
    · rw [if_neg h10] at h ⊢
      obtain ⟨a1, a2, a3⟩ := At.hd (r := (48 + i % 10) :: r) h
      obtain ⟨b1, b2, b3⟩ := a3.hd
      have y1 := di_yes a2 (by omega) (by omega)
      have y2 := di_yes b2 (by omega) (by omega)
      refine ⟨a1, y1, ?_, ?_, b3⟩
      · rw [qend_s a1 y1, qend_s b1 y2]
        exact di_no b3 hr
      · show (0 * 10 + (X (q + 0) - 48)) * 10 + (X (q + 1) - 48) = i
        rw [Nat.add_zero, a2, b2]
        omega
  obtain ⟨k1, k2, k3, k4, k5⟩ := key
  refine ⟨?_, k5, k2, k1⟩
  unfold qnumb
  rw [hq, if_pos ⟨k1, k2⟩, k3, Nat.add_sub_cancel_left, k4, if_pos ⟨h1, h2⟩]
/-- the head of a number -/
theorem dig_hd (i : Nat) (hi : i < 100) : ∃ c d, dig i = c :: d ∧ 48 ≤ c ∧ c ≤ 57 := by
  unfold dig
  split
  · exact ⟨_, _, rfl, by omega, by omega⟩
  · exact ⟨_, _, rfl, by omega, by omega⟩
/-- a number behind a space -/
theorem num_sp {i : Nat} {lo up : Int} {p : Nat} (h : At X B p (32 :: (dig i ++ r))) (hi : i < 100) (hr : nd r) (h1 : lo ≤ (i : Int)) (h2 : (i : Int) ≤ up) : qnumb X B p lo up = .ok (i, p + 1 + (dig i).length) ∧ At X B (p + 1 + (dig i).length) r ∧ qws X B p = p + 1 ∧ qdi X (p + 1) = true ∧ p + 1 < B := by
  obtain ⟨c, e, hd, c1, c2⟩ := dig_hd i hi
  have hq : qws X B p = p + 1 := by
    rw [hd] at h
    exact sp_one (c := c) (r := e ++ r) h (by omega)
  obtain ⟨k1, k2, k3, k4⟩ := num_at hq h.hd.2.2 hi hr h1 h2
  exact ⟨k1, k2, hq, k3, k4⟩
theorem le_s {p : Nat} (h : At X B p (c :: r)) (h1 : 97 ≤ c) (h2 : c ≤ 122) : qend (qle X) B p = qend (qle X) B (p + 1) := qend_s h.hd.1 (by
  unfold qle
  rw [h.hd.2.1, decide_eq_true h1, decide_eq_true h2]
  rfl)
theorem le_f {p : Nat} (h : At X B p (32 :: r)) : qend (qle X) B p = p := qend_f (by
  unfold qle
  rw [h.hd.2.1]
  rfl)
theorem w_arc {p q : Nat} (hq : qws X B p = q) (h : At X B q (97 :: 114 :: 99 :: 32 :: r)) : qwe X B p = q + 3 ∧ qword X q (q + 3) 1 = true ∧ At X B (q + 3) (32 :: r) := by
  obtain ⟨a1, a2, a3⟩ := h.hd
  obtain ⟨b1, b2, b3⟩ := a3.hd
  obtain ⟨c1, c2, c3⟩ := b3.hd
  refine ⟨?_, ?_, c3⟩
  · unfold qwe
    rw [hq, le_s h (by decide) (by decide), le_s a3 (by decide) (by decide), le_s b3 (by decide) (by decide), le_f c3]
  · show (decide (q + 3 - q = 3) && ([0, 1, 2].all fun k => decide ((X (q + k) : Int) = gch 1 k))) = true
    rw [Nat.add_sub_cancel_left]
    have e0 : ((X (q + 0) : Nat) : Int) = gch 1 0 := by rw [Nat.add_zero, a2]; decide
    have e1 : ((X (q + 1) : Nat) : Int) = gch 1 1 := by rw [b2]; decide
    have e2 : ((X (q + 2) : Nat) : Int) = gch 1 2 := by rw [show q + 2 = q + 1 + 1 from rfl, c2]; decide
    simp [List.all, e0, e1, e2]
    rw [a2]
    decide
theorem w_mark {p q : Nat} (hq : qws X B p = q) (h : At X B q (109 :: 97 :: 114 :: 107 :: 32 :: r)) : qwe X B p = q + 4 ∧ qword X q (q + 4) 1 = false ∧ qword X q (q + 4) 2 = true ∧ At X B (q + 4) (32 :: r) := by
  obtain ⟨a1, a2, a3⟩ := h.hd
  obtain ⟨b1, b2, b3⟩ := a3.hd
  obtain ⟨c1, c2, c3⟩ := b3.hd
  obtain ⟨d1, d2, d3⟩ := c3.hd
  refine ⟨?_, ?_, ?_, d3⟩
  · unfold qwe
    rw [hq, le_s h (by decide) (by decide), le_s a3 (by decide) (by decide), le_s b3 (by decide) (by decide), le_s c3 (by decide) (by decide), le_f d3]
  · unfold qword
    rw [Nat.add_sub_cancel_left]
    rfl
  · show (decide (q + 4 - q = 4) && ([0, 1, 2, 3].all fun k => decide ((X (q + k) : Int) = gch 2 k))) = true
    rw [Nat.add_sub_cancel_left]
    have e0 : ((X (q + 0) : Nat) : Int) = gch 2 0 := by rw [Nat.add_zero, a2]; decide
    have e1 : ((X (q + 1) : Nat) : Int) = gch 2 1 := by rw [b2]; decide
    have e2 : ((X (q + 2) : Nat) : Int) = gch 2 2 := by rw [show q + 2 = q + 1 + 1 from rfl, c2]; decide
    have e3 : ((X (q + 3) : Nat) : Int) = gch 2 3 := by rw [show q + 3 = q + 1 + 1 + 1 from rfl, d2]; decide
    simp [List.all, e0, e1, e2, e3]
    rw [a2]
    decide
theorem w_graph (h : At X B 0 (103 :: 114 :: 97 :: 112 :: 104 :: 32 :: r)) : qwe X B 0 = 5 ∧ qword X (qws X B 0) 5 0 = true ∧ At X B 5 (32 :: r) := by
  have hq : qws X B 0 = 0 := sp_no h (by decide)
  obtain ⟨a1, a2, a3⟩ := h.hd
  obtain ⟨b1, b2, b3⟩ := a3.hd
  obtain ⟨c1, c2, c3⟩ := b3.hd
  obtain ⟨d1, d2, d3⟩ := c3.hd
  obtain ⟨e1, e2, e3⟩ := d3.hd
  refine ⟨?_, ?_, e3⟩
  · unfold qwe
    rw [hq, le_s h (by decide) (by decide), le_s a3 (by decide) (by decide), le_s b3 (by decide) (by decide), le_s c3 (by decide) (by decide), le_s d3 (by decide) (by decide), le_f e3]
  · rw [hq]
    show (decide (5 - 0 = 5) && ([0, 1, 2, 3, 4].all fun k => decide ((X (0 + k) : Int) = gch 0 k))) = true
    have f0 : ((X (0 + 0) : Nat) : Int) = gch 0 0 := by rw [Nat.add_zero, a2]; decide
    have f1 : ((X (0 + 1) : Nat) : Int) = gch 0 1 := by rw [b2]; decide
    have f2 : ((X (0 + 2) : Nat) : Int) = gch 0 2 := by rw [show 0 + 2 = 0 + 1 + 1 from rfl, c2]; decide
    have f3 : ((X (0 + 3) : Nat) : Int) = gch 0 3 := by rw [show 0 + 3 = 0 + 1 + 1 + 1 from rfl, d2]; decide
    have f4 : ((X (0 + 4) : Nat) : Int) = gch 0 4 := by rw [show 0 + 4 = 0 + 1 + 1 + 1 + 1 from rfl, e2]; decide
    rw [List.all_eq_true.2]
    · rfl
    · intro k hk
      refine decide_eq_true ?_
      have : k = 0 ∨ k = 1 ∨ k = 2 ∨ k = 3 ∨ k = 4 := by simpa using hk
      rcases this with rfl | rfl | rfl | rfl | rfl <;> assumption
end PA
