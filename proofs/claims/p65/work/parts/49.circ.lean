/-! ranks, circuits, cycles -/
/-- balanced components; components; rank; size -/
def qev (G : q_G) (s : Nat) : Nat := pev (qN G) (qPs G s)
def qnu (G : q_G) (s : Nat) : Nat := pnum (qN G) (qPs G s)
def qrk (G : q_G) (s : Nat) : Nat := qN G - qev G s
def qsz (G : q_G) (s : Nat) : Nat := qcnt s.testBit (qK G)
/-! sums -/
theorem qcnt_0 {f : Nat → Bool} {n : Nat} (h : ∀ i, i < n → f i = false) : qcnt f n = 0 := by
  induction n with
  | zero => rfl
  | succ n ih =>
    unfold qcnt
    rw [ih fun i hi => h i (by omega), h n (by omega)]
    rfl
