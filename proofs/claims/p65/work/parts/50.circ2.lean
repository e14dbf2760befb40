/-! circuits and their kinds -/
def qfr (G : q_G) (s : Nat) : Bool := decide (qrk G s = qsz G s)
theorem qev_le (G : q_G) (s : Nat) : qev G s ≤ qN G := pev_le _ _
