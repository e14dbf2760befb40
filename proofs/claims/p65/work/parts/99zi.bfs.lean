/-! the law's way through a component: from its lowest vertex on; what it comes to (no machine in it) -/
def bX (G : q_G) (a way : Nat) : Nat := if way = 0 then qF G a else qT G a
def bY (G : q_G) (a way : Nat) : Nat := if way = 0 then qT G a else qF G a
def bD (G : q_G) (po : Nat → Nat) (u a way : Nat) : Nat := if way = 0 then qpl (qM G) (po u) (qA G a) else qmi (qM G) (po u) (qA G a)
def bI (G : q_G) (s v l : Nat) (r : Nat → Nat) (rb : Nat → Bool) (po : Nat → Nat) (bal : Bool) : Prop :=
  (1 ≤ l ∧ r 0 = v) ∧ (∀ i, i < l → r i < qN G ∧ pl (qPs G s) (r i) = v ∧ po (r i) < qM G) ∧ (∀ u, rb u = true ↔ ∃ i, i < l ∧ r i = u) ∧ qcnt rb (qN G) = l ∧ (pb (qPs G s) v = true → ∀ i, i < l → po (r i) = ph (qPs G s) (r i)) ∧ (bal = false → pb (qPs G s) v = false) ∧ ∀ u, v < pl (qPs G s) u → po u = 0
def bT (G : q_G) (s : Nat) (rb : Nat → Bool) (po : Nat → Nat) (bal : Bool) (u a way : Nat) : Prop := s.testBit a = true → bX G a way = u → rb (bY G a way) = true ∧ (bal = true → po (bY G a way) = bD G po u a way)
section BF
variable {G : q_G} {s v l : Nat} {r : Nat → Nat} {rb : Nat → Bool} {po : Nat → Nat} {bal : Bool}
theorem bE (G : q_G) (s : Nat) : p_r G (fun b => b < qK G ∧ s.testBit b = true) (qPs G s) := p_r_s G s (Nat.le_refl _)
theorem qcnt_f (n : Nat) : qcnt (fun _ => false) n = 0 := by
  induction n with
  | zero => rfl
  | succ n ih => exact ih
theorem bI.start (hG : q_ok G) (hv : v < qN G) (hl : pl (qPs G s) v = v) (h0 : ∀ u, v ≤ pl (qPs G s) u → po u = 0) : bI G s v 1 (fun _ => v) (fun u => decide (u = v)) po true := by
  have hok := p_r_ok hG (bE G s)
  have hpv : po v = 0 := h0 v (by omega)
  refine ⟨⟨Nat.le_refl _, rfl⟩, fun i _ => ⟨hv, hl, ?_⟩, fun u => ?_, ?_, fun _ i _ => ?_, fun h => absurd h (by decide), fun u hu => h0 u (by omega)⟩
  · have := hG.1.2.2.1
    show po v < qM G
    omega
  · refine ⟨fun h => ⟨0, by decide, (of_decide_eq_true h).symm⟩, fun h => ?_⟩
    obtain ⟨i, _, h⟩ := h
    exact decide_eq_true h.symm
  · have h := qcnt_up (f := fun u => decide (u = v)) (g := fun _ => false) hv fun i _ hi => decide_eq_false hi
    rw [qcnt_f] at h
    simp at h
    exact h
  · have := (hok v).2.2.2
    rw [hl] at this
    show po v = ph _ v
    omega
/-- the two ends stand together -/
theorem bL (hG : q_ok G) {a way : Nat} (ha : a < qK G) (hs : s.testBit a = true) : pl (qPs G s) (bX G a way) = pl (qPs G s) (bY G a way) := by
  have h := p_r_2 (bE G s) a ⟨ha, hs⟩
  unfold bX bY
  split
  · exact h
  · exact h.symm
theorem bYn (hG : q_ok G) {a way : Nat} (ha : a < qK G) : bY G a way < qN G := by
  obtain ⟨h1, h2, _⟩ := hG.2.1 a ha
  unfold bY
  split
  · exact h2
  · exact h1
theorem bDm (hG : q_ok G) {u a way : Nat} (ha : a < qK G) (hu : po u < qM G) : bD G po u a way < qM G := by
  obtain ⟨h1, h2, h3, _⟩ := hG.2.1 a ha
  unfold bD
  split
  · exact qpl_lt hu h3
  · exact qmi_lt hu h3
/-- where the component is balanced, the potentials behind an arc -/
theorem bph (hG : q_ok G) {a way : Nat} (ha : a < qK G) (hs : s.testBit a = true) (hb : pb (qPs G s) (pl (qPs G s) (bX G a way)) = true) : ph (qPs G s) (bY G a way) = bD G (ph (qPs G s)) (bX G a way) a way := by
  obtain ⟨h1, h2, h3, _⟩ := hG.2.1 a ha
  have hok := p_r_ok hG (bE G s)
  have h2' := p_r_2 (bE G s) a ⟨ha, hs⟩
  have hb' : pb (qPs G s) (pl (qPs G s) (qF G a)) = true := by
    unfold bX at hb
    split at hb
    · exact hb
    · rw [h2']
      exact hb
  have h := p_r_b1 hG (bE G s) a ⟨ha, hs⟩ hb'
  have m1 := (hok (qF G a)).2.2.1
  have m2 := (hok (qT G a)).2.2.1
  unfold bX bY bD
  split
  · exact h.symm
  · rw [← h]
    unfold qpl qmi
    split <;> split <;> omega
theorem bI.hit (hG : q_ok G) (h : bI G s v l r rb po bal) {u a way : Nat} (hu : rb u = true) (ha : a < qK G) (hs : s.testBit a = true) (hx : bX G a way = u) (hy : rb (bY G a way) = true) (hne : po (bY G a way) ≠ bD G po u a way) : bI G s v l r rb po false := by
  obtain ⟨h1, h2, h3, h4, h5, h6, h7⟩ := h
  refine ⟨h1, h2, h3, h4, h5, fun _ => ?_, h7⟩
  cases hb : pb (qPs G s) v
  · rfl
  · exfalso
    obtain ⟨i, hi, ri⟩ := (h3 u).1 hu
    obtain ⟨j, hj, rj⟩ := (h3 _).1 hy
    have e1 := h5 hb i hi
    have e2 := h5 hb j hj
    rw [ri] at e1
    rw [rj] at e2
    have hL : pl (qPs G s) (bX G a way) = v := by rw [hx, ← ri]; exact (h2 i hi).2.1
    have e3 := bph hG ha hs (way := way) (by rw [hL]; exact hb)
    apply hne
    rw [e2, e3, hx]
    unfold bD
    rw [e1]
theorem bI.add (hG : q_ok G) (h : bI G s v l r rb po bal) {u a way : Nat} (hu : rb u = true) (ha : a < qK G) (hs : s.testBit a = true) (hx : bX G a way = u) (hy : rb (bY G a way) = false) : bI G s v (l + 1) (qup r l (bY G a way)) (qup rb (bY G a way) true) (qup po (bY G a way) (bD G po u a way)) bal := by
  obtain ⟨h1, h2, h3, h4, h5, h6, h7⟩ := h
  obtain ⟨i0, hi0, ri0⟩ := (h3 u).1 hu
  have hL : pl (qPs G s) (bY G a way) = v := by rw [← bL hG ha hs, hx, ← ri0]; exact (h2 i0 hi0).2.1
  have hrn : ∀ i, i < l → r i ≠ bY G a way := by
    intro i hi z
    have := (h3 (bY G a way)).2 ⟨i, hi, z⟩
    rw [hy] at this
    exact absurd this (by decide)
  have hpu : po u < qM G := by rw [← ri0]; exact (h2 i0 hi0).2.2
  refine ⟨⟨by omega, ?_⟩, fun i hi => ?_, fun x => ?_, ?_, fun hb i hi => ?_, h6, fun x hx => ?_⟩
  · rw [qup_n (by omega)]
    exact h1.2
  · by_cases hil : i = l
    · rw [hil, qup_e, qup_e]
      exact ⟨bYn hG ha, hL, bDm hG ha hpu⟩
    · rw [qup_n hil, qup_n (hrn i (by omega))]
      exact h2 i (by omega)
  · by_cases hxy : x = bY G a way
    · rw [hxy, qup_e]
      exact ⟨fun _ => ⟨l, by omega, qup_e _ _ _⟩, fun _ => rfl⟩
    · rw [qup_n hxy, h3]
      constructor
      · rintro ⟨i, hi, e⟩
        exact ⟨i, by omega, by rw [qup_n (by omega)]; exact e⟩
      · rintro ⟨i, hi, e⟩
        by_cases hil : i = l
        · rw [hil, qup_e] at e
          exact absurd e.symm hxy
        · rw [qup_n hil] at e
          exact ⟨i, by omega, e⟩
  · have hc := qcnt_up (f := rb) (g := qup rb (bY G a way) true) (bYn hG (way := way) ha) fun i _ hi => (qup_n hi).symm
    rw [qup_e, hy, h4] at hc
    simp at hc
    exact hc.symm
  · by_cases hil : i = l
    · rw [hil, qup_e, qup_e]
      have hL2 : pl (qPs G s) (bX G a way) = v := by rw [hx, ← ri0]; exact (h2 i0 hi0).2.1
      have e1 := h5 hb i0 hi0
      rw [ri0] at e1
      rw [bph hG ha hs (by rw [hL2]; exact hb), hx]
      unfold bD
      rw [e1]
    · rw [qup_n hil, qup_n (hrn i (by omega))]
      exact h5 hb i (by omega)
  · rw [qup_n (by rintro rfl; omega)]
    exact h7 x hx
theorem bT.hit {u a way : Nat} (h : bT G s rb po bal u a way) : bT G s rb po false u a way := fun h1 h2 => ⟨(h h1 h2).1, fun z => absurd z (by decide)⟩
theorem bT.add {u a way y x : Nat} (h : bT G s rb po bal u a way) (hy : rb y = false) (hu : rb u = true) : bT G s (qup rb y true) (qup po y x) bal u a way := by
  intro h1 h2
  obtain ⟨h3, h4⟩ := h h1 h2
  have n1 : bY G a way ≠ y := by
    intro z
    rw [z, hy] at h3
    exact absurd h3 (by decide)
  have n2 : u ≠ y := by
    intro z
    rw [z, hy] at hu
    exact absurd hu (by decide)
  refine ⟨by rw [qup_n n1]; exact h3, fun hb => ?_⟩
  rw [qup_n n1, h4 hb]
  unfold bD
  rw [qup_n n2]
theorem bI.fin (hG : q_ok G) (hl : pl (qPs G s) v = v) (h : bI G s v l r rb po bal) (hT : ∀ i, i < l → ∀ a, a < qK G → ∀ way, way < 2 → bT G s rb po bal (r i) a way) : (∀ u, rb u = true ↔ pl (qPs G s) u = v) ∧ pb (qPs G s) v = bal := by
  obtain ⟨h1, h2, h3, h4, h5, h6, h7⟩ := h
  have hrv : rb v = true := (h3 v).2 ⟨0, by omega, h1.2⟩
  have hFT : ∀ b, b < qK G ∧ s.testBit b = true → rb (qF G b) = rb (qT G b) := by
    rintro b ⟨hb, hs⟩
    have t0 : ∀ u, rb u = true → bT G s rb po bal u b 0 := fun u hu => by
      obtain ⟨i, hi, e⟩ := (h3 u).1 hu
      rw [← e]
      exact hT i hi b hb 0 (by decide)
    have t1 : ∀ u, rb u = true → bT G s rb po bal u b 1 := fun u hu => by
      obtain ⟨i, hi, e⟩ := (h3 u).1 hu
      rw [← e]
      exact hT i hi b hb 1 (by decide)
    cases e1 : rb (qF G b)
    · cases e2 : rb (qT G b)
      · rfl
      · have := (t1 _ e2 hs rfl).1
        rw [show bY G b 1 = qF G b from rfl, e1] at this
        exact this
    · exact ((t0 _ e1 hs rfl).1).symm
  have hrow : ∀ u, rb u = true ↔ pl (qPs G s) u = v := by
    intro u
    constructor
    · intro hu
      obtain ⟨i, hi, e⟩ := (h3 u).1 hu
      rw [← e]
      exact (h2 i hi).2.1
    · intro hu
      have := p_r_1 (bE G s) (fun u => (rb u).toNat) (fun b hb => by rw [hFT b hb]) u
      rw [hu, hrv] at this
      cases e : rb u
      · rw [e] at this
        exact absurd this (by decide)
      · rfl
  refine ⟨hrow, ?_⟩
  cases hb : bal
  · exact h6 hb
  · have hm := hG.1.2.2.1
    refine (p_r_b2 hG (bE G s) (fun u => if rb u = true then po u else 0) (fun u => ?_) v hl fun b hbE hbv => ?_).1
    · split
      · rename_i hu
        obtain ⟨i, hi, e⟩ := (h3 u).1 hu
        rw [← e]
        exact (h2 i hi).2.2
      · omega
    · have hF := (hrow _).2 hbv
      have hT2 : rb (qT G b) = true := by rw [← hFT b hbE]; exact hF
      obtain ⟨i, hi, e⟩ := (h3 _).1 hF
      have := (hT i hi b hbE.1 0 (by decide) hbE.2 e.symm).2 hb
      rw [if_pos hF, if_pos hT2]
      rw [show bY G b 0 = qT G b from rfl] at this
      rw [this, e]
      rfl
end BF
