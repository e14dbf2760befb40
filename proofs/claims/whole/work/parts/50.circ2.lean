/-! circuits and their kinds -/
def qfr (G : q_G) (s : Nat) : Bool := decide (qrk G s = qsz G s)
def qci (G : q_G) (s : Nat) : Bool := !qfr G s && !qany (fun a => s.testBit a && !qfr G (s ^^^ 2 ^ a)) (qK G)
def qeven (G : q_G) (s : Nat) : Bool := decide (qnu G s = qev G s)
def qodd2 (G : q_G) (s : Nat) : Bool := qany (fun v => decide (qdeg G s v ≠ 0) && decide (qdeg G s v ≠ 2)) (qN G)
def qcyc (G : q_G) (s : Nat) : Bool := decide (qkp G s = 1) && !qodd2 G s
def qbrg (G : q_G) (s : Nat) : Bool := qany (fun a => s.testBit a && decide (pl (qPs G (s ^^^ 2 ^ a)) (qF G a) ≠ pl (qPs G (s ^^^ 2 ^ a)) (qT G a))) (qK G)
def qkind (G : q_G) (s : Nat) : Int := if qeven G s then 1 else if qany (fun v => decide (qdeg G s v = 4)) (qN G) then 3 else if qbrg G s then 4 else 2
theorem xor_bit {s a : Nat} (h : s.testBit a = true) (i : Nat) : s.testBit i = ((s ^^^ 2 ^ a).testBit i || decide (i = a)) := by
  rw [Nat.testBit_xor, Nat.testBit_two_pow]
  by_cases e : i = a
  · subst e
    simp [h]
  · simp [e, Ne.symm e]
theorem xor_bit0 {s a : Nat} (h : s.testBit a = true) : (s ^^^ 2 ^ a).testBit a = false := by
  rw [Nat.testBit_xor, Nat.testBit_two_pow, h]
  simp
theorem gnd_rm {s a : Nat} (h : s.testBit a = true) : gnd s (2 ^ a) = s ^^^ 2 ^ a := by
  refine Nat.eq_of_testBit_eq fun i => ?_
  rw [gnd_bit, Nat.testBit_xor, Nat.testBit_two_pow]
  by_cases e : a = i
  · subst e
    simp [h]
  · simp [e]
theorem qev_le (G : q_G) (s : Nat) : qev G s ≤ qN G := pev_le _ _
theorem qfr_0 (G : q_G) (hG : q_ok G) : qfr G 0 = true := by
  have h := qrk_le hG 0
  have h2 : qsz G 0 = 0 := qcnt_0 fun i _ => Nat.zero_testBit i
  exact decide_eq_true (by omega)
theorem qci_a {G : q_G} {s a : Nat} (hc : qci G s = true) (ha : a < qK G) (hs : s.testBit a = true) : qrk G (s ^^^ 2 ^ a) = qsz G (s ^^^ 2 ^ a) := by
  unfold qci at hc
  rw [Bool.and_eq_true, Bool.not_eq_true', Bool.not_eq_true'] at hc
  have := qany_f.1 hc.2 a ha
  rw [hs, Bool.true_and, Bool.not_eq_false'] at this
  exact of_decide_eq_true this
theorem qci_n {G : q_G} {s : Nat} (hc : qci G s = true) : qrk G s ≠ qsz G s := by
  unfold qci at hc
  rw [Bool.and_eq_true, Bool.not_eq_true'] at hc
  exact of_decide_eq_false hc.1
theorem qci_e {G : q_G} (hG : q_ok G) {s : Nat} (hc : qci G s = true) : ∃ a, a < qK G ∧ s.testBit a = true := by
  refine Decidable.byContradiction fun h => ?_
  have h2 : qsz G s = 0 := qcnt_0 fun i hi => by
    cases e : s.testBit i with
    | false => rfl
    | true => exact absurd ⟨i, hi, e⟩ h
  have h3 := qrk_le hG s
  exact qci_n hc (by omega)
theorem qci_1 {G : q_G} (hG : q_ok G) {s : Nat} (hc : qci G s = true) : qsz G s = qrk G s + 1 := by
  obtain ⟨a, ha, hs⟩ := qci_e hG hc
  have h1 := qci_a hc ha hs
  have h2 := qsz_or (s := s ^^^ 2 ^ a) (t := s) ha (fun i _ => xor_bit hs i) (xor_bit0 hs)
  have h3 := qev_or hG (s := s ^^^ 2 ^ a) (t := s) ha (fun i _ => xor_bit hs i)
  have h4 := pev_j1 hG (p_r_ok hG (p_r_Ps G (s ^^^ 2 ^ a))) ha
  have h5 := qrk_le hG s
  have h6 := qci_n hc
  have h7 := qev_le G (s ^^^ 2 ^ a)
  have h8 : pev (qN G) (qPs G (s ^^^ 2 ^ a)) = qev G (s ^^^ 2 ^ a) := rfl
  unfold qrk at *
  omega
theorem qdg_1 {G : q_G} {s v n : Nat} (h : qdg G s v n = 1) : ∃ a, a < n ∧ s.testBit a = true ∧ (qF G a = v ∧ qT G a ≠ v ∨ qF G a ≠ v ∧ qT G a = v) ∧ ∀ b, b < n → b ≠ a → s.testBit b = true → qF G b ≠ v ∧ qT G b ≠ v := by
  induction n with
  | zero => cases h
  | succ n ih =>
    unfold qdg at h
    by_cases e : (if s.testBit n then (decide (qF G n = v)).toNat + (decide (qT G n = v)).toNat else 0) = 0
    · obtain ⟨a, h1, h2, h3, h4⟩ := ih (by omega)
      refine ⟨a, by omega, h2, h3, fun b hb hba hs => ?_⟩
      by_cases e2 : b = n
      · subst e2
        rw [if_pos hs] at e
        constructor
        · intro x
          rw [decide_eq_true x] at e
          simp at e
        · intro x
          rw [decide_eq_true x] at e
          simp at e
      · exact h4 b (by omega) hba hs
    · have h0 : qdg G s v n = 0 := by omega
      have h1 : (if s.testBit n then (decide (qF G n = v)).toNat + (decide (qT G n = v)).toNat else 0) = 1 := by omega
      split at h1
      · rename_i hs
        refine ⟨n, by omega, hs, ?_, fun b hb hba hbs => qdg_0.1 h0 b (by omega) hbs⟩
        by_cases x : qF G n = v
        · by_cases y : qT G n = v
          · simp [x, y] at h1
          · exact Or.inl ⟨x, y⟩
        · by_cases y : qT G n = v
          · exact Or.inr ⟨x, y⟩
          · simp [x, y] at h1
      · omega
theorem qci_2 {G : q_G} (hG : q_ok G) {s : Nat} (hc : qci G s = true) (v : Nat) : qdeg G s v ≠ 1 := by
  intro h
  obtain ⟨a, ha, hs, he, hb⟩ := qdg_1 h
  have h1 := qci_a hc ha hs
  have h2 := qsz_or (s := s ^^^ 2 ^ a) (t := s) ha (fun i _ => xor_bit hs i) (xor_bit0 hs)
  have h3 := qev_or hG (s := s ^^^ 2 ^ a) (t := s) ha (fun i _ => xor_bit hs i)
  have h4 := pev_j hG (p_r_ok hG (p_r_Ps G (s ^^^ 2 ^ a))) ha
  have h5 := qci_1 hG hc
  have h7 := qev_le G (s ^^^ 2 ^ a)
  have h8 : pev (qN G) (qPs G (s ^^^ 2 ^ a)) = qev G (s ^^^ 2 ^ a) := rfl
  have hi := p_r_iso hG (p_r_Ps G (s ^^^ 2 ^ a)) (v := v) fun b hbE => by
    have hne : b ≠ a := by
      rintro rfl
      have := xor_bit0 hs
      rw [hbE.2] at this
      cases this
    refine hb b hbE.1 hne ?_
    rw [xor_bit hs b, hbE.2]
    rfl
  have hne : pl (qPs G (s ^^^ 2 ^ a)) (qF G a) ≠ pl (qPs G (s ^^^ 2 ^ a)) (qT G a) := by
    rcases he with ⟨x, y⟩ | ⟨x, y⟩
    · intro z
      rw [x, hi.1] at z
      exact y (hi.2.1 _ z.symm)
    · intro z
      rw [y, hi.1] at z
      exact x (hi.2.1 _ z)
  have hor : (pb (qPs G (s ^^^ 2 ^ a)) (pl (qPs G (s ^^^ 2 ^ a)) (qF G a)) || pb (qPs G (s ^^^ 2 ^ a)) (pl (qPs G (s ^^^ 2 ^ a)) (qT G a))) = true := by
    rcases he with ⟨x, y⟩ | ⟨x, y⟩
    · rw [x, hi.1, hi.2.2]
      rfl
    · rw [y, hi.1, hi.2.2, Bool.or_true]
  rw [if_neg hne, hor] at h4
  have h9 : Bool.toNat true = 1 := rfl
  unfold qrk at *
  omega
/-- ends beyond two -/
def qex (G : q_G) (s v : Nat) : Nat := qdeg G s v - 2 * (qtch G s v).toNat
theorem qci_ex {G : q_G} (hG : q_ok G) {s : Nat} (hc : qci G s = true) : qsm (qex G s) (qN G) + 2 * qbt G s = 2 ∧ ∀ v, qdeg G s v = qex G s v + 2 * (qtch G s v).toNat := by
  have h0 : ∀ v, qdeg G s v = qex G s v + 2 * (qtch G s v).toNat := by
    intro v
    have h1 := qci_2 hG hc v
    unfold qex qtch
    by_cases e : qdeg G s v = 0
    · rw [decide_eq_false (by omega)]
      show _ = _ - 2 * 0 + 2 * 0
      omega
    · rw [decide_eq_true e]
      show _ = _ - 2 * 1 + 2 * 1
      omega
  refine ⟨?_, h0⟩
  have h1 := qdg_sum hG s (Nat.le_refl _)
  rw [qsm_congr (g := fun v => qex G s v + ((qtch G s v).toNat + (qtch G s v).toNat)) fun v _ => by rw [show qdg G s v (qK G) = qdeg G s v from rfl, h0]; omega, qsm_add, qsm_add, qsm_cnt] at h1
  have h2 := qci_1 hG hc
  have h3 := qev_bt hG s
  have h4 := qal_to G s
  have h5 : qcnt s.testBit (qK G) = qsz G s := rfl
  have h6 : qbt G s ≤ qcnt (qtch G s) (qN G) := qcnt_le2 fun v _ h => by
    rw [Bool.and_eq_true] at h
    exact h.1
  unfold qrk at h2
  omega
theorem qci_4 {G : q_G} (hG : q_ok G) {s : Nat} (hc : qci G s = true) {v : Nat} (hv : v < qN G) : qdeg G s v ≤ 4 := by
  obtain ⟨h1, h2⟩ := qci_ex hG hc
  have h3 := qsm_le (f := qex G s) hv
  have h4 := h2 v
  have h5 := Bool.toNat_le (qtch G s v)
  omega
theorem qsm_0' {f : Nat → Nat} {n : Nat} (h : ∀ i, i < n → f i = 0) : qsm f n = 0 := by
  rw [qsm_congr (g := fun _ => 0) h, qsm_0]
theorem qodd2_f {G : q_G} {s : Nat} : qodd2 G s = false ↔ ∀ v, v < qN G → qdeg G s v = 0 ∨ qdeg G s v = 2 := by
  unfold qodd2
  rw [qany_f]
  constructor
  · intro h v hv
    have := h v hv
    simp only [Bool.and_eq_false_iff, decide_eq_false_iff_not] at this
    omega
  · intro h v hv
    have := h v hv
    simp only [Bool.and_eq_false_iff, decide_eq_false_iff_not]
    omega
theorem qci_cyc {G : q_G} (hG : q_ok G) {s : Nat} (hc : qci G s = true) : qeven G s = qcyc G s := by
  obtain ⟨h1, h2⟩ := qci_ex hG hc
  obtain ⟨a, ha, hs⟩ := qci_e hG hc
  have h3 := qkp_pos hG ha hs
  have h4 := qbt_le G s
  have h5 := qnu_kp hG s
  have h6 := qev_bt hG s
  unfold qeven qcyc
  by_cases e : qnu G s = qev G s
  · rw [decide_eq_true e]
    have h7 : qsm (qex G s) (qN G) = 0 := by omega
    rw [decide_eq_true (show qkp G s = 1 by omega), qodd2_f.2]
    · rfl
    · intro v hv
      have h8 := qsm_le (f := qex G s) hv
      have h9 := h2 v
      have h10 := Bool.toNat_le (qtch G s v)
      omega
  · rw [decide_eq_false e]
    symm
    rw [Bool.and_eq_false_iff]
    by_cases e2 : qkp G s = 1
    · right
      cases e3 : qodd2 G s with
      | true => rfl
      | false =>
        have h7 := qodd2_f.1 e3
        have h8 : qsm (qex G s) (qN G) = 0 := qsm_0' fun v hv => by
          have h9 := h2 v
          have h10 := h7 v hv
          unfold qtch at h9
          by_cases e4 : qdeg G s v = 0
          · omega
          · rw [decide_eq_true e4] at h9
            have : Bool.toNat true = 1 := rfl
            omega
        omega
    · left
      exact decide_eq_false e2
theorem qnu_rm {G : q_G} (hG : q_ok G) {s a : Nat} (ha : a < qK G) (hs : s.testBit a = true) : qnu G s + (if pl (qPs G (s ^^^ 2 ^ a)) (qF G a) = pl (qPs G (s ^^^ 2 ^ a)) (qT G a) then 0 else 1) = qnu G (s ^^^ 2 ^ a) := by
  rw [qnu_or hG (s := s ^^^ 2 ^ a) (t := s) ha (fun i _ => xor_bit hs i)]
  exact pnum_j hG (p_r_ok hG (p_r_Ps G (s ^^^ 2 ^ a))) ha
