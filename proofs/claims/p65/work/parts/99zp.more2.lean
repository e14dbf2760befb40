/-! more of what was shown for whole -/
section MK
variable {n m k s l : Nat} {f t a w : Nat → Nat} {p o : Nat → Int}
end MK
theorem qok_setL {G : q_G} (hG : q_ok G) {l : Nat} (h1 : 1 ≤ l) (h2 : l ≤ 5) : q_ok (qsetL G l) := by
  obtain ⟨⟨k1, k2, k3, k4, k5, k6, k7, k8⟩, hk, hp, hp2⟩ := hG
  refine ⟨⟨k1, k2, k3, k4, k5, k6, h1, h2⟩, hk, ?_, fun v _ _ => rfl⟩
  intro v _
  show (-1 : Int) ≤ -1 ∧ (-1 : Int) ≤ _
  omega
theorem qok_setA {G : q_G} (hG : q_ok G) {a x : Nat} (h : x < qM G) : q_ok (qsetA G a x) := by
  obtain ⟨⟨k1, k2, k3, k4, k5, k6, k7, k8⟩, hk, hp, hp2⟩ := hG
  refine ⟨⟨k1, k2, k3, k4, k5, k6, k7, k8⟩, ?_, hp, hp2⟩
  intro b hb
  obtain ⟨a1, a2, a3, a4⟩ := hk b hb
  refine ⟨a1, a2, ?_, a4⟩
  show qup (qA G) a x b < qM G
  unfold qup
  split
  · exact h
  · exact a3
theorem qok_setW {G : q_G} (hG : q_ok G) {a x : Nat} (h : x ≤ 99) : q_ok (qsetW G a x) := by
  obtain ⟨⟨k1, k2, k3, k4, k5, k6, k7, k8⟩, hk, hp, hp2⟩ := hG
  refine ⟨⟨k1, k2, k3, k4, k5, k6, k7, k8⟩, ?_, hp, hp2⟩
  intro b hb
  obtain ⟨a1, a2, a3, a4⟩ := hk b hb
  refine ⟨a1, a2, a3, ?_⟩
  show qup (qW G) a x b ≤ 99
  unfold qup
  split
  · exact h
  · exact a4
theorem qok_addV {G : q_G} (hG : q_ok G) (hN : qN G < 8) : q_ok (qaddV G) := by
  obtain ⟨⟨k1, k2, k3, k4, k5, k6, k7, k8⟩, hk, hp, hp2⟩ := hG
  refine ⟨⟨?_, ?_, k3, k4, k5, k6, k7, k8⟩, ?_, ?_, ?_⟩
  · show 1 ≤ qN G + 1
    omega
  · show qN G + 1 ≤ 8
    omega
  · intro b hb
    obtain ⟨a1, a2, a3, a4⟩ := hk b hb
    exact ⟨show qF G b < qN G + 1 by omega, show qT G b < qN G + 1 by omega, a3, a4⟩
  · intro u hu
    show -1 ≤ qup (qP G) (qN G) (-1) u ∧ qup (qP G) (qN G) (-1) u ≤ ((qM G * qL G : Nat) : Int)
    unfold qup
    split
    · omega
    · exact hp u hu
  · intro u h3 h4
    have h3' : qN G + 1 ≤ u := h3
    show qup (qP G) (qN G) (-1) u = -1
    unfold qup
    split
    · rfl
    · exact hp2 u (by omega) h4
theorem qok_turn {G : q_G} (hG : q_ok G) {a : Nat} (ha : a < qK G) : q_ok (qturn G a) := by
  obtain ⟨⟨k1, k2, k3, k4, k5, k6, k7, k8⟩, hk, hp, hp2⟩ := hG
  refine ⟨⟨k1, k2, k3, k4, k5, k6, k7, k8⟩, ?_, hp, hp2⟩
  intro b hb
  have h1 := hk b hb
  have h2 := hk a ha
  have h3 := qmi_lt (m := qM G) (a := 0) (by omega) h2.2.2.1
  show qup (qF G) a (qT G a) b < qN G ∧ qup (qT G) a (qF G a) b < qN G ∧ qup (qA G) a (qmi (qM G) 0 (qA G a)) b < qM G ∧ qW G b ≤ 99
  unfold qup
  by_cases e : b = a
  · simp only [if_pos e]
    exact ⟨h2.2.1, h2.1, h3, h1.2.2.2⟩
  · simp only [if_neg e]
    exact h1
theorem qok_mrg {G : q_G} (hG : q_ok G) {a : Nat} (ha : a < qK G) (hl : qF G a ≠ qT G a) : q_ok (qmrg G a) := by
  have h0 := hG.2.1 a ha
  have h1 := qok_drop (qok_sw hG (v := qT G a) (b := qmi (qM G) 0 (qA G a)) h0.2.1 (qmi_lt (by omega) h0.2.2.1)) (a := a) ha
  obtain ⟨⟨k1, k2, k3, k4, k5, k6, k7, k8⟩, hk, hp, hp2⟩ := id hG
  obtain ⟨⟨j1, j2, j3, j4, j5, j6, j7, j8⟩, jk, jp, jp2⟩ := h1
  refine ⟨⟨?_, ?_, j3, j4, j5, j6, k7, k8⟩, ?_, ?_, ?_⟩
  · show 1 ≤ qN G - 1
    omega
  · show qN G - 1 ≤ 8
    omega
  · intro b hb
    obtain ⟨b1, b2, b3, b4⟩ := jk b hb
    have c1 : qF (qdrop (qsw G (qT G a) (qmi (qM G) 0 (qA G a))) a) b < qN G := b1
    have c2 : qT (qdrop (qsw G (qT G a) (qmi (qM G) 0 (qA G a))) a) b < qN G := b2
    have key : ∀ u, u < qN G → qren (qF G a) (qT G a) u < qN G - 1 := by
      intro u hu
      unfold qren
      split
      · split <;> omega
      · split <;> omega
    exact ⟨key _ c1, key _ c2, b3, b4⟩
  · intro u hu
    show -1 ≤ (if qN G - 1 ≤ u then (-1 : Int) else qov _ (qT G a) u) ∧ (if qN G - 1 ≤ u then (-1 : Int) else qov _ (qT G a) u) ≤ ((qM G * qL G : Nat) : Int)
    split
    · omega
    · unfold qov
      split
      · exact jp u hu
      · exact jp (u + 1) (by omega)
  · intro u h3 h4
    exact if_pos h3
section SC
variable {M1 : gg_M} {G : q_G}
end SC
section SR
variable {R R' : Nat → Int} {G : q_G}
end SR
section SG
variable {N : Nat} {xs : Nat → Int32} {d : Nat} {M : gg_M} {cc cs : Nat} {A : q_A}
theorem ok_act {G : q_G} (hA : a_ok A) (hG : q_ok G) : a_ok (a_act A G) := by
  obtain ⟨h1, h2, h3, h4, h5⟩ := hA
  refine ⟨hG, Nat.min_le_right _ _, fun j hj => ?_, h4, h5⟩
  have hj2 : j < min (aN A + 1) 8 := hj
  show q_ok (qkeep (aG A) (aH A) j)
  unfold qkeep
  by_cases e : j = 0
  · rw [if_pos e]
    exact h1
  · rw [if_neg e]
    exact h3 _ (by omega)
end SG
section SG
variable {N : Nat} {xs : Nat → Int32} {d : Nat} {M : gg_M} {cc cs : Nat} {A : q_A}
theorem ok_undo (hA : a_ok A) : a_ok (qundo A) := by
  unfold qundo
  by_cases e : aN A = 0
  · rw [if_pos e]
    exact hA
  · rw [if_neg e]
    obtain ⟨h1, h2, h3, h4, h5⟩ := hA
    exact ⟨h3 0 (by omega), Nat.le_trans (Nat.sub_le _ _) h2, fun j hj => h3 (j + 1) (by have hj2 : j < aN A - 1 := hj; omega), h4, h5⟩
end SG
theorem ok_app {A : q_A} {w : Int} (hA : a_ok A) : a_ok (qappA A w) := by
  unfold qappA
  by_cases e : aB A + qmore w 8 ≤ 400
  · rw [if_pos e]
    exact hA
  · rw [if_neg e]
    exact hA
section SG
variable {N : Nat} {xs : Nat → Int32} {d : Nat} {M : gg_M} {cc cs : Nat} {A : q_A}
end SG
theorem ok_load {A : q_A} (hA : a_ok A) : a_ok (qloadA A) := by
  have hp := qparse_ok (X := aX A) (B := aB A)
  unfold qloadA
  obtain ⟨h1, h2, h3, h4, h5⟩ := hA
  cases hq : qparse (aX A) (aB A) with
  | ok G =>
    rw [hq] at hp
    exact ⟨hp, Nat.zero_le _, fun j hj => absurd hj (Nat.not_lt_zero j), h4, (by show (0 : Nat) ≤ 3; decide), (by show (-1 : Int) ≤ -1; decide), (by show (-1 : Int) ≤ 1000; decide), (by show (0 : Nat) = 0 ↔ (-1 : Int) = -1; decide)⟩
  | error e =>
    obtain ⟨⟨k, q⟩, s⟩ := e
    rw [hq] at hp
    obtain ⟨p1, p2, p3, p4⟩ := hp
    have p1' : 1 ≤ k := p1
    have p2' : k ≤ 3 := p2
    have p4' : s ≤ 401 := p4
    refine ⟨h1, h2, h3, h4, p2', ?_, ?_, ?_⟩
    · show (-1 : Int) ≤ (s : Int)
      omega
    · show (s : Int) ≤ 1000
      omega
    · show k = 0 ↔ (s : Int) = -1
      omega
section SG
variable {N : Nat} {xs : Nat → Int32} {d : Nat} {M : gg_M} {cc cs : Nat} {A : q_A}
end SG
