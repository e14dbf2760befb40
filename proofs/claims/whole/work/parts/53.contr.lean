/-! a contracted graph has the components of the sets with the arc -/
def qsg (a b : Nat) : Nat := if b < a then b else b + 1
theorem qov_sg {α : Type} (f : Nat → α) (a b : Nat) : qov f a b = f (qsg a b) := by
  unfold qov qsg
  split <;> rfl
theorem qsg_ne (a b : Nat) : qsg a b ≠ a := by
  unfold qsg
  split <;> omega
theorem qsg_inj {a b c : Nat} (h : qsg a b = qsg a c) : b = c := by
  unfold qsg at h
  split at h <;> split at h <;> omega
theorem qsg_ex {a b : Nat} (h : b ≠ a) : ∃ c, qsg a c = b := by
  by_cases e : b < a
  · exact ⟨b, if_pos e⟩
  · refine ⟨b - 1, ?_⟩
    unfold qsg
    rw [if_neg (by omega)]
    omega
theorem qren_sg {k t w : Nat} : qren k t (qsg t w) = w := by
  unfold qren qsg
  split <;> split <;> (try split) <;> omega
theorem qsg_ren {k t u : Nat} (h : k ≠ t) (hu : u ≠ t) : qsg t (qren k t u) = u := by
  unfold qren qsg
  split
  · omega
  · split <;> split <;> omega
theorem qsg_ren1 {k t : Nat} (h : k ≠ t) : qsg t (qren k t t) = k := by
  unfold qren qsg
  rw [if_pos rfl]
  split <;> split <;> omega
theorem qren_k {k t : Nat} (h : k ≠ t) : qren k t k = qren k t t := by
  unfold qren
  rw [if_neg h, if_pos rfl]
theorem qg_1 {m p g c k : Nat} (hp : p < m) (hg : g < m) (hc : c < m) (hk : k < m) : qpl m p (qpl m g (qmi m 0 c)) = k ↔ qpl m p g = qpl m k c := by
  unfold qpl qmi
  repeat' split
  all_goals omega
theorem qg_2 {m q g c k : Nat} (hq : q < m) (hg : g < m) (hc : c < m) (hk : k < m) : qpl m k (qmi m g (qmi m 0 c)) = q ↔ qpl m (qpl m k c) g = q := by
  unfold qpl qmi
  repeat' split
  all_goals omega
theorem qg_3 {m p g : Nat} (hp : p < m) (hg : g < m) : qpl m p g = p ↔ g = 0 := by
  unfold qpl
  split <;> omega
/-- an arc of the contracted graph asks the same -/
theorem qg_arc {G : q_G} (hG : q_ok G) {a : Nat} (ha : a < qK G) (hl : qF G a ≠ qT G a) {b : Nat} (hb : b < qK G) {c : Nat → Nat} (hc : ∀ v, c v < qM G) (hca : (qF G b = qT G a ∨ qT G b = qT G a) → qpl (qM G) (c (qF G a)) (qA G a) = c (qT G a)) :
    qpl (qM G) (if qF G b = qT G a then c (qF G a) else c (qF G b)) (qswg G (qT G a) (qmi (qM G) 0 (qA G a)) b) = (if qT G b = qT G a then c (qF G a) else c (qT G b)) ↔ qpl (qM G) (c (qF G b)) (qA G b) = c (qT G b) := by
  have h1 := (hG.2.1 a ha).2.2.1
  have h2 := (hG.2.1 b hb).2.2.1
  unfold qswg
  by_cases e : qF G b = qT G b
  · rw [if_pos e, e]
    split
    · rw [qg_3 (hc _) h2, qg_3 (hc _) h2]
    · rfl
  · rw [if_neg e]
    by_cases e1 : qT G b = qT G a
    · rw [if_pos e1, if_pos e1, if_neg (by rw [← e1]; exact e), qg_1 (hc _) h2 h1 (hc _), hca (Or.inr e1), e1]
    · rw [if_neg e1, if_neg e1]
      by_cases e2 : qF G b = qT G a
      · rw [if_pos e2, if_pos e2, qg_2 (hc _) h2 h1 (hc _), hca (Or.inl e2), e2]
      · rw [if_neg e2, if_neg e2]
section MG
variable {G : q_G} {a : Nat}
theorem qF_mrg (b : Nat) : qF (qmrg G a) b = qren (qF G a) (qT G a) (qF G (qsg a b)) := by
  show qren _ _ (qov (qF G) a b) = _
  rw [qov_sg]
theorem qT_mrg (b : Nat) : qT (qmrg G a) b = qren (qF G a) (qT G a) (qT G (qsg a b)) := by
  show qren _ _ (qov (qT G) a b) = _
  rw [qov_sg]
theorem qA_mrg (b : Nat) : qA (qmrg G a) b = qswg G (qT G a) (qmi (qM G) 0 (qA G a)) (qsg a b) := by
  show qov (qswg G (qT G a) (qmi (qM G) 0 (qA G a))) a b = _
  rw [qov_sg]
theorem qM_mrg : qM (qmrg G a) = qM G := rfl
theorem qN_mrg : qN (qmrg G a) = qN G - 1 := rfl
theorem qK_mrg : qK (qmrg G a) = qK G - 1 := rfl
theorem qsg_lt {b : Nat} (hb : b < qK G - 1) : qsg a b < qK G := by
  unfold qsg
  split <;> omega
theorem q_crel (hG : q_ok G) (ha : a < qK G) (hl : qF G a ≠ qT G a) {E E' : Nat → Prop} {P P' : q_P} (h : p_r G E P) (h' : p_r (qmrg G a) E' P') (hE : ∀ b, E b ↔ (b = a ∨ ∃ c, E' c ∧ b = qsg a c)) :
    (∀ u v, pl P u = pl P v ↔ pl P' (qren (qF G a) (qT G a) u) = pl P' (qren (qF G a) (qT G a) v)) ∧ ∀ u, pb P (pl P u) = pb P' (pl P' (qren (qF G a) (qT G a) u)) := by
  have hG' := qok_mrg hG ha hl
  have hEa : E a := (hE a).2 (Or.inl rfl)
  have eA := p_r_2 h a hEa
  have hm := hG.1.2.2.1
  have hAa := (hG.2.1 a ha).2.2.1
  have hok := p_r_ok hG h
  have hok' := p_r_ok hG' h'
  have hpt : ∀ u, pl P (qsg (qT G a) (qren (qF G a) (qT G a) u)) = pl P u := by
    intro u
    by_cases e : u = qT G a
    · rw [e, qsg_ren1 hl, eA]
    · rw [qsg_ren hl e]
  have h1 : ∀ u v, pl P u = pl P v ↔ pl P' (qren (qF G a) (qT G a) u) = pl P' (qren (qF G a) (qT G a) v) := by
    have k1 := p_r_1 h (fun w => pl P' (qren (qF G a) (qT G a) w)) (fun b hb => by
      rcases (hE b).1 hb with rfl | ⟨c, hc, rfl⟩
      · rw [qren_k hl]
      · have := p_r_2 h' c hc
        rw [qF_mrg, qT_mrg] at this
        exact this)
    have k2 := p_r_1 h' (fun w => pl P (qsg (qT G a) w)) (fun c hc => by
      show pl P _ = pl P _
      rw [qF_mrg, qT_mrg, hpt, hpt]
      exact p_r_2 h _ ((hE _).2 (Or.inr ⟨c, hc, rfl⟩)))
    intro u v
    constructor
    · intro e
      have e1 := k1 u
      have e2 := k1 v
      simp only [e] at e1
      rw [e1, ← e2]
    · intro e
      have e1 := k2 (qren (qF G a) (qT G a) u)
      have e2 := k2 (qren (qF G a) (qT G a) v)
      simp only [e, hpt] at e1
      simp only [hpt] at e2
      rw [e1, ← e2]
  refine ⟨h1, fun u => ?_⟩
  have hr : pl P (pl P u) = pl P u := (hok u).2.1
  have hr' := (hok' (qren (qF G a) (qT G a) u)).2.1
  have d1 : pb P (pl P u) = true → pb P' (pl P' (qren (qF G a) (qT G a) u)) = true := by
    intro hb
    refine (p_r_b2 hG' h' (fun w => ph P (qsg (qT G a) w)) (fun v => (hok _).2.2.1) _ hr' fun c hc hcr => ?_).1
    have hcK : c < qK G - 1 := p_r_K h' hc
    have hEc : E (qsg a c) := (hE _).2 (Or.inr ⟨c, hc, rfl⟩)
    have hcu : pl P (qF G (qsg a c)) = pl P u := by
      rw [h1, ← qF_mrg, hcr]
    have hb1 := p_r_b1 hG h _ hEc (by rw [hcu]; exact hb)
    have hha := qg_arc hG ha hl (b := qsg a c) (qsg_lt hcK) (c := ph P) (fun v => (hok v).2.2.1) (fun hx => by
      refine p_r_b1 hG h a hEa ?_
      have e2 := p_r_2 h _ hEc
      rcases hx with hx | hx
      · rw [hx] at hcu
        rw [eA, hcu]
        exact hb
      · rw [e2, hx] at hcu
        rw [eA, hcu]
        exact hb)
    have e3 : ∀ w, ph P (qsg (qT G a) (qren (qF G a) (qT G a) w)) = if w = qT G a then ph P (qF G a) else ph P w := by
      intro w
      by_cases e : w = qT G a
      · rw [if_pos e, e, qsg_ren1 hl]
      · rw [if_neg e, qsg_ren hl e]
    show qpl (qM G) (ph P (qsg (qT G a) (qF (qmrg G a) c))) (qA (qmrg G a) c) = ph P (qsg (qT G a) (qT (qmrg G a) c))
    rw [qF_mrg, qT_mrg, qA_mrg, e3, e3]
    exact hha.2 hb1
  have d2 : pb P' (pl P' (qren (qF G a) (qT G a) u)) = true → pb P (pl P u) = true := by
    intro hb
    have hcl : ∀ v, (if v = qT G a then qpl (qM G) (ph P' (qren (qF G a) (qT G a) (qF G a))) (qA G a) else ph P' (qren (qF G a) (qT G a) v)) < qM G := by
      intro v
      split
      · exact qpl_lt (hok' _).2.2.1 hAa
      · exact (hok' _).2.2.1
    refine (p_r_b2 hG h (fun v => if v = qT G a then qpl (qM G) (ph P' (qren (qF G a) (qT G a) (qF G a))) (qA G a) else ph P' (qren (qF G a) (qT G a) v)) hcl _ hr fun b hbE hbr => ?_).1
    have hba : qpl (qM G) (if qF G a = qT G a then qpl (qM G) (ph P' (qren (qF G a) (qT G a) (qF G a))) (qA G a) else ph P' (qren (qF G a) (qT G a) (qF G a))) (qA G a) = (if qT G a = qT G a then qpl (qM G) (ph P' (qren (qF G a) (qT G a) (qF G a))) (qA G a) else ph P' (qren (qF G a) (qT G a) (qT G a))) := by
      rw [if_neg hl, if_pos rfl]
    rcases (hE b).1 hbE with rfl | ⟨c, hc, rfl⟩
    · exact hba
    · have hcK : c < qK G - 1 := p_r_K h' hc
      have hha := qg_arc hG ha hl (b := qsg a c) (qsg_lt hcK) (c := fun v => if v = qT G a then qpl (qM G) (ph P' (qren (qF G a) (qT G a) (qF G a))) (qA G a) else ph P' (qren (qF G a) (qT G a) v)) hcl (fun _ => hba)
      refine hha.1 ?_
      have hcu : pl P' (qF (qmrg G a) c) = pl P' (qren (qF G a) (qT G a) u) := by
        rw [qF_mrg, ← h1, hbr]
      have hb1 := p_r_b1 hG' h' c hc (by rw [hcu]; exact hb)
      rw [qF_mrg, qT_mrg, qA_mrg] at hb1
      have e3 : ∀ w, (if w = qT G a then ph P' (qren (qF G a) (qT G a) (qF G a)) else (if w = qT G a then qpl (qM G) (ph P' (qren (qF G a) (qT G a) (qF G a))) (qA G a) else ph P' (qren (qF G a) (qT G a) w))) = ph P' (qren (qF G a) (qT G a) w) := by
        intro w
        by_cases e : w = qT G a
        · rw [if_pos e, e, qren_k hl]
        · rw [if_neg e, if_neg e]
      simp only [if_neg hl]
      rw [e3, e3]
      exact hb1
  cases e : pb P (pl P u) with
  | true => exact (d1 e).symm
  | false =>
    cases e2 : pb P' (pl P' (qren (qF G a) (qT G a) u)) with
    | false => rfl
    | true => rw [d2 e2] at e; cases e
/-- the balanced components are as many -/
theorem qev_mrg (hG : q_ok G) (ha : a < qK G) (hl : qF G a ≠ qT G a) {s t : Nat} (hsa : s.testBit a = true) (ht : ∀ b, b < qK G - 1 → s.testBit (qsg a b) = t.testBit b) : qev (qmrg G a) t = qev G s := by
  have hG' := qok_mrg hG ha hl
  have h0 := hG.2.1 a ha
  have key : ∀ k, k ≤ qK G - 1 → ∃ P, p_r G (fun b => b = a ∨ ∃ c, (c < k ∧ t.testBit c = true) ∧ b = qsg a c) P ∧ pev (qN G) P = pev (qN G - 1) (ps (qmrg G a) t k) := by
    intro k
    induction k with
    | zero =>
      intro _
      refine ⟨pj G pz a, p_r_e (.j .z ha) fun b => ?_, ?_⟩
      · constructor
        · rintro (h | h)
          · exact h.elim
          · exact Or.inl h
        · rintro (h | ⟨c, ⟨h, _⟩, _⟩)
          · exact Or.inr h
          · exact absurd h (Nat.not_lt_zero c)
      · have h1 := pev_j hG (pok_z hG.1.2.2.1) ha
        have e1 : pl pz (qF G a) ≠ pl pz (qT G a) := hl
        rw [if_neg e1] at h1
        have e2 : (pb pz (pl pz (qF G a)) || pb pz (pl pz (qT G a))).toNat = 1 := rfl
        rw [e2, pev_z] at h1
        show _ = pev (qN G - 1) pz
        rw [pev_z]
        omega
    | succ k ih =>
      intro hk
      obtain ⟨P, hP, hev⟩ := ih (by omega)
      have hr' := p_r_s (qmrg G a) t (a := k) (by rw [qK_mrg]; omega)
      cases e : t.testBit k
      · refine ⟨P, p_r_e hP fun b => ?_, ?_⟩
        · constructor
          · rintro (h | ⟨c, ⟨h1, h2⟩, h3⟩)
            · exact Or.inl h
            · exact Or.inr ⟨c, ⟨by omega, h2⟩, h3⟩
          · rintro (h | ⟨c, ⟨h1, h2⟩, h3⟩)
            · exact Or.inl h
            · refine Or.inr ⟨c, ⟨?_, h2⟩, h3⟩
              have : c ≠ k := by
                rintro rfl
                rw [e] at h2
                cases h2
              omega
        · rw [hev, ps, e]
          rfl
      · have hrel := q_crel hG ha hl hP hr' (fun b => Iff.rfl)
        have hPn : p_r G (fun b => b = a ∨ ∃ c, (c < k + 1 ∧ t.testBit c = true) ∧ b = qsg a c) (pj G P (qsg a k)) := p_r_e (.j hP (qsg_lt (by omega))) fun b => by
          constructor
          · rintro ((h | ⟨c, ⟨h1, h2⟩, h3⟩) | h)
            · exact Or.inl h
            · exact Or.inr ⟨c, ⟨by omega, h2⟩, h3⟩
            · exact Or.inr ⟨k, ⟨by omega, e⟩, h⟩
          · rintro (h | ⟨c, ⟨h1, h2⟩, h3⟩)
            · exact Or.inl (Or.inl h)
            · by_cases e2 : c = k
              · subst e2
                exact Or.inr h3
              · exact Or.inl (Or.inr ⟨c, ⟨by omega, h2⟩, h3⟩)
        have hr2 : p_r (qmrg G a) (fun b => b < k + 1 ∧ t.testBit b = true) (pj (qmrg G a) (ps (qmrg G a) t k) k) := by
          have := p_r_s (qmrg G a) t (a := k + 1) (by rw [qK_mrg]; omega)
          rw [ps, e, if_pos rfl] at this
          exact this
        have hrel2 := q_crel hG ha hl hPn hr2 (fun b => Iff.rfl)
        refine ⟨_, hPn, ?_⟩
        rw [ps, e, if_pos rfl]
        have c1 := pev_j hG (p_r_ok hG hP) (qsg_lt (G := G) (a := a) (b := k) (by omega))
        have c2 := pev_j hG' (p_r_ok hG' hr') (a := k) (by rw [qK_mrg]; omega)
        rw [qN_mrg] at c2
        have i1 := hrel.1 (qF G (qsg a k)) (qT G (qsg a k))
        have i2 := hrel.2 (qF G (qsg a k))
        have i3 := hrel.2 (qT G (qsg a k))
        have i4 := hrel2.2 (qF G (qsg a k))
        rw [← qF_mrg] at i1 i2 i4
        rw [← qT_mrg] at i1 i3
        by_cases e2 : pl P (qF G (qsg a k)) = pl P (qT G (qsg a k))
        · have e3 := i1.1 e2
          rw [if_pos e2] at c1
          rw [if_pos e3] at c2
          have j1 : pb (pj G P (qsg a k)) (pl (pj G P (qsg a k)) (qF G (qsg a k))) = (pb P (pl P (qF G (qsg a k))) && decide (plk G P (qsg a k) = 0)) := by
            unfold pj
            rw [if_pos e2]
            exact if_pos rfl
          have j2 : pb (pj (qmrg G a) (ps (qmrg G a) t k) k) (pl (pj (qmrg G a) (ps (qmrg G a) t k) k) (qF (qmrg G a) k)) = (pb (ps (qmrg G a) t k) (pl (ps (qmrg G a) t k) (qF (qmrg G a) k)) && decide (plk (qmrg G a) (ps (qmrg G a) t k) k = 0)) := by
            unfold pj
            rw [if_pos e3]
            exact if_pos rfl
          rw [j1, j2, i2] at i4
          rw [i2] at c1
          cases x1 : pb (ps (qmrg G a) t k) (pl (ps (qmrg G a) t k) (qF (qmrg G a) k)) <;> rw [x1] at c1 c2 i4 <;> simp at c1 c2 i4
          · omega
          · simp only [i4] at c1
            omega
        · have e3 : pl (ps (qmrg G a) t k) (qF (qmrg G a) k) ≠ pl (ps (qmrg G a) t k) (qT (qmrg G a) k) := fun x => e2 (i1.2 x)
          rw [if_neg e2, i2, i3] at c1
          rw [if_neg e3] at c2
          omega
  obtain ⟨P, hP, hev⟩ := key (qK G - 1) (Nat.le_refl _)
  show pev (qN G - 1) (ps (qmrg G a) t (qK G - 1)) = _
  rw [← hev]
  refine p_r_ev hG hP (p_r_e (p_r_Ps G s) fun b => ?_) _
  unfold qE
  constructor
  · rintro ⟨h1, h2⟩
    by_cases e : b = a
    · exact Or.inl e
    · obtain ⟨c, rfl⟩ := qsg_ex e
      have hc : c < qK G - 1 := by
        unfold qsg at h1
        split at h1 <;> omega
      exact Or.inr ⟨c, ⟨hc, by rw [← ht c hc]; exact h2⟩, rfl⟩
  · rintro (rfl | ⟨c, ⟨h1, h2⟩, rfl⟩)
    · exact ⟨ha, hsa⟩
    · exact ⟨qsg_lt h1, by rw [ht c h1]; exact h2⟩
end MG
