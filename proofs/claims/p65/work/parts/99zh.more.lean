/-! more of what was shown for whole -/
theorem qpl_cm (m a b : Nat) : qpl m a b = qpl m b a := by
  unfold qpl
  rw [Nat.add_comm]
theorem qpl_as {m a b c : Nat} (ha : a < m) (hb : b < m) (hc : c < m) : qpl m (qpl m a b) c = qpl m a (qpl m b c) := by
  unfold qpl
  split <;> split <;> split <;> (try split) <;> omega
theorem qpl_mi {m x y z : Nat} (hx : x < m) (hy : y < m) (hz : z < m) : qpl m y (qmi m (qpl m x z) y) = qpl m x z := by
  unfold qpl qmi
  split <;> split <;> split <;> omega
theorem qmi_0 {m x y : Nat} (hx : x < m) (hy : y < m) : qmi m x y = 0 ↔ x = y := by
  unfold qmi
  split <;> omega
theorem qpl_0 {m a : Nat} (ha : a < m) : qpl m a 0 = a := by
  unfold qpl
  split <;> omega
theorem qpl_can {m a b c : Nat} (ha : a < m) (hb : b < m) (hc : c < m) (h : qpl m a c = qpl m b c) : a = b := by
  unfold qpl at h
  split at h <;> split at h <;> omega
theorem p_r_ind {G : q_G} {mo : (Nat → Prop) → q_P → Prop} (hz : mo (fun _ => False) pz) (hj : ∀ E P a, p_r G E P → a < qK G → mo E P → mo (fun b => E b ∨ b = a) (pj G P a)) {E : Nat → Prop} {P : q_P} (h : p_r G E P) : mo E P := by
  obtain ⟨l, h1, h2, h3⟩ := h
  induction l generalizing E P with
  | nil =>
    have e : E = fun _ => False := funext fun b => propext ((h2 b).trans ⟨fun h => absurd h (List.not_mem_nil), fun h => h.elim⟩)
    rw [e, h3]
    exact hz
  | cons a l ih =>
    have e : E = fun b => b ∈ l ∨ b = a := funext fun b => propext ((h2 b).trans (List.mem_cons.trans Or.comm))
    have h4 : p_r G (fun b => b ∈ l) (l.foldr (fun a P => pj G P a) pz) := ⟨l, fun b hb => h1 b (List.mem_cons_of_mem a hb), fun b => Iff.rfl, rfl⟩
    rw [e, h3]
    exact hj _ _ a h4 (h1 a (List.mem_cons_self ..)) (ih (fun b hb => h1 b (List.mem_cons_of_mem a hb)) (fun b => Iff.rfl) rfl)
theorem p_r_e {G : q_G} {E E' : Nat → Prop} {P : q_P} (h : p_r G E P) (he : ∀ b, E b ↔ E' b) : p_r G E' P := by
  have : E = E' := funext fun b => propext (he b)
  rw [← this]
  exact h
theorem p_r_s (G : q_G) (s : Nat) {a : Nat} (ha : a ≤ qK G) : p_r G (fun b => b < a ∧ s.testBit b = true) (ps G s a) := by
  induction a with
  | zero => exact p_r_e .z fun b => ⟨fun h => h.elim, fun h => absurd h.1 (Nat.not_lt_zero b)⟩
  | succ a ih =>
    unfold ps
    split
    · rename_i h
      refine p_r_e (.j (ih (by omega)) (show a < qK G by omega)) fun b => ?_
      constructor
      · rintro (⟨h1, h2⟩ | rfl)
        · exact ⟨by omega, h2⟩
        · exact ⟨by omega, h⟩
      · rintro ⟨h1, h2⟩
        by_cases e : b = a
        · exact Or.inr e
        · exact Or.inl ⟨by omega, h2⟩
    · rename_i h
      refine p_r_e (ih (by omega)) fun b => ?_
      constructor
      · rintro ⟨h1, h2⟩
        exact ⟨by omega, h2⟩
      · rintro ⟨h1, h2⟩
        by_cases e : b = a
        · subst e; exact absurd h2 h
        · exact ⟨by omega, h2⟩
/-- the lowest vertices behind an arc -/
theorem pl_j (G : q_G) (P : q_P) (a v : Nat) : pl (pj G P a) v = if pl P v = max (pl P (qF G a)) (pl P (qT G a)) then min (pl P (qF G a)) (pl P (qT G a)) else pl P v := by
  unfold pj
  by_cases h1 : pl P (qF G a) = pl P (qT G a)
  · rw [if_pos h1, ← h1, Nat.max_self, Nat.min_self]
    show pl P v = _
    split
    · assumption
    · rfl
  · rw [if_neg h1]
    by_cases h2 : pl P (qF G a) < pl P (qT G a)
    · rw [if_pos h2, pl_mg, Nat.max_eq_right (by omega), Nat.min_eq_left (by omega)]
    · rw [if_neg h2, pl_mg, Nat.max_eq_left (by omega), Nat.min_eq_right (by omega)]
theorem p_r_ok {G : q_G} (hG : q_ok G) {E : Nat → Prop} {P : q_P} (h : p_r G E P) : p_ok (qM G) P := by
  exact p_r_ind (mo := fun _ P => p_ok (qM G) P) (pok_z hG.1.2.2.1) (fun _ _ _ _ ha ih => pok_j hG ih ha) h
theorem p_r_K {G : q_G} {E : Nat → Prop} {P : q_P} (h : p_r G E P) {b : Nat} (hb : E b) : b < qK G := by
  refine p_r_ind (mo := fun E _ => ∀ b, E b → b < qK G) (fun b hb => hb.elim) (fun E P a _ ha ih b hb => ?_) h b hb
  rcases hb with h1 | rfl
  · exact ih b h1
  · exact ha
theorem p_r_2 {G : q_G} {E : Nat → Prop} {P : q_P} (h : p_r G E P) : ∀ b, E b → pl P (qF G b) = pl P (qT G b) := by
  refine p_r_ind (mo := fun E P => ∀ b, E b → pl P (qF G b) = pl P (qT G b)) (fun b hb => hb.elim) ?_ h
  · intro E P a _ _ ih b hb
    rw [pl_j, pl_j]
    rcases hb with hb | rfl
    · rw [ih b hb]
    · rcases Nat.lt_or_ge (pl P (qF G b)) (pl P (qT G b)) with h1 | h1
      · rw [Nat.max_eq_right (by omega), Nat.min_eq_left (by omega), if_pos rfl, if_neg (by omega)]
      · rw [Nat.max_eq_left (by omega), Nat.min_eq_right (by omega), if_pos rfl]
        split <;> rfl
theorem p_r_1 {G : q_G} {E : Nat → Prop} {P : q_P} (h : p_r G E P) : ∀ c : Nat → Nat, (∀ b, E b → c (qF G b) = c (qT G b)) → ∀ v, c v = c (pl P v) := by
  refine p_r_ind (mo := fun E P => ∀ c : Nat → Nat, (∀ b, E b → c (qF G b) = c (qT G b)) → ∀ v, c v = c (pl P v)) (fun c _ v => rfl) ?_ h
  · intro E P a _ _ ih c hc v
    have h1 := ih c (fun b hb => hc b (Or.inl hb))
    have h2 := hc a (Or.inr rfl)
    have h3 : c (pl P (qF G a)) = c (pl P (qT G a)) := by rw [← h1, ← h1, h2]
    rw [pl_j]
    split
    · rename_i e
      rw [h1 v, e]
      rcases Nat.lt_or_ge (pl P (qF G a)) (pl P (qT G a)) with h4 | h4
      · rw [Nat.max_eq_right (by omega), Nat.min_eq_left (by omega), h3]
      · rw [Nat.max_eq_left (by omega), Nat.min_eq_right (by omega), h3]
    · exact h1 v
theorem p_r_b1 {G : q_G} (hG : q_ok G) {E : Nat → Prop} {P : q_P} (h : p_r G E P) : ∀ b, E b → pb P (pl P (qF G b)) = true → qpl (qM G) (ph P (qF G b)) (qA G b) = ph P (qT G b) := by
  refine p_r_ind (mo := fun E P => ∀ b, E b → pb P (pl P (qF G b)) = true → qpl (qM G) (ph P (qF G b)) (qA G b) = ph P (qT G b)) (fun b hb => hb.elim) ?_ h
  · intro E P a h0 ha ih
    have hok := p_r_ok hG h0
    have hA : ∀ b, b < qK G → qA G b < qM G := fun b hb => (hG.2.1 b hb).2.2.1
    have hl := plk_lt hG hok ha
    have hf := (hok (qF G a)).2.2.1
    have ht := (hok (qT G a)).2.2.1
    have hfa := qpl_lt hf (hA a ha)
    intro b hb
    have hbK : b < qK G := p_r_K (.j h0 ha) hb
    have hbF := (hok (qF G b)).2.2.1
    have hbT := (hok (qT G b)).2.2.1
    unfold pj
    split
    · rename_i e
      show pb (pbd P _ _) (pl P (qF G b)) = true → qpl (qM G) (ph P (qF G b)) (qA G b) = ph P (qT G b)
      rcases hb with hb | rfl
      · intro h2
        refine ih b hb ?_
        have h3 : (if pl P (qF G b) = pl P (qF G a) then pb P (pl P (qF G a)) && decide (plk G P a = 0) else pb P (pl P (qF G b))) = true := h2
        split at h3
        · rename_i e2
          rw [Bool.and_eq_true] at h3
          rw [e2]
          exact h3.1
        · exact h3
      · intro h2
        have h3 : (if pl P (qF G b) = pl P (qF G b) then pb P (pl P (qF G b)) && decide (plk G P b = 0) else pb P (pl P (qF G b))) = true := h2
        rw [if_pos rfl, Bool.and_eq_true] at h3
        exact (qmi_0 hfa ht).1 (of_decide_eq_true h3.2)
    · rename_i e
      have key : ∀ hi lo lift, lift < qM G → hi ≠ lo → (lo = pl P (qF G a) ∨ lo = pl P (qT G a)) → pl P lo = lo →
          ((pl P (qF G a) = hi ∧ pl P (qT G a) = lo ∧ qpl (qM G) (qpl (qM G) (ph P (qF G a)) lift) (qA G a) = ph P (qT G a)) ∨ (pl P (qT G a) = hi ∧ pl P (qF G a) = lo ∧ qpl (qM G) (ph P (qF G a)) (qA G a) = qpl (qM G) (ph P (qT G a)) lift)) →
          pb (pmg (qM G) P hi lo lift) (pl (pmg (qM G) P hi lo lift) (qF G b)) = true → qpl (qM G) (ph (pmg (qM G) P hi lo lift) (qF G b)) (qA G b) = ph (pmg (qM G) P hi lo lift) (qT G b) := by
        intro hi lo lift hlift hne hlo hlo2 hcase h2
        rw [ph_mg, ph_mg]
        rw [pl_mg, pb_mg] at h2
        rcases hb with hb | rfl
        · have e2 := p_r_2 h0 b hb
          by_cases e3 : pl P (qF G b) = hi
          · rw [if_pos e3, if_pos (by omega)]
            rw [if_pos e3, if_pos rfl, Bool.and_eq_true] at h2
            have := ih b hb (by rw [e3]; exact h2.2)
            rw [qpl_as hbF hlift (hA b hbK), qpl_cm _ lift, ← qpl_as hbF (hA b hbK) hlift, this]
          · rw [if_neg e3, if_neg (by omega)]
            rw [if_neg e3] at h2
            refine ih b hb ?_
            split at h2
            · rename_i e4
              rw [Bool.and_eq_true] at h2
              rw [e4]
              exact h2.1
            · exact h2
        · rcases hcase with ⟨c1, c2, c3⟩ | ⟨c1, c2, c3⟩
          · rw [if_pos c1, if_neg (by omega)]
            exact c3
          · rw [if_neg (by omega), if_pos c1]
            exact c3
      split
      · rename_i e2
        refine key _ _ _ hl (by omega) (Or.inl rfl) (hok _).2.1 (Or.inr ⟨rfl, rfl, ?_⟩)
        exact (qpl_mi hf ht (hA a ha)).symm
      · rename_i e2
        refine key _ _ _ (qmi_lt (by omega) hl) (by omega) (Or.inr rfl) (hok _).2.1 (Or.inl ⟨rfl, rfl, ?_⟩)
        have h5 := hA a ha
        unfold plk
        generalize ph P (qF G a) = x at *
        generalize ph P (qT G a) = y at *
        generalize qA G a = z at *
        generalize qM G = m at *
        unfold qpl qmi
        (repeat' split) <;> omega
theorem p_r_b2 {G : q_G} (hG : q_ok G) {E : Nat → Prop} {P : q_P} (h : p_r G E P) : ∀ (c : Nat → Nat), (∀ v, c v < qM G) → ∀ r, pl P r = r → (∀ b, E b → pl P (qF G b) = r → qpl (qM G) (c (qF G b)) (qA G b) = c (qT G b)) → pb P r = true ∧ ∀ v, pl P v = r → c v = qpl (qM G) (ph P v) (c r) := by
  refine p_r_ind (mo := fun E P => ∀ (c : Nat → Nat), (∀ v, c v < qM G) → ∀ r, pl P r = r → (∀ b, E b → pl P (qF G b) = r → qpl (qM G) (c (qF G b)) (qA G b) = c (qT G b)) → pb P r = true ∧ ∀ v, pl P v = r → c v = qpl (qM G) (ph P v) (c r)) ?_ ?_ h
  · intro c hc r _ _
    refine ⟨rfl, fun v hv => ?_⟩
    have hv' : v = r := hv
    subst hv'
    show c v = qpl (qM G) 0 (c v)
    rw [qpl_cm, qpl_0 (hc v)]
  · intro E P a h0 ha ih
    have hok := p_r_ok hG h0
    have hA : ∀ b, b < qK G → qA G b < qM G := fun b hb => (hG.2.1 b hb).2.2.1
    have hl := plk_lt hG hok ha
    have hf := (hok (qF G a)).2.2.1
    have ht := (hok (qT G a)).2.2.1
    have hfa := qpl_lt hf (hA a ha)
    have hAa := hA a ha
    intro c hc r
    have c1 := hc (qF G a)
    have c2 := hc (qT G a)
    unfold pj
    split
    · rename_i e
      intro hr hfit
      have hr' : pl P r = r := hr
      have h1 := ih c hc r hr' (fun b hb hbr => hfit b (Or.inl hb) hbr)
      refine ⟨?_, h1.2⟩
      show (if r = pl P (qF G a) then pb P (pl P (qF G a)) && decide (plk G P a = 0) else pb P r) = true
      split
      · rename_i e2
        rw [← e2, h1.1, Bool.true_and]
        refine decide_eq_true ?_
        have h3 := hfit a (Or.inr rfl) e2.symm
        rw [h1.2 _ e2.symm, h1.2 _ (e2.trans e).symm] at h3
        refine (qmi_0 hfa ht).2 ?_
        rw [qpl_as hf (hc r) hAa, qpl_cm _ (c r), ← qpl_as hf hAa (hc r)] at h3
        exact qpl_can hfa ht (hc r) h3
      · exact h1.1
    · rename_i e
      have key : ∀ hi lo lift, lift < qM G → hi ≠ lo → pl P lo = lo → pl P hi = hi →
          (pl P (qF G a) = hi ∧ pl P (qT G a) = lo ∨ pl P (qT G a) = hi ∧ pl P (qF G a) = lo) →
          ((∀ v, pl P v = lo → c v = qpl (qM G) (ph P v) (c lo)) → (∀ v, pl P v = hi → c v = qpl (qM G) (ph P v) (c hi)) → qpl (qM G) (c (qF G a)) (qA G a) = c (qT G a) → c hi = qpl (qM G) lift (c lo)) →
          pl (pmg (qM G) P hi lo lift) r = r → (∀ b, (E b ∨ b = a) → pl (pmg (qM G) P hi lo lift) (qF G b) = r → qpl (qM G) (c (qF G b)) (qA G b) = c (qT G b)) →
          pb (pmg (qM G) P hi lo lift) r = true ∧ ∀ v, pl (pmg (qM G) P hi lo lift) v = r → c v = qpl (qM G) (ph (pmg (qM G) P hi lo lift) v) (c r) := by
        intro hi lo lift hlift hne hlo hhi hcase heq hr hfit
        have hr0 : r ≠ hi := by
          rintro rfl
          rw [pl_mg, if_pos hhi] at hr
          exact hne hr.symm
        have hr1 : pl P r = r := by
          rw [pl_mg] at hr
          split at hr
          · rw [← hr]; exact hlo
          · exact hr
        have h1 := ih c hc r hr1 (fun b hb hbr => hfit b (Or.inl hb) (by rw [pl_mg, if_neg (by omega)]; exact hbr))
        by_cases e2 : r = lo
        · subst e2
          have h2 := ih c hc hi hhi (fun b hb hbr => hfit b (Or.inl hb) (by rw [pl_mg, if_pos hbr]))
          have h3 := hfit a (Or.inr rfl) (by
            rw [pl_mg]
            rcases hcase with ⟨x1, x2⟩ | ⟨x1, x2⟩
            · rw [if_pos x1]
            · rw [if_neg (by omega), x2])
          have h4 := heq h1.2 h2.2 h3
          refine ⟨?_, fun v hv => ?_⟩
          · rw [pb_mg, if_pos rfl, h1.1, h2.1]
            rfl
          · rw [pl_mg] at hv
            rw [ph_mg]
            split
            · rename_i e3
              rw [qpl_as (hok v).2.2.1 hlift (hc r), ← h4]
              exact h2.2 v e3
            · rename_i e3
              rw [if_neg e3] at hv
              exact h1.2 v hv
        · refine ⟨?_, fun v hv => ?_⟩
          · rw [pb_mg, if_neg e2]
            exact h1.1
          · rw [pl_mg] at hv
            rw [ph_mg]
            split
            · rename_i e3
              rw [if_pos e3] at hv
              exact absurd hv.symm e2
            · rename_i e3
              rw [if_neg e3] at hv
              exact h1.2 v hv
      have hcl := hc (pl P (qF G a))
      have hch := hc (pl P (qT G a))
      split
      · rename_i e2
        refine key _ _ _ hl (by omega) (hok _).2.1 (hok _).2.1 (Or.inr ⟨rfl, rfl⟩) ?_
        intro h1 h2 h3
        rw [h1 _ rfl, h2 _ rfl] at h3
        unfold plk
        generalize c (pl P (qF G a)) = p at *
        generalize c (pl P (qT G a)) = q at *
        generalize ph P (qF G a) = x at *
        generalize ph P (qT G a) = y at *
        generalize qA G a = z at *
        generalize qM G = m at *
        clear key h1 h2 ih hc
        unfold qpl qmi at *
        (repeat' split at h3) <;> (repeat' split) <;> omega
      · rename_i e2
        refine key _ _ _ (qmi_lt (by omega) hl) (by omega) (hok _).2.1 (hok _).2.1 (Or.inl ⟨rfl, rfl⟩) ?_
        intro h1 h2 h3
        rw [h2 _ rfl, h1 _ rfl] at h3
        unfold plk
        generalize c (pl P (qF G a)) = p at *
        generalize c (pl P (qT G a)) = q at *
        generalize ph P (qF G a) = x at *
        generalize ph P (qT G a) = y at *
        generalize qA G a = z at *
        generalize qM G = m at *
        clear key h1 h2 ih hc
        unfold qpl qmi at *
        (repeat' split at h3) <;> (repeat' split) <;> omega
