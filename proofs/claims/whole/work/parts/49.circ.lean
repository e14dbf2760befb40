/-! ranks, circuits, cycles -/
/-- balanced components; components; rank; size -/
def qev (G : q_G) (s : Nat) : Nat := pev (qN G) (qPs G s)
def qnu (G : q_G) (s : Nat) : Nat := pnum (qN G) (qPs G s)
def qrk (G : q_G) (s : Nat) : Nat := qN G - qev G s
def qsz (G : q_G) (s : Nat) : Nat := qcnt s.testBit (qK G)
def qE (G : q_G) (s : Nat) (b : Nat) : Prop := b < qK G ∧ s.testBit b = true
theorem p_r_Ps (G : q_G) (s : Nat) : p_r G (qE G s) (qPs G s) := p_r_s G s (Nat.le_refl _)
theorem pev_j {G : q_G} (hG : q_ok G) {P : q_P} (hP : p_ok (qM G) P) {a : Nat} (ha : a < qK G) : pev (qN G) (pj G P a) + (if pl P (qF G a) = pl P (qT G a) then (pb P (pl P (qF G a)) && !decide (plk G P a = 0)).toNat else (pb P (pl P (qF G a)) || pb P (pl P (qT G a))).toNat) = pev (qN G) P := by
  obtain ⟨a1, a2, a3, _⟩ := hG.2.1 a ha
  have o1 := (hP (qF G a)).1
  have o5 := (hP (qT G a)).1
  unfold pj
  split
  · rename_i e
    exact pev_b (hP _).2.1 (by omega)
  · rename_i e
    split
    · exact pev_mg (hP _).2.1 (hP _).2.1 (by omega) (by omega)
    · rw [Bool.or_comm]
      exact pev_mg (hP _).2.1 (hP _).2.1 (by omega) (by omega)
theorem pnum_j {G : q_G} (hG : q_ok G) {P : q_P} (hP : p_ok (qM G) P) {a : Nat} (ha : a < qK G) : pnum (qN G) (pj G P a) + (if pl P (qF G a) = pl P (qT G a) then 0 else 1) = pnum (qN G) P := by
  obtain ⟨a1, a2, a3, _⟩ := hG.2.1 a ha
  have o1 := (hP (qF G a)).1
  have o5 := (hP (qT G a)).1
  unfold pj
  split
  · rename_i e
    exact pnum_b
  · rename_i e
    split
    · exact pnum_mg (hP _).2.1 (hP _).2.1 (by omega) (by omega)
    · exact pnum_mg (hP _).2.1 (hP _).2.1 (by omega) (by omega)
theorem pev_j1 {G : q_G} (hG : q_ok G) {P : q_P} (hP : p_ok (qM G) P) {a : Nat} (ha : a < qK G) : pev (qN G) (pj G P a) ≤ pev (qN G) P ∧ pev (qN G) P ≤ pev (qN G) (pj G P a) + 1 := by
  have h := pev_j hG hP ha
  have h1 := Bool.toNat_le (pb P (pl P (qF G a)) && !decide (plk G P a = 0))
  have h2 := Bool.toNat_le (pb P (pl P (qF G a)) || pb P (pl P (qT G a)))
  split at h <;> omega
/-- a set with one arc more -/
theorem qE_or {G : q_G} {s t a : Nat} (ha : a < qK G) (ht : ∀ i, i < qK G → t.testBit i = (s.testBit i || decide (i = a))) (b : Nat) : (qE G s b ∨ b = a) ↔ qE G t b := by
  unfold qE
  constructor
  · rintro (⟨h1, h2⟩ | rfl)
    · exact ⟨h1, by rw [ht b h1, h2]; rfl⟩
    · exact ⟨ha, by rw [ht b ha]; simp⟩
  · rintro ⟨h1, h2⟩
    rw [ht b h1] at h2
    by_cases e : b = a
    · exact Or.inr e
    · rw [decide_eq_false e, Bool.or_false] at h2
      exact Or.inl ⟨h1, h2⟩
theorem p_r_or {G : q_G} {s t a : Nat} (ha : a < qK G) (ht : ∀ i, i < qK G → t.testBit i = (s.testBit i || decide (i = a))) : p_r G (qE G t) (pj G (qPs G s) a) :=
  p_r_e (.j (p_r_Ps G s) ha) (qE_or ha ht)
theorem qev_or {G : q_G} (hG : q_ok G) {s t a : Nat} (ha : a < qK G) (ht : ∀ i, i < qK G → t.testBit i = (s.testBit i || decide (i = a))) : qev G t = pev (qN G) (pj G (qPs G s) a) := p_r_ev hG (p_r_Ps G t) (p_r_or ha ht) _
theorem qnu_or {G : q_G} (hG : q_ok G) {s t a : Nat} (ha : a < qK G) (ht : ∀ i, i < qK G → t.testBit i = (s.testBit i || decide (i = a))) : qnu G t = pnum (qN G) (pj G (qPs G s) a) := p_r_num hG (p_r_Ps G t) (p_r_or ha ht) _
theorem qsz_or {G : q_G} {s t a : Nat} (ha : a < qK G) (ht : ∀ i, i < qK G → t.testBit i = (s.testBit i || decide (i = a))) (hs : s.testBit a = false) : qsz G t = qsz G s + 1 := by
  have h := qcnt_up (f := t.testBit) (g := s.testBit) (n := qK G) (j := a) ha (fun i hi he => by rw [ht i hi, decide_eq_false he, Bool.or_false])
  rw [hs, ht a ha, decide_eq_true rfl, Bool.or_true] at h
  simpa [qsz] using h
theorem qrk_le {G : q_G} (hG : q_ok G) (s : Nat) : qrk G s ≤ qsz G s := by
  have h : ∀ a, a ≤ qK G → qN G ≤ pev (qN G) (ps G s a) + qcnt s.testBit a := by
    intro a
    induction a with
    | zero =>
      intro _
      have := pev_z (qN G)
      show qN G ≤ pev (qN G) pz + 0
      omega
    | succ a ih =>
      intro ha
      have h1 := ih (by omega)
      have h2 := pev_j1 hG (pok_s hG s (a := a) (by omega)) (a := a) (by omega)
      unfold ps qcnt
      split
      · rename_i e
        rw [e]
        show qN G ≤ pev (qN G) (pj G (ps G s a) a) + (qcnt s.testBit a + 1)
        omega
      · rename_i e
        omega
  have := h (qK G) (Nat.le_refl _)
  unfold qrk qsz qev qPs
  omega
/-! sums -/
def qsm (f : Nat → Nat) : Nat → Nat
  | 0 => 0
  | n + 1 => qsm f n + f n
theorem qsm_congr {f g : Nat → Nat} {n : Nat} (h : ∀ i, i < n → f i = g i) : qsm f n = qsm g n := by
  induction n with
  | zero => rfl
  | succ n ih =>
    unfold qsm
    rw [ih (fun i hi => h i (by omega)), h n (by omega)]
theorem qsm_add (f g : Nat → Nat) (n : Nat) : qsm (fun i => f i + g i) n = qsm f n + qsm g n := by
  induction n with
  | zero => rfl
  | succ n ih =>
    unfold qsm
    rw [ih]
    omega
theorem qsm_0 (n : Nat) : qsm (fun _ => 0) n = 0 := by
  induction n with
  | zero => rfl
  | succ n ih =>
    unfold qsm
    rw [ih]
theorem qsm_1 {n j : Nat} (hj : j < n) : qsm (fun v => (decide (j = v)).toNat) n = 1 := by
  induction n with
  | zero => exact absurd hj (Nat.not_lt_zero j)
  | succ n ih =>
    unfold qsm
    by_cases e : j = n
    · subst e
      rw [qsm_congr (g := fun _ => 0) fun i hi => by rw [decide_eq_false (by omega : ¬ j = i)]; rfl, qsm_0, decide_eq_true rfl]
      rfl
    · rw [ih (by omega), decide_eq_false e]
      rfl
theorem qsm_cnt (f : Nat → Bool) (n : Nat) : qsm (fun v => (f v).toNat) n = qcnt f n := by
  induction n with
  | zero => rfl
  | succ n ih =>
    unfold qsm qcnt
    rw [ih]
theorem qsm_le {f : Nat → Nat} {n j : Nat} (hj : j < n) : f j ≤ qsm f n := by
  induction n with
  | zero => exact absurd hj (Nat.not_lt_zero j)
  | succ n ih =>
    unfold qsm
    by_cases e : j = n
    · subst e
      omega
    · have := ih (by omega)
      omega
theorem qcnt_add {f g k : Nat → Bool} {n : Nat} (h : ∀ i, i < n → (f i).toNat = (g i).toNat + (k i).toNat) : qcnt f n = qcnt g n + qcnt k n := by
  induction n with
  | zero => rfl
  | succ n ih =>
    unfold qcnt
    rw [ih fun i hi => h i (by omega), h n (by omega)]
    omega
theorem qcnt_le2 {f g : Nat → Bool} {n : Nat} (h : ∀ i, i < n → f i = true → g i = true) : qcnt f n ≤ qcnt g n := by
  induction n with
  | zero => exact Nat.le_refl _
  | succ n ih =>
    have h1 := ih fun i hi => h i (by omega)
    have h2 := h n (by omega)
    unfold qcnt
    cases h3 : f n
    · show qcnt f n + 0 ≤ _
      omega
    · rw [h2 h3]
      omega
theorem qcnt_pos {f : Nat → Bool} {n j : Nat} (hj : j < n) (h : f j = true) : 1 ≤ qcnt f n := by
  have := qsm_le (f := fun v => (f v).toNat) hj
  rw [qsm_cnt, h] at this
  exact this
theorem qcnt_0 {f : Nat → Bool} {n : Nat} (h : ∀ i, i < n → f i = false) : qcnt f n = 0 := by
  induction n with
  | zero => rfl
  | succ n ih =>
    unfold qcnt
    rw [ih fun i hi => h i (by omega), h n (by omega)]
    rfl
theorem qcnt_0' {f : Nat → Bool} {n : Nat} (h : qcnt f n = 0) : ∀ i, i < n → f i = false := by
  intro i hi
  cases e : f i with
  | false => rfl
  | true =>
    have := qcnt_pos hi e
    omega
/-- the ends of the arcs of s at v -/
def qdg (G : q_G) (s v : Nat) : Nat → Nat
  | 0 => 0
  | a + 1 => qdg G s v a + if s.testBit a then (decide (qF G a = v)).toNat + (decide (qT G a = v)).toNat else 0
def qdeg (G : q_G) (s v : Nat) : Nat := qdg G s v (qK G)
theorem qdg_le (G : q_G) (s v a : Nat) : qdg G s v a ≤ 2 * a := by
  induction a with
  | zero => exact Nat.le_refl _
  | succ a ih =>
    have := Bool.toNat_le (decide (qF G a = v))
    have := Bool.toNat_le (decide (qT G a = v))
    unfold qdg
    split <;> omega
theorem qdg_sum {G : q_G} (hG : q_ok G) (s : Nat) {a : Nat} (ha : a ≤ qK G) : qsm (fun v => qdg G s v a) (qN G) = 2 * qcnt s.testBit a := by
  induction a with
  | zero => exact qsm_0 _
  | succ a ih =>
    obtain ⟨a1, a2, _⟩ := hG.2.1 a (by omega)
    have h := ih (by omega)
    unfold qcnt
    cases e : s.testBit a
    · rw [qsm_congr (g := fun v => qdg G s v a) fun i _ => by rw [qdg, e]; rfl, h]
      rfl
    · rw [qsm_congr (g := fun v => qdg G s v a + ((decide (qF G a = v)).toNat + (decide (qT G a = v)).toNat)) fun i _ => by rw [qdg, e, if_pos rfl], qsm_add, h, qsm_add, qsm_1 a1, qsm_1 a2]
      show _ = 2 * (_ + 1)
      omega
theorem qdg_0 {G : q_G} {s v a : Nat} : qdg G s v a = 0 ↔ ∀ b, b < a → s.testBit b = true → qF G b ≠ v ∧ qT G b ≠ v := by
  induction a with
  | zero => exact ⟨fun _ b hb => absurd hb (Nat.not_lt_zero b), fun _ => rfl⟩
  | succ a ih =>
    unfold qdg
    constructor
    · intro h b hb hs
      by_cases e : b = a
      · subst e
        rw [if_pos hs] at h
        constructor
        · intro x
          rw [decide_eq_true x] at h
          simp at h
        · intro x
          rw [decide_eq_true x] at h
          simp at h
      · exact ih.1 (by omega) b (by omega) hs
    · intro h
      rw [ih.2 fun b hb => h b (by omega)]
      split
      · rename_i e
        have := h a (by omega) e
        rw [decide_eq_false this.1, decide_eq_false this.2]
        rfl
      · rfl
/-- where no arc ends -/
theorem p_r_iso {G : q_G} (hG : q_ok G) {E : Nat → Prop} {P : q_P} (h : p_r G E P) {v : Nat} (hv : ∀ b, E b → qF G b ≠ v ∧ qT G b ≠ v) : pl P v = v ∧ (∀ u, pl P u = v → u = v) ∧ pb P v = true := by
  have h1 := p_r_1 h (fun u => if u = v then 1 else 0) (fun b hb => by rw [if_neg (hv b hb).1, if_neg (hv b hb).2])
  have e1 : pl P v = v := by
    have := h1 v
    rw [if_pos rfl] at this
    split at this
    · assumption
    · omega
  have e2 : ∀ u, pl P u = v → u = v := by
    intro u hu
    have := h1 u
    rw [hu, if_pos rfl] at this
    split at this
    · assumption
    · omega
  refine ⟨e1, e2, ?_⟩
  refine (p_r_b2 hG h (ph P) (fun u => (p_r_ok hG h u).2.2.1) v e1 fun b hb hbr => ?_).1
  exact absurd (e2 _ hbr) (hv b hb).1
/-- an end at a vertex -/
def qtch (G : q_G) (s v : Nat) : Bool := decide (qdeg G s v ≠ 0)
theorem qtch_f {G : q_G} (hG : q_ok G) {s v : Nat} (h : qtch G s v = false) : pl (qPs G s) v = v ∧ (∀ u, pl (qPs G s) u = v → u = v) ∧ pb (qPs G s) v = true := by
  have h2 : qdeg G s v = 0 := Decidable.not_not.mp (of_decide_eq_false h)
  exact p_r_iso hG (p_r_Ps G s) fun b hb => qdg_0.1 h2 b hb.1 hb.2
/-- components with arcs -/
def qkp (G : q_G) (s : Nat) : Nat := qcnt (fun v => qtch G s v && prt (qPs G s) v) (qN G)
def qbt (G : q_G) (s : Nat) : Nat := qcnt (fun v => qtch G s v && (prt (qPs G s) v && pb (qPs G s) v)) (qN G)
def qal (G : q_G) (s : Nat) : Nat := qcnt (fun v => !qtch G s v) (qN G)
theorem qnu_kp {G : q_G} (hG : q_ok G) (s : Nat) : qnu G s = qal G s + qkp G s := by
  refine qcnt_add fun v _ => ?_
  cases e : qtch G s v
  · have := qtch_f hG e
    show (decide (pl (qPs G s) v = v)).toNat = _
    rw [decide_eq_true this.1]
    rfl
  · show _ = 0 + _
    rw [Nat.zero_add]
    rfl
theorem qev_bt {G : q_G} (hG : q_ok G) (s : Nat) : qev G s = qal G s + qbt G s := by
  refine qcnt_add fun v _ => ?_
  cases e : qtch G s v
  · have := qtch_f hG e
    show (decide (pl (qPs G s) v = v) && _).toNat = _
    rw [decide_eq_true this.1, this.2.2]
    rfl
  · show _ = 0 + _
    rw [Nat.zero_add]
    rfl
theorem qal_to (G : q_G) (s : Nat) : qal G s + qcnt (qtch G s) (qN G) = qN G := by
  have h := qcnt_add (f := fun _ => true) (g := fun v => !qtch G s v) (k := qtch G s) (n := qN G) fun v _ => by cases qtch G s v <;> rfl
  rw [qcnt_all fun _ _ => rfl] at h
  exact h.symm
theorem qbt_le (G : q_G) (s : Nat) : qbt G s ≤ qkp G s := qcnt_le2 fun v _ h => by
  simp only [Bool.and_eq_true] at h ⊢
  exact ⟨h.1, h.2.1⟩
theorem qkp_pos {G : q_G} (hG : q_ok G) {s a : Nat} (ha : a < qK G) (hs : s.testBit a = true) : 1 ≤ qkp G s := by
  have hok := p_r_ok hG (p_r_Ps G s) (qF G a)
  have hF := (hG.2.1 a ha).1
  refine qcnt_pos (j := pl (qPs G s) (qF G a)) (by omega) ?_
  rw [Bool.and_eq_true]
  refine ⟨?_, decide_eq_true hok.2.1⟩
  cases e : qtch G s (pl (qPs G s) (qF G a)) with
  | true => rfl
  | false =>
    have h := qtch_f hG e
    have h1 := h.2.1 _ rfl
    have h2 : qdeg G s (pl (qPs G s) (qF G a)) = 0 := Decidable.not_not.mp (of_decide_eq_false e)
    exact absurd h1 (qdg_0.1 h2 a ha hs).1
