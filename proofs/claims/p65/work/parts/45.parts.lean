/-! components with potentials, of the arcs of a set one by one -/
theorem qcnt_up {f g : Nat → Bool} {n j : Nat} (hj : j < n) (h : ∀ i, i < n → i ≠ j → f i = g i) : qcnt f n + (g j).toNat = qcnt g n + (f j).toNat := by
  induction n with
  | zero => exact absurd hj (Nat.not_lt_zero j)
  | succ n ih =>
    unfold qcnt
    by_cases e : j = n
    · subst e
      rw [qcnt_congr (f := f) (g := g) fun i hi => h i (by omega) (by omega)]
      omega
    · have := ih (by omega) (fun i hi he => h i (by omega) he)
      rw [h n (by omega) (fun x => e x.symm)]
      omega
theorem qcnt_up2 {f g : Nat → Bool} {n i j : Nat} (hi : i < n) (hj : j < n) (hij : i ≠ j) (h : ∀ k, k < n → k ≠ i → k ≠ j → f k = g k) : qcnt f n + (g i).toNat + (g j).toNat = qcnt g n + (f i).toNat + (f j).toNat := by
  have h1 := qcnt_up (f := f) (g := fun k => if k = i then g i else f k) hi (fun k hk he => by simp [he])
  have h2 := qcnt_up (f := fun k => if k = i then g i else f k) (g := g) hj (fun k hk he => by
    by_cases e : k = i
    · subst e; simp
    · simp [e, h k hk e he])
  simp only [if_pos, if_neg (Ne.symm hij)] at h1 h2
  omega
abbrev q_P : Type := (Nat → Nat) × (Nat → Nat) × (Nat → Bool)
def pl (P : q_P) (v : Nat) : Nat := P.1 v
def ph (P : q_P) (v : Nat) : Nat := P.2.1 v
def pb (P : q_P) (v : Nat) : Bool := P.2.2 v
def pz : q_P := (fun v => v, fun _ => 0, fun _ => true)
/-- what an arc lacks -/
def plk (G : q_G) (P : q_P) (a : Nat) : Nat := qmi (qM G) (qpl (qM G) (ph P (qF G a)) (qA G a)) (ph P (qT G a))
/-- a component comes to a lower one -/
def pmg (m : Nat) (P : q_P) (hi lo b : Nat) : q_P := (fun v => if pl P v = hi then lo else pl P v, fun v => if pl P v = hi then qpl m (ph P v) b else ph P v, fun v => if v = lo then pb P lo && pb P hi else pb P v)
/-- a component stays balanced or not -/
def pbd (P : q_P) (r : Nat) (b : Bool) : q_P := (P.1, P.2.1, fun v => if v = r then pb P r && b else pb P v)
/-- an arc comes -/
def pj (G : q_G) (P : q_P) (a : Nat) : q_P :=
  if pl P (qF G a) = pl P (qT G a) then pbd P (pl P (qF G a)) (decide (plk G P a = 0))
  else if pl P (qF G a) < pl P (qT G a) then pmg (qM G) P (pl P (qT G a)) (pl P (qF G a)) (plk G P a)
  else pmg (qM G) P (pl P (qF G a)) (pl P (qT G a)) (qmi (qM G) 0 (plk G P a))
/-- the arcs of s before a -/
def ps (G : q_G) (s : Nat) : Nat → q_P
  | 0 => pz
  | a + 1 => if s.testBit a then pj G (ps G s a) a else ps G s a
def p_ok (m : Nat) (P : q_P) : Prop := ∀ v, pl P v ≤ v ∧ pl P (pl P v) = pl P v ∧ ph P v < m ∧ ph P (pl P v) = 0
def prt (P : q_P) (v : Nat) : Bool := decide (pl P v = v)
def pnum (n : Nat) (P : q_P) : Nat := qcnt (prt P) n
def pev (n : Nat) (P : q_P) : Nat := qcnt (fun v => prt P v && pb P v) n
def podd (n : Nat) (P : q_P) : Nat := qbits (fun v => prt P v && !pb P v) n
theorem pok_z {m : Nat} (hm : 1 ≤ m) : p_ok m pz := fun v => ⟨Nat.le_refl v, rfl, by show 0 < m; omega, rfl⟩
theorem pok_b {m : Nat} {P : q_P} (h : p_ok m P) (r : Nat) (b : Bool) : p_ok m (pbd P r b) := h
theorem pl_mg {m : Nat} {P : q_P} {hi lo b : Nat} (v : Nat) : pl (pmg m P hi lo b) v = if pl P v = hi then lo else pl P v := rfl
theorem ph_mg {m : Nat} {P : q_P} {hi lo b : Nat} (v : Nat) : ph (pmg m P hi lo b) v = if pl P v = hi then qpl m (ph P v) b else ph P v := rfl
theorem pb_mg {m : Nat} {P : q_P} {hi lo b : Nat} (v : Nat) : pb (pmg m P hi lo b) v = if v = lo then pb P lo && pb P hi else pb P v := rfl
theorem pok_m {m : Nat} {P : q_P} (h : p_ok m P) {hi lo b : Nat} (hl : pl P lo = lo) (hlt : lo < hi) (hb : b < m) : p_ok m (pmg m P hi lo b) := by
  intro v
  obtain ⟨h1, h2, h3, h4⟩ := h v
  have h5 := (h lo).2.2.2
  rw [hl] at h5
  rw [pl_mg, ph_mg]
  by_cases e : pl P v = hi
  · rw [if_pos e, if_pos e]
    rw [pl_mg, ph_mg, hl, if_neg (by omega), if_neg (by omega)]
    exact ⟨by omega, rfl, qpl_lt h3 hb, h5⟩
  · rw [if_neg e, if_neg e]
    rw [pl_mg, ph_mg, h2, if_neg e, if_neg e]
    exact ⟨h1, rfl, h3, h4⟩
theorem plk_lt {G : q_G} (hG : q_ok G) {P : q_P} (h : p_ok (qM G) P) {a : Nat} (ha : a < qK G) : plk G P a < qM G := by
  have h1 := (hG.2.1 a ha).2.2.1
  exact qmi_lt (qpl_lt (h _).2.2.1 h1) (h _).2.2.1
theorem pok_j {G : q_G} (hG : q_ok G) {P : q_P} (h : p_ok (qM G) P) {a : Nat} (ha : a < qK G) : p_ok (qM G) (pj G P a) := by
  have h1 := plk_lt hG h ha
  unfold pj
  split
  · exact pok_b h _ _
  · split
    · exact pok_m h (h _).2.1 (by omega) h1
    · exact pok_m h (h _).2.1 (by omega) (qmi_lt (by omega) h1)
theorem pok_s {G : q_G} (hG : q_ok G) (s : Nat) {a : Nat} (ha : a ≤ qK G) : p_ok (qM G) (ps G s a) := by
  induction a with
  | zero => exact pok_z hG.1.2.2.1
  | succ a ih =>
    unfold ps
    split
    · exact pok_j hG (ih (by omega)) (by omega)
    · exact ih (by omega)
theorem ps_congr {G : q_G} {s t a : Nat} (h : ∀ i, i < a → s.testBit i = t.testBit i) : ps G s a = ps G t a := by
  induction a with
  | zero => rfl
  | succ a ih =>
    unfold ps
    rw [ih fun i hi => h i (by omega), h a (by omega)]
/-! how many components there are -/
theorem prt_mg {m : Nat} {P : q_P} {hi lo b : Nat} (hl : pl P lo = lo) (hlt : lo < hi) (v : Nat) : prt (pmg m P hi lo b) v = (prt P v && decide (v ≠ hi)) := by
  unfold prt
  rw [pl_mg]
  by_cases e : pl P v = hi
  · rw [if_pos e]
    have h1 : ¬ lo = v := by
      rintro rfl
      omega
    by_cases e2 : v = hi
    · simp [e2]
      omega
    · rw [decide_eq_false h1, decide_eq_false (show ¬ pl P v = v by omega)]
      rfl
  · rw [if_neg e]
    by_cases e2 : v = hi
    · subst e2
      simp [e]
    · simp [e2]
theorem pnum_mg {m n : Nat} {P : q_P} {hi lo b : Nat} (hl : pl P lo = lo) (hh : pl P hi = hi) (hlt : lo < hi) (hn : hi < n) : pnum n (pmg m P hi lo b) + 1 = pnum n P := by
  have h := qcnt_up (f := prt (pmg m P hi lo b)) (g := prt P) (n := n) (j := hi) hn (fun i _ he => by rw [prt_mg hl hlt]; simp [he])
  rw [prt_mg hl hlt] at h
  have e : prt P hi = true := decide_eq_true hh
  rw [e] at h
  simp at h
  exact h
theorem pev_mg {m n : Nat} {P : q_P} {hi lo b : Nat} (hl : pl P lo = lo) (hh : pl P hi = hi) (hlt : lo < hi) (hn : hi < n) : pev n (pmg m P hi lo b) + (pb P lo || pb P hi).toNat = pev n P := by
  have h : pev n (pmg m P hi lo b) + (prt P hi && pb P hi).toNat + (prt P lo && pb P lo).toNat = pev n P + (prt (pmg m P hi lo b) hi && pb (pmg m P hi lo b) hi).toNat + (prt (pmg m P hi lo b) lo && pb (pmg m P hi lo b) lo).toNat := qcnt_up2 (f := fun v => prt (pmg m P hi lo b) v && pb (pmg m P hi lo b) v) (g := fun v => prt P v && pb P v) (n := n) (i := hi) (j := lo) hn (by omega) (by omega) (fun i _ h1 h2 => by
    show (_ && _) = (_ && _)
    rw [prt_mg hl hlt, pb_mg, if_neg h2]; simp [h1])
  have e : prt P hi = true := decide_eq_true hh
  have e2 : prt P lo = true := decide_eq_true hl
  rw [prt_mg hl hlt, prt_mg hl hlt, pb_mg lo, if_pos rfl, e, e2, decide_eq_false (show ¬ hi ≠ hi from fun x => x rfl), decide_eq_true (show lo ≠ hi by omega)] at h
  cases h1 : pb P lo <;> cases h2 : pb P hi <;> simp [h1, h2] at h ⊢ <;> omega
theorem podd_mg {m n : Nat} {P : q_P} {hi lo b : Nat} (hl : pl P lo = lo) (hh : pl P hi = hi) (hlt : lo < hi) (hn : hi < n) : podd n (pmg m P hi lo b) = if pb P lo && pb P hi then podd n P else gnd (podd n P) (2 ^ hi) ||| 2 ^ lo := by
  have e : prt P hi = true := decide_eq_true hh
  have e2 : prt P lo = true := decide_eq_true hl
  symm
  refine qbits_eq fun i => ?_
  rw [prt_mg hl hlt, pb_mg]
  cases h1 : (pb P lo && pb P hi)
  · rw [if_neg (by decide), Nat.testBit_or, gnd_bit, Nat.testBit_two_pow, Nat.testBit_two_pow]
    unfold podd
    rw [qbits_bit]
    by_cases a1 : i = lo
    · subst a1
      simp [e2, show i < n by omega, show ¬ i = hi by omega, show ¬ hi = i by omega]
    · by_cases a2 : i = hi
      · subst a2
        simp [a1, Ne.symm a1]
      · simp [a1, a2, Ne.symm a1, Ne.symm a2]
  · rw [if_pos rfl]
    unfold podd
    rw [qbits_bit]
    rw [Bool.and_eq_true] at h1
    by_cases a1 : i = lo
    · subst a1
      simp [h1.1, h1.2]
    · by_cases a2 : i = hi
      · subst a2
        simp [h1.2]
      · simp [a1, a2]
theorem pev_b {n : Nat} {P : q_P} {r : Nat} {b : Bool} (hr : pl P r = r) (hn : r < n) : pev n (pbd P r b) + (pb P r && !b).toNat = pev n P := by
  have e : prt P r = true := decide_eq_true hr
  have h := qcnt_up (f := fun v => prt (pbd P r b) v && pb (pbd P r b) v) (g := fun v => prt P v && pb P v) (n := n) (j := r) hn (fun i _ he => by
    show (prt P i && if i = r then _ else pb P i) = (prt P i && pb P i)
    rw [if_neg he])
  have e3 : (prt (pbd P r b) r && pb (pbd P r b) r) = (pb P r && b) := by
    show (prt P r && if r = r then _ else _) = _
    rw [if_pos rfl, e, Bool.true_and]
  rw [e3, e, Bool.true_and] at h
  unfold pev
  cases h1 : pb P r <;> cases b <;> simp [h1] at h ⊢ <;> omega
theorem podd_b {n : Nat} {P : q_P} {r : Nat} {b : Bool} (hr : pl P r = r) (hn : r < n) : podd n (pbd P r b) = if b then podd n P else podd n P ||| 2 ^ r := by
  have e : prt P r = true := decide_eq_true hr
  symm
  refine qbits_eq fun i => ?_
  have e3 : (prt (pbd P r b) i && !pb (pbd P r b) i) = (prt P i && !(if i = r then pb P r && b else pb P i)) := rfl
  rw [e3]
  cases b
  · rw [if_neg (by decide), Nat.testBit_or, Nat.testBit_two_pow]
    unfold podd
    rw [qbits_bit]
    by_cases a1 : i = r
    · subst a1
      simp [e, hn]
    · simp [a1, Ne.symm a1]
  · rw [if_pos rfl]
    unfold podd
    rw [qbits_bit]
    by_cases a1 : i = r
    · subst a1
      simp
    · simp [a1]
theorem podd_lt (n : Nat) (P : q_P) : podd n P < 2 ^ n := qbits_lt _ _
theorem podd_bit {n : Nat} {P : q_P} {r : Nat} (hr : pl P r = r) (hn : r < n) : (podd n P).testBit r = !pb P r := by
  unfold podd
  rw [qbits_bit]
  simp [hn, prt, hr]
theorem pev_le (n : Nat) (P : q_P) : pev n P ≤ n := qcnt_le _ _
theorem pnum_le (n : Nat) (P : q_P) : pnum n P ≤ n := qcnt_le _ _
theorem qcnt_all {f : Nat → Bool} {n : Nat} (h : ∀ i, i < n → f i = true) : qcnt f n = n := by
  induction n with
  | zero => rfl
  | succ n ih =>
    unfold qcnt
    rw [ih fun i hi => h i (by omega), h n (by omega)]
    rfl
theorem pnum_z (n : Nat) : pnum n pz = n := qcnt_all fun i _ => decide_eq_true rfl
theorem pev_z (n : Nat) : pev n pz = n := qcnt_all fun i _ => by
  show (prt pz i && true) = true
  rw [Bool.and_true]
  exact decide_eq_true rfl
theorem podd_z (n : Nat) : podd n pz = 0 := by
  refine (qbits_eq fun i => ?_).symm
  rw [Nat.zero_testBit]
  show false = (_ && (_ && !true))
  simp
def qPs (G : q_G) (s : Nat) : q_P := ps G s (qK G)
