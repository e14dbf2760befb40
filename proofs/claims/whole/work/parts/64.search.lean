/-! colorings counted one by one -/
def qopen (G : q_G) (c : Nat → Int) (v x : Nat) : Bool := !qany (qhit G c v (x : Int)) (qK G)
/-- how many ways there are to color what is not colored of the last k vertices -/
def qW_ (G : q_G) (n : Nat) : Nat → (Nat → Int) → Nat
  | 0, _ => 1
  | k + 1, c => if c (qN G - (k + 1)) = -1 then qsm (fun x => if qopen G c (qN G - (k + 1)) x then qW_ G n k (qwith c (qN G - (k + 1)) (x : Nat)) else 0) n else qW_ G n k c
/-- the first of the last k vertices that is not colored -/
def qun (G : q_G) (c : Nat → Int) : Nat → Nat
  | 0 => qN G
  | k + 1 => if c (qN G - (k + 1)) = -1 then qN G - (k + 1) else qun G c k
/-- how many are not colored -/
def qnc (G : q_G) (c : Nat → Int) : Nat → Nat
  | 0 => 0
  | k + 1 => qnc G c k + if c (qN G - (k + 1)) = -1 then 1 else 0
/-- the number of the part that holds the place L -/
def qx (w : Nat → Nat) (n L : Nat) : Nat := qcnt (fun i => decide (qsm w (i + 1) ≤ L)) n
/-- the coloring at a place in their order -/
def qpick (G : q_G) (n : Nat) : Nat → (Nat → Int) → Nat → Nat → Int
  | 0, c, _ => c
  | k + 1, c, L => if c (qN G - (k + 1)) = -1 then
      qpick G n k (qwith c (qN G - (k + 1)) (qx (fun x => if qopen G c (qN G - (k + 1)) x then qW_ G n k (qwith c (qN G - (k + 1)) (x : Nat)) else 0) n L : Nat)) (L - qsm (fun x => if qopen G c (qN G - (k + 1)) x then qW_ G n k (qwith c (qN G - (k + 1)) (x : Nat)) else 0) (qx (fun x => if qopen G c (qN G - (k + 1)) x then qW_ G n k (qwith c (qN G - (k + 1)) (x : Nat)) else 0) n L))
    else qpick G n k c L
theorem qsm_mono {f : Nat → Nat} {i j : Nat} (h : i ≤ j) : qsm f i ≤ qsm f j := by
  induction j with
  | zero =>
    have : i = 0 := by omega
    subst this
    exact Nat.le_refl _
  | succ j ih =>
    by_cases e : i = j + 1
    · subst e
      exact Nat.le_refl _
    · have := ih (by omega)
      show qsm f i ≤ qsm f j + f j
      omega
theorem qsm_mul {f : Nat → Nat} {b n : Nat} (h : ∀ i, i < n → f i ≤ b) : qsm f n ≤ n * b := by
  induction n with
  | zero => exact Nat.zero_le _
  | succ n ih =>
    have h1 := ih fun i hi => h i (by omega)
    have h2 := h n (by omega)
    unfold qsm
    rw [Nat.succ_mul]
    omega
theorem qx_at {w : Nat → Nat} {n L : Nat} {x : Nat} (hx : x < n) (h1 : qsm w x ≤ L) (h2 : L < qsm w (x + 1)) : qx w n L = x := by
  unfold qx
  rw [qcnt_ext (n := x) (m := n) (by omega) fun i hi _ => decide_eq_false (by
    have := qsm_mono (f := w) (show x + 1 ≤ i + 1 by omega)
    omega)]
  refine qcnt_all fun i hi => decide_eq_true ?_
  have := qsm_mono (f := w) (show i + 1 ≤ x by omega)
  omega
theorem qx_ex {w : Nat → Nat} {n L : Nat} (h : L < qsm w n) : ∃ x, x < n ∧ qsm w x ≤ L ∧ L < qsm w (x + 1) := by
  induction n with
  | zero => exact absurd h (Nat.not_lt_zero _)
  | succ n ih =>
    by_cases e : L < qsm w n
    · obtain ⟨x, h1, h2, h3⟩ := ih e
      exact ⟨x, by omega, h2, h3⟩
    · exact ⟨n, by omega, by omega, h⟩
theorem qwith_n {c : Nat → Int} {v u : Nat} {x : Int} (h : u ≠ v) : qwith c v x u = c u := if_neg h
theorem qwith_e {c : Nat → Int} {v : Nat} {x : Int} : qwith c v x v = x := if_pos rfl
theorem qhit_congr {G : q_G} (hG : q_ok G) {c c' : Nat → Int} (h : ∀ u, u < qN G → c u = c' u) {v : Nat} {x : Int} {a : Nat} (ha : a < qK G) : qhit G c v x a = qhit G c' v x a := by
  have h1 := h _ (hG.2.1 a ha).1
  have h2 := h _ (hG.2.1 a ha).2.1
  unfold qhit qcl qwith
  rw [h1, h2]
theorem qopen_congr {G : q_G} (hG : q_ok G) {c c' : Nat → Int} (h : ∀ u, u < qN G → c u = c' u) (v x : Nat) : qopen G c v x = qopen G c' v x := by
  unfold qopen
  rw [qany_congr fun a ha => qhit_congr hG h ha]
theorem qW_congr {G : q_G} (hG : q_ok G) {n : Nat} (k : Nat) : ∀ {c c' : Nat → Int}, (∀ u, u < qN G → c u = c' u) → k ≤ qN G → qW_ G n k c = qW_ G n k c' := by
  induction k with
  | zero => intro _ _ _ _; rfl
  | succ k ih =>
    intro c c' h hk
    unfold qW_
    rw [h _ (by omega), ih h (by omega)]
    congr 1
    refine qsm_congr fun x _ => ?_
    rw [qopen_congr hG h, ih (c := qwith c _ _) (c' := qwith c' (qN G - (k + 1)) (x : Nat)) (fun u hu => by
      unfold qwith
      rw [h u hu]) (by omega)]
theorem qun_W {G : q_G} {n : Nat} {c : Nat → Int} (k : Nat) (hk : k ≤ qN G) : qN G - k ≤ qun G c k ∧ qun G c k ≤ qN G ∧ qW_ G n k c = qW_ G n (qN G - qun G c k) c ∧ (qun G c k < qN G → c (qun G c k) = -1) ∧ ∀ u, qN G - k ≤ u → u < qun G c k → c u ≠ -1 := by
  induction k with
  | zero =>
    refine ⟨Nat.le_refl _, Nat.le_refl _, ?_, fun h => absurd h (Nat.lt_irrefl _), fun u h1 h2 => by unfold qun at h2; omega⟩
    show 1 = qW_ G n (qN G - qN G) c
    rw [Nat.sub_self]
    rfl
  | succ k ih =>
    obtain ⟨i1, i2, i3, i4, i5⟩ := ih (by omega)
    by_cases e : c (qN G - (k + 1)) = -1
    · have e1 : qun G c (k + 1) = qN G - (k + 1) := by rw [qun, if_pos e]
      rw [e1]
      refine ⟨Nat.le_refl _, by omega, ?_, fun _ => e, fun u h1 h2 => by omega⟩
      rw [show qN G - (qN G - (k + 1)) = k + 1 by omega]
    · have e1 : qun G c (k + 1) = qun G c k := by rw [qun, if_neg e]
      rw [e1]
      refine ⟨by omega, i2, ?_, i4, fun u h1 h2 => ?_⟩
      · rw [qW_, if_neg e]
        exact i3
      · by_cases e2 : u = qN G - (k + 1)
        · subst e2
          exact e
        · exact i5 u (by omega) h2
/-- where all is colored there is one way -/
theorem qW_1 {G : q_G} {n k : Nat} {c : Nat → Int} (hk : k ≤ qN G) (h : qun G c k = qN G) : qW_ G n k c = 1 := by
  have := (qun_W (n := n) (c := c) k hk).2.2.1
  rw [this, h, Nat.sub_self]
  rfl
theorem qun_congr {G : q_G} {c c' : Nat → Int} {k : Nat} (hk : k ≤ qN G) (h : ∀ u, qN G - k ≤ u → u < qN G → c u = c' u) : qun G c k = qun G c' k := by
  induction k with
  | zero => rfl
  | succ k ih =>
    unfold qun
    rw [ih (by omega) (fun u h1 h2 => h u (by omega) h2), h _ (by omega) (by omega)]
theorem qnc_congr {G : q_G} {c c' : Nat → Int} {k : Nat} (hk : k ≤ qN G) (h : ∀ u, qN G - k ≤ u → u < qN G → c u = c' u) : qnc G c k = qnc G c' k := by
  induction k with
  | zero => rfl
  | succ k ih =>
    unfold qnc
    rw [ih (by omega) (fun u h1 h2 => h u (by omega) h2), h _ (by omega) (by omega)]
theorem qW_le {G : q_G} {n : Nat} (hn : 1 ≤ n) (k : Nat) : ∀ (c : Nat → Int), k ≤ qN G → qW_ G n k c ≤ n ^ qnc G c k := by
  induction k with
  | zero => intro c _; exact Nat.le_refl _
  | succ k ih =>
    intro c hk
    unfold qW_ qnc
    by_cases e : c (qN G - (k + 1)) = -1
    · rw [if_pos e, if_pos e, Nat.pow_succ, Nat.mul_comm]
      refine qsm_mul fun x _ => ?_
      split
      · refine Nat.le_trans (ih _ (by omega)) ?_
        rw [qnc_congr (c' := c) (by omega) fun u h1 h2 => qwith_n (by omega)]
        exact Nat.le_refl _
      · exact Nat.zero_le _
    · rw [if_neg e, if_neg e, Nat.add_zero]
      exact ih c (by omega)
theorem qnc_cnt {G : q_G} {c : Nat → Int} (k : Nat) (hk : k ≤ qN G) : qcnt (fun u => decide (c u ≠ -1)) (qN G) = qcnt (fun u => decide (c u ≠ -1)) (qN G - k) + (k - qnc G c k) ∧ qnc G c k ≤ k := by
  induction k with
  | zero => exact ⟨rfl, Nat.le_refl _⟩
  | succ k ih =>
    obtain ⟨i1, i2⟩ := ih (by omega)
    have e0 : qN G - k = (qN G - (k + 1)) + 1 := by omega
    rw [e0, qcnt] at i1
    unfold qnc
    by_cases e : c (qN G - (k + 1)) = -1
    · rw [decide_eq_false (fun h => h e)] at i1
      rw [if_pos e]
      have : Bool.toNat false = 0 := rfl
      omega
    · rw [decide_eq_true e] at i1
      rw [if_neg e]
      have : Bool.toNat true = 1 := rfl
      omega
theorem qnc_all {G : q_G} {c : Nat → Int} : qnc G c (qN G) = qN G - qcnt (fun u => decide (c u ≠ -1)) (qN G) := by
  obtain ⟨h1, h2⟩ := qnc_cnt (c := c) (qN G) (Nat.le_refl _)
  rw [Nat.sub_self] at h1
  have : qcnt (fun u => decide (c u ≠ -1)) 0 = 0 := rfl
  omega
/-- what is colored stays -/
theorem qpick_keep {G : q_G} {n : Nat} (k : Nat) : ∀ (c : Nat → Int) (L u : Nat), (u < qN G - k ∨ c u ≠ -1) → k ≤ qN G → qpick G n k c L u = c u := by
  induction k with
  | zero => intro c L u _ _; rfl
  | succ k ih =>
    intro c L u h hk
    unfold qpick
    by_cases e : c (qN G - (k + 1)) = -1
    · rw [if_pos e]
      have hne : u ≠ qN G - (k + 1) := by
        rintro rfl
        rcases h with h | h
        · omega
        · exact h e
      rw [ih _ _ _ (by
        rw [qwith_n hne]
        rcases h with h | h
        · exact Or.inl (by omega)
        · exact Or.inr h) (by omega), qwith_n hne]
    · rw [if_neg e]
      refine ih _ _ _ ?_ (by omega)
      rcases h with h | h
      · exact Or.inl (by omega)
      · exact Or.inr h
theorem qpick_un {G : q_G} {n : Nat} (k : Nat) (c : Nat → Int) (L : Nat) (hk : k ≤ qN G) : qpick G n k c L = qpick G n (qN G - qun G c k) c L := by
  induction k with
  | zero =>
    show c = qpick G n (qN G - qN G) c L
    rw [Nat.sub_self]
    rfl
  | succ k ih =>
    by_cases e : c (qN G - (k + 1)) = -1
    · rw [qun, if_pos e, show qN G - (qN G - (k + 1)) = k + 1 by omega]
    · rw [qpick, if_neg e, qun, if_neg e]
      exact ih (by omega)
/-- the parts of the ways at a vertex -/
def qw_ (G : q_G) (n k : Nat) (c : Nat → Int) (x : Nat) : Nat := if qopen G c (qN G - (k + 1)) x then qW_ G n k (qwith c (qN G - (k + 1)) (x : Nat)) else 0
theorem qW_s {G : q_G} {n k : Nat} {c : Nat → Int} (h : c (qN G - (k + 1)) = -1) : qW_ G n (k + 1) c = qsm (qw_ G n k c) n := by
  rw [qW_, if_pos h]
  rfl
theorem qpick_s {G : q_G} {n k : Nat} {c : Nat → Int} {L x : Nat} (h : c (qN G - (k + 1)) = -1) (hx : x < n) (h1 : qsm (qw_ G n k c) x ≤ L) (h2 : L < qsm (qw_ G n k c) (x + 1)) : qpick G n (k + 1) c L = qpick G n k (qwith c (qN G - (k + 1)) (x : Nat)) (L - qsm (qw_ G n k c) x) := by
  have := qx_at hx h1 h2
  rw [qpick, if_pos h]
  show qpick G n k (qwith c (qN G - (k + 1)) ((qx (qw_ G n k c) n L : Nat) : Int)) (L - qsm (qw_ G n k c) (qx (qw_ G n k c) n L)) = _
  rw [this]
