/-! changes of a graph -/
def qmk (n m k s l : Nat) (f t a w : Nat → Nat) (p o : Nat → Int) : q_G := (fun i j => if i = 0 then (if j = 0 then n else if j = 1 then m else if j = 2 then k else if j = 3 then s else l) else if i = 1 then f j else if i = 2 then t j else if i = 3 then a j else w j, p, o)
section MK
variable {n m k s l : Nat} {f t a w : Nat → Nat} {p o : Nat → Int}
end MK
def qup {α : Type} (f : Nat → α) (i : Nat) (x : α) : Nat → α := fun j => if j = i then x else f j
/-- a new graph -/
def qnew (n m : Nat) : q_G := qmk n m 0 0 1 (fun _ => 0) (fun _ => 0) (fun _ => 0) (fun _ => 0) (fun _ => -1) (fun _ => 0)
def qtot (G : q_G) (t : Nat) : q_G := qmk (qN G) (qM G) (qK G) (qS G) (qL G) (qF G) (qT G) (qA G) (qW G) (qP G) (qup (qO G) t (io_add (qO G t) 1))
def qsetL (G : q_G) (l : Nat) : q_G := qmk (qN G) (qM G) (qK G) (qS G) l (qF G) (qT G) (qA G) (qW G) (fun _ => -1) (qO G)
def qsetP (G : q_G) (v : Nat) (x : Int) : q_G := qmk (qN G) (qM G) (qK G) (qS G) (qL G) (qF G) (qT G) (qA G) (qW G) (qup (qP G) v x) (qO G)
def qsetS (G : q_G) (s : Nat) : q_G := qmk (qN G) (qM G) (qK G) s (qL G) (qF G) (qT G) (qA G) (qW G) (qP G) (qO G)
def qsetA (G : q_G) (a x : Nat) : q_G := qmk (qN G) (qM G) (qK G) (qS G) (qL G) (qF G) (qT G) (qup (qA G) a x) (qW G) (qP G) (qO G)
def qsetW (G : q_G) (a x : Nat) : q_G := qmk (qN G) (qM G) (qK G) (qS G) (qL G) (qF G) (qT G) (qA G) (qup (qW G) a x) (qP G) (qO G)
def qput (G : q_G) (f t a w : Nat) : q_G := qmk (qN G) (qM G) (qK G + 1) (qS G) (qL G) (qup (qF G) (qK G) f) (qup (qT G) (qK G) t) (qup (qA G) (qK G) a) (qup (qW G) (qK G) w) (qP G) (qO G)
def qaddV (G : q_G) : q_G := qmk (qN G + 1) (qM G) (qK G) (qS G) (qL G) (qF G) (qT G) (qA G) (qW G) (qup (qP G) (qN G) (-1)) (qO G)
def qturn (G : q_G) (a : Nat) : q_G := qmk (qN G) (qM G) (qK G) (qS G) (qL G) (qup (qF G) a (qT G a)) (qup (qT G) a (qF G a)) (qup (qA G) a (qmi (qM G) 0 (qA G a))) (qW G) (qP G) (qO G)
/-- arcs behind a come forward -/
def qov {α : Type} (f : Nat → α) (a : Nat) : Nat → α := fun k => if k < a then f k else f (k + 1)
def qdrop (G : q_G) (a : Nat) : q_G := qmk (qN G) (qM G) (qK G - 1) (qbits (qov (qS G).testBit a) (qK G - 1)) (qL G) (qov (qF G) a) (qov (qT G) a) (qov (qA G) a) (qov (qW G) a) (qP G) (qO G)
/-- the gain behind a switching -/
def qswg (G : q_G) (v b a : Nat) : Nat := if qF G a = qT G a then qA G a else if qT G a = v then qpl (qM G) (qA G a) b else if qF G a = v then qmi (qM G) (qA G a) b else qA G a
def qswc (G : q_G) (v b a : Nat) : Bool := decide (qF G a ≠ qT G a) && (decide (qT G a = v) || decide (qF G a = v)) && decide (b ≠ 0)
def qswp (G : q_G) (v b : Nat) : Int := if qP G v = -1 then -1 else (qsh (qM G) (qP G v).toNat b : Int)
def qsw (G : q_G) (v b : Nat) : q_G := qmk (qN G) (qM G) (qK G) (qS G) (qL G) (qF G) (qT G) (qswg G v b) (qW G) (qup (qP G) v (qswp G v b)) (qO G)
def qren (kept gone v : Nat) : Nat := if v = gone then (if gone < kept then kept - 1 else kept) else if gone < v then v - 1 else v
/-- the ends of an arc become one -/
def qmrg (G : q_G) (a : Nat) : q_G :=
  let H := qdrop (qsw G (qT G a) (qmi (qM G) 0 (qA G a))) a
  qmk (qN G - 1) (qM G) (qK H) (qS H) (qL G) (fun k => qren (qF G a) (qT G a) (qF H k)) (fun k => qren (qF G a) (qT G a) (qT H k)) (qA H) (qW H) (fun v => if qN G - 1 ≤ v then -1 else qov (qP H) (qT G a) v) (qO G)
/-- the vertices before v are painted as low as they can be -/
def qfin (G : q_G) : Nat → q_G
  | 0 => G
  | v + 1 => if qP (qfin G v) v = -1 then qsetP (qfin G v) v (qfst (fun x => !qany (qhit G (qP (qfin G v)) v x) (qK G)) (qM G * qL G + 1)) else qfin G v
theorem qup_e {α : Type} (f : Nat → α) (i : Nat) (x : α) : qup f i x i = x := if_pos rfl
theorem qup_n {α : Type} {f : Nat → α} {i j : Nat} {x : α} (h : j ≠ i) : qup f i x j = f j := if_neg h
theorem qok_new {n m : Nat} (h1 : 1 ≤ n) (h2 : n ≤ 8) (h3 : 1 ≤ m) (h4 : m ≤ 12) : q_ok (qnew n m) := by
  refine ⟨⟨h1, h2, h3, h4, ?_, ?_, ?_, ?_⟩, ?_, ?_, ?_⟩
  · show 0 ≤ 12; decide
  · show 0 < 2 ^ 0; decide
  · show 1 ≤ 1; decide
  · show 1 ≤ 5; decide
  · intro a ha
    exact absurd ha (Nat.not_lt_zero a)
  · intro v _
    show (-1 : Int) ≤ -1 ∧ (-1 : Int) ≤ _
    omega
  · intro v _ _
    rfl
theorem qok_tot {G : q_G} (hG : q_ok G) (t : Nat) : q_ok (qtot G t) := hG
theorem qok_setP {G : q_G} (hG : q_ok G) {v : Nat} {x : Int} (hv : v < qN G) (h1 : -1 ≤ x) (h2 : x ≤ ((qM G * qL G : Nat) : Int)) : q_ok (qsetP G v x) := by
  obtain ⟨⟨k1, k2, k3, k4, k5, k6, k7, k8⟩, hk, hp, hp2⟩ := hG
  refine ⟨⟨k1, k2, k3, k4, k5, k6, k7, k8⟩, hk, ?_, ?_⟩
  · intro u hu
    show -1 ≤ qup (qP G) v x u ∧ qup (qP G) v x u ≤ ((qM G * qL G : Nat) : Int)
    unfold qup
    split
    · exact ⟨h1, h2⟩
    · exact hp u hu
  · intro u h3 h4
    show qup (qP G) v x u = -1
    rw [qup_n (by have : qN (qsetP G v x) = qN G := rfl; omega)]
    exact hp2 u h3 h4
theorem qok_setS {G : q_G} (hG : q_ok G) {s : Nat} (h : s < 2 ^ qK G) : q_ok (qsetS G s) := by
  obtain ⟨⟨k1, k2, k3, k4, k5, k6, k7, k8⟩, hk, hp, hp2⟩ := hG
  exact ⟨⟨k1, k2, k3, k4, k5, h, k7, k8⟩, hk, hp, hp2⟩
theorem qok_put {G : q_G} (hG : q_ok G) {f t a w : Nat} (hf : f < qN G) (ht : t < qN G) (ha : a < qM G) (hw : w ≤ 99) (hK : qK G < 12) : q_ok (qput G f t a w) := by
  obtain ⟨⟨k1, k2, k3, k4, k5, k6, k7, k8⟩, hk, hp, hp2⟩ := hG
  refine ⟨⟨k1, k2, k3, k4, ?_, ?_, k7, k8⟩, ?_, hp, hp2⟩
  · show qK G + 1 ≤ 12
    omega
  · show qS G < 2 ^ (qK G + 1)
    rw [Nat.pow_succ]
    omega
  · intro b hb
    have hb' : b < qK G + 1 := hb
    show qup (qF G) (qK G) f b < qN G ∧ qup (qT G) (qK G) t b < qN G ∧ qup (qA G) (qK G) a b < qM G ∧ qup (qW G) (qK G) w b ≤ 99
    unfold qup
    by_cases e : b = qK G
    · simp only [if_pos e]
      exact ⟨hf, ht, ha, hw⟩
    · simp only [if_neg e]
      exact hk b (by omega)
theorem qok_drop {G : q_G} (hG : q_ok G) {a : Nat} (ha : a < qK G) : q_ok (qdrop G a) := by
  obtain ⟨⟨k1, k2, k3, k4, k5, k6, k7, k8⟩, hk, hp, hp2⟩ := hG
  refine ⟨⟨k1, k2, k3, k4, ?_, qbits_lt _ _, k7, k8⟩, ?_, hp, hp2⟩
  · show qK G - 1 ≤ 12
    omega
  · intro b hb
    have hb' : b < qK G - 1 := hb
    have h1 := hk b (by omega)
    have h2 := hk (b + 1) (by omega)
    show qov (qF G) a b < qN G ∧ qov (qT G) a b < qN G ∧ qov (qA G) a b < qM G ∧ qov (qW G) a b ≤ 99
    unfold qov
    by_cases e : b < a
    · simp only [if_pos e]
      exact h1
    · simp only [if_neg e]
      exact h2
theorem qswg_lt {G : q_G} (hG : q_ok G) {v b a : Nat} (hb : b < qM G) (ha : a < qK G) : qswg G v b a < qM G := by
  have h1 := (hG.2.1 a ha).2.2.1
  unfold qswg
  split
  · exact h1
  · split
    · exact qpl_lt h1 hb
    · split
      · exact qmi_lt h1 hb
      · exact h1
theorem qsh_lt {G : q_G} (hG : q_ok G) {x b : Nat} (hx : x ≤ qM G * qL G) (hb : b < qM G) : qsh (qM G) x b ≤ qM G * qL G := qsh_ml hG.1.2.2.1 hx hb
theorem qok_sw {G : q_G} (hG : q_ok G) {v b : Nat} (hv : v < qN G) (hb : b < qM G) : q_ok (qsw G v b) := by
  have hl := fun {x : Nat} => qsh_lt hG (b := b) (x := x)
  have hg := fun {a : Nat} (ha : a < qK G) => qswg_lt hG (v := v) hb ha
  obtain ⟨⟨k1, k2, k3, k4, k5, k6, k7, k8⟩, hk, hp, hp2⟩ := id hG
  refine ⟨⟨k1, k2, k3, k4, k5, k6, k7, k8⟩, ?_, ?_, ?_⟩
  · intro a ha
    obtain ⟨a1, a2, a3, a4⟩ := hk a ha
    exact ⟨a1, a2, hg ha, a4⟩
  · intro u hu
    show -1 ≤ qup (qP G) v (qswp G v b) u ∧ qup (qP G) v (qswp G v b) u ≤ ((qM G * qL G : Nat) : Int)
    unfold qup qswp
    have h1 := hp v (by omega)
    have h2 := hl (x := (qP G v).toNat) (by omega) hb
    split
    · split
      · omega
      · omega
    · exact hp u hu
  · intro u h3 h4
    show qup (qP G) v (qswp G v b) u = -1
    rw [qup_n (by have : qN (qsw G v b) = qN G := rfl; omega)]
    exact hp2 u h3 h4
theorem qok_fin {G : q_G} (hG : q_ok G) (v : Nat) (hv : v ≤ qN G) : q_ok (qfin G v) ∧ qN (qfin G v) = qN G ∧ qM (qfin G v) = qM G ∧ qL (qfin G v) = qL G ∧ qK (qfin G v) = qK G := by
  induction v with
  | zero => exact ⟨hG, rfl, rfl, rfl, rfl⟩
  | succ v ih =>
    obtain ⟨i1, i2, i3, i4, i5⟩ := ih (by omega)
    unfold qfin
    split
    · have h := qfst_rg (fun x => !qany (qhit G (qP (qfin G v)) v x) (qK G)) (qM G * qL G + 1)
      refine ⟨qok_setP i1 (by omega) (by omega) ?_, i2, i3, i4, i5⟩
      rw [i3, i4]
      omega
    · exact ⟨i1, i2, i3, i4, i5⟩
