/-! changes of a graph -/
def qmk (n m k s l : Nat) (f t a w : Nat → Nat) (p o : Nat → Int) : q_G := (fun i j => if i = 0 then (if j = 0 then n else if j = 1 then m else if j = 2 then k else if j = 3 then s else l) else if i = 1 then f j else if i = 2 then t j else if i = 3 then a j else w j, p, o)
section MK
variable {n m k s l : Nat} {f t a w : Nat → Nat} {p o : Nat → Int}
theorem qN_mk : qN (qmk n m k s l f t a w p o) = n := rfl
theorem qM_mk : qM (qmk n m k s l f t a w p o) = m := rfl
theorem qK_mk : qK (qmk n m k s l f t a w p o) = k := rfl
theorem qS_mk : qS (qmk n m k s l f t a w p o) = s := rfl
theorem qL_mk : qL (qmk n m k s l f t a w p o) = l := rfl
theorem qF_mk (i : Nat) : qF (qmk n m k s l f t a w p o) i = f i := rfl
theorem qT_mk (i : Nat) : qT (qmk n m k s l f t a w p o) i = t i := rfl
theorem qA_mk (i : Nat) : qA (qmk n m k s l f t a w p o) i = a i := rfl
theorem qW_mk (i : Nat) : qW (qmk n m k s l f t a w p o) i = w i := rfl
theorem qP_mk (i : Nat) : qP (qmk n m k s l f t a w p o) i = p i := rfl
theorem qO_mk (i : Nat) : qO (qmk n m k s l f t a w p o) i = o i := rfl
end MK
def qup {α : Type} (f : Nat → α) (i : Nat) (x : α) : Nat → α := fun j => if j = i then x else f j
/-- a new graph -/
def qnew (n m : Nat) : q_G := qmk n m 0 0 1 (fun _ => 0) (fun _ => 0) (fun _ => 0) (fun _ => 0) (fun _ => -1) (fun _ => 0)
def qtot (G : q_G) (t : Nat) : q_G := qmk (qN G) (qM G) (qK G) (qS G) (qL G) (qF G) (qT G) (qA G) (qW G) (qP G) (qup (qO G) t (io_add (qO G t) 1))
def qsetL (G : q_G) (l : Nat) : q_G := qmk (qN G) (qM G) (qK G) (qS G) l (qF G) (qT G) (qA G) (qW G) (fun _ => -1) (qO G)
def qsetP (G : q_G) (v : Nat) (x : Int) : q_G := qmk (qN G) (qM G) (qK G) (qS G) (qL G) (qF G) (qT G) (qA G) (qW G) (qup (qP G) v x) (qO G)
def qsetS (G : q_G) (s : Nat) : q_G := qmk (qN G) (qM G) (qK G) s (qL G) (qF G) (qT G) (qA G) (qW G) (qP G) (qO G)
def qsetA (G : q_G) (a x : Nat) : q_G := qmk (qN G) (qM G) (qK G) (qS G) (qL G) (qF G) (qT G) (qup (qA G) a x) (qW G) (qP G) (qO G)
def qsetW (G : q_G) (a x : Nat) : q_G := qmk (qN G) (qM G) (qK G) (qS G) (qL G) (qF G) (qT G) (qA G) (qup (qW G) a x) (qP G) (qO G)
def qput (G : q_G) (f t a w : Nat) : q_G := qmk (qN G) (qM G) (qK G + 1) (qS G) (qL G) (qup (qF G) (qK G) f) (qup (qT G) (qK G) t) (qup (qA G) (qK G) a) (qup (qW G) (qK G) w) (qP G) (qO G)
def qaddV (G : q_G) : q_G := qmk (qN G + 1) (qM G) (qK G) (qS G) (qL G) (qF G) (qT G) (qA G) (qW G) (qup (qP G) (qN G) (-1)) (qO G)
def qturn (G : q_G) (a : Nat) : q_G := qmk (qN G) (qM G) (qK G) (qS G) (qL G) (qup (qF G) a (qT G a)) (qup (qT G) a (qF G a)) (qup (qA G) a (qmi (qM G) 0 (qA G a))) (qW G) (qP G) (qO G)
/-- arcs behind a come forward -/
def qov {α : Type} (f : Nat → α) (a : Nat) : Nat → α := fun k => if k < a then f k else f (k + 1)
def qdrop (G : q_G) (a : Nat) : q_G := qmk (qN G) (qM G) (qK G - 1) (qbits (qov (qS G).testBit a) (qK G - 1)) (qL G) (qov (qF G) a) (qov (qT G) a) (qov (qA G) a) (qov (qW G) a) (qP G) (qO G)
/-- the gain behind a switching -/
def qswg (G : q_G) (v b a : Nat) : Nat := if qF G a = qT G a then qA G a else if qT G a = v then qpl (qM G) (qA G a) b else if qF G a = v then qmi (qM G) (qA G a) b else qA G a
def qswc (G : q_G) (v b a : Nat) : Bool := decide (qF G a ≠ qT G a) && (decide (qT G a = v) || decide (qF G a = v)) && decide (b ≠ 0)
def qswp (G : q_G) (v b : Nat) : Int := if qP G v = -1 then -1 else (qsh (qM G) (qP G v).toNat b : Int)
def qsw (G : q_G) (v b : Nat) : q_G := qmk (qN G) (qM G) (qK G) (qS G) (qL G) (qF G) (qT G) (qswg G v b) (qW G) (qup (qP G) v (qswp G v b)) (qO G)
def qren (kept gone v : Nat) : Nat := if v = gone then (if gone < kept then kept - 1 else kept) else if gone < v then v - 1 else v
/-- the ends of an arc become one -/
def qmrg (G : q_G) (a : Nat) : q_G :=
  let H := qdrop (qsw G (qT G a) (qmi (qM G) 0 (qA G a))) a
  qmk (qN G - 1) (qM G) (qK H) (qS H) (qL G) (fun k => qren (qF G a) (qT G a) (qF H k)) (fun k => qren (qF G a) (qT G a) (qT H k)) (qA H) (qW H) (fun v => if qN G - 1 ≤ v then -1 else qov (qP H) (qT G a) v) (qO G)
/-- the vertices before v are painted as low as they can be -/
def qfin (G : q_G) : Nat → q_G
  | 0 => G
  | v + 1 => if qP (qfin G v) v = -1 then qsetP (qfin G v) v (qfst (fun x => !qany (qhit G (qP (qfin G v)) v x) (qK G)) (qM G * qL G + 1)) else qfin G v
theorem qup_e {α : Type} (f : Nat → α) (i : Nat) (x : α) : qup f i x i = x := if_pos rfl
theorem qup_n {α : Type} {f : Nat → α} {i j : Nat} {x : α} (h : j ≠ i) : qup f i x j = f j := if_neg h
theorem qok_new {n m : Nat} (h1 : 1 ≤ n) (h2 : n ≤ 8) (h3 : 1 ≤ m) (h4 : m ≤ 12) : q_ok (qnew n m) := by
  refine ⟨⟨h1, h2, h3, h4, ?_, ?_, ?_, ?_⟩, ?_, ?_, ?_⟩
  · show 0 ≤ 12; decide
  · show 0 < 2 ^ 0; decide
  · show 1 ≤ 1; decide
  · show 1 ≤ 5; decide
  · intro a ha
    exact absurd ha (Nat.not_lt_zero a)
  · intro v _
    show (-1 : Int) ≤ -1 ∧ (-1 : Int) ≤ _
    omega
  · intro v _ _
    rfl
theorem qok_tot {G : q_G} (hG : q_ok G) (t : Nat) : q_ok (qtot G t) := hG
theorem qok_setL {G : q_G} (hG : q_ok G) {l : Nat} (h1 : 1 ≤ l) (h2 : l ≤ 5) : q_ok (qsetL G l) := by
  obtain ⟨⟨k1, k2, k3, k4, k5, k6, k7, k8⟩, hk, hp, hp2⟩ := hG
  refine ⟨⟨k1, k2, k3, k4, k5, k6, h1, h2⟩, hk, ?_, fun v _ _ => rfl⟩
  intro v _
  show (-1 : Int) ≤ -1 ∧ (-1 : Int) ≤ _
  omega
theorem qok_setP {G : q_G} (hG : q_ok G) {v : Nat} {x : Int} (hv : v < qN G) (h1 : -1 ≤ x) (h2 : x ≤ ((qM G * qL G : Nat) : Int)) : q_ok (qsetP G v x) := by
  obtain ⟨⟨k1, k2, k3, k4, k5, k6, k7, k8⟩, hk, hp, hp2⟩ := hG
  refine ⟨⟨k1, k2, k3, k4, k5, k6, k7, k8⟩, hk, ?_, ?_⟩
  · intro u hu
    show -1 ≤ qup (qP G) v x u ∧ qup (qP G) v x u ≤ ((qM G * qL G : Nat) : Int)
    unfold qup
    split
    · exact ⟨h1, h2⟩
    · exact hp u hu
  · intro u h3 h4
    show qup (qP G) v x u = -1
    rw [qup_n (by have : qN (qsetP G v x) = qN G := rfl; omega)]
    exact hp2 u h3 h4
theorem qok_setS {G : q_G} (hG : q_ok G) {s : Nat} (h : s < 2 ^ qK G) : q_ok (qsetS G s) := by
  obtain ⟨⟨k1, k2, k3, k4, k5, k6, k7, k8⟩, hk, hp, hp2⟩ := hG
  exact ⟨⟨k1, k2, k3, k4, k5, h, k7, k8⟩, hk, hp, hp2⟩
theorem qok_setA {G : q_G} (hG : q_ok G) {a x : Nat} (h : x < qM G) : q_ok (qsetA G a x) := by
  obtain ⟨⟨k1, k2, k3, k4, k5, k6, k7, k8⟩, hk, hp, hp2⟩ := hG
  refine ⟨⟨k1, k2, k3, k4, k5, k6, k7, k8⟩, ?_, hp, hp2⟩
  intro b hb
  obtain ⟨a1, a2, a3, a4⟩ := hk b hb
  refine ⟨a1, a2, ?_, a4⟩
  show qup (qA G) a x b < qM G
  unfold qup
  split
  · exact h
  · exact a3
theorem qok_setW {G : q_G} (hG : q_ok G) {a x : Nat} (h : x ≤ 99) : q_ok (qsetW G a x) := by
  obtain ⟨⟨k1, k2, k3, k4, k5, k6, k7, k8⟩, hk, hp, hp2⟩ := hG
  refine ⟨⟨k1, k2, k3, k4, k5, k6, k7, k8⟩, ?_, hp, hp2⟩
  intro b hb
  obtain ⟨a1, a2, a3, a4⟩ := hk b hb
  refine ⟨a1, a2, a3, ?_⟩
  show qup (qW G) a x b ≤ 99
  unfold qup
  split
  · exact h
  · exact a4
theorem qok_put {G : q_G} (hG : q_ok G) {f t a w : Nat} (hf : f < qN G) (ht : t < qN G) (ha : a < qM G) (hw : w ≤ 99) (hK : qK G < 12) : q_ok (qput G f t a w) := by
  obtain ⟨⟨k1, k2, k3, k4, k5, k6, k7, k8⟩, hk, hp, hp2⟩ := hG
  refine ⟨⟨k1, k2, k3, k4, ?_, ?_, k7, k8⟩, ?_, hp, hp2⟩
  · show qK G + 1 ≤ 12
    omega
  · show qS G < 2 ^ (qK G + 1)
    rw [Nat.pow_succ]
    omega
  · intro b hb
    have hb' : b < qK G + 1 := hb
    show qup (qF G) (qK G) f b < qN G ∧ qup (qT G) (qK G) t b < qN G ∧ qup (qA G) (qK G) a b < qM G ∧ qup (qW G) (qK G) w b ≤ 99
    unfold qup
    by_cases e : b = qK G
    · simp only [if_pos e]
      exact ⟨hf, ht, ha, hw⟩
    · simp only [if_neg e]
      exact hk b (by omega)
theorem qok_addV {G : q_G} (hG : q_ok G) (hN : qN G < 8) : q_ok (qaddV G) := by
  obtain ⟨⟨k1, k2, k3, k4, k5, k6, k7, k8⟩, hk, hp, hp2⟩ := hG
  refine ⟨⟨?_, ?_, k3, k4, k5, k6, k7, k8⟩, ?_, ?_, ?_⟩
  · show 1 ≤ qN G + 1
    omega
  · show qN G + 1 ≤ 8
    omega
  · intro b hb
    obtain ⟨a1, a2, a3, a4⟩ := hk b hb
    exact ⟨show qF G b < qN G + 1 by omega, show qT G b < qN G + 1 by omega, a3, a4⟩
  · intro u hu
    show -1 ≤ qup (qP G) (qN G) (-1) u ∧ qup (qP G) (qN G) (-1) u ≤ ((qM G * qL G : Nat) : Int)
    unfold qup
    split
    · omega
    · exact hp u hu
  · intro u h3 h4
    have h3' : qN G + 1 ≤ u := h3
    show qup (qP G) (qN G) (-1) u = -1
    unfold qup
    split
    · rfl
    · exact hp2 u (by omega) h4
theorem qok_turn {G : q_G} (hG : q_ok G) {a : Nat} (ha : a < qK G) : q_ok (qturn G a) := by
  obtain ⟨⟨k1, k2, k3, k4, k5, k6, k7, k8⟩, hk, hp, hp2⟩ := hG
  refine ⟨⟨k1, k2, k3, k4, k5, k6, k7, k8⟩, ?_, hp, hp2⟩
  intro b hb
  have h1 := hk b hb
  have h2 := hk a ha
  have h3 := qmi_lt (m := qM G) (a := 0) (by omega) h2.2.2.1
  show qup (qF G) a (qT G a) b < qN G ∧ qup (qT G) a (qF G a) b < qN G ∧ qup (qA G) a (qmi (qM G) 0 (qA G a)) b < qM G ∧ qW G b ≤ 99
  unfold qup
  by_cases e : b = a
  · simp only [if_pos e]
    exact ⟨h2.2.1, h2.1, h3, h1.2.2.2⟩
  · simp only [if_neg e]
    exact h1
theorem qok_drop {G : q_G} (hG : q_ok G) {a : Nat} (ha : a < qK G) : q_ok (qdrop G a) := by
  obtain ⟨⟨k1, k2, k3, k4, k5, k6, k7, k8⟩, hk, hp, hp2⟩ := hG
  refine ⟨⟨k1, k2, k3, k4, ?_, qbits_lt _ _, k7, k8⟩, ?_, hp, hp2⟩
  · show qK G - 1 ≤ 12
    omega
  · intro b hb
    have hb' : b < qK G - 1 := hb
    have h1 := hk b (by omega)
    have h2 := hk (b + 1) (by omega)
    show qov (qF G) a b < qN G ∧ qov (qT G) a b < qN G ∧ qov (qA G) a b < qM G ∧ qov (qW G) a b ≤ 99
    unfold qov
    by_cases e : b < a
    · simp only [if_pos e]
      exact h1
    · simp only [if_neg e]
      exact h2
theorem qswg_lt {G : q_G} (hG : q_ok G) {v b a : Nat} (hb : b < qM G) (ha : a < qK G) : qswg G v b a < qM G := by
  have h1 := (hG.2.1 a ha).2.2.1
  unfold qswg
  split
  · exact h1
  · split
    · exact qpl_lt h1 hb
    · split
      · exact qmi_lt h1 hb
      · exact h1
theorem qsh_lt {G : q_G} (hG : q_ok G) {x b : Nat} (hx : x ≤ qM G * qL G) (hb : b < qM G) : qsh (qM G) x b ≤ qM G * qL G := qsh_ml hG.1.2.2.1 hx hb
theorem qok_sw {G : q_G} (hG : q_ok G) {v b : Nat} (hv : v < qN G) (hb : b < qM G) : q_ok (qsw G v b) := by
  have hl := fun {x : Nat} => qsh_lt hG (b := b) (x := x)
  have hg := fun {a : Nat} (ha : a < qK G) => qswg_lt hG (v := v) hb ha
  obtain ⟨⟨k1, k2, k3, k4, k5, k6, k7, k8⟩, hk, hp, hp2⟩ := id hG
  refine ⟨⟨k1, k2, k3, k4, k5, k6, k7, k8⟩, ?_, ?_, ?_⟩
  · intro a ha
    obtain ⟨a1, a2, a3, a4⟩ := hk a ha
    exact ⟨a1, a2, hg ha, a4⟩
  · intro u hu
    show -1 ≤ qup (qP G) v (qswp G v b) u ∧ qup (qP G) v (qswp G v b) u ≤ ((qM G * qL G : Nat) : Int)
    unfold qup qswp
    have h1 := hp v (by omega)
    have h2 := hl (x := (qP G v).toNat) (by omega) hb
    split
    · split
      · omega
      · omega
    · exact hp u hu
  · intro u h3 h4
    show qup (qP G) v (qswp G v b) u = -1
    rw [qup_n (by have : qN (qsw G v b) = qN G := rfl; omega)]
    exact hp2 u h3 h4
theorem qok_mrg {G : q_G} (hG : q_ok G) {a : Nat} (ha : a < qK G) (hl : qF G a ≠ qT G a) : q_ok (qmrg G a) := by
  have h0 := hG.2.1 a ha
  have h1 := qok_drop (qok_sw hG (v := qT G a) (b := qmi (qM G) 0 (qA G a)) h0.2.1 (qmi_lt (by omega) h0.2.2.1)) (a := a) ha
  obtain ⟨⟨k1, k2, k3, k4, k5, k6, k7, k8⟩, hk, hp, hp2⟩ := id hG
  obtain ⟨⟨j1, j2, j3, j4, j5, j6, j7, j8⟩, jk, jp, jp2⟩ := h1
  refine ⟨⟨?_, ?_, j3, j4, j5, j6, k7, k8⟩, ?_, ?_, ?_⟩
  · show 1 ≤ qN G - 1
    omega
  · show qN G - 1 ≤ 8
    omega
  · intro b hb
    obtain ⟨b1, b2, b3, b4⟩ := jk b hb
    have c1 : qF (qdrop (qsw G (qT G a) (qmi (qM G) 0 (qA G a))) a) b < qN G := b1
    have c2 : qT (qdrop (qsw G (qT G a) (qmi (qM G) 0 (qA G a))) a) b < qN G := b2
    have key : ∀ u, u < qN G → qren (qF G a) (qT G a) u < qN G - 1 := by
      intro u hu
      unfold qren
      split
      · split <;> omega
      · split <;> omega
    exact ⟨key _ c1, key _ c2, b3, b4⟩
  · intro u hu
    show -1 ≤ (if qN G - 1 ≤ u then (-1 : Int) else qov _ (qT G a) u) ∧ (if qN G - 1 ≤ u then (-1 : Int) else qov _ (qT G a) u) ≤ ((qM G * qL G : Nat) : Int)
    split
    · omega
    · unfold qov
      split
      · exact jp u hu
      · exact jp (u + 1) (by omega)
  · intro u h3 h4
    exact if_pos h3
theorem qfst_le {f : Nat → Bool} {n : Nat} : -1 ≤ qfst f n ∧ qfst f n < (n : Int) := qfst_rg f n
theorem qok_fin {G : q_G} (hG : q_ok G) (v : Nat) (hv : v ≤ qN G) : q_ok (qfin G v) ∧ qN (qfin G v) = qN G ∧ qM (qfin G v) = qM G ∧ qL (qfin G v) = qL G ∧ qK (qfin G v) = qK G := by
  induction v with
  | zero => exact ⟨hG, rfl, rfl, rfl, rfl⟩
  | succ v ih =>
    obtain ⟨i1, i2, i3, i4, i5⟩ := ih (by omega)
    unfold qfin
    split
    · have h := qfst_rg (fun x => !qany (qhit G (qP (qfin G v)) v x) (qK G)) (qM G * qL G + 1)
      refine ⟨qok_setP i1 (by omega) (by omega) ?_, i2, i3, i4, i5⟩
      rw [i3, i4]
      omega
    · exact ⟨i1, i2, i3, i4, i5⟩
