/-! the law's start: the constructors, the first state; the law's run -/
def a_G0 : q_G := (fun r k => if r = 0 then (if k < 2 then 2 else if k = 4 then 1 else 0) else 0, fun _ => -1, fun _ => 0)
def a_0 : q_A := (a_G0, (0, fun _ => a_G0), fun _ => none, (0, fun _ => 0), (0, -1))
theorem g0_ok : q_ok a_G0 :=
  ⟨by decide, fun a h => absurd h (Nat.not_lt_zero a), fun v _ => ⟨Int.le_refl (-1), show (-1 : Int) ≤ ((2 * 1 : Nat) : Int) by decide⟩, fun v _ _ => rfl⟩
theorem a0_ok : a_ok a_0 :=
  ⟨g0_ok, Nat.zero_le _, fun j h => absurd h (Nat.not_lt_zero j), fun s G h => absurd (show (none : Option q_G) = some G from h) (by intro e; cases e), show (0 : Nat) ≤ 3 ∧ (-1 : Int) ≤ -1 ∧ (-1 : Int) ≤ 1000 ∧ ((0 : Nat) = 0 ↔ (-1 : Int) = -1) from ⟨by decide, by decide, by decide, ⟨fun _ => rfl, fun _ => rfl⟩⟩⟩
theorem m0 {a p : Nat} {x : Int} (h : gk_mt.contains (a, p, x) = true) : gk_M a p = x := gk_M_ok h
theorem i_0 : q_I gk_M a_0 := by
  refine ⟨⟨⟨m0 (x := 2) (by decide +kernel), m0 (x := 2) (by decide +kernel), m0 (x := 0) (by decide +kernel), m0 (x := 0) (by decide +kernel), m0 (x := 1) (by decide +kernel)⟩, fun a h => absurd h (Nat.not_lt_zero a), fun a h => absurd h (Nat.not_lt_zero a), fun a h => absurd h (Nat.not_lt_zero a), fun a h => absurd h (Nat.not_lt_zero a), fun v hv => ?_, fun t ht => ?_⟩, Or.inl (m0 (by decide +kernel)), ⟨0, by decide, m0 (x := 0) (by decide +kernel), m0 (x := 0) (by decide +kernel), Nat.zero_le _, fun j h => absurd h (Nat.not_lt_zero j)⟩, fun s hs => ?_, ⟨m0 (x := 0) (by decide +kernel), Nat.zero_le _, fun _ => Nat.zero_le _, fun j h => absurd h (Nat.not_lt_zero j)⟩, m0 (x := 0) (by decide +kernel), fun h => absurd rfl h⟩
  · show gk_M 7 v = -1
    exact m0 ((by decide +kernel : ∀ v : Fin 8, gk_mt.contains (7, v.1, (-1 : Int)) = true) ⟨v, hv⟩)
  · show gk_M 8 t = 0
    exact m0 ((by decide +kernel : ∀ v : Fin 4, gk_mt.contains (8, v.1, (0 : Int)) = true) ⟨t, ht⟩)
  · show gk_M 75 s = 0
    exact m0 ((by decide +kernel : ∀ v : Fin 2, gk_mt.contains (75, v.1, (0 : Int)) = true) ⟨s, hs⟩)
section WS
variable {N : Nat} {xs : Nat → Int32} {d : Nat} {L st : List gg_V} {w : gg_W} {Q : gg_O → Prop} {r m : gg_M} {cs : Nat}
end WS
