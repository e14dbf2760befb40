/-! what the components of a set are, whatever the order of its arcs -/
/-- a state that some arcs have come to -/
def p_r (G : q_G) (E : Nat → Prop) (P : q_P) : Prop := ∃ l : List Nat, (∀ a, a ∈ l → a < qK G) ∧ (∀ b, E b ↔ b ∈ l) ∧ P = l.foldr (fun a P => pj G P a) pz
theorem p_r.z {G : q_G} : p_r G (fun _ => False) pz := ⟨[], fun a h => absurd h (List.not_mem_nil), fun b => ⟨fun h => h.elim, fun h => absurd h (List.not_mem_nil)⟩, rfl⟩
theorem p_r.j {G : q_G} {E : Nat → Prop} {P : q_P} {a : Nat} (h : p_r G E P) (ha : a < qK G) : p_r G (fun b => E b ∨ b = a) (pj G P a) := by
  obtain ⟨l, h1, h2, h3⟩ := h
  refine ⟨a :: l, fun b hb => ?_, fun b => ?_, by rw [h3]; rfl⟩
  · rcases List.mem_cons.1 hb with rfl | hb
    · exact ha
    · exact h1 b hb
  · rw [List.mem_cons, ← h2]
    exact Or.comm
