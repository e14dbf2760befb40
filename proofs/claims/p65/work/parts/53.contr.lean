/-! a contracted graph has the components of the sets with the arc -/
theorem qg_3 {m p g : Nat} (hp : p < m) (hg : g < m) : qpl m p g = p ↔ g = 0 := by
  unfold qpl
  split <;> omega
section MG
variable {G : q_G} {a : Nat}
end MG
