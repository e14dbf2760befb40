/-! a graph, apart from its place in memory -/
abbrev q_G : Type := (Nat → Nat → Nat) × (Nat → Int) × (Nat → Int)
def qN (G : q_G) : Nat := G.1 0 0
def qM (G : q_G) : Nat := G.1 0 1
def qK (G : q_G) : Nat := G.1 0 2
def qS (G : q_G) : Nat := G.1 0 3
def qL (G : q_G) : Nat := G.1 0 4
def qF (G : q_G) (a : Nat) : Nat := G.1 1 a
def qT (G : q_G) (a : Nat) : Nat := G.1 2 a
def qA (G : q_G) (a : Nat) : Nat := G.1 3 a
def qW (G : q_G) (a : Nat) : Nat := G.1 4 a
def qP (G : q_G) (v : Nat) : Int := G.2.1 v
def qO (G : q_G) (t : Nat) : Int := G.2.2 t
def q_ok (G : q_G) : Prop := (1 ≤ qN G ∧ qN G ≤ 8 ∧ 1 ≤ qM G ∧ qM G ≤ 12 ∧ qK G ≤ 12 ∧ qS G < 2 ^ qK G ∧ 1 ≤ qL G ∧ qL G ≤ 5) ∧ (∀ a, a < qK G → qF G a < qN G ∧ qT G a < qN G ∧ qA G a < qM G ∧ qW G a ≤ 99) ∧ (∀ v, v < 8 → -1 ≤ qP G v ∧ qP G v ≤ ((qM G * qL G : Nat) : Int)) ∧ (∀ v, qN G ≤ v → v < 8 → qP G v = -1)
/-- the class's graph at g is G -/
def q_C (M : gg_M) (g : Nat) (G : q_G) : Prop := (M g 0 = qN G ∧ M g 1 = qM G ∧ M g 2 = qK G ∧ M g 3 = qS G ∧ M g 4 = qL G) ∧ (∀ a, a < qK G → M (g + 1) a = qF G a) ∧ (∀ a, a < qK G → M (g + 2) a = qT G a) ∧ (∀ a, a < qK G → M (g + 3) a = qA G a) ∧ (∀ a, a < qK G → M (g + 4) a = qW G a) ∧ (∀ v, v < 8 → M (g + 5) v = qP G v) ∧ (∀ t, t < 4 → M (g + 6) t = qO G t)
section SG
variable {N : Nat} {xs : Nat → Int32} {d : Nat} {M : gg_M} {cc cs : Nat} {Q : gg_O → Prop} {g : Nat} {G : q_G}
end SG
