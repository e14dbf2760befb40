/-! what class and model are to do in a case of the law -/
theorem qU_s {G : q_G} {s : Nat} (h : (s : Int) ≤ qU G) : s < 2 ^ qK G := by
  have := qU_lt (G := G)
  omega
section SG
variable {N : Nat} {xs : Nat → Int32} {d : Nat} {M : gg_M} {cc cs : Nat} {Q : gg_O → Prop} {A : q_A}
/-- a method of the class: its answer v, the state A' behind it; o: 0 an answer, 2 and 3 what is thrown -/
def q_cS (N : Nat) (xs : Nat → Int32) (d k : Nat) (as : List gg_V) (M : gg_M) (A' : q_A) (cc cs o t : Nat) (v : Int) : Prop :=
  ∀ Q : gg_O → Prop, (o = 0 → ∀ M' : gg_M, (∀ j, 142 ≤ j → M' j = M j) → q_I M' A' → Q ((1, (t, v)), (gk_R, M', 142, cc, cs))) → (o ≠ 0 → q_I M A' → Q ((o, (3, 0)), (gk_R, M, 142, cc + 1, cs + 6))) → wp N xs d k 0 (gr 1 :: as) [] (gk_R, M, 142, cc, cs) Q
def o_set (A : q_A) (x : Int) : Nat := if 0 ≤ x ∧ x ≤ qU (aG A) then 0 else 2
end SG
