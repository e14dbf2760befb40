/-! the class counts colorings one by one -/
theorem gu_gu (f : gg_M) (o k : Nat) (x y : Int) : gg_up (gg_up f o k x) o k y = gg_up f o k y := by
  funext o' k'
  rw [gu, gu, gu]
  split <;> rfl
theorem gu_id {f : gg_M} {o k : Nat} {x : Int} (h : f o k = x) : gg_up f o k x = f := by
  funext o' k'
  rw [gu]
  split
  · rename_i e
    rw [e.1, e.2, h]
  · rfl
section SG
variable {N : Nat} {xs : Nat → Int32} {d : Nat} {M : gg_M} {cc cs : Nat} {Q : gg_O → Prop} {g : Nat} {G : q_G}
end SG
