/-! how a method answers; its contract -/
/-- how a method answers -/
def gy_res (S0 b : Nat) (ad : Nat → Int → Nat) (opq : Value) (o : gy_O) (v : Option Value) : Prop := (o.1.1 = 0 ∧ v = none) ∨ (o.1.1 = 1 ∧ v = some (yv S0 b ad opq o.1.2))
def gg_xn (E : String) (t : Nat) : Prop := (E = "java/lang/IllegalArgumentException" ∧ t = 2) ∨ (E = "java/lang/IndexOutOfBoundsException" ∧ t = 3)
def gy_Pc (S0 b Lx : Nat) (xs : Nat → Int32) (D : va_G) (cA : Nat → ClassId) (ad : Nat → Int → Nat) (opq : Value) (vs : List gg_V) (w : gy_W) : Array Value → State → Prop :=
  va_Pc (vs.map (yv S0 b ad opq)) fun U => gy_E S0 b Lx xs D cA ad opq U U.heap ∧ gy_H S0 b D cA ad opq w U.heap
def gy_Qc (S0 b Lx : Nat) (xs : Nat → Int32) (D : va_G) (cA : Nat → ClassId) (ad : Nat → Int → Nat) (opq : Value) (o : gy_O) : Array Value → State → Outcome → State → Prop := fun _ st oc t =>
  (∃ v : Option Value, oc = .returned v ∧ gy_res S0 b ad opq o v ∧ gy_H S0 b D cA ad opq o.2 t.heap) ∧ va_F (gg_A S0) st t
def gy_XC (S0 b Lx : Nat) (xs : Nat → Int32) (D : va_G) (cA : Nat → ClassId) (ad : Nat → Int → Nat) (opq : Value) (o : gy_O) : String → State → State → Prop := fun E st t =>
  gg_xn E o.1.1 ∧ gy_H S0 b D cA ad opq o.2 t.heap ∧ va_F (gg_A S0) st t
def gy_rm (d mc ms : Nat) : Room := { frames := d + 20, cells := mc, slots := ms, locals := 60 * d + 200 }
/-- the contract of a method for these arguments in this world -/
def gy_Ct (l : Launch) (S0 b Lx : Nat) (xs : Nat → Int32) (D : va_G) (cA : Nat → ClassId) (ad : Nat → Int → Nat) (opq : Value) (d y : Nat) (vs : List gg_V) (w : gy_W) (o : gy_O) : Prop :=
  vx_Met l (gg_nm y) (gg_wd y :: gg_gw) (gy_rm d (o.2.2.2.1 - w.2.2.1) (o.2.2.2.2 - w.2.2.2)) (gy_Pc S0 b Lx xs D cA ad opq vs w) (gy_Qc S0 b Lx xs D cA ad opq o) (gy_XC S0 b Lx xs D cA ad opq o) (o.2.2.2.1 - w.2.2.1) (o.2.2.2.2 - w.2.2.2) (gg_A S0)
theorem gy_Pc_blind {S0 b Lx : Nat} {xs : Nat → Int32} {D : va_G} {cA : Nat → ClassId} {ad : Nat → Int → Nat} {opq : Value} {vs : List gg_V} {w : gy_W} : FrameBlind (gy_Pc S0 b Lx xs D cA ad opq vs w) := by
  intro a U g mk h
  obtain ⟨h1, h2, h3⟩ := h
  exact ⟨h1, gy_E.same (u := U) (U := U.calling g mk a) rfl h2, h3⟩
theorem gg_wd_in {w : Cond} {y : Nat} (hy : gg_wd y ∈ gg_gw) (h : w ∈ gg_wd y :: gg_gw) : w ∈ gg_gw := by
  rcases List.mem_cons.mp h with rfl | h
  · exact hy
  · exact h
