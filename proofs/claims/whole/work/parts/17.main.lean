/-! the machine follows the interpreter: references from locals, ends -/
section GS6
variable {l : Launch} {S0 b Lx : Nat} {xs : Nat → Int32} {D : va_G} {cA : Nat → ClassId} {adK adV : Nat → Nat} {opq : Value} {p : Program} {e : Env} {R : Room} {s : State} {m : MethodId} {args : Array Value} {below : List Frame} {meth : Method} {c : Code} {Q : State → Prop} {k d nL cb sb : Nat} {o : gg_O} {f : Nat}
variable {pc n : Nat} {L st : List gg_V} {w w' : gg_W} {H H' : Heap} {locs : List Loc} {cells slots : Nat} {ls : Array Slot}
theorem gv_refs {v : gg_V} (hq : opq = .null ∨ ∃ t : Nat, opq = .ref t) (hv : v.1 = 2 ∨ v.1 = 4 ∨ v.1 = 7 ∨ v.1 = 8) : gv S0 b adK adV opq v = .null ∨ ∃ t : Nat, gv S0 b adK adV opq v = .ref t := by
  obtain ⟨t, x⟩ := v
  dsimp only at hv
  rcases hv with rfl | rfl | rfl | rfl
  · show gg_rf S0 b x = .null ∨ ∃ t : Nat, gg_rf S0 b x = .ref t
    match x with
    | .ofNat 0 => exact Or.inr ⟨_, rfl⟩
    | .ofNat (n + 1) => exact Or.inr ⟨_, rfl⟩
    | .negSucc _ => exact Or.inl rfl
  · exact Or.inr ⟨_, rfl⟩
  · exact hq
  · exact Or.inr ⟨_, rfl⟩
theorem gs_aload_n (IH : gg_Wk l S0 b Lx xs D cA adK adV opq p e R s m args below meth c Q k d nL cb sb o f) (CX : gg_CX l S0 b Lx xs D cA adK adV opq p R s m args meth c k d nL cb sb o) (RL : gg_Rl S0 b Lx xs D cA adK adV opq s nL cb sb L w H locs cells slots ls) {j : Fin 4} (hdg : decode (gg_bt k) pc = .ok (.aload_n j, n)) (h : gg_step (gg_ex Lx xs f) Lx xs d k pc L st w (.aload_n j) n = some o) : W p l e R s m args below meth c H locs cells slots Q (F0 m pc ls (st.map (gv S0 b adK adV opq))) := by
  obtain ⟨⟨hx, hb, hml, hown, hts⟩, hE, hR, hin, hfl, hS0⟩ := id CX
  obtain ⟨hL, hl, hH, hS, hc, hs⟩ := id RL
  obtain ⟨rfl, h1⟩ := gq_ok h
  obtain ⟨v, hi, hv, h2⟩ := gldA_ok h1
  have kk := IH _ _ _ _ _ _ _ _ _ h2 RL
  have hat := gg_has_at hl hi (by omega)
  rw [List.map_cons] at kk
  rcases gv_refs (S0 := S0) (b := b) (adK := adK) (adV := adV) hE.2.2.2.2.2.2.2.2.2.2 hv with e1 | ⟨t, e1⟩
  · rw [e1] at kk hat
    exact lv_aload_nN hx hb hdg rfl hat kk
  · rw [e1] at kk hat
    exact lv_aload_n hx hb hdg rfl hat kk
theorem gs_aload (IH : gg_Wk l S0 b Lx xs D cA adK adV opq p e R s m args below meth c Q k d nL cb sb o f) (CX : gg_CX l S0 b Lx xs D cA adK adV opq p R s m args meth c k d nL cb sb o) (RL : gg_Rl S0 b Lx xs D cA adK adV opq s nL cb sb L w H locs cells slots ls) {j : Nat} (hdg : decode (gg_bt k) pc = .ok (.aload j, n)) (h : gg_step (gg_ex Lx xs f) Lx xs d k pc L st w (.aload j) n = some o) : W p l e R s m args below meth c H locs cells slots Q (F0 m pc ls (st.map (gv S0 b adK adV opq))) := by
  obtain ⟨⟨hx, hb, hml, hown, hts⟩, hE, hR, hin, hfl, hS0⟩ := id CX
  obtain ⟨hL, hl, hH, hS, hc, hs⟩ := id RL
  obtain ⟨rfl, h1⟩ := gq_ok h
  obtain ⟨v, hi, hv, h2⟩ := gldA_ok h1
  have kk := IH _ _ _ _ _ _ _ _ _ h2 RL
  have hat := gg_has_at hl hi (by omega)
  rw [List.map_cons] at kk
  rcases gv_refs (S0 := S0) (b := b) (adK := adK) (adV := adV) hE.2.2.2.2.2.2.2.2.2.2 hv with e1 | ⟨t, e1⟩
  · rw [e1] at kk hat
    exact lv_aloadN hx hb hdg hat kk
  · rw [e1] at kk hat
    exact lv_aload hx hb hdg hat kk
end GS6
/-- how a method answers -/
def gg_res (S0 b : Nat) (adK adV : Nat → Nat) (opq : Value) (o : gg_O) (v : Option Value) : Prop := (o.1.1 = 0 ∧ v = none) ∨ (o.1.1 = 1 ∧ v = some (gv S0 b adK adV opq o.1.2))
def gg_xn (E : String) (t : Nat) : Prop := (E = "java/lang/IllegalArgumentException" ∧ t = 2) ∨ (E = "java/lang/IndexOutOfBoundsException" ∧ t = 3)
def gg_Pc (S0 b Lx : Nat) (xs : Nat → Int32) (D : va_G) (cA : Nat → ClassId) (adK adV : Nat → Nat) (opq : Value) (vs : List gg_V) (w : gg_W) : Array Value → State → Prop :=
  va_Pc (vs.map (gv S0 b adK adV opq)) fun U => gg_E S0 b Lx xs D cA adK adV opq U U.heap ∧ gg_H S0 b Lx xs D cA adK adV opq w U.heap
def gg_Qc (S0 b Lx : Nat) (xs : Nat → Int32) (D : va_G) (cA : Nat → ClassId) (adK adV : Nat → Nat) (opq : Value) (o : gg_O) : Array Value → State → Outcome → State → Prop := fun _ st oc t =>
  (∃ v : Option Value, oc = .returned v ∧ gg_res S0 b adK adV opq o v ∧ gg_H S0 b Lx xs D cA adK adV opq o.2 t.heap) ∧ va_F (gg_A S0) st t
def gg_XC (S0 b Lx : Nat) (xs : Nat → Int32) (D : va_G) (cA : Nat → ClassId) (adK adV : Nat → Nat) (opq : Value) (o : gg_O) : String → State → State → Prop := fun E st t =>
  gg_xn E o.1.1 ∧ gg_H S0 b Lx xs D cA adK adV opq o.2 t.heap ∧ va_F (gg_A S0) st t
def gg_rm (d mc ms : Nat) : Room := { frames := d + 20, cells := mc, slots := ms, locals := 60 * d + 200 }
/-- the contract of a method for these arguments in this world -/
def gg_Ct (l : Launch) (S0 b Lx : Nat) (xs : Nat → Int32) (D : va_G) (cA : Nat → ClassId) (adK adV : Nat → Nat) (opq : Value) (d y : Nat) (vs : List gg_V) (w : gg_W) (o : gg_O) : Prop :=
  vx_Met l (gg_nm y) (gg_wd y :: gg_gw) (gg_rm d (o.2.2.2.2.1 - w.2.2.2.1) (o.2.2.2.2.2 - w.2.2.2.2)) (gg_Pc S0 b Lx xs D cA adK adV opq vs w) (gg_Qc S0 b Lx xs D cA adK adV opq o) (gg_XC S0 b Lx xs D cA adK adV opq o) (o.2.2.2.2.1 - w.2.2.2.1) (o.2.2.2.2.2 - w.2.2.2.2) (gg_A S0)
theorem gg_Pc_blind {S0 b Lx : Nat} {xs : Nat → Int32} {D : va_G} {cA : Nat → ClassId} {adK adV : Nat → Nat} {opq : Value} {vs : List gg_V} {w : gg_W} : FrameBlind (gg_Pc S0 b Lx xs D cA adK adV opq vs w) := by
  intro a U g mk h
  obtain ⟨h1, h2, h3⟩ := h
  exact ⟨h1, gg_E.same (u := U) (U := U.calling g mk a) rfl h2, h3⟩
theorem gg_wd_in {w : Cond} {y : Nat} (hy : gg_wd y ∈ gg_gw) (h : w ∈ gg_wd y :: gg_gw) : w ∈ gg_gw := by
  rcases List.mem_cons.mp h with rfl | h
  · exact hy
  · exact h
