/-! the machine follows the interpreter: calls -/
theorem gg_hst_ok {k h j n : Nat} (hdt : ∀ k pc i n, gg_dt k pc = some (i, n) → decode (gg_bt k) pc = .ok (i, n)) (hh : gg_hst k h = some (j, n)) : (∃ j' : Fin 4, j'.1 = j ∧ n = 1 ∧ decode (gg_bt k) h = .ok (.astore_n j', 1)) ∨ (n = 2 ∧ decode (gg_bt k) h = .ok (.astore j, 2)) := by
  unfold gg_hst at hh
  split at hh
  · rename_i j' hq
    cases hh
    exact Or.inl ⟨j', rfl, rfl, hdt _ _ _ _ hq⟩
  · rename_i j' hq
    cases hh
    exact Or.inr ⟨rfl, hdt _ _ _ _ hq⟩
  · cases hh
/-- a run of a call whose instruction is n long -/
def gy_Rn (n : Nat) (p : Program) (l : Launch) (e : Env) (R : Room) (s : State) (m : MethodId) (args : Array Value) (below : List Frame) (meth : Method) (c : Code) (H : Heap) (locs : List Loc) (cells slots mc ms : Nat) (g : JFrame) (rest : List Value) (Qa : State → Outcome → State → Prop) (XC : String → State → State → Prop) (free : Addr → Prop) : Prop :=
  ∀ T : State, T.heap = H → Stand p l e R s m args below meth c T locs cells slots →
    (∃ (v : Option Value) (st₀ t T' : State) (L : List Loc), st₀.heap = H ∧ Stand p l e R s m args below meth c T' (locs ++ L) (cells + mc) (slots + ms) ∧ (∀ q ∈ L, free q.base) ∧ T'.heap = t.heap ∧ T'.vm = t.vm ∧ Qa st₀ (.returned v) t ∧
      Goes p e below T g T' { g with pc := g.pc + n, stack := v.toList ++ rest }) ∨
    (∃ (q : Addr) (st₀ t T' : State) (L : List Loc) (E : String) (ce : Cell), st₀.heap = H ∧ Stand p l e R s m args below meth c T' (locs ++ L) (cells + mc) (slots + ms) ∧ (∀ z ∈ L, free z.base) ∧ T'.heap = t.heap ∧ T'.vm = t.vm ∧ XC E st₀ t ∧ t.heap[q]? = some ce ∧ ce.vm = .none ∧ s.vm.findClass E = some ce.cls ∧
      Steps p.tables e below (T.setTop g) ((T'.setTop { g with stack := rest }).pushFrame (.throwing q)))
section GS8
variable {l : Launch} {S0 b Lx : Nat} {xs : Nat → Int32} {D : va_G} {cA : Nat → ClassId} {ad : Nat → Int → Nat} {opq : Value} {p : Program} {e : Env} {R : Room} {s : State} {m : MethodId} {args : Array Value} {below : List Frame} {meth : Method} {c : Code} {Q : State → Prop} {k d nL cb sb : Nat} {o : gy_O} {f : Nat}
variable {pc n : Nat} {L st : List gg_V} {w w' : gy_W} {H H' : Heap} {locs : List Loc} {cells slots : Nat} {ls : Array Slot}
/-- what is to be shown where an exception leaves the method -/
def gy_Ko (l : Launch) (S0 b Lx : Nat) (xs : Nat → Int32) (D : va_G) (cA : Nat → ClassId) (ad : Nat → Int → Nat) (opq : Value) (p : Program) (e : Env) (R : Room) (s : State) (m : MethodId) (args : Array Value) (below : List Frame) (meth : Method) (c : Code) (Q : State → Prop) (k cb sb : Nat) (o : gy_O) : Prop :=
  ∀ (pc : Nat) (rest : List Value) (ls : Array Slot) (E : String) (ce : Cell) (q : Addr) (H : Heap) (locs : List Loc) (cells slots : Nat), gg_hd k = [] → gg_xn E o.1.1 → gy_H S0 b D cA ad opq o.2 H → va_S (gg_A S0) s.heap H locs → H[q]? = some ce → ce.vm = .none → s.vm.findClass E = some ce.cls →
    cells + cb = o.2.2.2.1 → slots + sb = o.2.2.2.2 → vx_W p l e R s m args below meth c H locs cells slots Q (F0 m pc ls rest) q
theorem gs_after (IH : gy_Wk l S0 b Lx xs D cA ad opq p e R s m args below meth c Q k d nL cb sb o f) (CX : gy_CX l S0 b Lx xs D cA ad opq p R s m args meth c k d nL cb sb o) (RL : gy_Rl S0 b Lx xs D cA ad opq s nL cb sb L w H locs cells slots ls)
    (KO : gy_Ko l S0 b Lx xs D cA ad opq p e R s m args below meth c Q k cb sb o) (hdt : ∀ k pc i n, gg_dt k pc = some (i, n) → decode (gg_bt k) pc = .ok (i, n)) (htab : gg_hd k ≠ [] → c.exceptionTable.toList = tableOf (gg_hh k)) {o1 : gy_O} {arr : Array Value} {mst : List Value} (hle : gy_le w o1.2)
    (hr : gy_Rn n p l e R s m args below meth c H locs cells slots (o1.2.2.2.1 - w.2.2.1) (o1.2.2.2.2 - w.2.2.2) (F0 m pc ls mst) (st.map (yv S0 b ad opq)) (gy_Qc S0 b Lx xs D cA ad opq o1 arr) (gy_XC S0 b Lx xs D cA ad opq o1) (gg_A S0))
    (h : gy_aft (gy_ex Lx xs f) d k pc n L st (some o1) = some o) : W p l e R s m args below meth c H locs cells slots Q (F0 m pc ls mst) := by
  obtain ⟨hL, hl, hH, hS, hc, hs⟩ := id RL
  obtain ⟨hle1, hle2⟩ := hle
  intro T hT X
  rcases hr T hT X with ⟨v, st₀, t, T', Lc, h0, X', hLc, e1, e2, ⟨⟨v', hv', hres, hH'⟩, hF⟩, stp⟩ | ⟨q, st₀, t, T', Lc, E, ce, h0, X', hLc, e1, e2, ⟨hxn, hH', hF⟩, hce, hcv, hcl, stp⟩
  · cases hv'
    obtain ⟨k1, k2, k3⟩ := vx_keep (A1 := gg_A S0) h0 e1 hS (fun q _ z => z) (fun q z => z) hLc hF
    have hH2 : gy_H S0 b D cA ad opq o1.2 T'.heap := by rw [e1]; exact hH'
    have RL2 : gy_Rl S0 b Lx xs D cA ad opq s nL cb sb L o1.2 T'.heap (locs ++ Lc) (cells + (o1.2.2.2.1 - w.2.2.1)) (slots + (o1.2.2.2.2 - w.2.2.2)) ls := ⟨hL, hl, hH2, k3, by omega, by omega⟩
    rcases hres with ⟨g1, rfl⟩ | ⟨g1, rfl⟩
    · rcases gyaft_ok h with ⟨-, h2⟩ | ⟨g2, -⟩ | ⟨⟨g2, -⟩, -⟩
      · obtain ⟨t2, a1, b1⟩ := IH _ _ _ _ _ _ _ _ _ h2 RL2 T' rfl X'
        exact ⟨t2, stp t2 a1, b1⟩
      · omega
      · omega
    · rcases gyaft_ok h with ⟨g2, -⟩ | ⟨-, h2⟩ | ⟨⟨-, g2⟩, -⟩
      · omega
      · obtain ⟨t2, a1, b1⟩ := IH _ _ _ _ _ _ _ _ _ h2 RL2 T' rfl X'
        exact ⟨t2, stp t2 a1, b1⟩
      · omega
  · obtain ⟨k1, k2, k3⟩ := vx_keep (A1 := gg_A S0) h0 e1 hS (fun q _ z => z) (fun q z => z) hLc hF
    have hH2 : gy_H S0 b D cA ad opq o1.2 T'.heap := by rw [e1]; exact hH'
    have hcq : T'.heap[q]? = some ce := by rw [e1]; exact hce
    have RL2 : gy_Rl S0 b Lx xs D cA ad opq s nL cb sb L o1.2 T'.heap (locs ++ Lc) (cells + (o1.2.2.2.1 - w.2.2.1)) (slots + (o1.2.2.2.2 - w.2.2.2)) ls := ⟨hL, hl, hH2, k3, by omega, by omega⟩
    have key : vx_W p l e R s m args below meth c T'.heap (locs ++ Lc) (cells + (o1.2.2.2.1 - w.2.2.1)) (slots + (o1.2.2.2.2 - w.2.2.2)) Q (F0 m pc ls (st.map (yv S0 b ad opq))) q := by
      rcases gyaft_ok h with ⟨g2, -⟩ | ⟨g2, -⟩ | ⟨-, ⟨hk, rfl⟩ | ⟨hh, j, mm, hk, hl2, hst, hj, h2⟩⟩
      · rcases hxn with ⟨-, z⟩ | ⟨-, z⟩ <;> omega
      · rcases hxn with ⟨-, z⟩ | ⟨-, z⟩ <;> omega
      · exact KO pc _ ls E ce q T'.heap _ _ _ hk hxn hH2 k3 hcq hcv hcl (by show cells + _ + cb = o1.2.2.2.1; omega) (by show slots + _ + sb = o1.2.2.2.2; omega)
      · have hk8 := gg_hd_cls hk
        refine gy_catch CX hk8 hxn hcq hcv hcl ?_ (gg_hd k) [] (by simpa using gg_hd_ok) (fun z hz => by cases hz) (by rw [htab hk]; unfold tableOf gg_hh; rw [List.map_map]; rfl) hl2
        obtain ⟨⟨hx, hb, hml, hown, hts⟩, hE, hR, hin, hfl, hS0⟩ := id CX
        have fin : ∀ ls', lv_has ls' nL ((j, Value.ref q) :: (gg_lo (yv S0 b ad opq) 0 L).filter (fun q => !(q.1 == j) && !(q.1 + 1 == j && q.2.category == 2))) → W p l e R s m args below meth c T'.heap (locs ++ Lc) (cells + (o1.2.2.2.1 - w.2.2.1)) (slots + (o1.2.2.2.2 - w.2.2.2)) Q (F0 m (hh + mm) ls' []) := fun ls' hl' =>
          IH _ _ [] _ _ _ _ _ _ h2 ⟨(gg_s1_len _ _ _).trans hL, gg_has_s3 (yv_cat2 hE.2.2.2.2.2.2.1) hj hl', hH2, k3, by omega, by omega⟩
        rcases gg_hst_ok hdt hst with ⟨j', rfl, rfl, hdg⟩ | ⟨rfl, hdg⟩
        · exact lv_astore_n hx hb hdg rfl hl (by omega) rfl fin
        · exact lv_astore hx hb hdg hl (by omega) rfl fin
    obtain ⟨t2, a1, b1⟩ := key T' rfl X'
    exact ⟨t2, stp.trans a1, b1⟩
end GS8
