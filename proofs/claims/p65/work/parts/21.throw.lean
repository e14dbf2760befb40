/-! throwing: the words of the two exceptions' constructors -/
def gg_xnm : List String := ["java/lang/RuntimeException", "java/lang/Exception"]
def gg_xw (ic : Nat) (X : String) : List Cond := vx_at0 (gg_c 6) ic X gg_xnm
def gg_xb (X : String) : List Cond := .castable X X :: gg_dcl.map Cond.declares
set_option maxRecDepth 100000 in
theorem gg_xw_1 : ((gg_xw 113 "java/lang/IllegalArgumentException").filter (fun w => !goodWord w)).all (fun w => decide (w ∈ gg_xb "java/lang/IllegalArgumentException")) = true := by decide +kernel
set_option maxRecDepth 100000 in
theorem gg_xw_2 : ((gg_xw 340 "java/lang/IndexOutOfBoundsException").filter (fun w => !goodWord w)).all (fun w => decide (w ∈ gg_xb "java/lang/IndexOutOfBoundsException")) = true := by decide +kernel
set_option maxRecDepth 100000 in
theorem gg_xw_3 : ((gg_xw 113 "java/lang/IllegalArgumentException").filter goodWord).all (fun w => (List.range 7).any fun j => (gg_tb j).any fun v => decide (v = w)) = true := by decide +kernel
set_option maxRecDepth 100000 in
theorem gg_xw_4 : ((gg_xw 340 "java/lang/IndexOutOfBoundsException").filter goodWord).all (fun w => (List.range 7).any fun j => (gg_tb j).any fun v => decide (v = w)) = true := by decide +kernel
section VYT
variable {p : Program} {l : Launch} {e : Env} {R : Room} {s : State} {m : MethodId} {args : Array Value} {below : List Frame} {meth : Method} {c : Code} {H : Heap} {locs : List Loc} {cells slots : Nat} {Q : State → Prop}
variable {mc ms : Nat} {free : Addr → Prop} {A0 A1 : Nat → Prop} {H0 : Heap} {a : Array Value} {ls : Array Slot} {st0 rest : List Value}
variable {Qc : Array Value → State → Outcome → State → Prop} {XC : String → State → State → Prop}
theorem vy_throw0 {cc : ByteArray} {pc : Nat} (hexec : p.tables.exec = Jvm.exec) (hb : c.code = cc) (hl : l.stackTraces = false) {own cls : String} {names : List String} {ik ic mc ms : Nat} {A : Nat → Prop}
    (hown : s.vm.findClass own = some m.cls) (hcls : Bundle.fit cls = true) (hnames : ∀ n ∈ names, Bundle.fit n = true)
    (hk : (Cond.classLink own ik cls).before args s = true) (hini : (Cond.initialized cls).before args s = true) (hat : ∀ w ∈ vx_at0 own ic cls names, w.before args s = true)
    (hgood : ∀ w ∈ Cond.classLink own ik cls :: Cond.initialized cls :: vx_at0 own ic cls names, vx_ot w = true)
    (hU : vx_Zq Bundle.tN "UNASSIGNED_STACK" Bundle.steD A s s.heap) (hN : vx_Zq Bundle.tN "SUPPRESSED_SENTINEL" Bundle.listD A s s.heap) (hS : va_S A s.heap H locs) (hsize : ls.size = c.maxLocals)
    (d0 : decode cc pc = .ok (.new ik, 3)) (d3 : decode cc (pc + 3) = .ok (.dup, 1)) (d4 : decode cc (pc + 4) = .ok (.invokespecial ic, 3)) (d7 : decode cc (pc + 7) = .ok (.athrow, 1))
    (hout : ∀ x ∈ c.exceptionTable.toList, covers x (pc + 7) = false)
    (hRframes : names.length + 3 < R.frames) (hRlocals : (rest.map fun v => v.category).sum + (13 * (names.length + 1) + 42) ≤ R.locals) (hRcells : cells + 1 ≤ R.cells) (hRslots : slots + 6 ≤ R.slots) (hlocks : meth.locks = false)
    (hx : ∀ t : State, s.vm.Alike t.vm → t.heap.size = H.size + 1 → (∀ q : Nat, q < H.size → t.heap[q]? = H[q]?) → XC cls s t)
    (hf : ∀ z ∈ locs, free z.base) (hc : cells + 1 ≤ mc) (hs : slots + 6 ≤ ms) :
    W p l e R s m args below meth c H locs cells slots (vx_MQ below Qc XC args s mc ms free) (F0 m pc ls rest) := by
  intro T hT X
  have htr : e.platform.stackTraces = false := (show e.platform.stackTraces = l.stackTraces by rw [X.admits.platform]).trans hl
  have Y := vx_rebase X (R' := { frames := R.frames, locals := R.locals, cells := 1, slots := 6 }) (Nat.le_refl _) (Nat.le_refl _) hRcells hRslots
  obtain ⟨s', hA⟩ : ∃ z, z = (T.setVm s.vm).setFrames (.invoking m args :: below) := ⟨_, rfl⟩
  rw [← hA] at Y
  have hvm : s'.vm = s.vm := by rw [hA]; rfl
  have hhp : s'.heap = H := by rw [hA]; exact hT
  have hW0 : s.WarmedH s'.vm := by rw [hvm]; exact State.WarmedH.refl s
  have hat' : ∀ w ∈ vx_at0 own ic cls names, w.before args s' = true := fun w hw => vx_ot_at hW0 hvm.symm (hgood w (List.mem_cons_of_mem _ (List.mem_cons_of_mem _ hw))) (hat w hw)
  have hk' : (Cond.classLink own ik cls).before args s' = true := vx_ot_at hW0 hvm.symm (hgood _ List.mem_cons_self) hk
  have hini' : (Cond.initialized cls).before args s' = true := vx_ot_at hW0 hvm.symm (hgood _ (List.mem_cons_of_mem _ List.mem_cons_self)) hini
  have hU' : vx_Zq Bundle.tN "UNASSIGNED_STACK" Bundle.steD A s' s'.heap := by rw [hhp]; exact vx_Zq.moved hW0.alike (hU.kept hS.2.1)
  have hN' : vx_Zq Bundle.tN "SUPPRESSED_SENTINEL" Bundle.listD A s' s'.heap := by rw [hhp]; exact vx_Zq.moved hW0.alike (hN.kept hS.2.1)
  have h : ∀ w ∈ Bundle.ownAtoms0 own ic cls names, w.before args s' = true := vx_own hat' (vx_isRefq hU'.1) (vx_isRefq hN'.1) hU'.2.word hN'.2.word
  have hown' : s'.vm.findClass own = some m.cls := by rw [hvm]; exact hown
  have hins : (Cond.instantiable cls 6).before args s' = true := h _ (by simp [Bundle.ownAtoms0])
  obtain ⟨vm₁, cX, kX, hfX, hkX, -, -, X₁, st1⟩ := Y.newCold hexec (own := own) (C := cls) (index := ik) (n := 6) hown' hk' hins hini'
    (g := F0 m pc ls rest) rfl (by rw [hb]; exact d0) (Nat.le_refl _) (Nat.le_refl _)
  generalize hT1 : (T.setVm vm₁).pushCell { cls := cX, slots := kX.instanceTypes.map defaultValue, vm := .none } = T1 at X₁ st1
  have hcat : (Value.ref T.heap.size).category = 1 := rfl
  have hcellA : T1.heap[T.heap.size]? = some (freshCell cX kX) := by rw [← hT1]; exact State.heap_pushCell_size _ _
  have d3' : decode c.code (pc + 3) = .ok (.dup, 1) := by rw [hb]; exact d3
  obtain ⟨U, hsteps, hrun, hend, hW, hsame, ce, hce, hO⟩ := X₁.ctorThrow0 hexec htr (own := own) (cls := cls) (names := names) (ic := ic) hown' hcls hnames h (fun x hx => nomatch hx) hfX hkX hcellA (by rw [hhp, hT]; exact Nat.le_refl _)
    (g := { method := m, pc := pc + 4, locals := ls, stack := .ref T.heap.size :: .ref T.heap.size :: rest, locked := none }) rfl hsize rfl rfl (rest := rest) rfl
    (by rw [hb]; exact d4) (by rw [hb]; exact d7) hout hRframes (by simp only [List.map_cons, List.sum_cons, hcat]; omega) hlocks
  obtain ⟨f1, f2⟩ := vx_frame hsame
  rw [hhp] at f1 f2
  have hWs : s.WarmedH U.vm := State.WarmedH.trans hW0 hW
  have hcl : s.vm.findClass cls = some ce.cls := by
    have h9 := hO.cls
    rw [hvm] at h9
    exact h9
  have hall : s.sameButNew ({ U with vm := s.vm } : State) locs mc ms := by
    subst hA
    obtain ⟨e1, e2⟩ := hsame
    rw [State.setFrames_setFrames] at e1
    have h2 : (T.setVm s.vm).sameButNew ({ U with vm := s.vm } : State) [] (0 + 1) (0 + 6) := ⟨e1, e2⟩
    have h3 := X.same.trans h2
    rw [List.append_nil] at h3
    exact h3.mono hc hs
  refine ⟨U, ?_, .threw T.heap.size, hrun, hend, Or.inr ⟨T.heap.size, rfl, cls, ce, locs, hx U hWs.alike (by have h3 : U.heap.size ≤ s'.heap.size + 1 := hsame.2.2.1; have h4 := (Array.getElem?_eq_some_iff.mp hce).1; rw [hhp] at h3; rw [hT] at h4; omega) (fun q hq => f2 q hq (fun z hz => nomatch hz)), hce, hO.vm, hcl, hWs, hall, hf⟩⟩
  refine st1 _ ?_
  show Steps p.tables e below (T1.setTop { method := m, pc := pc + 3, locals := ls, stack := .ref T.heap.size :: rest, locked := none }) _
  jvm_step X₁.here [X₁.here.top, hexec, d3', Value.category]
  exact hsteps
end VYT
/-- a private method of AbstractStringBuilder, on a StringBuilder -/
theorem gy_selpriv {y : MethodName} {s : State} {args : Array Value} (hcl : y.cls = "java/lang/AbstractStringBuilder") (h0 : (Cond.selects "java/lang/StringBuilder" ⟨"java/lang/AbstractStringBuilder", "isLatin1", "()Z"⟩ ⟨"java/lang/AbstractStringBuilder", "isLatin1", "()Z"⟩).before args s = true)
    (hpriv : (Cond.privateMethod y).before args s = true) (hinst : (Cond.instanceMethod y).before args s = true) : (Cond.selects "java/lang/StringBuilder" y y).before args s = true := by
  obtain ⟨c0, r0, m0, q1, q2, q3, q4, kP, hkP, hkPi⟩ := Cond.selects_spec h0
  obtain ⟨mk, methM, hnamed, hmethM, -, -⟩ := Cond.instanceMethod_spec hinst
  have hfound : s.methodFound? y.cls y.name y.desc = some mk := State.methodFound?_of_named hnamed (by rw [hcl]; exact ⟨by decide, by decide⟩)
  have hc1 : s.vm.findClass "java/lang/AbstractStringBuilder" = some mk.cls := by rw [← hcl]; exact findClass_of_methodNamed hnamed
  have hc2 : s.vm.findClass "java/lang/AbstractStringBuilder" = some m0.cls := findClass_of_methodNamed q3
  have hcls : mk.cls = m0.cls := Option.some.inj (hc1.symm.trans hc2)
  have hsel : selectMethod {} s.vm c0 mk = .method mk := selectMethod_private hmethM (Cond.privateMethod_at hpriv mk methM hnamed hmethM)
  simp only [Cond.before, Cond.holds, Cond.value, q1, hfound, hnamed, hsel, hcls, hkP]
  simp
  exact hkPi
def gy_asb (y : Nat) : Prop := y = 401 ∨ y = 402 ∨ y = 403 ∨ y = 404 ∨ y = 405 ∨ y = 406 ∨ y = 407 ∨ y = 408 ∨ y = 409 ∨ y = 410
theorem gy_asb_ok {y : Nat} (h : gy_asb y) : Cond.sameMethod (gg_nm y).cls (gg_nm y).cls (gg_nm y).name (gg_nm y).desc ∈ gg_gw ∧ (gg_nm y).cls = "java/lang/AbstractStringBuilder" ∧ (gg_nm y).name ≠ "<init>" ∧ gy_own y := by
  unfold gy_asb at h
  rcases h with rfl | rfl | rfl | rfl | rfl | rfl | rfl | rfl | rfl | rfl
  · exact ⟨gg_at_in (pos := 1416) (by decide +kernel), by decide +kernel, by decide +kernel, by decide, by decide, by decide +kernel⟩
  · exact ⟨gg_at_in (pos := 1415) (by decide +kernel), by decide +kernel, by decide +kernel, by decide, by decide, by decide +kernel⟩
  · exact ⟨gg_at_in (pos := 1408) (by decide +kernel), by decide +kernel, by decide +kernel, by decide, by decide, by decide +kernel⟩
  · exact ⟨gg_at_in (pos := 1410) (by decide +kernel), by decide +kernel, by decide +kernel, by decide, by decide, by decide +kernel⟩
  · exact ⟨gg_at_in (pos := 1343) (by decide +kernel), by decide +kernel, by decide +kernel, by decide, by decide, by decide +kernel⟩
  · exact ⟨gg_at_in (pos := 1413) (by decide +kernel), by decide +kernel, by decide +kernel, by decide, by decide, by decide +kernel⟩
  · exact ⟨gg_at_in (pos := 711) (by decide +kernel), by decide +kernel, by decide +kernel, by decide, by decide, by decide +kernel⟩
  · exact ⟨gg_at_in (pos := 1348) (by decide +kernel), by decide +kernel, by decide +kernel, by decide, by decide, by decide +kernel⟩
  · exact ⟨gg_at_in (pos := 1411) (by decide +kernel), by decide +kernel, by decide +kernel, by decide, by decide, by decide +kernel⟩
  · exact ⟨gg_at_in (pos := 1412) (by decide +kernel), by decide +kernel, by decide +kernel, by decide, by decide, by decide +kernel⟩
/-- which method such a call means -/
theorem gy_asb_sel {x y : Nat} {s : State} {args : Array Value} (hts : ∀ w ∈ gg_gw, w.before args s = true) (hx : (gg_mt x).1 ≠ 17) (h : gy_sel 17 x = some y) : gy_asb x ∧ gy_own y ∧ (gg_nm x).desc = (gg_nm y).desc ∧ (Cond.selects "java/lang/StringBuilder" (gg_nm x) (gg_nm y)).before args s = true := by
  unfold gy_sel at h
  rw [if_neg hx, if_pos rfl] at h
  split at h
  · rename_i h1
    subst h1
    cases h
    exact ⟨by unfold gy_asb; omega, ⟨by decide, by decide, by decide +kernel⟩, by decide +kernel, hts _ (gg_at_in (pos := 1349) (by decide +kernel))⟩
  · obtain ⟨h1, h2⟩ := gif_ok h
    cases h2
    have hA : gy_asb x := by unfold gy_asb; omega
    refine ⟨hA, (gy_asb_ok hA).2.2.2, rfl, ?_⟩
    rcases h1 with rfl | rfl | rfl | rfl | rfl | rfl
    · exact hts _ (gg_gw_sb (by decide))
    · exact hts _ (gg_at_in (pos := 1344) (by decide +kernel))
    · exact hts _ (gg_gw_sb (by decide))
    · exact hts _ (gg_at_in (pos := 712) (by decide +kernel))
    · exact hts _ (gg_gw_sb (by decide))
    · exact hts _ (gg_gw_sb (by decide))
theorem gw_sup17 : Cond.superclass (gg_c 17) "java/lang/AbstractStringBuilder" ∈ gg_gw := gg_at_in (pos := 673) (by decide +kernel)
def gy_spos (y : Nat) : Nat := if y = 392 then 980 else if y = 393 then 989 else if y = 389 then 1104 else 0
def gy_ckli (e : Nat × Nat × Nat × Nat) : Bool := gy_if.any fun z => decide (z.2.2 = e.2.2.1 ∧ z.1 = (gg_mt e.2.2.1).1 ∧ e.2.2.1 < 421 ∧ e.2.2.1 ≠ 287 ∧ (gg_mt e.2.2.1).1 ≠ 99 ∧ gy_ob z.1 = true ∧ z.2.1.desc = (gg_nm e.2.2.1).desc ∧ z.2.1.cls ≠ "java/lang/invoke/MethodHandle" ∧ z.2.1.cls ≠ "java/lang/invoke/VarHandle") && gg_at e.2.2.2 (.methodLink (gg_c e.1) e.2.1 z.2.1) && gg_at (gy_spos e.2.2.1) (.selects (gg_c z.1) z.2.1 (gg_nm e.2.2.1))
set_option maxRecDepth 100000 in
theorem gy_ckli_all : gy_lis.all gy_ckli = true := by decide +kernel
theorem gy_li_ok {o i y : Nat} (h : gy_li o i = some y) : ∃ z ∈ gy_if, z.2.2 = y ∧ z.1 = (gg_mt y).1 ∧ gy_own y ∧ gy_ob z.1 = true ∧ z.2.1.desc = (gg_nm y).desc ∧ (z.2.1.cls ≠ "java/lang/invoke/MethodHandle" ∧ z.2.1.cls ≠ "java/lang/invoke/VarHandle") ∧ Cond.methodLink (gg_c o) i z.2.1 ∈ gg_gw ∧ Cond.selects (gg_c z.1) z.2.1 (gg_nm y) ∈ gg_gw := by
  unfold gy_li at h
  cases hf : gy_lis.find? (fun e => e.1 == o && e.2.1 == i) with
  | none => rw [hf] at h; cases h
  | some e =>
    rw [hf] at h
    obtain ⟨o', i', y', pos⟩ := e
    have h1 := List.find?_some hf
    simp only [Bool.and_eq_true, beq_iff_eq] at h1
    obtain ⟨rfl, rfl⟩ := h1
    cases h
    have h2 := List.all_eq_true.mp gy_ckli_all _ (List.mem_of_find?_eq_some hf)
    obtain ⟨z, hz, h3⟩ := List.any_eq_true.mp h2
    simp only [Bool.and_eq_true, decide_eq_true_eq] at h3
    obtain ⟨⟨⟨a1, a2, a3, a4, a5, a6, a7, a8, a9⟩, b⟩, c⟩ := h3
    exact ⟨z, hz, a1, a2, ⟨a3, a4, a5⟩, a6, a7, ⟨a8, a9⟩, gg_at_in b, gg_at_in c⟩
/-- no link names those by the class -/
theorem gy_nos_all : gg_lms.all (fun e => decide (e.2.2.1 ≠ 389 ∧ e.2.2.1 ≠ 392 ∧ e.2.2.1 ≠ 393 ∧ e.2.2.1 ≠ 398)) = true := by decide +kernel
theorem gy_lm_nos {o i y ns : Nat} (h : gg_lm o i = some (y, ns)) : y ≠ 389 ∧ y ≠ 392 ∧ y ≠ 393 ∧ y ≠ 398 := by
  unfold gg_lm at h
  cases hf : gg_lms.find? (fun e => e.1 == o && e.2.1 == i) with
  | none => rw [hf] at h; cases h
  | some e =>
    rw [hf] at h
    cases h
    exact of_decide_eq_true (List.all_eq_true.mp gy_nos_all _ (List.mem_of_find?_eq_some hf))
