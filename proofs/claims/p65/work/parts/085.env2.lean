/-! what stays as it was at the start -/
def gg_text (ad : Nat → Int → Nat) (A : Nat → Prop) (i : Nat) (U : State) (H : Heap) : Prop :=
  va_O "java/lang/String" (ad 4 i) A U H ∧ va_OF "java/lang/String" "coder" "B" (.int 0) (ad 4 i) A U H ∧ va_OF "java/lang/String" "value" "[B" (.ref (ad 8 i)) (ad 4 i) A U H ∧ va_T .byte (ad 8 i) (gg_tx i).length (fun j => .int (gg_i ((gg_tx i).getD j 0))) A U H
/-- links across a nest: own class, place, method, which nest -/
def gg_nls : List (Nat × Nat × Nat × Nat) := (gg_lms.filter fun e => decide (e.2.2.2.1 ≠ 0)).map fun e => (e.1, e.2.1, e.2.2.1, e.2.2.2.1)
def gy_host (ns : Nat) : String := if ns = 1 then "GainGraphs" else "GainGraphsLaw"
def gg_xs : List (String × String) := [("java/lang/IllegalArgumentException", "java/lang/IllegalArgumentException"), ("java/lang/IndexOutOfBoundsException", "java/lang/IndexOutOfBoundsException"), ("[B", "java/lang/Cloneable"), ("[I", "java/lang/Cloneable"), ("GainGraphsLaw$Arc", "java/lang/Object"), ("GainGraphsLaw$Graph", "java/lang/Object"), ("java/lang/Integer", "java/lang/Object")]
def gg_dcl : List MethodName := [⟨"java/lang/RuntimeException", "<init>", "()V"⟩, ⟨"java/lang/Exception", "<init>", "()V"⟩, ⟨"java/lang/Throwable", "<init>", "()V"⟩]
def gy_aos : List String := ["GainGraphs$Graph", "GainGraphs$Parts", "GainGraphsLaw$Graph", "java/lang/Object"]
/-- the methods of interfaces: the receiver's class, what is named, what is meant -/
def gy_if : List (Nat × MethodName × Nat) := [(16, ⟨"java/util/Iterator", "hasNext", "()Z"⟩, 392), (16, ⟨"java/util/Iterator", "next", "()Ljava/lang/Object;"⟩, 393), (15, ⟨"java/util/Collection", "toArray", "()[Ljava/lang/Object;"⟩, 389)]
/-- words that are kept otherwise than the rest -/
def gy_N (ad : Nat → Int → Nat) (U : State) : Prop := ((∀ e ∈ gg_nls, va_Nw (.methodLinkNest (gg_c e.1) e.2.1 (gg_nm e.2.2.1) (gy_host e.2.2.2)) U) ∧ va_Nw (.fieldLinkNest "java/util/ArrayList$Itr" 28 "java/util/ArrayList" "size" "I" "java/util/ArrayList") U) ∧ (∀ C ∈ gg_xs, va_Nw (.castable C.1 C.2) U) ∧ (∀ x ∈ gg_dcl, va_Nw (.declares x) U) ∧ (va_Nc "java/lang/IllegalArgumentException" "java/lang/IndexOutOfBoundsException" U ∧ va_Nc "java/lang/IndexOutOfBoundsException" "java/lang/IllegalArgumentException" U) ∧ (∀ C ∈ gy_aos, va_AO C U) ∧
  (Cond.arrayOver (.array .int)).before #[] U = true ∧ va_Dc U ∧ va_Mi "[Ljava/lang/Object;" (ad 7 5) U ∧ (∀ e ∈ gy_if, va_Fw (gg_c e.1) e.2.1 (gg_nm e.2.2) U)
theorem gy_N.moved {ad : Nat → Int → Nat} {u U : State} (hW : u.vm.Alike U.vm) (h1 : ∀ e ∈ gg_nls, va_Nw (.methodLinkNest (gg_c e.1) e.2.1 (gg_nm e.2.2.1) (gy_host e.2.2.2)) U) (h2 : va_Nw (.fieldLinkNest "java/util/ArrayList$Itr" 28 "java/util/ArrayList" "size" "I" "java/util/ArrayList") U) (h3 : ∀ C ∈ gg_xs, va_Nw (.castable C.1 C.2) U) (h4 : ∀ x ∈ gg_dcl, va_Nw (.declares x) U) (h : gy_N ad u) : gy_N ad U := by
  refine ⟨⟨h1, h2⟩, h3, h4, ⟨va_Nc.moved hW h.2.2.2.1.1, va_Nc.moved hW h.2.2.2.1.2⟩, fun C hC => va_AO.moved hW (h.2.2.2.2.1 C hC), ?_, va_Dc.moved hW h.2.2.2.2.2.2.1, va_Mi.moved hW h.2.2.2.2.2.2.2.1, fun e he => va_Fw.moved ?_ hW (h.2.2.2.2.2.2.2.2 e he)⟩
  · have h5 := h.2.2.2.2.2.1
    rw [← Cond.arrayOver_setVmC hW] at h5
    exact h5
  · simp only [gy_if, List.mem_cons, List.not_mem_nil, or_false] at he
    rcases he with rfl | rfl | rfl <;> exact ⟨by decide, by decide⟩
theorem gy_N.same {ad : Nat → Int → Nat} {u U : State} (hv : U.vm = u.vm) (h : gy_N ad u) : gy_N ad U :=
  gy_N.moved (by rw [hv]; exact Vm.Alike.refl _) (fun e he => va_Nw.same rfl hv.symm (h.1.1 e he)) (va_Nw.same rfl hv.symm h.1.2) (fun e he => va_Nw.same rfl hv.symm (h.2.1 e he)) (fun e he => va_Nw.same rfl hv.symm (h.2.2.1 e he)) h
theorem gy_N.warm {ad : Nat → Int → Nat} {u U : State} (hW : u.WarmedH U.vm) (h : gy_N ad u) : gy_N ad U :=
  gy_N.moved hW.alike (fun e he => va_Nw.warmM hW (h.1.1 e he)) (va_Nw.warmF hW h.1.2) (fun e he => va_Nw.warmC hW (h.2.1 e he)) (fun e he => va_Nw.warmD hW (h.2.2.1 e he)) h
/-- the statics of the library that are read -/
def gy_F (ad : Nat → Int → Nat) (A : Nat → Prop) (U : State) (H : Heap) : Prop :=
  (va_Z "java/util/ArrayList" "DEFAULTCAPACITY_EMPTY_ELEMENTDATA" "[Ljava/lang/Object;" (.ref (ad 7 1)) A U H ∧ va_T (.object "java/lang/Object") (ad 7 1) 0 (fun _ => .null) A U H) ∧
  (va_Z "java/lang/Integer" "DigitOnes" "[B" (.ref (ad 7 2)) A U H ∧ va_T .byte (ad 7 2) 100 (fun j => .int (gg_i (gy_dg 2 j))) A U H) ∧
  (va_Z "java/lang/Integer" "DigitTens" "[B" (.ref (ad 7 3)) A U H ∧ va_T .byte (ad 7 3) 100 (fun j => .int (gg_i (gy_dg 3 j))) A U H) ∧
  va_Z "java/lang/Integer$IntegerCache" "high" "I" (.int 127) A U H ∧
  (va_Z "java/lang/Integer$IntegerCache" "cache" "[Ljava/lang/Integer;" (.ref (ad 7 4)) A U H ∧ va_T (.object "java/lang/Integer") (ad 7 4) 256 (fun j => .ref (ad 6 ((j : Int) - 128))) A U H ∧ vb_C (fun k => ad 6 ((k : Int) - 128)) A U H)
theorem gy_F.moved {ad : Nat → Int → Nat} {A : Nat → Prop} {u U : State} {H : Heap} (hvm : u.vm.Alike U.vm) (h : gy_F ad A u H) : gy_F ad A U H := by
  obtain ⟨⟨a1, a2⟩, ⟨b1, b2⟩, ⟨c1, c2⟩, d1, ⟨e1, e2, e3⟩⟩ := h
  exact ⟨⟨va_Z.moved hvm a1, va_T.moved hvm a2⟩, ⟨va_Z.moved hvm b1, va_T.moved hvm b2⟩, ⟨va_Z.moved hvm c1, va_T.moved hvm c2⟩, va_Z.moved hvm d1, ⟨va_Z.moved hvm e1, va_T.moved hvm e2, vb_C.moved hvm e3⟩⟩
theorem gy_F.kept {ad : Nat → Int → Nat} {A : Nat → Prop} {U : State} {H H1 : Heap} (h : gy_F ad A U H) (hq : ∀ a : Nat, a < H.size → ¬ A a → H1[a]? = H[a]?) : gy_F ad A U H1 := by
  obtain ⟨⟨a1, a2⟩, ⟨b1, b2⟩, ⟨c1, c2⟩, d1, ⟨e1, e2, e3⟩⟩ := h
  exact ⟨⟨va_Z.kept a1 hq, va_T.kept a2 hq⟩, ⟨va_Z.kept b1 hq, va_T.kept b2 hq⟩, ⟨va_Z.kept c1 hq, va_T.kept c2 hq⟩, va_Z.kept d1 hq, ⟨va_Z.kept e1 hq, va_T.kept e2 hq, vb_C.kept e3 hq⟩⟩
def gy_E (S0 b Lx : Nat) (xs : Nat → Int32) (D : va_G) (cA : Nat → ClassId) (ad : Nat → Int → Nat) (opq : Value) (U : State) (H : Heap) : Prop :=
  va_K D gg_cl (gg_ty cA) U ∧ (vx_Zq Bundle.tN "UNASSIGNED_STACK" Bundle.steD (gg_A S0) U H ∧ vx_Zq Bundle.tN "SUPPRESSED_SENTINEL" Bundle.listD (gg_A S0) U H) ∧ va_X b Lx xs U H ∧ b < S0 ∧
  va_Z "java/lang/String" "COMPACT_STRINGS" "Z" (.int 1) (gg_A S0) U H ∧ va_Z "jdk/internal/util/Preconditions" "SIOOBE_FORMATTER" "Ljava/util/function/BiFunction;" opq (gg_A S0) U H ∧ opq.category = 1 ∧
  (∀ i : Nat, i < 7 → gg_text ad (gg_A S0) i U H) ∧ (∀ e ∈ gg_lss, vk_R (gg_c e.1) e.2.1 (gg_str e.2.2.1) (ad 4 e.2.2.1) U) ∧ gy_N ad U ∧ (opq = .null ∨ ∃ t : Nat, opq = .ref t) ∧ gy_F ad (gg_A S0) U H
section GGE
variable {S0 b Lx : Nat} {xs : Nat → Int32} {D : va_G} {cA : Nat → ClassId} {ad : Nat → Int → Nat} {opq : Value}
theorem gg_text.moved {A : Nat → Prop} {i : Nat} {u U : State} {H : Heap} (hvm : u.vm.Alike U.vm) (h : gg_text ad A i u H) : gg_text ad A i U H :=
  ⟨va_O.moved hvm h.1, va_OF.moved hvm h.2.1, va_OF.moved hvm h.2.2.1, va_T.moved hvm h.2.2.2⟩
theorem gg_text.kept {A : Nat → Prop} {i : Nat} {U : State} {H H1 : Heap} (h : gg_text ad A i U H) (hq : ∀ a : Nat, a < H.size → ¬ A a → H1[a]? = H[a]?) : gg_text ad A i U H1 :=
  ⟨va_O.kept h.1 hq, va_OF.kept h.2.1 hq, va_OF.kept h.2.2.1 hq, va_T.kept h.2.2.2 hq⟩
theorem gy_E.kept {U : State} {H H1 : Heap} (h : gy_E S0 b Lx xs D cA ad opq U H) (hq : ∀ a : Nat, a < H.size → ¬ gg_A S0 a → H1[a]? = H[a]?) : gy_E S0 b Lx xs D cA ad opq U H1 := by
  obtain ⟨h1, ⟨h2, h3⟩, h4, h5, h6, h7, h8, h9, h10, h11, h12, h13⟩ := h
  obtain ⟨scr, hs1, hs2⟩ := id h4
  exact ⟨h1, ⟨vx_Zq.kept h2 hq, vx_Zq.kept h3 hq⟩, h4.kept (hq b (Array.getElem?_eq_some_iff.mp hs1).1 (Nat.not_le.mpr h5)), h5, va_Z.kept h6 hq, va_Z.kept h7 hq, h8, fun i hi => (h9 i hi).kept hq, h10, h11, h12, h13.kept hq⟩
theorem gy_E.same {u U : State} {H : Heap} (hv : U.vm = u.vm) (h : gy_E S0 b Lx xs D cA ad opq u H) : gy_E S0 b Lx xs D cA ad opq U H := by
  obtain ⟨h1, ⟨h2, h3⟩, h4, h5, h6, h7, h8, h9, h10, h11, h12, h13⟩ := h
  have hvm : u.vm.Alike U.vm := by rw [hv]; exact Vm.Alike.refl _
  exact ⟨va_K.moved hvm h1, ⟨vx_Zq.moved hvm h2, vx_Zq.moved hvm h3⟩, va_X.moved hvm h4, h5, va_Z.moved hvm h6, va_Z.moved hvm h7, h8, fun i hi => (h9 i hi).moved hvm, fun e he => vk_R.same hv (h10 e he), gy_N.same hv h11, h12, h13.moved hvm⟩
theorem gy_E.warm {u U : State} {H : Heap} (hW : u.WarmedH U.vm) (h : gy_E S0 b Lx xs D cA ad opq u H) : gy_E S0 b Lx xs D cA ad opq U H := by
  obtain ⟨h1, ⟨h2, h3⟩, h4, h5, h6, h7, h8, h9, h10, h11, h12, h13⟩ := h
  have hvm : u.vm.Alike U.vm := hW.alike
  exact ⟨va_K.moved hvm h1, ⟨vx_Zq.moved hvm h2, vx_Zq.moved hvm h3⟩, va_X.moved hvm h4, h5, va_Z.moved hvm h6, va_Z.moved hvm h7, h8, fun i hi => (h9 i hi).moved hvm, fun e he => vk_R.warm hW (h10 e he), gy_N.warm hW h11, h12, h13.moved hvm⟩
end GGE
