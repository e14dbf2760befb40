/-! what stays as it was at the start -/
def gg_text (adK adV : Nat → Nat) (A : Nat → Prop) (i : Nat) (U : State) (H : Heap) : Prop :=
  va_O "java/lang/String" (adK i) A U H ∧ va_OF "java/lang/String" "coder" "B" (.int 0) (adK i) A U H ∧ va_OF "java/lang/String" "value" "[B" (.ref (adV i)) (adK i) A U H ∧ va_T .byte (adV i) (gg_tx i).length (fun j => .int (gg_i ((gg_tx i).getD j 0))) A U H
/-- links across a nest: own class, place, method -/
def gg_nls : List (Nat × Nat × Nat) := (gg_lms.filter fun e => e.2.2.2.1 == 1).map fun e => (e.1, e.2.1, e.2.2.1)
def gg_xs : List String := ["java/lang/IllegalArgumentException", "java/lang/IndexOutOfBoundsException"]
def gg_dcl : List MethodName := [⟨"java/lang/RuntimeException", "<init>", "()V"⟩, ⟨"java/lang/Exception", "<init>", "()V"⟩, ⟨"java/lang/Throwable", "<init>", "()V"⟩]
/-- words that are kept otherwise than the rest -/
def gg_N (U : State) : Prop := (∀ e ∈ gg_nls, va_Nw (.methodLinkNest (gg_c e.1) e.2.1 (gg_nm e.2.2) "GainGraphs") U) ∧ (∀ C ∈ gg_xs, va_Nw (.castable C C) U) ∧ (∀ x ∈ gg_dcl, va_Nw (.declares x) U) ∧ (va_Nc "java/lang/IllegalArgumentException" "java/lang/IndexOutOfBoundsException" U ∧ va_Nc "java/lang/IndexOutOfBoundsException" "java/lang/IllegalArgumentException" U) ∧ va_AO RX0 U ∧ va_AO RX2 U
theorem gg_N.same {u U : State} (hv : U.vm = u.vm) (h : gg_N u) : gg_N U :=
  ⟨fun e he => va_Nw.same rfl hv.symm (h.1 e he), fun e he => va_Nw.same rfl hv.symm (h.2.1 e he), fun e he => va_Nw.same rfl hv.symm (h.2.2.1 e he), ⟨va_Nc.moved (by rw [hv]; exact Vm.Alike.refl _) h.2.2.2.1.1, va_Nc.moved (by rw [hv]; exact Vm.Alike.refl _) h.2.2.2.1.2⟩, va_AO.moved (by rw [hv]; exact Vm.Alike.refl _) h.2.2.2.2.1, va_AO.moved (by rw [hv]; exact Vm.Alike.refl _) h.2.2.2.2.2⟩
theorem gg_N.warm {u U : State} (hW : u.WarmedH U.vm) (h : gg_N u) : gg_N U :=
  ⟨fun e he => va_Nw.warmM hW (h.1 e he), fun e he => va_Nw.warmC hW (h.2.1 e he), fun e he => va_Nw.warmD hW (h.2.2.1 e he), ⟨va_Nc.moved hW.alike h.2.2.2.1.1, va_Nc.moved hW.alike h.2.2.2.1.2⟩, va_AO.moved hW.alike h.2.2.2.2.1, va_AO.moved hW.alike h.2.2.2.2.2⟩
def gg_E (S0 b Lx : Nat) (xs : Nat → Int32) (D : va_G) (cA : Nat → ClassId) (adK adV : Nat → Nat) (opq : Value) (U : State) (H : Heap) : Prop :=
  va_K D gg_cl (gg_ty cA) U ∧ (vx_Zq Bundle.tN "UNASSIGNED_STACK" Bundle.steD (gg_A S0) U H ∧ vx_Zq Bundle.tN "SUPPRESSED_SENTINEL" Bundle.listD (gg_A S0) U H) ∧ va_X b Lx xs U H ∧ b < S0 ∧
  va_Z "java/lang/String" "COMPACT_STRINGS" "Z" (.int 1) (gg_A S0) U H ∧ va_Z "jdk/internal/util/Preconditions" "SIOOBE_FORMATTER" "Ljava/util/function/BiFunction;" opq (gg_A S0) U H ∧ opq.category = 1 ∧
  (∀ i, i < 3 → gg_text adK adV (gg_A S0) i U H) ∧ (∀ e ∈ gg_lss, vk_R (gg_c e.1) e.2.1 (gg_str e.2.2.1) (adK e.2.2.1) U) ∧ gg_N U ∧ (opq = .null ∨ ∃ t : Nat, opq = .ref t)
section GGE
variable {S0 b Lx : Nat} {xs : Nat → Int32} {D : va_G} {cA : Nat → ClassId} {adK adV : Nat → Nat} {opq : Value}
theorem gg_text.moved {A : Nat → Prop} {i : Nat} {u U : State} {H : Heap} (hvm : u.vm.Alike U.vm) (h : gg_text adK adV A i u H) : gg_text adK adV A i U H :=
  ⟨va_O.moved hvm h.1, va_OF.moved hvm h.2.1, va_OF.moved hvm h.2.2.1, va_T.moved hvm h.2.2.2⟩
theorem gg_text.kept {A : Nat → Prop} {i : Nat} {U : State} {H H1 : Heap} (h : gg_text adK adV A i U H) (hq : ∀ a : Nat, a < H.size → ¬ A a → H1[a]? = H[a]?) : gg_text adK adV A i U H1 :=
  ⟨va_O.kept h.1 hq, va_OF.kept h.2.1 hq, va_OF.kept h.2.2.1 hq, va_T.kept h.2.2.2 hq⟩
theorem gg_E.kept {U : State} {H H1 : Heap} (h : gg_E S0 b Lx xs D cA adK adV opq U H) (hq : ∀ a : Nat, a < H.size → ¬ gg_A S0 a → H1[a]? = H[a]?) : gg_E S0 b Lx xs D cA adK adV opq U H1 := by
  obtain ⟨h1, ⟨h2, h3⟩, h4, h5, h6, h7, h8, h9, h10, h11⟩ := h
  obtain ⟨scr, hs1, hs2⟩ := id h4
  exact ⟨h1, ⟨vx_Zq.kept h2 hq, vx_Zq.kept h3 hq⟩, h4.kept (hq b (Array.getElem?_eq_some_iff.mp hs1).1 (Nat.not_le.mpr h5)), h5, va_Z.kept h6 hq, va_Z.kept h7 hq, h8, fun i hi => (h9 i hi).kept hq, h10, h11⟩
theorem gg_E.same {u U : State} {H : Heap} (hv : U.vm = u.vm) (h : gg_E S0 b Lx xs D cA adK adV opq u H) : gg_E S0 b Lx xs D cA adK adV opq U H := by
  obtain ⟨h1, ⟨h2, h3⟩, h4, h5, h6, h7, h8, h9, h10, h11⟩ := h
  have hvm : u.vm.Alike U.vm := by rw [hv]; exact Vm.Alike.refl _
  exact ⟨va_K.moved hvm h1, ⟨vx_Zq.moved hvm h2, vx_Zq.moved hvm h3⟩, va_X.moved hvm h4, h5, va_Z.moved hvm h6, va_Z.moved hvm h7, h8, fun i hi => (h9 i hi).moved hvm, fun e he => vk_R.same hv (h10 e he), gg_N.same hv h11.1, h11.2⟩
theorem gg_E.warm {u U : State} {H : Heap} (hW : u.WarmedH U.vm) (h : gg_E S0 b Lx xs D cA adK adV opq u H) : gg_E S0 b Lx xs D cA adK adV opq U H := by
  obtain ⟨h1, ⟨h2, h3⟩, h4, h5, h6, h7, h8, h9, h10, h11⟩ := h
  have hvm : u.vm.Alike U.vm := hW.alike
  exact ⟨va_K.moved hvm h1, ⟨vx_Zq.moved hvm h2, vx_Zq.moved hvm h3⟩, va_X.moved hvm h4, h5, va_Z.moved hvm h6, va_Z.moved hvm h7, h8, fun i hi => (h9 i hi).moved hvm, fun e he => vk_R.warm hW (h10 e he), gg_N.warm hW h11.1, h11.2⟩
end GGE
/-- the interpreter's world in a heap -/
def gg_H (S0 b Lx : Nat) (xs : Nat → Int32) (D : va_G) (cA : Nat → ClassId) (adK adV : Nat → Nat) (opq : Value) (w : gg_W) (H : Heap) : Prop :=
  va_P D gg_cl (gg_ws S0 b adK adV opq cA w) H ∧ 1 ≤ w.2.2.1 ∧ S0 ≤ H.size ∧ (w.2.2.1 ≤ w.2.2.2.1 + 1 ∧ (w.2.2.2.1 + 1 = w.2.2.1 → H.size = S0 + w.2.2.2.1)) ∧ (Lx = Lx ∧ xs = xs)
theorem gv_cat {S0 b : Nat} {adK adV : Nat → Nat} {opq : Value} (ho : opq.category = 1) (v : gg_V) : (gv S0 b adK adV opq v).category = gg_cat v := by
  obtain ⟨t, x⟩ := v
  have hr : ∀ x, (gg_rf S0 b x).category = 1 := by
    intro x
    match x with
    | .ofNat 0 => rfl
    | .ofNat (n + 1) => rfl
    | .negSucc _ => rfl
  match t with
  | 0 => rfl
  | 1 => rfl
  | 2 => exact hr x
  | 3 => exact ho
  | 4 => rfl
  | 5 => exact ho
  | 6 => exact ho
  | 7 => exact ho
  | 8 => rfl
  | n + 9 => exact ho
theorem gv_cat2 {S0 b : Nat} {adK adV : Nat → Nat} {opq : Value} (ho : opq.category = 1) (v : gg_V) (_ : v.1 ≠ 3) : (gv S0 b adK adV opq v).category = 2 ↔ v.1 = 1 := by
  rw [gv_cat ho]
  unfold gg_cat
  split <;> simp [*]
theorem gv_cats {S0 b : Nat} {adK adV : Nat → Nat} {opq : Value} (ho : opq.category = 1) (st : List gg_V) : ((st.map (gv S0 b adK adV opq)).map fun v => v.category).sum = (st.map gg_cat).sum := by
  rw [List.map_map]
  congr 1
  apply List.map_congr_left
  intro v _
  exact gv_cat ho v
