/-! the machine follows the interpreter: behind a call -/
def gg_hh (k : Nat) : List (Nat × Nat × Nat × Nat) := (gg_hd k).map fun h => (h.1, h.2.1, h.2.2.1, h.2.2.2.2)
/-- handlers name one of the two exceptions, by their place in the pool -/
def gg_ckh (e : Nat × List (Nat × Nat × Nat × Nat × Nat)) : Bool := e.2.all fun h => (h.2.2.2.1 == 0 && h.2.2.2.2 == 244) || (h.2.2.2.1 == 1 && h.2.2.2.2 == 242)
theorem gg_ckh_all : gg_hds.all gg_ckh = true := by decide +kernel
theorem gg_hd_in {k : Nat} (h : gg_hd k ≠ []) : ∃ e ∈ gg_hds, e.1 = k ∧ gg_hd k = e.2 := by
  unfold gg_hd at h ⊢
  cases hf : gg_hds.find? (fun e => e.1 == k) with
  | none => rw [hf] at h; exact absurd rfl h
  | some e =>
    have h1 := List.find?_some hf
    simp only [beq_iff_eq] at h1
    exact ⟨e, List.mem_of_find?_eq_some hf, h1, rfl⟩
theorem gg_hd_all : gg_hds.all (fun e => decide ((gg_mt e.1).1 = 8)) = true := by decide +kernel
theorem gg_hd_cls {k : Nat} (h : gg_hd k ≠ []) : (gg_mt k).1 = 8 := by
  obtain ⟨e, he, rfl, -⟩ := gg_hd_in h
  exact of_decide_eq_true (List.all_eq_true.mp gg_hd_all e he)
theorem gg_hd_ok {k : Nat} : ∀ h ∈ gg_hd k, (h.2.2.2.1 = 0 ∧ h.2.2.2.2 = 244) ∨ (h.2.2.2.1 = 1 ∧ h.2.2.2.2 = 242) := by
  intro h hh
  by_cases hk : gg_hd k = []
  · rw [hk] at hh; cases hh
  · obtain ⟨e, he, -, h2⟩ := gg_hd_in hk
    have h3 := List.all_eq_true.mp gg_ckh_all e he
    rw [h2] at hh
    have h4 := List.all_eq_true.mp h3 h hh
    simpa using h4
theorem gw_x244 : Cond.classLink (gg_c 8) 244 "java/lang/IllegalArgumentException" ∈ gg_gw := gg_lc_ok (o := 8) (i := 244) (c := 100) (by decide +kernel)
theorem gw_x242 : Cond.classLink (gg_c 8) 242 "java/lang/IndexOutOfBoundsException" ∈ gg_gw := gg_lc_ok (o := 8) (i := 242) (c := 101) (by decide +kernel)
section GS7
variable {l : Launch} {S0 b Lx : Nat} {xs : Nat → Int32} {D : va_G} {cA : Nat → ClassId} {ad : Nat → Int → Nat} {opq : Value} {p : Program} {e : Env} {R : Room} {s : State} {m : MethodId} {args : Array Value} {below : List Frame} {meth : Method} {c : Code} {Q : State → Prop} {k d nL cb sb : Nat} {o : gy_O} {f : Nat}
variable {pc n : Nat} {L st : List gg_V} {w w' : gy_W} {H H' : Heap} {locs : List Loc} {cells slots : Nat} {ls : Array Slot}
/-- the way of a thrown exception to its handler -/
theorem gy_catch (CX : gy_CX l S0 b Lx xs D cA ad opq p R s m args meth c k d nL cb sb o) (hk8 : (gg_mt k).1 = 8) {E : String} {t : Nat} (hx : gg_xn E t) {hh : Nat} {ce : Cell} {q : Addr} (hcell : H[q]? = some ce) (hv : ce.vm = .none) (hcl : s.vm.findClass E = some ce.cls) {rest : List Value}
    (kk : W p l e R s m args below meth c H locs cells slots Q (F0 m hh ls [.ref q])) :
    ∀ (hs : List (Nat × Nat × Nat × Nat × Nat)) (pre : List (Nat × Nat × Nat × Nat × Nat)), (∀ h ∈ pre ++ hs, (h.2.2.2.1 = 0 ∧ h.2.2.2.2 = 244) ∨ (h.2.2.2.1 = 1 ∧ h.2.2.2.2 = 242)) →
      (∀ z ∈ pre.map (fun h => (ExceptionTableEntry.mk h.1 h.2.1 h.2.2.1 h.2.2.2.2)), covers z pc = false ∨ (z.catchType ≠ 0 ∧ ∃ nm : String, (Cond.classLink (gg_c 8) z.catchType nm).before args s = true ∧ va_Nc E nm s)) →
      c.exceptionTable.toList = (pre ++ hs).map (fun h => (ExceptionTableEntry.mk h.1 h.2.1 h.2.2.1 h.2.2.2.2)) → gg_hdl hs pc t = some hh → vx_W p l e R s m args below meth c H locs cells slots Q (F0 m pc ls rest) q := by
  obtain ⟨⟨hxx, hb, hml, hown, hts⟩, hE, hR, hin, hfl, hS0⟩ := id CX
  rw [hk8] at hown
  intro hs
  induction hs with
  | nil => intro pre _ _ _ h; cases h
  | cons h r ih =>
    intro pre hok hpass htab hhd
    have hN := hE.2.2.2.2.2.2.2.2.2.1
    have hh1 := hok h (List.mem_append_right _ List.mem_cons_self)
    have next : (covers (ExceptionTableEntry.mk h.1 h.2.1 h.2.2.1 h.2.2.2.2) pc = false ∨ ((ExceptionTableEntry.mk h.1 h.2.1 h.2.2.1 h.2.2.2.2).catchType ≠ 0 ∧ ∃ nm : String, (Cond.classLink (gg_c 8) (ExceptionTableEntry.mk h.1 h.2.1 h.2.2.1 h.2.2.2.2).catchType nm).before args s = true ∧ va_Nc E nm s)) → gg_hdl r pc t = some hh → vx_W p l e R s m args below meth c H locs cells slots Q (F0 m pc ls rest) q := by
      intro hp hr
      refine ih (pre ++ [h]) (by simpa using hok) (fun z hz => ?_) (by simpa using htab) hr
      rw [List.map_append] at hz
      rcases List.mem_append.mp hz with hz | hz
      · exact hpass z hz
      · rw [List.map_singleton, List.mem_singleton] at hz
        subst hz
        exact hp
    unfold gg_hdl at hhd
    split at hhd
    · rename_i hcov
      split at hhd
      · rename_i hE2
        cases hhd
        have hcv : covers (ExceptionTableEntry.mk h.1 h.2.1 h.2.2.1 h.2.2.2.2) pc = true := by simp [covers, hcov.1, hcov.2]
        rw [List.map_append, List.map_cons] at htab
        rcases hx with ⟨rfl, rfl⟩ | ⟨rfl, rfl⟩
        · have h244 : h.2.2.2.2 = 244 := by omega
          exact vx_catch hown _ _ _ htab hpass hcv (by show h.2.2.2.2 ≠ 0; omega) (name := "java/lang/IllegalArgumentException") (by show (Cond.classLink _ h.2.2.2.2 _).before args s = true; rw [h244]; exact hts _ gw_x244) (va_Nw.use rfl (hN.2.1 ("java/lang/IllegalArgumentException", "java/lang/IllegalArgumentException") (by decide +kernel))) hcell hv hcl kk
        · have h242 : h.2.2.2.2 = 242 := by omega
          exact vx_catch hown _ _ _ htab hpass hcv (by show h.2.2.2.2 ≠ 0; omega) (name := "java/lang/IndexOutOfBoundsException") (by show (Cond.classLink _ h.2.2.2.2 _).before args s = true; rw [h242]; exact hts _ gw_x242) (va_Nw.use rfl (hN.2.1 ("java/lang/IndexOutOfBoundsException", "java/lang/IndexOutOfBoundsException") (by decide +kernel))) hcell hv hcl kk
      · rename_i hE2
        refine next (Or.inr ⟨by show h.2.2.2.2 ≠ 0; omega, ?_⟩) hhd
        rcases hx with ⟨rfl, rfl⟩ | ⟨rfl, rfl⟩
        · have h242 : h.2.2.2.2 = 242 := by omega
          exact ⟨_, by show (Cond.classLink _ h.2.2.2.2 _).before args s = true; rw [h242]; exact hts _ gw_x242, hN.2.2.2.1.1⟩
        · have h244 : h.2.2.2.2 = 244 := by omega
          exact ⟨_, by show (Cond.classLink _ h.2.2.2.2 _).before args s = true; rw [h244]; exact hts _ gw_x244, hN.2.2.2.1.2⟩
    · rename_i hcov
      refine next (Or.inl ?_) hhd
      simp only [covers]
      rw [Bool.and_eq_false_iff]
      by_cases h1 : h.1 ≤ pc
      · exact Or.inr (by simpa using fun z => hcov ⟨h1, z⟩)
      · exact Or.inl (by simpa using h1)
end GS7
