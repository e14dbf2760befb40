theorem gg_ckm_ok {y : Nat} (hy : y < 344) (hn : y ≠ 287) : gg_ckm y = true := by
  have key : ∀ a n, gg_ckr a n = true → a ≤ y → y < a + n → gg_ckm y = true := by
    intro a n h h1 h2
    have h3 := List.all_eq_true.mp h (y - a) (List.mem_range.mpr (by omega))
    rw [Bool.or_eq_true, decide_eq_true_eq, show a + (y - a) = y by omega] at h3
    exact h3.resolve_left hn
  by_cases c1 : y < 43
  · exact key _ _ gg_ckm_0 (by omega) (by omega)
  by_cases c2 : y < 86
  · exact key _ _ gg_ckm_43 (by omega) (by omega)
  by_cases c3 : y < 129
  · exact key _ _ gg_ckm_86 (by omega) (by omega)
  by_cases c4 : y < 172
  · exact key _ _ gg_ckm_129 (by omega) (by omega)
  by_cases c5 : y < 215
  · exact key _ _ gg_ckm_172 (by omega) (by omega)
  by_cases c6 : y < 258
  · exact key _ _ gg_ckm_215 (by omega) (by omega)
  by_cases c7 : y < 301
  · exact key _ _ gg_ckm_258 (by omega) (by omega)
  · exact key _ _ gg_ckm_301 (by omega) (by omega)
/-- what holds of a method of ours, by its number -/
def gg_mf (y c kd ml : Nat) (tg : List Nat) (rk : Nat) : Prop :=
  gg_wd y ∈ gg_gw ∧ (gg_nm y).cls = gg_c c ∧ plainName (gg_nm y).cls = true ∧ ((gg_nm y).cls ≠ "java/lang/invoke/MethodHandle" ∧ (gg_nm y).cls ≠ "java/lang/invoke/VarHandle") ∧ Cond.initialized (gg_nm y).cls ∈ gg_gw ∧ gg_rok rk (gg_rt y) = true ∧ ml ≤ 30 ∧
  (parseMethodDescriptor (gg_nm y).desc).map (fun d => d.parameters.length) = some (if kd = 1 then tg.length else tg.length - 1) ∧ (kd = 1 → Cond.static (gg_nm y) ∈ gg_gw) ∧ (kd ≠ 1 → Cond.instanceMethod (gg_nm y) ∈ gg_gw ∧ 1 ≤ tg.length) ∧ (kd = 0 → Cond.selects (gg_nm y).cls (gg_nm y) (gg_nm y) ∈ gg_gw) ∧ (kd = 2 → (gg_nm y).name = "<init>" ∧ rk = 0) ∧ kd ≤ 2 ∧ (kd = 1 ∨ gg_hd y = [])
theorem gg_mfacts {y c kd ml : Nat} {tg : List Nat} {rk : Nat} (hy : y < 344) (hn : y ≠ 287) (hm : gg_mt y = (c, kd, ml, tg, rk)) : gg_mf y c kd ml tg rk := by
  have h := gg_ckm_ok hy hn
  unfold gg_ckm at h
  rw [hm] at h
  simp only [Bool.and_eq_true, decide_eq_true_eq] at h
  obtain ⟨⟨⟨⟨⟨⟨⟨⟨⟨⟨⟨⟨a1, a2⟩, a3⟩, a4⟩, a5⟩, a6⟩, a7⟩, a8⟩, a9⟩, a10⟩, a11⟩, a12⟩, a13⟩ := h
  refine ⟨gg_at_in a1, a2, by rw [a2]; exact a3, by rw [a2]; exact a4, by rw [a2]; exact gg_at_in a5, a6, a7, a8, fun e => ?_, fun e => ?_, fun e => ?_, fun e => ?_, a12, a13⟩
  · rw [if_pos e] at a9
    exact gg_at_in a9
  · rw [if_neg e, Bool.and_eq_true, decide_eq_true_eq] at a9
    exact ⟨gg_at_in a9.1, a9.2⟩
  · rw [if_pos e] at a10
    rw [a2]
    exact gg_at_in a10
  · rw [if_pos e, decide_eq_true_eq] at a11
    exact a11
def gg_ckl (e : Nat × Nat × Nat × Nat × Nat) : Bool := match e with
  | (o, i, y, ns, pos) => if y = 1000 then gg_at pos (.methodLink (gg_c o) i Lib.Math.min.name) else if y = 1001 then gg_at pos (.methodLink (gg_c o) i Lib.Math.max.name) else if y = 1002 then gg_at pos (.methodLink (gg_c o) i arraycopyName) else if y = 1003 then gg_at pos (.methodLink (gg_c o) i Lib.objectInit) else
    decide (y < 344 ∧ y ≠ 287) && (if ns = 0 then gg_at pos (.methodLink (gg_c o) i (gg_nm y)) else decide (ns = 1 ∧ (gg_mt y).2.1 = 2))
set_option maxRecDepth 100000 in
theorem gg_ckl_all : gg_lms.all gg_ckl = true := by decide +kernel
theorem gg_lm_ok {o i y ns : Nat} (h : gg_lm o i = some (y, ns)) : (y = 1000 → Cond.methodLink (gg_c o) i Lib.Math.min.name ∈ gg_gw) ∧ (y = 1001 → Cond.methodLink (gg_c o) i Lib.Math.max.name ∈ gg_gw) ∧ (y = 1002 → Cond.methodLink (gg_c o) i arraycopyName ∈ gg_gw) ∧ (y = 1003 → Cond.methodLink (gg_c o) i Lib.objectInit ∈ gg_gw) ∧
    (y ≠ 1000 → y ≠ 1001 → y ≠ 1002 → y ≠ 1003 → (y < 344 ∧ y ≠ 287) ∧ (if ns = 0 then Cond.methodLink (gg_c o) i (gg_nm y) ∈ gg_gw else (o, i, y) ∈ gg_nls ∧ (gg_mt y).2.1 = 2)) := by
  unfold gg_lm at h
  cases hf : gg_lms.find? (fun e => e.1 == o && e.2.1 == i) with
  | none => rw [hf] at h; cases h
  | some e =>
    rw [hf] at h
    obtain ⟨o', i', y', ns', pos⟩ := e
    have h1 := List.find?_some hf
    simp only [Bool.and_eq_true, beq_iff_eq] at h1
    obtain ⟨rfl, rfl⟩ := h1
    simp only [Option.map_some, Option.some.injEq, Prod.mk.injEq] at h
    obtain ⟨rfl, rfl⟩ := h
    have h2 := List.all_eq_true.mp gg_ckl_all _ (List.mem_of_find?_eq_some hf)
    unfold gg_ckl at h2
    dsimp only at h2
    refine ⟨fun e => ?_, fun e => ?_, fun e => ?_, fun e => ?_, fun e1 e2 e3 e4 => ?_⟩
    · subst e; exact gg_at_in h2
    · subst e; exact gg_at_in h2
    · subst e; exact gg_at_in h2
    · subst e; exact gg_at_in h2
    · rw [if_neg e1, if_neg e2, if_neg e3, if_neg e4, Bool.and_eq_true, decide_eq_true_eq] at h2
      refine ⟨h2.1, ?_⟩
      by_cases hs : ns' = 0
      · rw [if_pos hs] at h2 ⊢
        exact gg_at_in h2.2
      · rw [if_neg hs, decide_eq_true_eq] at h2
        rw [if_neg hs]
        exact ⟨List.mem_map.mpr ⟨_, List.mem_filter.mpr ⟨List.mem_of_find?_eq_some hf, by simp [h2.2.1]⟩, rfl⟩, h2.2.2⟩
/-- a frame of a method of ours: the machine's side of it -/
def gg_CX (l : Launch) (S0 b Lx : Nat) (xs : Nat → Int32) (D : va_G) (cA : Nat → ClassId) (adK adV : Nat → Nat) (opq : Value) (p : Program) (R : Room) (s : State) (m : MethodId) (args : Array Value) (meth : Method) (c : Code) (k d nL cb sb : Nat) (o : gg_O) : Prop :=
  (p.tables.exec = Jvm.exec ∧ c.code = gg_bt k ∧ c.maxLocals = nL ∧ s.vm.findClass (gg_c (gg_mt k).1) = some m.cls ∧ ∀ w ∈ gg_gw, w.before args s = true) ∧ gg_E S0 b Lx xs D cA adK adV opq s s.heap ∧ (d + 20 ≤ R.frames ∧ 60 * d + 200 ≤ R.locals ∧ o.2.2.2.2.1 ≤ R.cells + cb ∧ o.2.2.2.2.2 ≤ R.slots + sb) ∧
  ((gg_mt k).2.1 = 2 → meth.name = "<init>") ∧ l.stackTraces = false ∧ S0 ≤ s.heap.size
/-- the locals, the world, what has been written and made so far -/
def gg_Rl (S0 b Lx : Nat) (xs : Nat → Int32) (D : va_G) (cA : Nat → ClassId) (adK adV : Nat → Nat) (opq : Value) (s : State) (nL cb sb : Nat) (L : List gg_V) (w : gg_W) (H : Heap) (locs : List Loc) (cells slots : Nat) (ls : Array Slot) : Prop :=
  L.length = nL ∧ lv_has ls nL (gg_lo (gv S0 b adK adV opq) 0 L) ∧ gg_H S0 b Lx xs D cA adK adV opq w H ∧ va_S (gg_A S0) s.heap H locs ∧ cells + cb = w.2.2.2.1 ∧ slots + sb = w.2.2.2.2
/-- from wherever the interpreter comes to the outcome o with so much fuel, the machine comes to Q -/
def gg_Wk (l : Launch) (S0 b Lx : Nat) (xs : Nat → Int32) (D : va_G) (cA : Nat → ClassId) (adK adV : Nat → Nat) (opq : Value) (p : Program) (e : Env) (R : Room) (s : State) (m : MethodId) (args : Array Value) (below : List Frame) (meth : Method) (c : Code) (Q : State → Prop) (k d nL cb sb : Nat) (o : gg_O) (f : Nat) : Prop :=
  ∀ (pc : Nat) (L st : List gg_V) (w : gg_W) (H : Heap) (locs : List Loc) (cells slots : Nat) (ls : Array Slot), gg_ex Lx xs f d k pc L st w = some o → gg_Rl S0 b Lx xs D cA adK adV opq s nL cb sb L w H locs cells slots ls →
    W p l e R s m args below meth c H locs cells slots Q (F0 m pc ls (st.map (gv S0 b adK adV opq)))
/-! what the interpreter's helpers say -/
theorem gq_ok {n m : Nat} {x : Option gg_O} {o : gg_O} (h : gg_q n m x = some o) : n = m ∧ x = some o := by
  unfold gg_q at h
  split at h
  · exact ⟨by assumption, h⟩
  · cases h
theorem gpI_ok {st : List gg_V} {f : Int → List gg_V → Option gg_O} {o : gg_O} (h : gg_pI st f = some o) : ∃ a r, st = (0, a) :: r ∧ f a r = some o := by
  unfold gg_pI at h
  split at h
  · exact ⟨_, _, rfl, h⟩
  · cases h
theorem gpL_ok {st : List gg_V} {f : Int → List gg_V → Option gg_O} {o : gg_O} (h : gg_pL st f = some o) : ∃ a r, st = (1, a) :: r ∧ f a r = some o := by
  unfold gg_pL at h
  split at h
  · exact ⟨_, _, rfl, h⟩
  · cases h
theorem gpR_ok {st : List gg_V} {f : Nat → List gg_V → Option gg_O} {o : gg_O} (h : gg_pR st f = some o) : ∃ a r, st = (2, Int.ofNat a) :: r ∧ f a r = some o := by
  unfold gg_pR at h
  split at h
  · exact ⟨_, _, rfl, h⟩
  · cases h
theorem gbI_ok {st : List gg_V} {g : Int → Int → Int} {f : List gg_V → Option gg_O} {o : gg_O} (h : gg_bI st g f = some o) : ∃ a b r, st = (0, b) :: (0, a) :: r ∧ f ((0, g a b) :: r) = some o := by
  obtain ⟨b, r, rfl, h2⟩ := gpI_ok h
  obtain ⟨a, r3, rfl, h3⟩ := gpI_ok h2
  exact ⟨a, b, r3, rfl, h3⟩
theorem gbL_ok {st : List gg_V} {g : Int → Int → Int} {f : List gg_V → Option gg_O} {o : gg_O} (h : gg_bL st g f = some o) : ∃ a b r, st = (1, b) :: (1, a) :: r ∧ f ((1, g a b) :: r) = some o := by
  obtain ⟨b, r, rfl, h2⟩ := gpL_ok h
  obtain ⟨a, r3, rfl, h3⟩ := gpL_ok h2
  exact ⟨a, b, r3, rfl, h3⟩
theorem gsL_ok {st : List gg_V} {g : Int → Int → Int} {f : List gg_V → Option gg_O} {o : gg_O} (h : gg_sL st g f = some o) : ∃ a b r, st = (0, b) :: (1, a) :: r ∧ f ((1, g a b) :: r) = some o := by
  obtain ⟨b, r, rfl, h2⟩ := gpI_ok h
  obtain ⟨a, r3, rfl, h3⟩ := gpL_ok h2
  exact ⟨a, b, r3, rfl, h3⟩
theorem guI_ok {st : List gg_V} {g : Int → Int} {f : List gg_V → Option gg_O} {o : gg_O} (h : gg_uI st g f = some o) : ∃ a r, st = (0, a) :: r ∧ f ((0, g a) :: r) = some o := gpI_ok h
theorem gld_ok {L : List gg_V} {t i : Nat} {f : Int → Option gg_O} {o : gg_O} (h : gg_ld L t i f = some o) : ∃ x, L[i]? = some (t, x) ∧ f x = some o := by
  unfold gg_ld at h
  split at h
  · rename_i v hv
    split at h
    · rename_i ht
      exact ⟨v.2, by rw [hv]; congr 1; exact Prod.ext ht rfl, h⟩
    · cases h
  · cases h
theorem gldA_ok {L : List gg_V} {i : Nat} {f : gg_V → Option gg_O} {o : gg_O} (h : gg_ldA L i f = some o) : ∃ v : gg_V, L[i]? = some v ∧ (v.1 = 2 ∨ v.1 = 4 ∨ v.1 = 7 ∨ v.1 = 8) ∧ f v = some o := by
  unfold gg_ldA at h
  split at h
  · rename_i v hv
    split at h
    · rename_i ht
      exact ⟨v, hv, ht, h⟩
    · cases h
  · cases h
theorem gtgt_ok {pc : Nat} {off : Int} {f : Nat → Option gg_O} {o : gg_O} (h : gg_tgt pc off f = some o) : ∃ t : Nat, (pc : Int) + off = (t : Int) ∧ f t = some o := by
  unfold gg_tgt at h
  split at h
  · rename_i t ht
    exact ⟨t, ht, h⟩
  · cases h
theorem gif_ok {c : Prop} [Decidable c] {x : Option gg_O} {o : gg_O} (h : (if c then x else none) = some o) : c ∧ x = some o := by
  split at h
  · exact ⟨by assumption, h⟩
  · cases h
