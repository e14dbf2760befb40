/-! the interpreter's world in a heap; a frame -/
def gy_H (S0 b : Nat) (D : va_G) (cA : Nat → ClassId) (ad : Nat → Int → Nat) (opq : Value) (w : gy_W) (H : Heap) : Prop :=
  (∀ a : Nat, (w.1 a).1 ≠ 9 → 1 ≤ a ∧ a ≤ w.2.2.1 ∧ va_at D gg_cl (S0 + (a - 1), gy_ce S0 b ad opq cA w a) H) ∧ H.size = S0 + w.2.2.1
theorem yv_cat {S0 b : Nat} {ad : Nat → Int → Nat} {opq : Value} (ho : opq.category = 1) (v : gg_V) : (yv S0 b ad opq v).category = gg_cat v := by
  obtain ⟨t, x⟩ := v
  have hr : ∀ x, (gg_rf S0 b x).category = 1 := by
    intro x
    match x with
    | .ofNat 0 => rfl
    | .ofNat (n + 1) => rfl
    | .negSucc _ => rfl
  match t with
  | 0 => rfl
  | 1 => rfl
  | 2 => exact hr x
  | 3 => exact ho
  | 4 => rfl
  | 5 => exact ho
  | 6 => rfl
  | 7 =>
    show (if x = 0 then opq else .ref (ad 7 x) : Value).category = 1
    split
    · exact ho
    · rfl
  | 8 => rfl
  | n + 9 => exact ho
theorem yv_cat2 {S0 b : Nat} {ad : Nat → Int → Nat} {opq : Value} (ho : opq.category = 1) (v : gg_V) (_ : v.1 ≠ 3) : (yv S0 b ad opq v).category = 2 ↔ v.1 = 1 := by
  rw [yv_cat ho]
  unfold gg_cat
  split <;> simp [*]
theorem yv_cats {S0 b : Nat} {ad : Nat → Int → Nat} {opq : Value} (ho : opq.category = 1) (st : List gg_V) : ((st.map (yv S0 b ad opq)).map fun v => v.category).sum = (st.map gg_cat).sum := by
  rw [List.map_map]
  congr 1
  apply List.map_congr_left
  intro v _
  exact yv_cat ho v
theorem yv_refs {S0 b : Nat} {ad : Nat → Int → Nat} {opq : Value} {v : gg_V} (hq : opq = .null ∨ ∃ t : Nat, opq = .ref t) (hv : gy_ra v = true) : yv S0 b ad opq v = .null ∨ ∃ t : Nat, yv S0 b ad opq v = .ref t := by
  have h2 := gy_ra_ok hv
  obtain ⟨t, x⟩ := v
  dsimp only at h2
  rcases h2 with rfl | rfl | rfl | rfl | rfl
  · show gg_rf S0 b x = .null ∨ ∃ t : Nat, gg_rf S0 b x = .ref t
    match x with
    | .ofNat 0 => exact Or.inr ⟨_, rfl⟩
    | .ofNat (n + 1) => exact Or.inr ⟨_, rfl⟩
    | .negSucc _ => exact Or.inl rfl
  · exact Or.inr ⟨_, rfl⟩
  · exact Or.inr ⟨_, rfl⟩
  · show (if x = 0 then opq else .ref (ad 7 x) : Value) = .null ∨ ∃ t : Nat, (if x = 0 then opq else .ref (ad 7 x) : Value) = .ref t
    split
    · exact hq
    · exact Or.inr ⟨_, rfl⟩
  · exact Or.inr ⟨_, rfl⟩
def gy_own (y : Nat) : Prop := y < 421 ∧ y ≠ 287 ∧ (gg_mt y).1 ≠ 99
theorem gg_ckm_ok {y : Nat} (hy : gy_own y) : gg_ckm y = true := by
  obtain ⟨h0, h1, h2⟩ := hy
  have key : ∀ a n, gg_ckr a n = true → a ≤ y → y < a + n → gg_ckm y = true := by
    intro a n h h3 h4
    have h5 := List.all_eq_true.mp h (y - a) (List.mem_range.mpr (by omega))
    simp only [Bool.or_eq_true, decide_eq_true_eq, show a + (y - a) = y by omega] at h5
    rcases h5 with (h5 | h5) | h5
    · exact absurd h5 h1
    · exact absurd h5 h2
    · exact h5
  by_cases c0 : y < 43
  · exact key _ _ gg_ckm_0 (by omega) (by omega)
  by_cases c43 : y < 86
  · exact key _ _ gg_ckm_43 (by omega) (by omega)
  by_cases c86 : y < 129
  · exact key _ _ gg_ckm_86 (by omega) (by omega)
  by_cases c129 : y < 172
  · exact key _ _ gg_ckm_129 (by omega) (by omega)
  by_cases c172 : y < 215
  · exact key _ _ gg_ckm_172 (by omega) (by omega)
  by_cases c215 : y < 258
  · exact key _ _ gg_ckm_215 (by omega) (by omega)
  by_cases c258 : y < 301
  · exact key _ _ gg_ckm_258 (by omega) (by omega)
  by_cases c301 : y < 344
  · exact key _ _ gg_ckm_301 (by omega) (by omega)
  by_cases c344 : y < 355
  · exact key _ _ gg_ckm_344 (by omega) (by omega)
  by_cases c355 : y < 366
  · exact key _ _ gg_ckm_355 (by omega) (by omega)
  by_cases c366 : y < 377
  · exact key _ _ gg_ckm_366 (by omega) (by omega)
  by_cases c377 : y < 388
  · exact key _ _ gg_ckm_377 (by omega) (by omega)
  by_cases c388 : y < 399
  · exact key _ _ gg_ckm_388 (by omega) (by omega)
  by_cases c399 : y < 410
  · exact key _ _ gg_ckm_399 (by omega) (by omega)
  · exact key _ _ gg_ckm_410 (by omega) (by omega)
/-- what holds of a method of ours, by its number -/
def gg_mf (y c kd ml : Nat) (tg : List Nat) (rk : Nat) : Prop :=
  gg_wd y ∈ gg_gw ∧ (gg_nm y).cls = gg_c c ∧ plainName (gg_nm y).cls = true ∧ ((gg_nm y).cls ≠ "java/lang/invoke/MethodHandle" ∧ (gg_nm y).cls ≠ "java/lang/invoke/VarHandle") ∧ Cond.initialized (gg_nm y).cls ∈ gg_gw ∧ gg_rok rk (gg_rt y) = true ∧ ml ≤ 30 ∧
  (parseMethodDescriptor (gg_nm y).desc).map (fun d => d.parameters.length) = some (if kd = 1 then tg.length else tg.length - 1) ∧ (kd = 1 → Cond.static (gg_nm y) ∈ gg_gw) ∧ (kd ≠ 1 → Cond.instanceMethod (gg_nm y) ∈ gg_gw ∧ 1 ≤ tg.length) ∧ (kd = 0 → ¬ gy_nos c y → Cond.selects (gg_nm y).cls (gg_nm y) (gg_nm y) ∈ gg_gw) ∧ (kd = 2 → (gg_nm y).name = "<init>" ∧ rk = 0) ∧ kd ≤ 2 ∧ (kd = 1 ∨ gg_hd y = [])
theorem gg_mfacts {y c kd ml : Nat} {tg : List Nat} {rk : Nat} (hy : gy_own y) (hm : gg_mt y = (c, kd, ml, tg, rk)) : gg_mf y c kd ml tg rk := by
  have h := gg_ckm_ok hy
  unfold gg_ckm at h
  rw [hm] at h
  simp only [Bool.and_eq_true, Bool.or_eq_true, decide_eq_true_eq] at h
  obtain ⟨⟨⟨⟨⟨⟨⟨⟨⟨⟨⟨⟨a1, a2⟩, a3⟩, a4⟩, a5⟩, a6⟩, a7⟩, a8⟩, a9⟩, a10⟩, a11⟩, a12⟩, a13⟩ := h
  refine ⟨?_, a2, by rw [a2]; exact a3, by rw [a2]; exact a4, by rw [a2]; exact gg_at_in a5, a6, a7, a8, fun e => ?_, fun e => ?_, fun e hn => ?_, fun e => ?_, a12, a13⟩
  · rcases a1 with a1 | a1
    · unfold gy_big at a1
      rcases of_decide_eq_true a1 with rfl | rfl | rfl | rfl
      · exact gy_w345
      · exact gy_w347
      · exact gy_w351
      · exact gy_w372
    · exact gg_at_in a1
  · rw [if_pos e] at a9
    exact gg_at_in a9
  · rw [if_neg e, Bool.and_eq_true, decide_eq_true_eq] at a9
    exact ⟨gg_at_in a9.1, a9.2⟩
  · rw [if_pos e, Bool.or_eq_true, decide_eq_true_eq] at a10
    rw [a2]
    exact gg_at_in (a10.resolve_left hn)
  · rw [if_pos e, decide_eq_true_eq] at a11
    exact a11
def gy_bn (y : Nat) : MethodName := if y = 1000 then Lib.Math.min.name else if y = 1001 then Lib.Math.max.name else if y = 1002 then arraycopyName else if y = 1003 then Lib.objectInit else if y = 1004 then ⟨"[I", "clone", "()Ljava/lang/Object;"⟩ else if y = 1005 then ⟨"[B", "clone", "()Ljava/lang/Object;"⟩ else ⟨"java/lang/Object", "getClass", "()Ljava/lang/Class;"⟩
def gg_ckl (e : Nat × Nat × Nat × Nat × Nat) : Bool := match e with
  | (o, i, y, ns, pos) => if 1000 ≤ y then gg_at pos (.methodLink (gg_c o) i (gy_bn y)) else
    decide (y < 421 ∧ y ≠ 287 ∧ (gg_mt y).1 ≠ 99) && (if ns = 0 then gg_at pos (.methodLink (gg_c o) i (gg_nm y)) else decide ((gg_mt y).2.1 = 2))
set_option maxRecDepth 100000 in
theorem gg_ckl_all : gg_lms.all gg_ckl = true := by decide +kernel
theorem gg_lm_ok {o i y ns : Nat} (h : gg_lm o i = some (y, ns)) : (1000 ≤ y → Cond.methodLink (gg_c o) i (gy_bn y) ∈ gg_gw) ∧ (y < 1000 → gy_own y ∧ (if ns = 0 then Cond.methodLink (gg_c o) i (gg_nm y) ∈ gg_gw else (o, i, y, ns) ∈ gg_nls ∧ (gg_mt y).2.1 = 2)) := by
  unfold gg_lm at h
  cases hf : gg_lms.find? (fun e => e.1 == o && e.2.1 == i) with
  | none => rw [hf] at h; cases h
  | some e =>
    rw [hf] at h
    obtain ⟨o', i', y', ns', pos⟩ := e
    have h1 := List.find?_some hf
    simp only [Bool.and_eq_true, beq_iff_eq] at h1
    obtain ⟨rfl, rfl⟩ := h1
    simp only [Option.map_some, Option.some.injEq, Prod.mk.injEq] at h
    obtain ⟨rfl, rfl⟩ := h
    have h2 := List.all_eq_true.mp gg_ckl_all _ (List.mem_of_find?_eq_some hf)
    unfold gg_ckl at h2
    dsimp only at h2
    refine ⟨fun e => ?_, fun e => ?_⟩
    · rw [if_pos e] at h2
      exact gg_at_in h2
    · rw [if_neg (by omega), Bool.and_eq_true, decide_eq_true_eq] at h2
      refine ⟨h2.1, ?_⟩
      by_cases hs : ns' = 0
      · rw [if_pos hs] at h2 ⊢
        exact gg_at_in h2.2
      · rw [if_neg hs, decide_eq_true_eq] at h2
        rw [if_neg hs]
        exact ⟨List.mem_map.mpr ⟨_, List.mem_filter.mpr ⟨List.mem_of_find?_eq_some hf, by simp [hs]⟩, rfl⟩, h2.2⟩
/-- a frame of a method of ours: the machine's side of it -/
def gy_CX (l : Launch) (S0 b Lx : Nat) (xs : Nat → Int32) (D : va_G) (cA : Nat → ClassId) (ad : Nat → Int → Nat) (opq : Value) (p : Program) (R : Room) (s : State) (m : MethodId) (args : Array Value) (meth : Method) (c : Code) (k d nL cb sb : Nat) (o : gy_O) : Prop :=
  (p.tables.exec = Jvm.exec ∧ c.code = gg_bt k ∧ c.maxLocals = nL ∧ s.vm.findClass (gg_c (gg_mt k).1) = some m.cls ∧ ∀ w ∈ gg_gw, w.before args s = true) ∧ gy_E S0 b Lx xs D cA ad opq s s.heap ∧ (d + 20 ≤ R.frames ∧ 60 * d + 200 ≤ R.locals ∧ o.2.2.2.1 ≤ R.cells + cb ∧ o.2.2.2.2 ≤ R.slots + sb) ∧
  ((gg_mt k).2.1 = 2 → meth.name = "<init>") ∧ l.stackTraces = false ∧ S0 ≤ s.heap.size
/-- the locals, the world, what has been written and made so far -/
def gy_Rl (S0 b Lx : Nat) (xs : Nat → Int32) (D : va_G) (cA : Nat → ClassId) (ad : Nat → Int → Nat) (opq : Value) (s : State) (nL cb sb : Nat) (L : List gg_V) (w : gy_W) (H : Heap) (locs : List Loc) (cells slots : Nat) (ls : Array Slot) : Prop :=
  L.length = nL ∧ lv_has ls nL (gg_lo (yv S0 b ad opq) 0 L) ∧ gy_H S0 b D cA ad opq w H ∧ va_S (gg_A S0) s.heap H locs ∧ cells + cb = w.2.2.1 ∧ slots + sb = w.2.2.2
/-- from wherever the interpreter comes to the outcome o with so much fuel, the machine comes to Q -/
def gy_Wk (l : Launch) (S0 b Lx : Nat) (xs : Nat → Int32) (D : va_G) (cA : Nat → ClassId) (ad : Nat → Int → Nat) (opq : Value) (p : Program) (e : Env) (R : Room) (s : State) (m : MethodId) (args : Array Value) (below : List Frame) (meth : Method) (c : Code) (Q : State → Prop) (k d nL cb sb : Nat) (o : gy_O) (f : Nat) : Prop :=
  ∀ (pc : Nat) (L st : List gg_V) (w : gy_W) (H : Heap) (locs : List Loc) (cells slots : Nat) (ls : Array Slot), gy_ex Lx xs f d k pc L st w = some o → gy_Rl S0 b Lx xs D cA ad opq s nL cb sb L w H locs cells slots ls →
    W p l e R s m args below meth c H locs cells slots Q (F0 m pc ls (st.map (yv S0 b ad opq)))
/-! what the interpreter's helpers say -/
theorem gq_ok {α : Type} {n m : Nat} {x : Option α} {o : α} (h : gg_q n m x = some o) : n = m ∧ x = some o := by
  unfold gg_q at h
  split at h
  · exact ⟨by assumption, h⟩
  · cases h
theorem gpI_ok {α : Type} {st : List gg_V} {f : Int → List gg_V → Option α} {o : α} (h : gg_pI st f = some o) : ∃ a r, st = (0, a) :: r ∧ f a r = some o := by
  unfold gg_pI at h
  split at h
  · exact ⟨_, _, rfl, h⟩
  · cases h
theorem gpL_ok {α : Type} {st : List gg_V} {f : Int → List gg_V → Option α} {o : α} (h : gg_pL st f = some o) : ∃ a r, st = (1, a) :: r ∧ f a r = some o := by
  unfold gg_pL at h
  split at h
  · exact ⟨_, _, rfl, h⟩
  · cases h
theorem gpR_ok {α : Type} {st : List gg_V} {f : Nat → List gg_V → Option α} {o : α} (h : gg_pR st f = some o) : ∃ a r, st = (2, Int.ofNat a) :: r ∧ f a r = some o := by
  unfold gg_pR at h
  split at h
  · exact ⟨_, _, rfl, h⟩
  · cases h
theorem gbI_ok {α : Type} {st : List gg_V} {g : Int → Int → Int} {f : List gg_V → Option α} {o : α} (h : gg_bI st g f = some o) : ∃ a b r, st = (0, b) :: (0, a) :: r ∧ f ((0, g a b) :: r) = some o := by
  obtain ⟨b, r, rfl, h2⟩ := gpI_ok h
  obtain ⟨a, r3, rfl, h3⟩ := gpI_ok h2
  exact ⟨a, b, r3, rfl, h3⟩
theorem gbL_ok {α : Type} {st : List gg_V} {g : Int → Int → Int} {f : List gg_V → Option α} {o : α} (h : gg_bL st g f = some o) : ∃ a b r, st = (1, b) :: (1, a) :: r ∧ f ((1, g a b) :: r) = some o := by
  obtain ⟨b, r, rfl, h2⟩ := gpL_ok h
  obtain ⟨a, r3, rfl, h3⟩ := gpL_ok h2
  exact ⟨a, b, r3, rfl, h3⟩
theorem gsL_ok {α : Type} {st : List gg_V} {g : Int → Int → Int} {f : List gg_V → Option α} {o : α} (h : gg_sL st g f = some o) : ∃ a b r, st = (0, b) :: (1, a) :: r ∧ f ((1, g a b) :: r) = some o := by
  obtain ⟨b, r, rfl, h2⟩ := gpI_ok h
  obtain ⟨a, r3, rfl, h3⟩ := gpL_ok h2
  exact ⟨a, b, r3, rfl, h3⟩
theorem guI_ok {α : Type} {st : List gg_V} {g : Int → Int} {f : List gg_V → Option α} {o : α} (h : gg_uI st g f = some o) : ∃ a r, st = (0, a) :: r ∧ f ((0, g a) :: r) = some o := gpI_ok h
theorem gld_ok {α : Type} {L : List gg_V} {t i : Nat} {f : Int → Option α} {o : α} (h : gg_ld L t i f = some o) : ∃ x, L[i]? = some (t, x) ∧ f x = some o := by
  unfold gg_ld at h
  split at h
  · rename_i v hv
    split at h
    · rename_i ht
      exact ⟨v.2, by rw [hv]; congr 1; exact Prod.ext ht rfl, h⟩
    · cases h
  · cases h
theorem gtgt_ok {α : Type} {pc : Nat} {off : Int} {f : Nat → Option α} {o : α} (h : gg_tgt pc off f = some o) : ∃ t : Nat, (pc : Int) + off = (t : Int) ∧ f t = some o := by
  unfold gg_tgt at h
  split at h
  · rename_i t ht
    exact ⟨t, ht, h⟩
  · cases h
theorem gif_ok {α : Type} {c : Prop} [Decidable c] {x : Option α} {o : α} (h : (if c then x else none) = some o) : c ∧ x = some o := by
  split at h
  · exact ⟨by assumption, h⟩
  · cases h
theorem gyldA_ok {α : Type} {L : List gg_V} {i : Nat} {f : gg_V → Option α} {o : α} (h : gy_ldA L i f = some o) : ∃ v : gg_V, L[i]? = some v ∧ gy_ra v = true ∧ f v = some o := by
  unfold gy_ldA at h
  split at h
  · rename_i v hv
    obtain ⟨h1, h2⟩ := gif_ok h
    exact ⟨v, hv, h1, h2⟩
  · cases h
theorem gypA_ok {α : Type} {st : List gg_V} {f : gg_V → List gg_V → Option α} {o : α} (h : gy_pA st f = some o) : ∃ (v : gg_V) (r : List gg_V), st = v :: r ∧ gy_ra v = true ∧ f v r = some o := by
  unfold gy_pA at h
  split at h
  · rename_i v r
    obtain ⟨h1, h2⟩ := gif_ok h
    exact ⟨v, r, rfl, h1, h2⟩
  · cases h
