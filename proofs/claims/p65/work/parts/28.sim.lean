/-! a run of the static interpreter is a run of the moving one -/
/-- what an object of the static world holds, with its tag -/
def ge_v (w : gg_W) (o k : Nat) : gg_V := match gg_sh o with
  | (0, _, c) => if gg_ft c k = 2 ∨ gg_ft c k = 4 then (2, w.1 o k) else (0, w.2.1 o k)
  | (4, _, _) => (1, w.2.1 o k)
  | (5, _, _) => (2, w.1 o k)
  | _ => (0, w.2.1 o k)
/-- the static world laid over a moving one -/
def ge (u : gy_W) (w : gg_W) : gy_W := (fun o => if 1 ≤ o ∧ o < w.2.2.1 then gg_sh o else u.1 o, fun o k => if 1 ≤ o ∧ o < w.2.2.1 then ge_v w o k else u.2.1 o k, u.2.2.1 + w.2.2.2.1, u.2.2.2 + w.2.2.2.2)
def gE (u : gy_W) (o : gg_O) : gy_O := (o.1, ge u o.2)
theorem ge_sh {u : gy_W} {w : gg_W} {o : Nat} (h : 1 ≤ o ∧ o < w.2.2.1) : (ge u w).1 o = gg_sh o := if_pos h
theorem ge_at {u : gy_W} {w : gg_W} {o k : Nat} (h : 1 ≤ o ∧ o < w.2.2.1) : (ge u w).2.1 o k = ge_v w o k := if_pos h
/-- the shapes that there are -/
def ge_cks (s : Nat × Nat × Nat) : Bool := decide (s.1 = 9) || (decide (s.1 = 0 ∧ s.2.1 = 0) && (decide (s.2.2 < 7) && (List.range (gg_nf s.2.2)).all fun k => decide (gg_ft s.2.2 k ≤ 2))) || decide (1 ≤ s.1 ∧ s.1 ≤ 4 ∧ s.2.2 = 0) || decide (s.1 = 5 ∧ (s.2.2 = 0 ∨ s.2.2 = 2))
theorem ge_cks_all : gg_shs.all ge_cks = true := by decide +kernel
theorem ge_shs (o : Nat) : (gg_sh o).1 = 9 ∨ (∃ c, gg_sh o = (0, 0, c) ∧ c < 7) ∨ (∃ kd n, gg_sh o = (kd, n, 0) ∧ 1 ≤ kd ∧ kd ≤ 4) ∨ (∃ n c, gg_sh o = (5, n, c) ∧ (c = 0 ∨ c = 2)) := by
  have h : ge_cks (gg_sh o) = true := by
    unfold gg_sh
    rw [List.getD_eq_getElem?_getD]
    cases hq : gg_shs[o]? with
    | none => decide +kernel
    | some s => exact List.all_eq_true.mp ge_cks_all s (List.mem_of_getElem? hq)
  generalize gg_sh o = s at h ⊢
  obtain ⟨a, b, c⟩ := s
  unfold ge_cks at h
  simp only [Bool.or_eq_true, Bool.and_eq_true, decide_eq_true_eq] at h
  rcases h with ((h | ⟨⟨h1, h2⟩, h3, -⟩) | ⟨h1, h2, h3⟩) | ⟨h1, h2⟩
  · exact Or.inl h
  · subst h1; subst h2; exact Or.inr (Or.inl ⟨c, rfl, h3⟩)
  · subst h3; exact Or.inr (Or.inr (Or.inl ⟨a, b, rfl, h1, h2⟩))
  · subst h1; exact Or.inr (Or.inr (Or.inr ⟨b, c, rfl, h2⟩))
theorem ge_sh_end {o : Nat} (h : 142 ≤ o) : gg_sh o = (9, 0, 0) := by
  unfold gg_sh
  have : gg_shs.length ≤ 142 := by decide +kernel
  rw [List.getD_eq_getElem?_getD, List.getElem?_eq_none (by omega)]
  rfl
def ge_ckl (e : Nat × Nat × Nat × Nat × Nat × Nat) : Bool := match e with
  | (_, _, c, k, t, _) => decide (7 ≤ c) || decide (t ≤ 2 ∧ gg_ft c k = t)
theorem ge_ckl_all : gg_lfs.all ge_ckl = true := by decide +kernel
theorem ge_lf {o ix ci k t : Nat} (h : gg_lf o ix = some (ci, k, t)) (hc : ci < 7) : t ≤ 2 ∧ gg_ft ci k = t := by
  unfold gg_lf at h
  cases hf : gg_lfs.find? (fun e => e.1 == o && e.2.1 == ix) with
  | none => rw [hf] at h; cases h
  | some e =>
    rw [hf] at h
    obtain ⟨o', i', c', k', t', p'⟩ := e
    cases h
    have h2 := List.all_eq_true.mp ge_ckl_all _ (List.mem_of_find?_eq_some hf)
    unfold ge_ckl at h2
    simp only [Bool.or_eq_true, decide_eq_true_eq] at h2
    rcases h2 with h2 | h2
    · exact absurd hc (Nat.not_lt.mpr h2)
    · exact h2
theorem ge_c7 {o c : Nat} (h : gg_sh o = (0, 0, c)) : c < 7 := by
  rcases ge_shs o with h1 | ⟨c', h1, h2⟩ | ⟨_, _, h1, h2, -⟩ | ⟨_, _, h1, -⟩
  · rw [h] at h1; cases h1
  · rw [h] at h1; cases h1; exact h2
  · rw [h] at h1; cases h1; omega
  · rw [h] at h1; cases h1
theorem ge_ob {c : Nat} (h : c < 7) : gy_ob c = true := by
  have key : ((List.range 7).all fun c => gy_ob c) = true := by decide
  exact List.all_eq_true.mp key c (List.mem_range.mpr h)
theorem ge_v0 {w : gg_W} {o c k : Nat} (h : gg_sh o = (0, 0, c)) : ge_v w o k = if gg_ft c k = 2 ∨ gg_ft c k = 4 then (2, w.1 o k) else (0, w.2.1 o k) := by
  unfold ge_v; rw [h]; rfl
theorem ge_vn {w : gg_W} {o k kd : Nat} (h : (gg_sh o).1 = kd) (h1 : kd = 1 ∨ kd = 2 ∨ kd = 3) : ge_v w o k = (0, w.2.1 o k) := by
  unfold ge_v
  generalize gg_sh o = s at h
  obtain ⟨a, b, c⟩ := s
  dsimp only at h
  subst h
  rcases h1 with rfl | rfl | rfl <;> rfl
theorem ge_v4 {w : gg_W} {o k : Nat} (h : (gg_sh o).1 = 4) : ge_v w o k = (1, w.2.1 o k) := by
  unfold ge_v
  generalize gg_sh o = s at h
  obtain ⟨a, b, c⟩ := s
  dsimp only at h
  subst h
  rfl
theorem ge_v5 {w : gg_W} {o k : Nat} (h : (gg_sh o).1 = 5) : ge_v w o k = (2, w.1 o k) := by
  unfold ge_v
  generalize gg_sh o = s at h
  obtain ⟨a, b, c⟩ := s
  dsimp only at h
  subst h
  rfl
/-- one place is written -/
theorem ge_up {u : gy_W} {w w' : gg_W} {a k : Nat} {v : gg_V} (ha : 1 ≤ a ∧ a < w.2.2.1) (hn : w'.2.2 = w.2.2) (hv : ge_v w' a k = v) (ho : ∀ o j, ¬ (o = a ∧ j = k) → w'.1 o j = w.1 o j ∧ w'.2.1 o j = w.2.1 o j) :
    ge u w' = ((ge u w).1, gy_up (ge u w).2.1 a k v, (ge u w).2.2) := by
  unfold ge
  rw [hn]
  refine Prod.ext rfl (Prod.ext ?_ rfl)
  funext o j
  show (if 1 ≤ o ∧ o < w.2.2.1 then ge_v w' o j else u.2.1 o j) = if o = a ∧ j = k then v else if 1 ≤ o ∧ o < w.2.2.1 then ge_v w o j else u.2.1 o j
  by_cases h : o = a ∧ j = k
  · obtain ⟨rfl, rfl⟩ := h
    rw [if_pos ha, hv, if_pos ⟨rfl, rfl⟩]
  · rw [if_neg h]
    obtain ⟨h1, h2⟩ := ho o j h
    have e : ge_v w' o j = ge_v w o j := by
      unfold ge_v
      rw [h1, h2]
    rw [e]
def gmU (u : gy_W) (w : gg_W) : Prop := u.2.2.1 = 0 ∨ w.2.2.1 = 142
/-- one object is made -/
theorem ge_mk {u : gy_W} {w : gg_W} {kd n c : Nat} {g : Nat → gg_V} (hU : gmU u w) (hs : gg_sh w.2.2.1 = (kd, n, c)) (h9 : kd ≠ 9) (hc : w.2.2.2.1 + 1 = w.2.2.1) {m1 m2 : gg_M} (hm1 : ∀ o, o ≠ w.2.2.1 → m1 o = w.1 o) (hm2 : ∀ o, o ≠ w.2.2.1 → m2 o = w.2.1 o) {sl : Nat}
    (hg : ∀ k, ge_v (m1, m2, w.2.2.1 + 1, w.2.2.2.1 + 1, w.2.2.2.2 + sl) w.2.2.1 k = g k) : ge u (m1, m2, w.2.2.1 + 1, w.2.2.2.1 + 1, w.2.2.2.2 + sl) = gy_mk (ge u w) (kd, n, c) g sl ∧ (ge u w).2.2.1 + 1 = w.2.2.1 := by
  have h0 : u.2.2.1 = 0 := by
    rcases hU with h | h
    · exact h
    · rw [h, ge_sh_end (Nat.le_refl _)] at hs
      cases hs
      exact absurd rfl h9
  have e1 : (ge u w).2.2.1 + 1 = w.2.2.1 := by show u.2.2.1 + w.2.2.2.1 + 1 = _; omega
  refine ⟨?_, e1⟩
  unfold gy_mk
  rw [e1]
  refine Prod.ext ?_ (Prod.ext ?_ (Prod.ext ?_ ?_))
  · funext o
    show (if 1 ≤ o ∧ o < w.2.2.1 + 1 then gg_sh o else u.1 o) = if o = w.2.2.1 then (kd, n, c) else if 1 ≤ o ∧ o < w.2.2.1 then gg_sh o else u.1 o
    by_cases h : o = w.2.2.1
    · subst h
      rw [if_pos rfl, if_pos (by omega), hs]
    · rw [if_neg h]
      by_cases h2 : 1 ≤ o ∧ o < w.2.2.1
      · rw [if_pos h2, if_pos (by omega)]
      · rw [if_neg h2, if_neg (by omega)]
  · funext o j
    show (if 1 ≤ o ∧ o < w.2.2.1 + 1 then ge_v _ o j else u.2.1 o j) = if o = w.2.2.1 then g j else if 1 ≤ o ∧ o < w.2.2.1 then ge_v w o j else u.2.1 o j
    by_cases h : o = w.2.2.1
    · subst h
      rw [if_pos rfl, if_pos (by omega), hg]
    · rw [if_neg h]
      have e : ge_v (m1, m2, w.2.2.1 + 1, w.2.2.2.1 + 1, w.2.2.2.2 + sl) o j = ge_v w o j := by
        unfold ge_v
        dsimp only
        rw [hm1 o h, hm2 o h]
      by_cases h2 : 1 ≤ o ∧ o < w.2.2.1
      · rw [if_pos h2, if_pos (by omega), e]
      · rw [if_neg h2, if_neg (by omega)]
  · show u.2.2.1 + (w.2.2.2.1 + 1) = w.2.2.1; omega
  · show u.2.2.2 + (w.2.2.2.2 + sl) = u.2.2.2 + w.2.2.2.2 + sl; omega
section GSM
variable {α β : Type} {o : α} {o' : β}
theorem gq_s {n m : Nat} {x : Option α} {y : Option β} (H : x = some o → y = some o') (h : gg_q n m x = some o) : gg_q n m y = some o' := by
  obtain ⟨h1, h2⟩ := gq_ok h
  unfold gg_q
  rw [if_pos h1]
  exact H h2
theorem gif_s {c : Prop} [Decidable c] {x : Option α} {y : Option β} (H : x = some o → y = some o') (h : (if c then x else none) = some o) : (if c then y else none) = some o' := by
  obtain ⟨h1, h2⟩ := gif_ok h
  rw [if_pos h1]
  exact H h2
theorem gite_s {c : Prop} [Decidable c] {x y : Option α} {x' y' : Option β} (H : x = some o → x' = some o') (H2 : y = some o → y' = some o') (h : (if c then x else y) = some o) : (if c then x' else y') = some o' := by
  split at h
  · rw [if_pos (by assumption)]; exact H h
  · rw [if_neg (by assumption)]; exact H2 h
theorem gno_s (h : (none : Option α) = some o) : (none : Option β) = some o' := by cases h
theorem gpI_s {st : List gg_V} {f : Int → List gg_V → Option α} {g : Int → List gg_V → Option β} (H : ∀ a r, f a r = some o → g a r = some o') (h : gg_pI st f = some o) : gg_pI st g = some o' := by
  obtain ⟨a, r, rfl, h1⟩ := gpI_ok h
  exact H _ _ h1
theorem gpL_s {st : List gg_V} {f : Int → List gg_V → Option α} {g : Int → List gg_V → Option β} (H : ∀ a r, f a r = some o → g a r = some o') (h : gg_pL st f = some o) : gg_pL st g = some o' := by
  obtain ⟨a, r, rfl, h1⟩ := gpL_ok h
  exact H _ _ h1
theorem gpR_s {st : List gg_V} {f : Nat → List gg_V → Option α} {g : gg_V → List gg_V → Option β} (H : ∀ a r, f a r = some o → g (2, Int.ofNat a) r = some o') (h : gg_pR st f = some o) : gy_pA st g = some o' := by
  obtain ⟨a, r, rfl, h1⟩ := gpR_ok h
  exact H _ _ h1
theorem gbI_s {st : List gg_V} {k : Int → Int → Int} {f : List gg_V → Option α} {g : List gg_V → Option β} (H : ∀ s, f s = some o → g s = some o') (h : gg_bI st k f = some o) : gg_bI st k g = some o' := gpI_s (fun _ _ => gpI_s fun _ _ => H _) h
theorem guI_s {st : List gg_V} {k : Int → Int} {f : List gg_V → Option α} {g : List gg_V → Option β} (H : ∀ s, f s = some o → g s = some o') (h : gg_uI st k f = some o) : gg_uI st k g = some o' := gpI_s (fun _ _ => H _) h
theorem gbL_s {st : List gg_V} {k : Int → Int → Int} {f : List gg_V → Option α} {g : List gg_V → Option β} (H : ∀ s, f s = some o → g s = some o') (h : gg_bL st k f = some o) : gg_bL st k g = some o' := gpL_s (fun _ _ => gpL_s fun _ _ => H _) h
theorem gsL_s {st : List gg_V} {k : Int → Int → Int} {f : List gg_V → Option α} {g : List gg_V → Option β} (H : ∀ s, f s = some o → g s = some o') (h : gg_sL st k f = some o) : gg_sL st k g = some o' := gpI_s (fun _ _ => gpL_s fun _ _ => H _) h
theorem gld_s {L : List gg_V} {t i : Nat} {f : Int → Option α} {g : Int → Option β} (H : ∀ x, f x = some o → g x = some o') (h : gg_ld L t i f = some o) : gg_ld L t i g = some o' := by
  obtain ⟨x, hx, h1⟩ := gld_ok h
  unfold gg_ld
  rw [hx]
  exact (if_pos rfl).trans (H _ h1)
theorem gldA_s {L : List gg_V} {i : Nat} {f : gg_V → Option α} {g : gg_V → Option β} (H : ∀ x, f x = some o → g x = some o') (h : gg_ldA L i f = some o) : gy_ldA L i g = some o' := by
  unfold gg_ldA at h
  split at h
  · rename_i v hv
    obtain ⟨h1, h2⟩ := gif_ok h
    unfold gy_ldA
    rw [hv]
    refine (if_pos ?_).trans (H _ h2)
    unfold gy_ra
    simp only [Bool.or_eq_true, beq_iff_eq]
    omega
  · cases h
theorem gtgt_s {pc : Nat} {off : Int} {f : Nat → Option α} {g : Nat → Option β} (H : ∀ t, f t = some o → g t = some o') (h : gg_tgt pc off f = some o) : gg_tgt pc off g = some o' := by
  obtain ⟨t, ht, h1⟩ := gtgt_ok h
  unfold gg_tgt
  rw [ht]
  exact H _ h1
end GSM
theorem gsr_get2 {ow ix a : Nat} {r : List gg_V} {u : gy_W} {g : List gg_V → Option gy_O} : gy_get ow ix ((2, Int.ofNat a) :: r) u g = (match gg_lf ow ix with
    | some (ci, k, _) => if u.1 a = (0, 0, ci) then g (u.2.1 a k :: r) else none
    | none => match gy_lf ow ix with
      | some (ci, k, _) => if u.1 a = (0, 0, ci) then g (u.2.1 a k :: r) else none
      | none => none) := rfl
theorem gsr_get4 {ow ix i : Nat} {r : List gg_V} {u : gy_W} {g : List gg_V → Option gy_O} : gy_get ow ix ((4, Int.ofNat i) :: r) u g = if ow = 9 ∧ i < 7 then (if ix = 9 then g ((8, Int.ofNat i) :: r) else if ix = 15 then g ((0, 0) :: r) else none) else none := rfl
theorem gsr_put {ow kd ix a : Nat} {v : gg_V} {r : List gg_V} {u : gy_W} {g : List gg_V → gy_W → Option gy_O} : gy_put ow kd ix (v :: (2, Int.ofNat a) :: r) u g = (match gg_lf ow ix with
    | some (ci, k, t) => if u.1 a = (0, 0, ci) ∧ gy_fit t v kd ow ci = true then g r (u.1, gy_up u.2.1 a k v, u.2.2) else none
    | none => match gy_lf ow ix with
      | some (ci, k, md) => if u.1 a = (0, 0, ci) ∧ md = 1 ∧ v.1 = 0 then g r (u.1, gy_up u.2.1 a k v, u.2.2) else none
      | none => none) := rfl
theorem gsr_ald {N : Nat} {xs : Nat → Int32} {kd t a : Nat} {i : Int} {r : List gg_V} {u : gy_W} {g : List gg_V → Option gy_O} : gy_ald N xs kd t ((0, i) :: (2, Int.ofNat a) :: r) u g = if a = 0 then (if kd = 1 ∧ gg_in i N = true then g ((0, (xs (gg_k i)).toInt) :: r) else none) else
      if (u.1 a).1 = kd ∧ gg_in i (u.1 a).2.1 = true then g ((t, (u.2.1 a (gg_k i)).2) :: r) else none := rfl
theorem gsr_ald8 {N : Nat} {xs : Nat → Int32} {kd t s : Nat} {i : Int} {r : List gg_V} {u : gy_W} {g : List gg_V → Option gy_O} : gy_ald N xs kd t ((0, i) :: (8, Int.ofNat s) :: r) u g = if kd = 3 ∧ s < 7 ∧ gg_in i (gg_tx s).length = true then g ((0, (gg_tx s).getD (gg_k i) 0) :: r) else none := rfl
theorem gsr_aal {a : Nat} {i : Int} {r : List gg_V} {u : gy_W} {g : List gg_V → Option gy_O} : gy_aal ((0, i) :: (2, Int.ofNat a) :: r) u g = if (u.1 a).1 = 5 ∧ gy_ec (u.1 a).2.2 = true ∧ gg_in i (u.1 a).2.1 = true ∧ gy_rr (u.2.1 a (gg_k i)) = true then g (u.2.1 a (gg_k i) :: r) else none := rfl
theorem gsr_ast {kd t t' a : Nat} {v i : Int} {r : List gg_V} {u : gy_W} {g : List gg_V → gy_W → Option gy_O} : gy_ast kd t ((t', v) :: (0, i) :: (2, Int.ofNat a) :: r) u g = if t' = t ∧ (u.1 a).1 = kd ∧ gg_in i (u.1 a).2.1 = true ∧ (kd = 2 → v = 0 ∨ v = 1) then
      g r (u.1, gy_up u.2.1 a (gg_k i) (t, if kd = 3 then io_i2b v else v), u.2.2) else none := rfl
theorem gsr_aas {a : Nat} {v : gg_V} {i : Int} {r : List gg_V} {u : gy_W} {g : List gg_V → gy_W → Option gy_O} : gy_aas (v :: (0, i) :: (2, Int.ofNat a) :: r) u g = if (u.1 a).1 = 5 ∧ gg_in i (u.1 a).2.1 = true ∧ gy_el v u (u.1 a).2.2 = true then g r (u.1, gy_up u.2.1 a (gg_k i) v, u.2.2) else none := rfl
theorem gsr_el {v c : Nat} {u : gy_W} : gy_el (2, Int.ofNat v) u c = (decide (u.1 v = (0, 0, c)) && decide (c = 0 ∨ c = 2 ∨ c = 14) || decide (c = 24) && (decide (u.1 v = (0, 0, 7)) || decide (u.1 v = (0, 0, 14)))) := rfl
theorem gsr_copy {a b : Nat} {n dp sp : Int} {r : List gg_V} {w : gy_W} {f : List gg_V → gy_W → Option gy_O} : gy_copy ((0, n) :: (0, dp) :: (2, Int.ofNat b) :: (0, sp) :: (2, Int.ofNat a) :: r) w f = if ((w.1 a).1 = 1 ∧ (w.1 b).1 = 1 ∨ ((w.1 a).1 = 3 ∧ (w.1 b).1 = 3 ∧ ∀ j, j < gg_k n → io_i2b (w.2.1 a (gg_k sp + j)).2 = (w.2.1 a (gg_k sp + j)).2) ∨ ((w.1 a).1 = 5 ∧ (w.1 b).1 = 5 ∧ (w.1 a).2.2 = 24 ∧ (w.1 b).2.2 = 24 ∧ ∀ j, j < gg_k n → gy_el (w.2.1 a (gg_k sp + j)) w 24 = true)) ∧
        ¬ gg_i sp < 0 ∧ ¬ gg_i dp < 0 ∧ ¬ gg_i n < 0 ∧ gg_k sp + gg_k n ≤ (w.1 a).2.1 ∧ gg_k dp + gg_k n ≤ (w.1 b).2.1 ∧ (r.map gg_cat).sum ≤ 8 then
      f r (w.1, gy_cpy w.2.1 a (gg_k sp) b (gg_k dp) (gg_k n), w.2.2) else none := rfl
section GSN
variable {o : gg_O} {o' : gy_O} {u : gy_W} {w : gg_W} {st : List gg_V}
theorem gget_s {ow ix : Nat} {f : List gg_V → Option gg_O} {g : List gg_V → Option gy_O} (H : ∀ s, f s = some o → g s = some o') (h : gg_get ow ix st w f = some o) : gy_get ow ix st (ge u w) g = some o' := by
  unfold gg_get at h
  split at h
  · rename_i a r
    split at h
    · rename_i ci k t hl
      obtain ⟨⟨h1, h2, h3⟩, h4⟩ := gif_ok h
      obtain ⟨h5, h6⟩ := ge_lf hl (ge_c7 h3)
      have e : (ge u w).2.1 a k = gg_rd t w a k := by
        rw [ge_at ⟨h1, h2⟩, ge_v0 h3, h6]
        unfold gg_rd
        by_cases ht : t = 2
        · rw [if_pos (Or.inl ht), if_pos ht]
        · rw [if_neg (by omega), if_neg ht]
      rw [gsr_get2, hl]
      show (if (ge u w).1 a = (0, 0, ci) then g ((ge u w).2.1 a k :: r) else none) = some o'
      rw [ge_sh ⟨h1, h2⟩, if_pos h3, e]
      exact H _ h4
    · cases h
  · rename_i i r
    obtain ⟨⟨h1, h2⟩, h3⟩ := gif_ok h
    rw [gsr_get4, if_pos ⟨h1, by omega⟩]
    exact gite_s (H _) (gite_s (H _) gno_s) h3
  · cases h
theorem gput_s {ow kd ix : Nat} {f : List gg_V → gg_W → Option gg_O} {g : List gg_V → gy_W → Option gy_O} (H : ∀ s w', w'.2.2 = w.2.2 → f s w' = some o → g s (ge u w') = some o') (h : gg_put ow kd ix st w f = some o) : gy_put ow kd ix st (ge u w) g = some o' := by
  unfold gg_put at h
  split at h
  · rename_i t' v a r
    split at h
    · rename_i ci k t hl
      obtain ⟨⟨h1, h2, h3⟩, h4⟩ := gif_ok h
      obtain ⟨h5, h6⟩ := ge_lf hl (ge_c7 h3)
      rw [gsr_put, hl]
      show (if (ge u w).1 a = (0, 0, ci) ∧ gy_fit t (t', v) kd ow ci = true then g r ((ge u w).1, gy_up (ge u w).2.1 a k (t', v), (ge u w).2.2) else none) = some o'
      rw [ge_sh ⟨h1, h2⟩]
      have fin : ∀ w' : gg_W, w'.2.2 = w.2.2 → ge_v w' a k = (t', v) → (∀ o j, ¬ (o = a ∧ j = k) → w'.1 o j = w.1 o j ∧ w'.2.1 o j = w.2.1 o j) → gy_fit t (t', v) kd ow ci = true → f r w' = some o → (if gg_sh a = (0, 0, ci) ∧ gy_fit t (t', v) kd ow ci = true then g r ((ge u w).1, gy_up (ge u w).2.1 a k (t', v), (ge u w).2.2) else none) = some o' := by
        intro w' hn hv ho hft hf
        rw [if_pos ⟨h3, hft⟩, ← ge_up ⟨h1, h2⟩ hn hv ho]
        exact H _ _ hn hf
      split at h4
      · rename_i h7
        obtain ⟨rfl, rfl⟩ := h7
        refine fin (w.1, gg_up w.2.1 a k v, w.2.2) rfl ?_ (fun o' j hne => ⟨rfl, if_neg hne⟩) rfl h4
        rw [ge_v0 h3, h6, if_neg (by omega)]
        show ((0 : Nat), gg_up w.2.1 a k v a k) = _
        rw [show gg_up w.2.1 a k v a k = v from if_pos ⟨rfl, rfl⟩]
      · split at h4
        · rename_i h7
          obtain ⟨rfl, rfl, h8⟩ := h7
          refine fin (w.1, gg_up w.2.1 a k v, w.2.2) rfl ?_ (fun o' j hne => ⟨rfl, if_neg hne⟩) (by unfold gy_fit; simp [h8]) h4
          rw [ge_v0 h3, h6, if_neg (by omega)]
          show ((0 : Nat), gg_up w.2.1 a k v a k) = _
          rw [show gg_up w.2.1 a k v a k = v from if_pos ⟨rfl, rfl⟩]
        · split at h4
          · rename_i h7
            obtain ⟨rfl, rfl, h8, h9, h10⟩ := h7
            refine fin (gg_up w.1 a k v, w.2.1, w.2.2) rfl ?_ (fun o' j hne => ⟨if_neg hne, rfl⟩) (by unfold gy_fit gy_rr; simp [h8, h9]) h4
            rw [ge_v0 h3, h6, if_pos (Or.inl rfl)]
            show ((2 : Nat), gg_up w.1 a k v a k) = _
            rw [show gg_up w.1 a k v a k = v from if_pos ⟨rfl, rfl⟩]
          · cases h4
    · cases h
  · cases h
theorem gin_n0 {i : Int} (h : gg_in i 0 = true) : False := (gin_ok h) (Or.inr (Nat.zero_le _))
theorem gald_s {N : Nat} {xs xs0 : Nat → Int32} {kd t : Nat} (ht : t ≠ 2) (hk : kd = 4 ∧ t = 1 ∨ (kd = 1 ∨ kd = 2 ∨ kd = 3) ∧ t = 0) {f : List gg_V → Option gg_O} {g : List gg_V → Option gy_O} (H : ∀ s, f s = some o → g s = some o') (h : gg_ald 0 xs0 kd t st w f = some o) : gy_ald N xs kd t st (ge u w) g = some o' := by
  unfold gg_ald at h
  obtain ⟨i, r, rfl, h1⟩ := gpI_ok h
  split at h1
  · rename_i a r'
    split at h1
    · obtain ⟨h2, -⟩ := gif_ok h1
      exact (gin_n0 h2.2).elim
    · rename_i ha
      obtain ⟨⟨h2, h3, h4⟩, h5⟩ := gif_ok h1
      have h6 : 1 ≤ a ∧ a < w.2.2.1 := ⟨by omega, h2⟩
      rw [gsr_ald, if_neg ha, ge_sh h6, if_pos ⟨h3, h4⟩, ge_at h6]
      have e : (ge_v w a (gg_k i)).2 = w.2.1 a (gg_k i) := by
        rcases hk with ⟨rfl, -⟩ | ⟨hk, -⟩
        · rw [ge_v4 h3]
        · rw [ge_vn h3 hk]
      rw [e]
      exact H _ h5
  · obtain ⟨⟨h2, h3, h4⟩, h5⟩ := gif_ok h1
    rw [gsr_ald8, if_pos ⟨h2, by omega, h4⟩]
    exact H _ h5
  · cases h1
theorem gaal_s {xs0 : Nat → Int32} {f : List gg_V → Option gg_O} {g : List gg_V → Option gy_O} (H : ∀ s, f s = some o → g s = some o') (h : gg_ald 0 xs0 5 2 st w f = some o) : gy_aal st (ge u w) g = some o' := by
  unfold gg_ald at h
  obtain ⟨i, r, rfl, h1⟩ := gpI_ok h
  split at h1
  · rename_i a r'
    split at h1
    · obtain ⟨h2, -⟩ := gif_ok h1
      exact (gin_n0 h2.2).elim
    · rename_i ha
      obtain ⟨⟨h2, h3, h4⟩, h5⟩ := gif_ok h1
      have h6 : 1 ≤ a ∧ a < w.2.2.1 := ⟨by omega, h2⟩
      have hec : gy_ec (gg_sh a).2.2 = true := by
        rcases ge_shs a with z | ⟨c', z, -⟩ | ⟨kd, n, z, z1, z2⟩ | ⟨n, c, z, z1⟩
        · omega
        · rw [z] at h3; cases h3
        · rw [z] at h3; dsimp only at h3; omega
        · rw [z]; rcases z1 with rfl | rfl <;> rfl
      rw [gsr_aal, ge_sh h6, ge_at h6, ge_v5 h3, if_pos ⟨h3, hec, h4, rfl⟩]
      exact H _ h5
  · obtain ⟨⟨h2, -⟩, -⟩ := gif_ok h1
    cases h2
  · cases h1
theorem gast_s {kd t : Nat} (hk : kd = 4 ∧ t = 1 ∨ (kd = 1 ∨ kd = 2 ∨ kd = 3) ∧ t = 0) {f : List gg_V → gg_W → Option gg_O} {g : List gg_V → gy_W → Option gy_O} (H : ∀ s w', w'.2.2 = w.2.2 → f s w' = some o → g s (ge u w') = some o') (h : gg_ast kd t st w f = some o) : gy_ast kd t st (ge u w) g = some o' := by
  unfold gg_ast at h
  split at h
  · rename_i t' v i a r
    obtain ⟨⟨h1, h2, h3, h4, h5, h6⟩, h7⟩ := gif_ok h
    subst h3
    rw [gsr_ast, ge_sh ⟨h1, h2⟩, if_pos ⟨rfl, h4, h5, h6⟩]
    rw [← ge_up (w' := (w.1, gg_up w.2.1 a (gg_k i) (if kd = 3 then io_i2b v else v), w.2.2)) ⟨h1, h2⟩ rfl ?_ (fun o' j hne => ⟨rfl, if_neg hne⟩)]
    · exact H _ _ rfl h7
    · have e : gg_up w.2.1 a (gg_k i) (if kd = 3 then io_i2b v else v) a (gg_k i) = if kd = 3 then io_i2b v else v := if_pos ⟨rfl, rfl⟩
      rcases hk with ⟨rfl, rfl⟩ | ⟨hk, rfl⟩
      · rw [ge_v4 h4]
        show ((1 : Nat), gg_up w.2.1 a (gg_k i) _ a (gg_k i)) = _
        rw [e]
      · rw [ge_vn h4 hk]
        show ((0 : Nat), gg_up w.2.1 a (gg_k i) _ a (gg_k i)) = _
        rw [e]
  · cases h
theorem gaas_s {f : List gg_V → gg_W → Option gg_O} {g : List gg_V → gy_W → Option gy_O} (H : ∀ s w', w'.2.2 = w.2.2 → f s w' = some o → g s (ge u w') = some o') (h : gg_aas st w f = some o) : gy_aas st (ge u w) g = some o' := by
  unfold gg_aas at h
  split at h
  · rename_i v i a r
    obtain ⟨⟨h1, h2, h3, h4, h5, h6, h7⟩, h8⟩ := gif_ok h
    have hc : (gg_sh a).2.2 = 0 ∨ (gg_sh a).2.2 = 2 := by
      rcases ge_shs a with z | ⟨c', z, -⟩ | ⟨kd, n, z, z1, z2⟩ | ⟨n, c, z, z1⟩
      · omega
      · rw [z] at h3; cases h3
      · rw [z] at h3; dsimp only at h3; omega
      · rw [z]; exact z1
    have hel : gy_el (2, Int.ofNat v) (ge u w) (gg_sh a).2.2 = true := by
      rw [gsr_el, ge_sh ⟨h5, h6⟩, h7]
      rcases hc with z | z <;> rw [z] <;> rfl
    rw [gsr_aas, ge_sh ⟨h1, h2⟩, if_pos ⟨h3, h4, hel⟩]
    rw [← ge_up (w' := (gg_up w.1 a (gg_k i) (v : Int), w.2)) ⟨h1, h2⟩ rfl ?_ (fun o' j hne => ⟨if_neg hne, rfl⟩)]
    · exact H _ _ rfl h8
    · rw [ge_v5 h3]
      show ((2 : Nat), gg_up w.1 a (gg_k i) (v : Int) a (gg_k i)) = _
      rw [show gg_up w.1 a (gg_k i) (v : Int) a (gg_k i) = (v : Int) from if_pos ⟨rfl, rfl⟩]
      rfl
  · cases h
theorem gcopy_s {f : List gg_V → gg_W → Option gg_O} {g : List gg_V → gy_W → Option gy_O} (H : ∀ s w', w'.2.2 = w.2.2 → f s w' = some o → g s (ge u w') = some o') (h : gg_copy st w f = some o) : gy_copy st (ge u w) g = some o' := by
  unfold gg_copy at h
  split at h
  · rename_i n dp b sp a r
    obtain ⟨⟨h1, h2, h3, h4, h5, h6, h7, h8, h9, h10, h11, h12, h13⟩, h14⟩ := gif_ok h
    rw [gsr_copy, ge_sh ⟨h1, h2⟩, ge_sh ⟨h3, h4⟩, if_pos ⟨Or.inl ⟨h5, h6⟩, h7, h8, h9, h10, h11, h13⟩]
    have e : ge u (w.1, gg_cpy w.2.1 a (gg_k sp) b (gg_k dp) (gg_k n), w.2.2) = ((ge u w).1, gy_cpy (ge u w).2.1 a (gg_k sp) b (gg_k dp) (gg_k n), (ge u w).2.2) := by
      refine Prod.ext rfl (Prod.ext ?_ rfl)
      funext o j
      show (if 1 ≤ o ∧ o < w.2.2.1 then ge_v (w.1, gg_cpy w.2.1 a (gg_k sp) b (gg_k dp) (gg_k n), w.2.2) o j else u.2.1 o j) = if o = b ∧ gg_k dp ≤ j ∧ j < gg_k dp + gg_k n then (if 1 ≤ a ∧ a < w.2.2.1 then ge_v w a (gg_k sp + (j - gg_k dp)) else u.2.1 a (gg_k sp + (j - gg_k dp))) else (if 1 ≤ o ∧ o < w.2.2.1 then ge_v w o j else u.2.1 o j)
      by_cases hq : o = b ∧ gg_k dp ≤ j ∧ j < gg_k dp + gg_k n
      · rw [if_pos hq, if_pos (by rw [hq.1]; exact ⟨h3, h4⟩), if_pos ⟨h1, h2⟩, ge_vn h5 (Or.inl rfl), hq.1, ge_vn h6 (Or.inl rfl)]
        show ((0 : Nat), gg_cpy w.2.1 a (gg_k sp) b (gg_k dp) (gg_k n) b j) = _
        rw [show gg_cpy w.2.1 a (gg_k sp) b (gg_k dp) (gg_k n) b j = w.2.1 a (gg_k sp + (j - gg_k dp)) from if_pos ⟨rfl, hq.2⟩]
      · rw [if_neg hq]
        have e2 : ge_v (w.1, gg_cpy w.2.1 a (gg_k sp) b (gg_k dp) (gg_k n), w.2.2) o j = ge_v w o j := by
          unfold ge_v
          dsimp only
          rw [show gg_cpy w.2.1 a (gg_k sp) b (gg_k dp) (gg_k n) o j = w.2.1 o j from if_neg hq]
        rw [e2]
    rw [← e]
    exact H _ _ rfl h14
  · cases h
theorem gnew_s {c : Nat} (hU : gmU u w) {f : gg_V → gg_W → Option gg_O} {g : gg_V → gy_W → Option gy_O} (H : ∀ v w', gmU u w' → f v w' = some o → g v (ge u w') = some o') (h : gg_new c w f = some o) : gy_new c (ge u w) g = some o' := by
  unfold gg_new at h
  obtain ⟨⟨h1, h2, h3⟩, h4⟩ := gif_ok h
  have h7 := ge_c7 h2
  obtain ⟨e1, e2⟩ := ge_mk (u := u) (g := fun k => gy_df (gg_ft c k)) (sl := gg_nf c) hU h2 (by decide) h3 (m1 := gg_fill w.1 w.2.2.1 (-1)) (m2 := gg_fill w.2.1 w.2.2.1 0) (fun o ho => funext fun j => if_neg ho) (fun o ho => funext fun j => if_neg ho) (fun k => by
    rw [ge_v0 h2]
    unfold gy_df
    show (if gg_ft c k = 2 ∨ gg_ft c k = 4 then ((2 : Nat), gg_fill w.1 w.2.2.1 (-1) w.2.2.1 k) else ((0 : Nat), gg_fill w.2.1 w.2.2.1 0 w.2.2.1 k)) = _
    rw [show gg_fill w.1 w.2.2.1 (-1) w.2.2.1 k = -1 from if_pos rfl, show gg_fill w.2.1 w.2.2.1 0 w.2.2.1 k = 0 from if_pos rfl])
  unfold gy_new
  rw [if_pos (ge_ob h7), e2, ← e1]
  refine H _ _ ?_ h4
  rcases hU with z | z
  · exact Or.inl z
  · rw [z, ge_sh_end (Nat.le_refl _)] at h2
    cases h2
theorem gnewa_s {kd c : Nat} (hU : gmU u w) {f : List gg_V → gg_W → Option gg_O} {g : List gg_V → gy_W → Option gy_O} (hkd : kd ≠ 0 ∧ kd ≠ 9) (H : ∀ s w', gmU u w' → f s w' = some o → g s (ge u w') = some o') (h : gg_newa kd c st w f = some o) : gy_newa kd c st (ge u w) g = some o' := by
  unfold gg_newa at h
  unfold gy_newa
  refine gpI_s (fun n r h0 => ?_) h
  obtain ⟨⟨h1, h2, h3, h4⟩, h5⟩ := gif_ok h0
  have hk : 1 ≤ kd ∧ kd ≤ 4 ∨ kd = 5 ∧ (c = 0 ∨ c = 2 ∨ c = 14 ∨ c = 24) := by
    rcases ge_shs w.2.2.1 with z | ⟨c', z, -⟩ | ⟨kd', n', z, z1, z2⟩ | ⟨n', c', z, z1⟩
    · rw [h2] at z; exact absurd z hkd.2
    · rw [h2] at z; exact absurd (congrArg Prod.fst z) hkd.1
    · rw [h2] at z
      have q : kd = kd' := congrArg Prod.fst z
      exact Or.inl ⟨by omega, by omega⟩
    · rw [h2] at z
      have q : kd = 5 := congrArg Prod.fst z
      have q2 : c = c' := congrArg (fun x => x.2.2) z
      exact Or.inr ⟨q, by omega⟩
  obtain ⟨e1, e2⟩ := ge_mk (u := u) (g := fun _ => gy_de kd) (sl := gg_k n) hU h2 hkd.2 h3 (m1 := gg_fill w.1 w.2.2.1 (-1)) (m2 := gg_fill w.2.1 w.2.2.1 0) (fun o ho => funext fun j => if_neg ho) (fun o ho => funext fun j => if_neg ho) (fun k => by
    have q1 : gg_fill w.1 w.2.2.1 (-1) w.2.2.1 k = -1 := if_pos rfl
    have q2 : gg_fill w.2.1 w.2.2.1 0 w.2.2.1 k = 0 := if_pos rfl
    unfold ge_v gy_de
    rw [h2]
    dsimp only
    rw [q1, q2]
    rcases hk with ⟨z1, z2⟩ | ⟨z1, z2⟩
    · have h6 : kd = 1 ∨ kd = 2 ∨ kd = 3 ∨ kd = 4 := by omega
      rcases h6 with rfl | rfl | rfl | rfl <;> rfl
    · subst z1
      rfl)
  rw [if_pos ⟨h1, h4, hk⟩, e2, ← e1]
  refine H _ _ ?_ h5
  rcases hU with z | z
  · exact Or.inl z
  · rw [z, ge_sh_end (Nat.le_refl _)] at h2
    have q : 9 = kd := congrArg Prod.fst h2
    exact absurd q.symm hkd.2
end GSN
