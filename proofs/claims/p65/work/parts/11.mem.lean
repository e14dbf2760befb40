/-! the moving world in the heap: one cell read, written, made -/
theorem gy_one {D : va_G} {cl : List vw_C} {q : Nat × va_E} {H : Heap} (h : va_at D cl q H) : va_P D cl [q] H := fun k q' hq => by
  have hz : k < 1 := (List.getElem?_eq_some_iff.mp hq).1
  rw [show k = 0 by omega] at hq
  cases hq
  exact h
section GMC
variable {S0 b : Nat} {ad : Nat → Int → Nat} {opq : Value} {cA : Nat → ClassId} {w w' : gy_W} {o : Nat}
def gy_fl (S0 b : Nat) (ad : Nat → Int → Nat) (opq : Value) (c : Nat) (w : gy_W) (o : Nat) : List Value := (List.range (gg_nf c)).map fun k => yv S0 b ad opq (w.2.1 o k)
theorem gy_ce_obj {z c : Nat} (h : w.1 o = (0, z, c)) : gy_ce S0 b ad opq cA w o = .inr (c, gy_fl S0 b ad opq c w o) := by
  unfold gy_ce
  rw [h]
  rfl
theorem gy_ce_num {kd : Nat} (h : (w.1 o).1 = kd) (hk : kd = 1 ∨ kd = 2 ∨ kd = 3) : gy_ce S0 b ad opq cA w o = .inl (cA kd, (w.1 o).2.1, .inl fun j => gg_i (w.2.1 o j).2) := by
  unfold gy_ce
  generalize w.1 o = t at h ⊢
  obtain ⟨x, y, z⟩ := t
  dsimp only at h
  subst h
  rcases hk with rfl | rfl | rfl <;> rfl
theorem gy_ce_long (h : (w.1 o).1 = 4) : gy_ce S0 b ad opq cA w o = .inl (cA 4, (w.1 o).2.1, .inr (.inl fun j => gg_l (w.2.1 o j).2)) := by
  unfold gy_ce
  generalize w.1 o = t at h ⊢
  obtain ⟨x, y, z⟩ := t
  dsimp only at h
  subst h
  rfl
theorem gy_ce_ref (h : (w.1 o).1 = 5) : gy_ce S0 b ad opq cA w o = .inl (cA (5 + (w.1 o).2.2), (w.1 o).2.1, .inr (.inr (.inr (.inr fun j => yo S0 b ad (w.2.1 o j))))) := by
  unfold gy_ce
  generalize w.1 o = t at h ⊢
  obtain ⟨x, y, z⟩ := t
  dsimp only at h
  subst h
  rfl
theorem gy_ce_congr (h1 : w'.1 o = w.1 o) (h2 : w'.2.1 o = w.2.1 o) : gy_ce S0 b ad opq cA w' o = gy_ce S0 b ad opq cA w o := by
  unfold gy_ce
  simp only [h1, h2]
theorem gg_rf_pos {a : Nat} (h : 1 ≤ a) : gg_rf S0 b (Int.ofNat a) = .ref (S0 + (a - 1)) := by
  cases a with
  | zero => omega
  | succ n => rfl
theorem gg_ro_pos {a : Nat} (h : 1 ≤ a) : gg_ro S0 b (Int.ofNat a) = some (S0 + (a - 1)) := by
  cases a with
  | zero => omega
  | succ n => rfl
variable {D : va_G}
/-- one cell was written -/
theorem gy_H_set {a : Nat} {H H' : Heap} (hH : gy_H S0 b D cA ad opq w H) (h9 : (w.1 a).1 ≠ 9) (hn : w'.1 = w.1 ∧ w'.2.2 = w.2.2) (hm : ∀ o, o ≠ a → w'.2.1 o = w.2.1 o)
    (he : va_at D gg_cl (S0 + (a - 1), gy_ce S0 b ad opq cA w' a) H') (z : H'.size = H.size) (oq : ∀ q, q ≠ S0 + (a - 1) → H'[q]? = H[q]?) : gy_H S0 b D cA ad opq w' H' := by
  obtain ⟨hP, hz⟩ := hH
  obtain ⟨h1, h2, h3⟩ := hP a h9
  refine ⟨fun o ho => ?_, by rw [z, hn.2]; exact hz⟩
  rw [hn.1] at ho
  obtain ⟨g1, g2, g3⟩ := hP o ho
  refine ⟨g1, by rw [hn.2]; exact g2, ?_⟩
  by_cases e : o = a
  · subst e; exact he
  · rw [gy_ce_congr (w := w) (by rw [hn.1]) (hm o e)]
    exact g3.kept (oq _ (by show S0 + (o - 1) ≠ S0 + (a - 1); omega))
/-- cells were made -/
theorem gy_H_push {H H' : Heap} (hH : gy_H S0 b D cA ad opq w H) {n : Nat} (hn : w'.2.2.1 = w.2.2.1 + n) (hm : ∀ o, o ≤ w.2.2.1 ∨ w.2.2.1 + n < o → w'.1 o = w.1 o ∧ w'.2.1 o = w.2.1 o)
    (he : ∀ j, j < n → va_at D gg_cl (S0 + (w.2.2.1 + j), gy_ce S0 b ad opq cA w' (w.2.2.1 + 1 + j)) H') (z : H'.size = H.size + n) (oq : ∀ q, q < H.size → H'[q]? = H[q]?) : gy_H S0 b D cA ad opq w' H' := by
  obtain ⟨hP, hz⟩ := hH
  refine ⟨fun o ho => ?_, by rw [z, hn]; omega⟩
  by_cases h1 : o ≤ w.2.2.1 ∨ w.2.2.1 + n < o
  · obtain ⟨m1, m2⟩ := hm o h1
    rw [m1] at ho
    obtain ⟨g1, g2, g3⟩ := hP o ho
    refine ⟨g1, by omega, ?_⟩
    rw [gy_ce_congr m1 m2]
    exact g3.kept (oq _ g3.lt)
  · obtain ⟨j, rfl⟩ : ∃ j, o = w.2.2.1 + 1 + j := ⟨o - (w.2.2.1 + 1), by omega⟩
    refine ⟨by omega, by omega, ?_⟩
    rw [show w.2.2.1 + 1 + j - 1 = w.2.2.1 + j by omega]
    exact he j (by omega)
end GMC
theorem gy_up_ne {f : gy_M} {a k o : Nat} {x : gg_V} (h : o ≠ a) : gy_up f a k x o = f o := by
  funext j
  unfold gy_up
  rw [if_neg (fun e => h e.1)]
theorem gin_ok {i : Int} {n : Nat} (h : gg_in i n = true) : vp_in (gg_i i) n := by
  unfold gg_in at h
  unfold vp_in
  exact of_decide_eq_true h
theorem gyget_ok {o ix : Nat} {st : List gg_V} {w : gy_W} {f : List gg_V → Option gy_O} {x : gy_O} (h : gy_get o ix st w f = some x) :
    (∃ (a : Nat) (r : List gg_V) (ci k t : Nat), st = (2, Int.ofNat a) :: r ∧ (gg_lf o ix = some (ci, k, t) ∨ gy_lf o ix = some (ci, k, t)) ∧ w.1 a = (0, 0, ci) ∧ f (w.2.1 a k :: r) = some x) ∨
    (∃ (i : Nat) (r : List gg_V), st = (4, Int.ofNat i) :: r ∧ (o = 9 ∧ i < 7) ∧ ((ix = 9 ∧ f ((8, Int.ofNat i) :: r) = some x) ∨ (ix = 15 ∧ f ((0, 0) :: r) = some x))) ∨
    (∃ (y : Int) (r : List gg_V), st = (6, y) :: r ∧ (o = 12 ∧ ix = 205 ∧ -128 ≤ y ∧ y ≤ 127) ∧ f ((0, y) :: r) = some x) := by
  unfold gy_get at h
  split at h
  · rename_i a r
    split at h
    · rename_i ci k t hl
      obtain ⟨h1, h2⟩ := gif_ok h
      exact Or.inl ⟨a, r, ci, k, t, rfl, Or.inl hl, h1, h2⟩
    · split at h
      · rename_i ci k t hl
        obtain ⟨h1, h2⟩ := gif_ok h
        exact Or.inl ⟨a, r, ci, k, t, rfl, Or.inr hl, h1, h2⟩
      · cases h
  · rename_i i r
    obtain ⟨h1, h2⟩ := gif_ok h
    refine Or.inr (Or.inl ⟨i, r, rfl, h1, ?_⟩)
    split at h2
    · exact Or.inl ⟨by assumption, h2⟩
    · split at h2
      · exact Or.inr ⟨by assumption, h2⟩
      · cases h2
  · rename_i y r
    obtain ⟨h1, h2⟩ := gif_ok h
    exact Or.inr (Or.inr ⟨y, r, rfl, h1, h2⟩)
  · cases h
theorem gyput_ok {o kd ix : Nat} {st : List gg_V} {w : gy_W} {f : List gg_V → gy_W → Option gy_O} {x : gy_O} (h : gy_put o kd ix st w f = some x) :
    ∃ (v : gg_V) (a : Nat) (r : List gg_V) (ci k t : Nat), st = v :: (2, Int.ofNat a) :: r ∧ w.1 a = (0, 0, ci) ∧ ((gg_lf o ix = some (ci, k, t) ∧ gy_fit t v kd o ci = true) ∨ (gy_lf o ix = some (ci, k, t) ∧ t = 1 ∧ v.1 = 0)) ∧ f r (w.1, gy_up w.2.1 a k v, w.2.2) = some x := by
  unfold gy_put at h
  split at h
  · rename_i v a r
    split at h
    · rename_i ci k t hl
      obtain ⟨h1, h2⟩ := gif_ok h
      exact ⟨v, a, r, ci, k, t, rfl, h1.1, Or.inl ⟨hl, h1.2⟩, h2⟩
    · split at h
      · rename_i ci k t hl
        obtain ⟨h1, h2⟩ := gif_ok h
        exact ⟨v, a, r, ci, k, t, rfl, h1.1, Or.inr ⟨hl, h1.2⟩, h2⟩
      · cases h
  · cases h
theorem gy_fl_len {S0 b : Nat} {ad : Nat → Int → Nat} {opq : Value} {c : Nat} {w : gy_W} {o : Nat} : (gy_fl S0 b ad opq c w o).length = gg_nf c := by simp [gy_fl]
theorem gy_fl_get {S0 b : Nat} {ad : Nat → Int → Nat} {opq : Value} {c : Nat} {w : gy_W} {o k : Nat} (h : k < gg_nf c) : (gy_fl S0 b ad opq c w o)[k]? = some (yv S0 b ad opq (w.2.1 o k)) := by
  unfold gy_fl
  rw [List.getElem?_map, List.getElem?_range h]
  rfl
/-- a field was written -/
theorem gy_fl_set {S0 b : Nat} {ad : Nat → Int → Nat} {opq : Value} {c : Nat} {w : gy_W} {o k : Nat} {v : gg_V} (hk : k < gg_nf c) :
    (gy_fl S0 b ad opq c w o).set k (yv S0 b ad opq v) = gy_fl S0 b ad opq c (w.1, gy_up w.2.1 o k v, w.2.2) o := by
  apply List.ext_getElem?
  intro i
  by_cases hi : i = k
  · subst hi
    rw [List.getElem?_set_self (by rw [gy_fl_len]; exact hk), gy_fl_get hk]
    show _ = some (yv S0 b ad opq (gy_up w.2.1 o i v o i))
    unfold gy_up
    rw [if_pos ⟨rfl, rfl⟩]
  · rw [List.getElem?_set_ne (Ne.symm hi)]
    by_cases hl : i < gg_nf c
    · rw [gy_fl_get hl, gy_fl_get hl]
      show _ = some (yv S0 b ad opq (gy_up w.2.1 o k v o i))
      unfold gy_up
      rw [if_neg (fun z => hi z.2)]
    · rw [List.getElem?_eq_none (by rw [gy_fl_len]; omega), List.getElem?_eq_none (by rw [gy_fl_len]; omega)]
theorem gy_lf_in {o i c k t : Nat} (h : gy_lf o i = some (c, k, t)) : (o, i, c, k, t) ∈ [(16, 28, 15, 2, 2), (16, 17, 15, 0, 1), (15, 63, 15, 0, 1)] := by
  unfold gy_lf at h
  cases hf : gy_lfs.find? (fun e => e.1 == o && e.2.1 == i) with
  | none => rw [hf] at h; cases h
  | some e =>
    rw [hf] at h
    have h1 := List.find?_some hf
    have h2 := List.mem_of_find?_eq_some hf
    obtain ⟨o', i', c', k', t', pos⟩ := e
    simp only [Bool.and_eq_true, beq_iff_eq] at h1
    obtain ⟨rfl, rfl⟩ := h1
    cases h
    have h3 : gy_lfs = [(16, 28, 15, 2, 2, 486), (16, 17, 15, 0, 1, 489), (15, 63, 15, 0, 1, 491)] := rfl
    rw [h3] at h2
    simp only [List.mem_cons, List.not_mem_nil, or_false, Prod.mk.injEq] at h2 ⊢
    omega
