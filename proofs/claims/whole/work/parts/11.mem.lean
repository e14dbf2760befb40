/-! the machine follows the interpreter: fields and arrays -/
section GMC
variable {S0 b : Nat} {adK adV : Nat → Nat} {opq : Value} {cA : Nat → ClassId} {w w' : gg_W} {o : Nat}
def gg_fl (S0 b : Nat) (adK adV : Nat → Nat) (opq : Value) (c : Nat) (w : gg_W) (o : Nat) : List Value := (List.range (gg_nf c)).map fun k => gv S0 b adK adV opq (gg_fv c w o k)
theorem gg_ce_obj {z c : Nat} (h : gg_sh o = (0, z, c)) : gg_ce S0 b adK adV opq cA w o = .inr (c, gg_fl S0 b adK adV opq c w o) := by
  unfold gg_ce
  rw [h]
  rfl
theorem gg_ce_num {kd : Nat} (h : (gg_sh o).1 = kd) (hk : kd = 1 ∨ kd = 2 ∨ kd = 3) : gg_ce S0 b adK adV opq cA w o = .inl (cA kd, (gg_sh o).2.1, .inl fun j => gg_i (w.2.1 o j)) := by
  unfold gg_ce
  generalize gg_sh o = t at h ⊢
  obtain ⟨x, y, z⟩ := t
  dsimp only at h
  subst h
  rcases hk with rfl | rfl | rfl <;> rfl
theorem gg_ce_long (h : (gg_sh o).1 = 4) : gg_ce S0 b adK adV opq cA w o = .inl (cA 4, (gg_sh o).2.1, .inr (.inl fun j => gg_l (w.2.1 o j))) := by
  unfold gg_ce
  generalize gg_sh o = t at h ⊢
  obtain ⟨x, y, z⟩ := t
  dsimp only at h
  subst h
  rfl
theorem gg_ce_ref (h : (gg_sh o).1 = 5) : gg_ce S0 b adK adV opq cA w o = .inl (cA (5 + (gg_sh o).2.2), (gg_sh o).2.1, .inr (.inr (.inr (.inr fun j => gg_ro S0 b (w.1 o j))))) := by
  unfold gg_ce
  generalize gg_sh o = t at h ⊢
  obtain ⟨x, y, z⟩ := t
  dsimp only at h
  subst h
  rfl
theorem gg_ce_congr (h1 : w'.1 o = w.1 o) (h2 : w'.2.1 o = w.2.1 o) : gg_ce S0 b adK adV opq cA w' o = gg_ce S0 b adK adV opq cA w o := by
  have e : ∀ c k, gg_fv c w' o k = gg_fv c w o k := by
    intro c k
    unfold gg_fv gg_rd
    rw [h1, h2]
  unfold gg_ce
  simp only [e, h1, h2]
theorem gg_rf_pos {a : Nat} (h : 1 ≤ a) : gg_rf S0 b (Int.ofNat a) = .ref (S0 + (a - 1)) := by
  cases a with
  | zero => omega
  | succ n => rfl
theorem gg_ro_pos {a : Nat} (h : 1 ≤ a) : gg_ro S0 b (Int.ofNat a) = some (S0 + (a - 1)) := by
  cases a with
  | zero => omega
  | succ n => rfl
variable {Lx : Nat} {xs : Nat → Int32} {D : va_G}
/-- one cell was written -/
theorem gg_H_set {a : Nat} {H H' : Heap} (hH : gg_H S0 b Lx xs D cA adK adV opq w H) (h1 : 1 ≤ a) (h2 : a < w.2.2.1) (hn : w'.2.2 = w.2.2) (hm : ∀ o, o ≠ a → w'.1 o = w.1 o ∧ w'.2.1 o = w.2.1 o)
    (he : va_at D gg_cl (S0 + (a - 1), gg_ce S0 b adK adV opq cA w' a) H') (z : H'.size = H.size) (oq : ∀ q, q ≠ S0 + (a - 1) → H'[q]? = H[q]?) : gg_H S0 b Lx xs D cA adK adV opq w' H' := by
  obtain ⟨hP, h3, h4, h5, h6⟩ := hH
  have hD : va_D (gg_A S0) (gg_ws S0 b adK adV opq cA w) := gg_ws_D S0 b adK adV opq cA (fun q h => h) w
  refine ⟨?_, by rw [hn]; exact h3, by rw [z]; exact h4, by rw [hn, z]; exact h5, ⟨rfl, rfl⟩⟩
  rw [← gg_ws_set S0 b adK adV opq cA (w := w) (by rw [hn]) h1 h2 (fun o ho => gg_ce_congr (hm o ho).1 (hm o ho).2)]
  exact hP.set hD (gg_ws_get S0 b adK adV opq cA h1 h2) he oq
theorem gg_H_at {a : Nat} {H : Heap} (hH : gg_H S0 b Lx xs D cA adK adV opq w H) (h1 : 1 ≤ a) (h2 : a < w.2.2.1) : va_at D gg_cl (S0 + (a - 1), gg_ce S0 b adK adV opq cA w a) H := hH.1 _ _ (gg_ws_get S0 b adK adV opq cA h1 h2)
end GMC
theorem gg_up_ne {f : gg_M} {a k o : Nat} {x : Int} (h : o ≠ a) : gg_up f a k x o = f o := by
  funext j
  unfold gg_up
  rw [if_neg (fun e => h e.1)]
theorem gin_ok {i : Int} {n : Nat} (h : gg_in i n = true) : vp_in (gg_i i) n := by
  unfold gg_in at h
  unfold vp_in
  exact of_decide_eq_true h
theorem gget_ok {o ix : Nat} {st : List gg_V} {w : gg_W} {f : List gg_V → Option gg_O} {x : gg_O} (h : gg_get o ix st w f = some x) :
    (∃ (a : Nat) (r : List gg_V) (ci k t : Nat), st = (2, Int.ofNat a) :: r ∧ gg_lf o ix = some (ci, k, t) ∧ (1 ≤ a ∧ a < w.2.2.1 ∧ gg_sh a = (0, 0, ci)) ∧ f (gg_rd t w a k :: r) = some x) ∨
    (∃ (i : Nat) (r : List gg_V), st = (4, Int.ofNat i) :: r ∧ (o = 9 ∧ i < 3) ∧ ((ix = 9 ∧ f ((8, Int.ofNat i) :: r) = some x) ∨ (ix = 15 ∧ f ((0, 0) :: r) = some x))) := by
  unfold gg_get at h
  split at h
  · rename_i a r
    split at h
    · rename_i ci k t hl
      obtain ⟨h1, h2⟩ := gif_ok h
      exact Or.inl ⟨a, r, ci, k, t, rfl, hl, h1, h2⟩
    · cases h
  · rename_i i r
    obtain ⟨h1, h2⟩ := gif_ok h
    refine Or.inr ⟨i, r, rfl, h1, ?_⟩
    split at h2
    · exact Or.inl ⟨by assumption, h2⟩
    · split at h2
      · exact Or.inr ⟨by assumption, h2⟩
      · cases h2
  · cases h
theorem gput_ok {o kd ix : Nat} {st : List gg_V} {w : gg_W} {f : List gg_V → gg_W → Option gg_O} {x : gg_O} (h : gg_put o kd ix st w f = some x) :
    ∃ (t' : Nat) (v : Int) (a : Nat) (r : List gg_V) (ci k t : Nat), st = (t', v) :: (2, Int.ofNat a) :: r ∧ gg_lf o ix = some (ci, k, t) ∧ (1 ≤ a ∧ a < w.2.2.1 ∧ gg_sh a = (0, 0, ci)) ∧
      ((((t = 0 ∧ t' = 0) ∨ (t = 1 ∧ t' = 0 ∧ (v = 0 ∨ v = 1))) ∧ f r (w.1, gg_up w.2.1 a k v, w.2.2) = some x) ∨ ((t = 2 ∧ t' = 2 ∧ kd = 2 ∧ o = ci ∧ 1 ≤ v) ∧ f r (gg_up w.1 a k v, w.2.1, w.2.2) = some x)) := by
  unfold gg_put at h
  split at h
  · rename_i t' v a r
    split at h
    · rename_i ci k t hl
      obtain ⟨h1, h2⟩ := gif_ok h
      refine ⟨t', v, a, r, ci, k, t, rfl, hl, h1, ?_⟩
      split at h2
      · exact Or.inl ⟨Or.inl (by assumption), h2⟩
      · split at h2
        · exact Or.inl ⟨Or.inr (by assumption), h2⟩
        · split at h2
          · exact Or.inr ⟨by assumption, h2⟩
          · cases h2
    · cases h
  · cases h
theorem gg_fl_len {S0 b : Nat} {adK adV : Nat → Nat} {opq : Value} {c : Nat} {w : gg_W} {o : Nat} : (gg_fl S0 b adK adV opq c w o).length = gg_nf c := by simp [gg_fl]
theorem gg_fl_get {S0 b : Nat} {adK adV : Nat → Nat} {opq : Value} {c : Nat} {w : gg_W} {o k : Nat} (h : k < gg_nf c) : (gg_fl S0 b adK adV opq c w o)[k]? = some (gv S0 b adK adV opq (gg_rd (gg_ft c k) w o k)) := by
  unfold gg_fl
  rw [List.getElem?_map, List.getElem?_range h]
  rfl
/-- a field was written -/
theorem gg_fl_set {S0 b : Nat} {adK adV : Nat → Nat} {opq : Value} {c : Nat} {w w' : gg_W} {o k : Nat} {v : Value} (hk : k < gg_nf c) (hv : gv S0 b adK adV opq (gg_rd (gg_ft c k) w' o k) = v) (hn : ∀ j, j ≠ k → w'.1 o j = w.1 o j ∧ w'.2.1 o j = w.2.1 o j) :
    (gg_fl S0 b adK adV opq c w o).set k v = gg_fl S0 b adK adV opq c w' o := by
  apply List.ext_getElem?
  intro i
  by_cases hi : i = k
  · subst hi
    rw [List.getElem?_set_self (by rw [gg_fl_len]; exact hk), gg_fl_get hk, hv]
  · rw [List.getElem?_set_ne (Ne.symm hi)]
    by_cases hl : i < gg_nf c
    · rw [gg_fl_get hl, gg_fl_get hl]
      unfold gg_rd
      rw [(hn i hi).1, (hn i hi).2]
    · rw [List.getElem?_eq_none (by rw [gg_fl_len]; omega), List.getElem?_eq_none (by rw [gg_fl_len]; omega)]
