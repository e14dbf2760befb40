/-! rules: the interpreter comes to Q from here if and only if it does from there -/
section WR
variable {N : Nat} {xs : Nat → Int32} {d k pc : Nat} {L st : List gg_V} {w : gg_W} {Q : gg_O → Prop}
theorem wp_eq {i : Instr} {n pc' k' d' : Nat} {L' st' : List gg_V} {w' : gg_W} (hd : gg_dt k pc = some (i, n)) (e : ∀ f, gg_step (gg_ex N xs f) N xs d k pc L st w i n = gg_ex N xs f d' k' pc' L' st' w') : wp N xs d k pc L st w Q ↔ wp N xs d' k' pc' L' st' w' Q := by
  rw [wp_of hd]
  unfold wp
  simp only [e]
theorem wp_end {i : Instr} {n : Nat} {o : gg_O} (hd : gg_dt k pc = some (i, n)) (e : ∀ f, gg_step (gg_ex N xs f) N xs d k pc L st w i n = some o) : wp N xs d k pc L st w Q ↔ Q o := by
  rw [wp_of hd]
  constructor
  · rintro ⟨f, o', h, hq⟩
    rw [e] at h
    cases h
    exact hq
  · intro hq
    exact ⟨0, o, e 0, hq⟩
/-- a branch -/
theorem wp_br {i : Instr} {n a b : Nat} {c : Prop} [Decidable c] {L' st' : List gg_V} (hd : gg_dt k pc = some (i, n)) (e : ∀ f, gg_step (gg_ex N xs f) N xs d k pc L st w i n = if c then gg_ex N xs f d k a L' st' w else gg_ex N xs f d k b L' st' w) : wp N xs d k pc L st w Q ↔ if c then wp N xs d k a L' st' w Q else wp N xs d k b L' st' w Q := by
  rw [wp_of hd]
  by_cases hc : c
  · simp only [e, if_pos hc]
    rfl
  · simp only [e, if_neg hc]
    rfl
/-- two runs from one place come to one end -/
theorem wp_det {o : gg_O} (h : wp N xs d k pc L st w (fun x => x = o)) : wp N xs d k pc L st w Q ↔ Q o := by
  obtain ⟨f1, o1, h1, rfl⟩ := h
  constructor
  · rintro ⟨f2, o2, h2, hq⟩
    have e1 := gg_ex_le N xs (Nat.le_max_left f1 f2) _ _ _ _ _ _ _ h1
    have e2 := gg_ex_le N xs (Nat.le_max_right f1 f2) _ _ _ _ _ _ _ h2
    rw [e1] at e2
    cases e2
    exact hq
  · intro hq
    exact ⟨f1, o1, h1, hq⟩
/-- behind a call -/
def wa (N : Nat) (xs : Nat → Int32) (d k pc : Nat) (L r : List gg_V) (Q : gg_O → Prop) (o1 : gg_O) : Prop := ∃ f o, gg_aft (gg_ex N xs f) d k pc L r (some o1) = some o ∧ Q o
theorem wa_0 {v : gg_V} {r : List gg_V} {w' : gg_W} : wa N xs d k pc L r Q ((0, v), w') ↔ wp N xs d k (pc + 3) L r w' Q := Iff.rfl
theorem wa_1 {v : gg_V} {r : List gg_V} {w' : gg_W} : wa N xs d k pc L r Q ((1, v), w') ↔ wp N xs d k (pc + 3) L (v :: r) w' Q := Iff.rfl
theorem wa_x {v : gg_V} {r : List gg_V} {w' : gg_W} {t : Nat} (hk : gg_hd k = []) : wa N xs d k pc L r Q ((t + 2, v), w') ↔ Q ((t + 2, (3, 0)), w') := by
  unfold wa
  have e : ∀ f, gg_aft (gg_ex N xs f) d k pc L r (some ((t + 2, v), w')) = some ((t + 2, (3, 0)), w') := by
    intro f
    show (if gg_hd k = [] then some ((t + 2, ((3 : Nat), (0 : Int))), w') else _) = _
    rw [if_pos hk]
  simp only [e]
  constructor
  · rintro ⟨f, o, h, hq⟩
    cases h
    exact hq
  · intro hq
    exact ⟨0, _, rfl, hq⟩
theorem wp_call {i : Instr} {n y ci kd ml rk : Nat} {tg : List Nat} (hd : gg_dt k pc = some (i, n)) (e : ∀ f, gg_step (gg_ex N xs f) N xs (d + 1) k pc L st w i n = gg_call (gg_ex N xs f) (d + 1) k pc L st w y) (hm : gg_mt y = (ci, kd, ml, tg, rk))
    (hc : (st.take tg.length).reverse.map gg_tg = tg ∧ tg.length ≤ st.length ∧ ((st.drop tg.length).map gg_cat).sum ≤ 8 ∧ (kd = 1 ∨ gg_rcv (st.take tg.length).reverse ci w.2.2.1 = true)) {vs r L' : List gg_V} (hv : (st.take tg.length).reverse = vs) (hr : st.drop tg.length = r) (hL : gg_en ml vs = L') :
    wp N xs (d + 1) k pc L st w Q ↔ wp N xs d y 0 L' [] w (wa N xs (d + 1) k pc L r Q) := by
  subst hv; subst hr; subst hL
  have e2 : ∀ f, gg_call (gg_ex N xs f) (d + 1) k pc L st w y = gg_aft (gg_ex N xs f) (d + 1) k pc L (st.drop tg.length) (gg_ex N xs f d y 0 (gg_en ml (st.take tg.length).reverse) [] w) := by
    intro f
    unfold gg_call
    rw [hm]
    exact if_pos hc
  rw [wp_of hd]
  simp only [e, e2]
  constructor
  · rintro ⟨f, o, h, hq⟩
    cases ho : gg_ex N xs f d y 0 (gg_en ml (st.take tg.length).reverse) [] w with
    | none => rw [ho] at h; cases h
    | some o1 =>
      rw [ho] at h
      exact ⟨f, o1, ho, f, o, h, hq⟩
  · rintro ⟨f1, o1, h1, f2, o, h2, hq⟩
    refine ⟨max f1 f2, o, ?_, hq⟩
    rw [gg_ex_le N xs (Nat.le_max_left f1 f2) _ _ _ _ _ _ _ h1]
    exact gaft_m (gg_ex_le N xs (Nat.le_max_right f1 f2)) h2
end WR
/-! whole numbers and the machine's -/
def io_r (x : Int) : Prop := -2147483648 ≤ x ∧ x < 2147483648
def io_R (x : Int) : Prop := -9223372036854775808 ≤ x ∧ x < 9223372036854775808
theorem io_r_i {x : Int} (h : io_r x) : (gg_i x).toInt = x := by
  unfold gg_i
  exact Int32.toInt_ofInt_of_le h.1 (by have := h.2; omega)
theorem io_R_l {x : Int} (h : io_R x) : (gg_l x).toInt = x := by
  unfold gg_l
  exact Int64.toInt_ofInt_of_le h.1 (by have := h.2; omega)
