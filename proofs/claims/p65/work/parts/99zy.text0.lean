/-! texts: rules by hand -/
theorem gl_l4 {w : gy_W} {i : Nat} (h : i < 7) : gy_cl (4, (i : Int)) w = some 9 := if_pos h
section TX
variable {N : Nat} {xs : Nat → Int32} {d k pc : Nat} {L st : List gg_V} {w : gy_W} {Q : gy_O → Prop}
theorem wl_getC {i : Nat} (hd : gg_dt k pc = some (.getfield 9, 3)) (hk : (gg_mt k).1 = 9) (hi : i < 7) : wy N xs d k pc L ((4, (i : Int)) :: st) w Q ↔ wy N xs d k (pc + 3) L ((8, (i : Int)) :: st) w Q := by
  refine wy_eq hd fun f => ?_
  show gg_q 3 3 (gy_get (gg_mt k).1 9 ((4, Int.ofNat i) :: st) w fun s => gy_ex N xs f d k (pc + 3) L s w) = _
  unfold gg_q
  rw [if_pos rfl, hk]
  exact (if_pos (show 9 = 9 ∧ i < 7 from ⟨rfl, hi⟩)).trans (if_pos rfl)
theorem wl_getC2 {i : Nat} (hd : gg_dt k pc = some (.getfield 15, 3)) (hk : (gg_mt k).1 = 9) (hi : i < 7) : wy N xs d k pc L ((4, (i : Int)) :: st) w Q ↔ wy N xs d k (pc + 3) L ((0, 0) :: st) w Q := by
  refine wy_eq hd fun f => ?_
  show gg_q 3 3 (gy_get (gg_mt k).1 15 ((4, Int.ofNat i) :: st) w fun s => gy_ex N xs f d k (pc + 3) L s w) = _
  unfold gg_q
  rw [if_pos rfl, hk]
  exact (if_pos (show 9 = 9 ∧ i < 7 from ⟨rfl, hi⟩)).trans ((if_neg (by decide)).trans (if_pos rfl))
theorem wl_lenC {i : Nat} (hd : gg_dt k pc = some (.arraylength, 1)) (hi : i < 7) : wy N xs d k pc L ((8, (i : Int)) :: st) w Q ↔ wy N xs d k (pc + 1) L ((0, ((gg_tx i).length : Int)) :: st) w Q := by
  refine wy_eq hd fun f => ?_
  show gg_q 1 1 (if i < 7 then gy_ex N xs f d k (pc + 1) L ((0, ((gg_tx i).length : Int)) :: st) w else none) = _
  unfold gg_q
  rw [if_pos rfl, if_pos hi]
/-- arraycopy of bytes -/
theorem wl_cpyB {ix b1 a b n m sp dp z c c2 : Nat} (hd : gg_dt k pc = some (.invokestatic ix, 3)) (hl : gg_lm (gg_mt k).1 ix = some (1002, b1)) (ha : w.1 a = (3, n, c)) (hb : w.1 b = (3, m, c2)) (hel : ∀ j, j < z → io_i2b (w.2.1 a (sp + j)).2 = (w.2.1 a (sp + j)).2) (h1 : sp + z ≤ n) (h2 : dp + z ≤ m) (hn : n ≤ 100000) (hm : m ≤ 100000) (hst : (st.map gg_cat).sum ≤ 8) :
    wy N xs d k pc L ((0, (z : Int)) :: (0, (dp : Int)) :: gr b :: (0, (sp : Int)) :: gr a :: st) w Q ↔ wy N xs d k (pc + 3) L st (w.1, gy_cpy w.2.1 a sp b dp z, w.2.2) Q := by
  refine wy_eq hd fun f => ?_
  show gg_q 3 3 (match gg_lm (gg_mt k).1 ix with
      | some (y, _) => _
      | none => none) = _
  rw [hl]
  unfold gg_q
  rw [if_pos rfl]
  have e1 : gg_k (z : Int) = z := gk_nat (by omega)
  have e2 : gg_k (dp : Int) = dp := gk_nat (by omega)
  have e3 : gg_k (sp : Int) = sp := gk_nat (by omega)
  have hc : ((w.1 a).1 = 1 ∧ (w.1 b).1 = 1 ∨ ((w.1 a).1 = 3 ∧ (w.1 b).1 = 3 ∧ ∀ j, j < gg_k (z : Int) → io_i2b (w.2.1 a (gg_k (sp : Int) + j)).2 = (w.2.1 a (gg_k (sp : Int) + j)).2) ∨ ((w.1 a).1 = 5 ∧ (w.1 b).1 = 5 ∧ (w.1 a).2.2 = 24 ∧ (w.1 b).2.2 = 24 ∧ ∀ j, j < gg_k (z : Int) → gy_el (w.2.1 a (gg_k (sp : Int) + j)) w 24 = true)) ∧
        ¬ gg_i (sp : Int) < 0 ∧ ¬ gg_i (dp : Int) < 0 ∧ ¬ gg_i (z : Int) < 0 ∧ gg_k (sp : Int) + gg_k (z : Int) ≤ (w.1 a).2.1 ∧ gg_k (dp : Int) + gg_k (z : Int) ≤ (w.1 b).2.1 ∧ (st.map gg_cat).sum ≤ 8 := by
    rw [e1, e2, e3, ha, hb]
    exact ⟨Or.inr (Or.inl ⟨rfl, rfl, hel⟩), gl_n0 (by omega) (by omega), gl_n0 (by omega) (by omega), gl_n0 (by omega) (by omega), h1, h2, hst⟩
  refine (if_pos hc).trans ?_
  rw [e1, e2, e3]
/-- arraycopy out of a constant text -/
def yCpC (m : gy_M) (s sp b dp z : Nat) : gy_M := fun o' k' => if o' = b ∧ dp ≤ k' ∧ k' < dp + z then (0, (gg_tx s).getD (sp + (k' - dp)) 0) else m o' k'
theorem wl_cpyC {ix b1 s b m sp dp z c2 : Nat} (hd : gg_dt k pc = some (.invokestatic ix, 3)) (hl : gg_lm (gg_mt k).1 ix = some (1002, b1)) (hb : w.1 b = (3, m, c2)) (hs : s < 7) (h1 : sp + z ≤ (gg_tx s).length) (hlen : (gg_tx s).length ≤ 100) (h2 : dp + z ≤ m) (hm : m ≤ 100000) (hst : (st.map gg_cat).sum ≤ 8) :
    wy N xs d k pc L ((0, (z : Int)) :: (0, (dp : Int)) :: gr b :: (0, (sp : Int)) :: (8, (s : Int)) :: st) w Q ↔ wy N xs d k (pc + 3) L st (w.1, yCpC w.2.1 s sp b dp z, w.2.2) Q := by
  refine wy_eq hd fun f => ?_
  show gg_q 3 3 (match gg_lm (gg_mt k).1 ix with
      | some (y, _) => _
      | none => none) = _
  rw [hl]
  unfold gg_q
  rw [if_pos rfl]
  have e1 : gg_k (z : Int) = z := gk_nat (by omega)
  have e2 : gg_k (dp : Int) = dp := gk_nat (by omega)
  have e3 : gg_k (sp : Int) = sp := gk_nat (by omega)
  have hc : (w.1 b).1 = 3 ∧ s < 7 ∧ ¬ gg_i (sp : Int) < 0 ∧ ¬ gg_i (dp : Int) < 0 ∧ ¬ gg_i (z : Int) < 0 ∧ gg_k (sp : Int) + gg_k (z : Int) ≤ (gg_tx s).length ∧ gg_k (dp : Int) + gg_k (z : Int) ≤ (w.1 b).2.1 ∧ (st.map gg_cat).sum ≤ 8 := by
    rw [e1, e2, e3, hb]
    exact ⟨rfl, hs, gl_n0 (by omega) (by omega), gl_n0 (by omega) (by omega), gl_n0 (by omega) (by omega), h1, h2, hst⟩
  refine (if_pos hc).trans ?_
  rw [e1, e2, e3]
  rfl
/-- clone of a byte[] -/
theorem wl_clnB {ix b1 a n c : Nat} (hd : gg_dt k pc = some (.invokevirtual ix, 3)) (hl : gg_lm (gg_mt k).1 ix = some (1005, b1)) (ha : w.1 a = (3, n, c)) (hel : ∀ j, j < n → io_i2b (w.2.1 a j).2 = (w.2.1 a j).2) (hst : (st.map gg_cat).sum ≤ 8) : wy N xs d k pc L (gr a :: st) w Q ↔ wy N xs d k (pc + 3) L (gr (w.2.2.1 + 1) :: st) (gy_mk w (3, n, 0) (w.2.1 a) n) Q := by
  refine wy_eq hd fun f => ?_
  show gg_q 3 3 (match gg_lm (gg_mt k).1 ix with
      | some (y, _) => _
      | none => none) = _
  rw [hl]
  unfold gg_q
  rw [if_pos rfl]
  have hc : (w.1 a).1 = 3 ∧ (st.map gg_cat).sum ≤ 8 ∧ (3 = 3 → ∀ j, j < (w.1 a).2.1 → io_i2b (w.2.1 a j).2 = (w.2.1 a j).2) := by
    rw [ha]
    exact ⟨rfl, hst, fun _ => hel⟩
  refine (if_pos hc).trans ?_
  rw [ha]
  rfl
/-- the digits' tables -/
theorem wl_dig {i : Nat} {z : Int} (hd : gg_dt k pc = some (.baload, 1)) (hz : z = 2 ∨ z = 3) (hi : i < 100) : wy N xs d k pc L ((0, (i : Int)) :: (7, z) :: st) w Q ↔ wy N xs d k (pc + 1) L ((0, gy_dg z i) :: st) w Q := by
  refine wy_eq hd fun f => ?_
  have e1 : gg_k (i : Int) = i := gk_nat (by omega)
  have hc : 3 = 3 ∧ (z = 2 ∨ z = 3) ∧ gg_in (i : Int) 100 = true := ⟨rfl, hz, io_in_r ⟨by omega, by omega⟩ (by omega) (by omega)⟩
  show gg_q 1 1 (if 3 = 3 ∧ (z = 2 ∨ z = 3) ∧ gg_in (i : Int) 100 = true then gy_ex N xs f d k (pc + 1) L ((0, gy_dg z (gg_k (i : Int))) :: st) w else none) = _
  unfold gg_q
  rw [if_pos rfl, if_pos hc, e1]
theorem wl_lst {j : Nat} {v : Int} {L' : List gg_V} (hd : gg_dt k pc = some (.lstore j, 2)) (e : gg_s2 L j (1, v) = L') (hj : j + 1 < L.length) : wy N xs d k pc L ((1, v) :: st) w Q ↔ wy N xs d k (pc + 2) L' st w Q := by
  subst e
  exact wy_eq hd fun f => if_pos hj
end TX
