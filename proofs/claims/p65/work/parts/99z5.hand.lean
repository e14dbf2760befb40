/-! rules by hand: what the printed ones leave out -/
theorem gl_gr {a : Nat} : gy_ra (gr a) = true := rfl
theorem gl_rg {a : Nat} : gy_rr (gr a) = true := rfl
theorem gl_r7 {z : Int} : gy_ra ((7, z) : gg_V) = true := rfl
theorem gl_r6 {z : Int} : gy_ra ((6, z) : gg_V) = true := rfl
theorem gl_s6 {z : Int} : gy_rr ((6, z) : gg_V) = true := rfl
theorem io_add_rg (a b : Int) : -2147483648 ≤ io_add a b ∧ io_add a b ≤ 2147483647 := by
  unfold io_add
  have h1 := Int32.minValue_le_toInt (gg_i a + gg_i b)
  have h2 := Int32.toInt_le (gg_i a + gg_i b)
  have e1 : Int32.minValue.toInt = -2147483648 := rfl
  have e2 : Int32.maxValue.toInt = 2147483647 := rfl
  omega
section WLH
variable {N : Nat} {xs : Nat → Int32} {d k pc : Nat} {L st : List gg_V} {w : gy_W} {Q : gy_O → Prop}
theorem gk_nat {z : Nat} (h : z ≤ 2147483647) : gg_k (z : Int) = z := (gk_z (n := 0) (by omega) (by omega)).trans (Int.toNat_natCast z)
/-- System.arraycopy of references -/
theorem wl_cpy {ix b1 a b n m sp dp z : Nat} (hd : gg_dt k pc = some (.invokestatic ix, 3)) (hl : gg_lm (gg_mt k).1 ix = some (1002, b1)) (ha : w.1 a = (5, n, 24)) (hb : w.1 b = (5, m, 24)) (hel : ∀ j, j < z → gy_el (w.2.1 a (sp + j)) w 24 = true) (h1 : sp + z ≤ n) (h2 : dp + z ≤ m) (hn : n ≤ 100000) (hm : m ≤ 100000) (hst : (st.map gg_cat).sum ≤ 8) :
    wy N xs d k pc L ((0, (z : Int)) :: (0, (dp : Int)) :: gr b :: (0, (sp : Int)) :: gr a :: st) w Q ↔ wy N xs d k (pc + 3) L st (w.1, gy_cpy w.2.1 a sp b dp z, w.2.2) Q := by
  refine wy_eq hd fun f => ?_
  show gg_q 3 3 (match gg_lm (gg_mt k).1 ix with
      | some (y, _) => _
      | none => none) = _
  rw [hl]
  unfold gg_q
  rw [if_pos rfl]
  have e1 : gg_k (z : Int) = z := gk_nat (by omega)
  have e2 : gg_k (dp : Int) = dp := gk_nat (by omega)
  have e3 : gg_k (sp : Int) = sp := gk_nat (by omega)
  have hc : ((w.1 a).1 = 1 ∧ (w.1 b).1 = 1 ∨ ((w.1 a).1 = 3 ∧ (w.1 b).1 = 3 ∧ ∀ j, j < gg_k (z : Int) → io_i2b (w.2.1 a (gg_k (sp : Int) + j)).2 = (w.2.1 a (gg_k (sp : Int) + j)).2) ∨ ((w.1 a).1 = 5 ∧ (w.1 b).1 = 5 ∧ (w.1 a).2.2 = 24 ∧ (w.1 b).2.2 = 24 ∧ ∀ j, j < gg_k (z : Int) → gy_el (w.2.1 a (gg_k (sp : Int) + j)) w 24 = true)) ∧
        ¬ gg_i (sp : Int) < 0 ∧ ¬ gg_i (dp : Int) < 0 ∧ ¬ gg_i (z : Int) < 0 ∧ gg_k (sp : Int) + gg_k (z : Int) ≤ (w.1 a).2.1 ∧ gg_k (dp : Int) + gg_k (z : Int) ≤ (w.1 b).2.1 ∧ (st.map gg_cat).sum ≤ 8 := by
    rw [e1, e2, e3, ha, hb]
    exact ⟨Or.inr (Or.inr ⟨rfl, rfl, rfl, rfl, hel⟩), gl_n0 (by omega) (by omega), gl_n0 (by omega) (by omega), gl_n0 (by omega) (by omega), h1, h2, hst⟩
  refine (if_pos hc).trans ?_
  rw [e1, e2, e3]
/-- getClass of a row of Object -/
theorem wl_gcl {ix b1 a n : Nat} (hd : gg_dt k pc = some (.invokevirtual ix, 3)) (hl : gg_lm (gg_mt k).1 ix = some (1006, b1)) (ha : w.1 a = (5, n, 24)) (hst : (st.map gg_cat).sum ≤ 8) : wy N xs d k pc L (gr a :: st) w Q ↔ wy N xs d k (pc + 3) L ((7, 5) :: st) w Q := by
  refine wy_eq hd fun f => ?_
  show gg_q 3 3 (match gg_lm (gg_mt k).1 ix with
      | some (y, _) => _
      | none => none) = _
  rw [hl]
  unfold gg_q
  rw [if_pos rfl]
  have hc : (w.1 a).1 = 5 ∧ (w.1 a).2.2 = 24 ∧ (st.map gg_cat).sum ≤ 8 := by
    rw [ha]
    exact ⟨rfl, rfl, hst⟩
  exact if_pos hc
/-- clone of an int[] -/
theorem wl_cln {ix b1 a n c : Nat} (hd : gg_dt k pc = some (.invokevirtual ix, 3)) (hl : gg_lm (gg_mt k).1 ix = some (1004, b1)) (ha : w.1 a = (1, n, c)) (hst : (st.map gg_cat).sum ≤ 8) : wy N xs d k pc L (gr a :: st) w Q ↔ wy N xs d k (pc + 3) L (gr (w.2.2.1 + 1) :: st) (gy_mk w (1, n, 0) (w.2.1 a) n) Q := by
  refine wy_eq hd fun f => ?_
  show gg_q 3 3 (match gg_lm (gg_mt k).1 ix with
      | some (y, _) => _
      | none => none) = _
  rw [hl]
  unfold gg_q
  rw [if_pos rfl]
  have hc : (w.1 a).1 = 1 ∧ (st.map gg_cat).sum ≤ 8 ∧ (1 = 3 → ∀ j, j < (w.1 a).2.1 → io_i2b (w.2.1 a j).2 = (w.2.1 a j).2) := by
    rw [ha]
    exact ⟨rfl, hst, fun h => absurd h (by decide)⟩
  refine (if_pos hc).trans ?_
  rw [ha]
  rfl
theorem ly_384_17 : wy N xs d 384 17 L ((7, 1) :: (7, 1) :: st) w Q ↔ wy N xs d 384 45 L st w Q := wy_eq (show gg_dt 384 17 = some (.if_acmp .eq 28, 3) by decide +kernel) (fun _ => rfl)
theorem ly_414_3 : wy N xs d 414 3 L ((7, 5) :: (7, 5) :: st) w Q ↔ wy N xs d 414 6 L st w Q := wy_eq (show gg_dt 414 3 = some (.if_acmp .ne 10, 3) by decide +kernel) (fun _ => rfl)
theorem ly_384_4E : wy N xs d 384 4 L ((7, 1) :: st) w Q ↔ wy N xs d 384 5 L ((0, 0) :: st) w Q := wy_eq (show gg_dt 384 4 = some (.arraylength, 1) by decide +kernel) (fun _ => rfl)
theorem ly_378_2E : wy N xs d 378 2 L ((7, 1) :: st) w Q ↔ wy N xs d 378 3 L ((0, 0) :: st) w Q := wy_eq (show gg_dt 378 2 = some (.arraylength, 1) by decide +kernel) (fun _ => rfl)
theorem ly_379_34E : wy N xs d 379 34 L ((7, 1) :: st) w Q ↔ wy N xs d 379 35 L ((0, 0) :: st) w Q := wy_eq (show gg_dt 379 34 = some (.arraylength, 1) by decide +kernel) (fun _ => rfl)
theorem ly_413_3 {a n u : Nat} {z : Int} (ha : w.1 a = (5, n, 24)) : wy N xs d 413 3 L [gr a, (0, z), gr u] w Q ↔ wy N xs d 413 6 L [(7, 5), (0, z), gr u] w Q := wl_gcl (show gg_dt 413 3 = some (.invokevirtual 86, 3) by decide +kernel) (show gg_lm (gg_mt 413).1 86 = some (1006, 0) by decide +kernel) ha (Nat.le_of_ble_eq_true rfl)
theorem ly_414_35 {a b n m z : Nat} (ha : w.1 a = (5, n, 24)) (hb : w.1 b = (5, m, 24)) (hel : ∀ j, j < z → gy_el (w.2.1 a (0 + j)) w 24 = true) (h1 : z ≤ n) (h2 : z ≤ m) (hn : n ≤ 100000) (hm : m ≤ 100000) : wy N xs d 414 35 L [(0, (z : Int)), (0, 0), gr b, (0, 0), gr a] w Q ↔ wy N xs d 414 38 L [] (w.1, gy_cpy w.2.1 a 0 b 0 z, w.2.2) Q := wl_cpy (sp := 0) (dp := 0) (show gg_dt 414 35 = some (.invokestatic 150, 3) by decide +kernel) (show gg_lm (gg_mt 414).1 150 = some (1002, 0) by decide +kernel) ha hb hel (by omega) (by omega) hn hm (Nat.le_of_ble_eq_true rfl)
theorem ly_379_63 {a b n m z dp : Nat} (ha : w.1 a = (5, n, 24)) (hb : w.1 b = (5, m, 24)) (hel : ∀ j, j < z → gy_el (w.2.1 a (0 + j)) w 24 = true) (h1 : z ≤ n) (h2 : dp + z ≤ m) (hn : n ≤ 100000) (hm : m ≤ 100000) : wy N xs d 379 63 L [(0, (z : Int)), (0, (dp : Int)), gr b, (0, 0), gr a] w Q ↔ wy N xs d 379 66 L [] (w.1, gy_cpy w.2.1 a 0 b dp z, w.2.2) Q := wl_cpy (sp := 0) (show gg_dt 379 63 = some (.invokestatic 112, 3) by decide +kernel) (show gg_lm (gg_mt 379).1 112 = some (1002, 0) by decide +kernel) ha hb hel (by omega) h2 hn hm (Nat.le_of_ble_eq_true rfl)
theorem ly_381_31 {a b n m z sp dp : Nat} (ha : w.1 a = (5, n, 24)) (hb : w.1 b = (5, m, 24)) (hel : ∀ j, j < z → gy_el (w.2.1 a (sp + j)) w 24 = true) (h1 : sp + z ≤ n) (h2 : dp + z ≤ m) (hn : n ≤ 100000) (hm : m ≤ 100000) : wy N xs d 381 31 L [(0, (z : Int)), (0, (dp : Int)), gr b, (0, (sp : Int)), gr a] w Q ↔ wy N xs d 381 34 L [] (w.1, gy_cpy w.2.1 a sp b dp z, w.2.2) Q := wl_cpy (show gg_dt 381 31 = some (.invokestatic 112, 3) by decide +kernel) (show gg_lm (gg_mt 381).1 112 = some (1002, 0) by decide +kernel) ha hb hel h1 h2 hn hm (Nat.le_of_ble_eq_true rfl)
end WLH
/-! what a run leaves as it was: at most c cells and s slots more; what stood there keeps its shape; only where P allows it the values have changed -/
def yF (P : Nat → Prop) (c s : Nat) (w w' : gy_W) : Prop := w.2.2.1 ≤ w'.2.2.1 ∧ w'.2.2.1 ≤ w.2.2.1 + c ∧ w'.2.2.2 ≤ w.2.2.2 + s ∧ ∀ x, x ≤ w.2.2.1 → w'.1 x = w.1 x ∧ (¬ P x → w'.2.1 x = w.2.1 x)
section YF
variable {P P' : Nat → Prop} {c s c' s' : Nat} {w w' w2 : gy_W}
theorem yF.rf : yF P 0 0 w w := ⟨Nat.le_refl _, Nat.le_refl _, Nat.le_refl _, fun x _ => ⟨rfl, fun _ => rfl⟩⟩
theorem yF.tr (h : yF P c s w w') (h2 : yF P' c' s' w' w2) (hP : ∀ x, x ≤ w.2.2.1 → P' x → P x) : yF P (c + c') (s + s') w w2 := by
  obtain ⟨a1, a2, a3, a4⟩ := h
  obtain ⟨b1, b2, b3, b4⟩ := h2
  exact ⟨by omega, by omega, by omega, fun x hx => ⟨((b4 x (by omega)).1).trans (a4 x hx).1, fun hn => ((b4 x (by omega)).2 fun z => hn (hP x hx z)).trans ((a4 x hx).2 hn)⟩⟩
theorem yF.wk (h : yF P c s w w') (hP : ∀ x, x ≤ w.2.2.1 → P x → P' x) (hc : c ≤ c') (hs : s ≤ s') : yF P' c' s' w w' := by
  obtain ⟨a1, a2, a3, a4⟩ := h
  exact ⟨a1, by omega, by omega, fun x hx => ⟨(a4 x hx).1, fun hn => (a4 x hx).2 fun z => hn (hP x hx z)⟩⟩
/-- the same allowed -/
theorem yF.tt (h : yF P c s w w') (h2 : yF P c' s' w' w2) : yF P (c + c') (s + s') w w2 := h.tr h2 fun _ _ z => z
theorem yF.le (h : yF P c s w w') : w.2.2.1 ≤ w'.2.2.1 := h.1
theorem yF.sh (h : yF P c s w w') {x : Nat} (hx : x ≤ w.2.2.1) : w'.1 x = w.1 x := (h.2.2.2 x hx).1
theorem yF.me (h : yF P c s w w') {x : Nat} (hx : x ≤ w.2.2.1) (hn : ¬ P x) : w'.2.1 x = w.2.1 x := (h.2.2.2 x hx).2 hn
theorem yF.up (h : yF P c s w w') {a k : Nat} {v : gg_V} (ha : a ≤ w.2.2.1 → P a) : yF P c s w (w'.1, gy_up w'.2.1 a k v, w'.2.2) := by
  obtain ⟨a1, a2, a3, a4⟩ := h
  refine ⟨a1, a2, a3, fun x hx => ⟨(a4 x hx).1, fun hn => ?_⟩⟩
  show gy_up w'.2.1 a k v x = _
  rw [gy_up_o (fun z => hn (by subst z; exact ha hx))]
  exact (a4 x hx).2 hn
theorem yF.cp (h : yF P c s w w') {a sp b dp z : Nat} (ha : b ≤ w.2.2.1 → P b) : yF P c s w (w'.1, gy_cpy w'.2.1 a sp b dp z, w'.2.2) := by
  obtain ⟨a1, a2, a3, a4⟩ := h
  refine ⟨a1, a2, a3, fun x hx => ⟨(a4 x hx).1, fun hn => ?_⟩⟩
  have hb : x ≠ b := fun z => hn (by subst z; exact ha hx)
  have e : gy_cpy w'.2.1 a sp b dp z x = w'.2.1 x := by
    funext j
    exact if_neg fun z => hb z.1
  exact e.trans ((a4 x hx).2 hn)
/-- the same, to be read off what is wanted -/
theorem yF.u {S : gy_S} {m : gy_M} {r : Nat × Nat} {a k : Nat} {v : gg_V} (h : yF P c s w (S, m, r)) (ha : a ≤ w.2.2.1 → P a) : yF P c s w (S, gy_up m a k v, r) := yF.up (w' := (S, m, r)) h ha
theorem yF.cq {S : gy_S} {m : gy_M} {r : Nat × Nat} {a sp b dp z : Nat} (h : yF P c s w (S, m, r)) (ha : b ≤ w.2.2.1 → P b) : yF P c s w (S, gy_cpy m a sp b dp z, r) := yF.cp (w' := (S, m, r)) h ha
theorem yF.mk (h : yF P c s w w') {x : Nat × Nat × Nat} {g : Nat → gg_V} {n : Nat} : yF P (c + 1) (s + n) w (gy_mk w' x g n) := by
  obtain ⟨a1, a2, a3, a4⟩ := h
  refine ⟨?_, ?_, ?_, fun y hy => ⟨?_, fun hn => ?_⟩⟩
  · show w.2.2.1 ≤ w'.2.2.1 + 1
    omega
  · show w'.2.2.1 + 1 ≤ _
    omega
  · show w'.2.2.2 + n ≤ _
    omega
  · rw [gy_mk_so (by omega)]
    exact (a4 y hy).1
  · rw [gy_mk_mo (by omega)]
    exact (a4 y hy).2 hn
end YF
theorem gy_cpy_at {m : gy_M} {a sp b dp z j : Nat} (h : j < z) : gy_cpy m a sp b dp z b (dp + j) = m a (sp + j) := by
  have h2 : b = b ∧ dp ≤ dp + j ∧ dp + j < dp + z := ⟨rfl, by omega, by omega⟩
  refine (if_pos h2).trans ?_
  rw [Nat.add_sub_cancel_left]
theorem gy_cpy_o {m : gy_M} {a sp b dp z x : Nat} (h : x ≠ b) : gy_cpy m a sp b dp z x = m x := by
  funext j
  exact if_neg fun z => h z.1
theorem gy_cpy_k {m : gy_M} {a sp b dp z j : Nat} (h : j < dp ∨ dp + z ≤ j) : gy_cpy m a sp b dp z b j = m b j := if_neg fun z => by omega
