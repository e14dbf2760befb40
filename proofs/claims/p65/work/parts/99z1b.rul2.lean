/-! more rules of the moving interpreter, for any method -/
theorem gl_n0 {n : Int} (h0 : 0 ≤ n) (h1 : n ≤ 2147483647) : ¬ gg_i n < 0 := by
  intro h
  rw [Int32.lt_iff_toInt_lt, io_r_i ⟨by omega, by omega⟩] at h
  have h2 : (0 : Int32).toInt = 0 := rfl
  omega
section WL2
variable {N : Nat} {xs : Nat → Int32} {d k pc : Nat} {L L' st : List gg_V} {w : gy_W} {Q : gy_O → Prop}
theorem wl_newa {t : ArrayType} {n : Int} (hd : gg_dt k pc = some (.newarray t, 2)) (h0 : 0 ≤ n) (h1 : n ≤ 10000) (hk : 1 ≤ gg_akd t ∧ gg_akd t ≤ 4) : wy N xs d k pc L ((0, n) :: st) w Q ↔ wy N xs d k (pc + 2) L (gr (w.2.2.1 + 1) :: st) (gy_mk w (gg_akd t, n.toNat, 0) (fun _ => gy_de (gg_akd t)) n.toNat) Q := by
  refine wy_eq hd fun f => ?_
  show gg_q 2 2 (if ¬ gg_i n < 0 ∧ gg_k n ≤ 10000 ∧ (1 ≤ gg_akd t ∧ gg_akd t ≤ 4 ∨ gg_akd t = 5 ∧ ((0 : Nat) = 0 ∨ (0 : Nat) = 2 ∨ (0 : Nat) = 14 ∨ (0 : Nat) = 24)) then gy_ex N xs f d k (pc + 2) L ((2, ((w.2.2.1 + 1 : Nat) : Int)) :: st) (gy_mk w (gg_akd t, gg_k n, 0) (fun _ => gy_de (gg_akd t)) (gg_k n)) else none) = _
  have e : gg_k n = n.toNat := gk_z (n := 0) h0 (by omega)
  unfold gg_q
  rw [if_pos rfl, e, if_pos ⟨gl_n0 h0 (by omega), by omega, Or.inl hk⟩]
  rfl
theorem wl_anewa {ix c : Nat} {n : Int} (hd : gg_dt k pc = some (.anewarray ix, 3)) (hc : gg_lc (gg_mt k).1 ix = some c) (hcc : c = 0 ∨ c = 2 ∨ c = 14 ∨ c = 24) (h0 : 0 ≤ n) (h1 : n ≤ 10000) : wy N xs d k pc L ((0, n) :: st) w Q ↔ wy N xs d k (pc + 3) L (gr (w.2.2.1 + 1) :: st) (gy_mk w (5, n.toNat, c) (fun _ => (2, -1)) n.toNat) Q := by
  refine wy_eq hd fun f => ?_
  show gg_q 3 3 (match gg_lc (gg_mt k).1 ix with
    | some c => gy_newa 5 c ((0, n) :: st) w fun st w => gy_ex N xs f d k (pc + 3) L st w
    | none => none) = _
  have e : gg_k n = n.toNat := gk_z (n := 0) h0 (by omega)
  unfold gg_q
  rw [if_pos rfl, hc]
  show (if ¬ gg_i n < 0 ∧ gg_k n ≤ 10000 ∧ (1 ≤ 5 ∧ 5 ≤ 4 ∨ 5 = 5 ∧ (c = 0 ∨ c = 2 ∨ c = 14 ∨ c = 24)) then gy_ex N xs f d k (pc + 3) L ((2, ((w.2.2.1 + 1 : Nat) : Int)) :: st) (gy_mk w (5, gg_k n, c) (fun _ => gy_de 5) (gg_k n)) else none) = _
  rw [e, if_pos ⟨gl_n0 h0 (by omega), by omega, Or.inr ⟨rfl, hcc⟩⟩]
  rfl
theorem wl_dupx {v u : gg_V} (hd : gg_dt k pc = some (.dup_x1, 1)) (hv : v.1 ≠ 1) (hu : u.1 ≠ 1) : wy N xs d k pc L (v :: u :: st) w Q ↔ wy N xs d k (pc + 1) L (v :: u :: v :: st) w Q := wy_eq hd fun f => if_pos ⟨hv, hu⟩
theorem wl_callF {ix ct y ci ml rk : Nat} {tg : List Nat} {vs r L1 : List gg_V} (hd : gg_dt k pc = some (.invokeinterface ix ct, 5)) (hl : gy_li (gg_mt k).1 ix = some y) (hm : gg_mt y = (ci, 0, ml, tg, rk)) (hc : gy_cl (vs.headD (3, 0)) w = some ci) (h1 : vs.map gy_tg = tg) (h2 : tg.length ≤ st.length) (h3 : (r.map gg_cat).sum ≤ 8) (hv : (st.take tg.length).reverse = vs) (hr : st.drop tg.length = r) (hL : gg_en ml vs = L1) :
    wy N xs (d + 1) k pc L st w Q ↔ wy N xs d y 0 L1 [] w (wz N xs (d + 1) k pc 5 L r Q) := by
  refine wy_call (vk := 4) hd (fun f => ?_) hm ⟨by rw [hv]; exact h1, h2, by rw [hr]; exact h3, Or.inr (Or.inr ⟨rfl, Or.inr (Or.inr rfl)⟩)⟩ hv hr hL
  show (match gy_li (gg_mt k).1 ix with
    | some y => match gy_cl (gy_rc st (gg_mt y).2.2.2.1.length) w with
      | some c => if c = (gg_mt y).1 then gy_call (gy_ex N xs f) 4 (d + 1) k pc 5 L st w y else none
      | none => none
    | none => none) = _
  rw [hl]
  have e : gy_rc st (gg_mt y).2.2.2.1.length = vs.headD (3, 0) := by unfold gy_rc; rw [hm]; show (st.take tg.length).reverse.headD (3, 0) = _; rw [hv]
  show (match gy_cl (gy_rc st (gg_mt y).2.2.2.1.length) w with
    | some c => if c = (gg_mt y).1 then gy_call (gy_ex N xs f) 4 (d + 1) k pc 5 L st w y else none
    | none => none) = _
  rw [e, hc, hm]
  exact if_pos rfl
theorem wl_callSU {ix y b1 ci ml rk : Nat} {tg : List Nat} {vs r L1 : List gg_V} (hd : gg_dt k pc = some (.invokespecial ix, 3)) (hl : gg_lm (gg_mt k).1 ix = some (y, b1)) (hy : y = 401 ∨ y = 402 ∨ y = 403 ∨ y = 408) (hk : (gg_mt k).1 = 17) (hm : gg_mt y = (ci, 0, ml, tg, rk)) (hc : gy_cl (vs.headD (3, 0)) w = some 17) (h1 : vs.map gy_tg = tg) (h2 : tg.length ≤ st.length) (h3 : (r.map gg_cat).sum ≤ 8) (hv : (st.take tg.length).reverse = vs) (hr : st.drop tg.length = r) (hL : gg_en ml vs = L1) :
    wy N xs (d + 1) k pc L st w Q ↔ wy N xs d y 0 L1 [] w (wz N xs (d + 1) k pc 3 L r Q) := by
  refine wy_call (vk := 3) hd (fun f => ?_) hm ⟨by rw [hv]; exact h1, h2, by rw [hr]; exact h3, Or.inr (Or.inr ⟨rfl, Or.inr (Or.inl rfl)⟩)⟩ hv hr hL
  show (match gg_lm (gg_mt k).1 ix with
    | some (y, _) => _
    | none => none) = _
  rw [hl]
  have e : gy_rc st (gg_mt y).2.2.2.1.length = vs.headD (3, 0) := by unfold gy_rc; rw [hm]; show (st.take tg.length).reverse.headD (3, 0) = _; rw [hv]
  show (if y = 1003 then _ else if (gg_mt y).2.1 = 2 ∧ gy_ir (gy_rc st (gg_mt y).2.2.2.1.length) = true then _ else if ((gg_mt k).1 = 17 ∧ (y = 401 ∨ y = 402 ∨ y = 403 ∨ y = 408)) ∧ gy_cl (gy_rc st (gg_mt y).2.2.2.1.length) w = some 17 then gy_call (gy_ex N xs f) 3 (d + 1) k pc 3 L st w y else none) = _
  rw [if_neg (by omega), if_neg (by rw [hm]; intro z; have z1 : (0 : Nat) = 2 := z.1; omega), e]
  exact if_pos ⟨⟨hk, hy⟩, hc⟩
theorem wl_mm {ix b1 y : Nat} {a b : Int} (hd : gg_dt k pc = some (.invokestatic ix, 3)) (hf : gg_lm (gg_mt k).1 ix = some (y, b1)) (hst : (st.map gg_cat).sum ≤ 8) (ha : -2147483648 ≤ a) (ha2 : a ≤ 2147483647) (hb : -2147483648 ≤ b) (hb2 : b ≤ 2147483647) :
    (y = 1000 → (wy N xs d k pc L ((0, b) :: (0, a) :: st) w Q ↔ wy N xs d k (pc + 3) L ((0, if a ≤ b then a else b) :: st) w Q)) ∧ (y = 1001 → (wy N xs d k pc L ((0, b) :: (0, a) :: st) w Q ↔ wy N xs d k (pc + 3) L ((0, if a ≤ b then b else a) :: st) w Q)) := by
  have hle : gg_i a ≤ gg_i b ↔ a ≤ b := by
    rw [Int32.le_iff_toInt_le, io_r_i ⟨by omega, by omega⟩, io_r_i ⟨by omega, by omega⟩]
  constructor
  · rintro rfl
    refine wy_eq hd fun f => ?_
    show gg_q 3 3 (match gg_lm (gg_mt k).1 ix with
      | some (y, _) => _
      | none => none) = _
    rw [hf]
    unfold gg_q
    rw [if_pos rfl]
    refine (if_pos hst).trans ?_
    by_cases h : a ≤ b
    · rw [if_pos h, if_pos (hle.2 h)]
    · rw [if_neg h, if_neg (fun z => h (hle.1 z))]
  · rintro rfl
    refine wy_eq hd fun f => ?_
    show gg_q 3 3 (match gg_lm (gg_mt k).1 ix with
      | some (y, _) => _
      | none => none) = _
    rw [hf]
    unfold gg_q
    rw [if_pos rfl]
    refine (if_pos hst).trans ?_
    by_cases h : a ≤ b
    · rw [if_pos h, if_pos (hle.2 h)]
    · rw [if_neg h, if_neg (fun z => h (hle.1 z))]
theorem wl_zald {a n c : Nat} {i : Int} (hd : gg_dt k pc = some (.baload, 1)) (ha : a ≠ 0) (hs : w.1 a = (2, n, c)) (h0 : 0 ≤ i) (h1 : i < n) (hn : n ≤ 2147483647) : wy N xs d k pc L ((0, i) :: gr a :: st) w Q ↔ wy N xs d k (pc + 1) L ((0, (w.2.1 a i.toNat).2) :: st) w Q := by
  refine wy_eq hd fun f => ?_
  show gg_q 1 1 (if (w.1 a).1 = 2 then gy_ald N xs 2 0 ((0, i) :: (2, Int.ofNat a) :: st) w _ else gy_ald N xs 3 0 ((0, i) :: (2, Int.ofNat a) :: st) w _) = _
  unfold gg_q
  rw [if_pos rfl, gsr_ald, gsr_ald, if_neg ha, if_neg ha, hs]
  refine (if_pos rfl).trans ?_
  rw [if_pos ⟨rfl, io_in_r ⟨by omega, by omega⟩ h0 h1⟩, gk_z (n := 0) h0 (by omega)]
theorem wl_zast {a n c : Nat} {i v : Int} (hd : gg_dt k pc = some (.bastore, 1)) (hs : w.1 a = (2, n, c)) (h0 : 0 ≤ i) (h1 : i < n) (hn : n ≤ 2147483647) (hv : v = 0 ∨ v = 1) : wy N xs d k pc L ((0, v) :: (0, i) :: gr a :: st) w Q ↔ wy N xs d k (pc + 1) L st (w.1, gy_up w.2.1 a i.toNat (0, v), w.2.2) Q := by
  refine wy_eq hd fun f => ?_
  show gg_q 1 1 (if (w.1 a).1 = 2 then gy_ast 2 0 ((0, v) :: (0, i) :: (2, Int.ofNat a) :: st) w _ else gy_ast 3 0 ((0, v) :: (0, i) :: (2, Int.ofNat a) :: st) w _) = _
  unfold gg_q
  rw [if_pos rfl, gsr_ast, gsr_ast, hs]
  refine (if_pos rfl).trans ?_
  rw [if_pos ⟨rfl, rfl, io_in_r ⟨by omega, by omega⟩ h0 h1, fun _ => hv⟩, gk_z (n := 0) h0 (by omega)]
  rfl
theorem wl_bald {a n c : Nat} {i : Int} (hd : gg_dt k pc = some (.baload, 1)) (ha : a ≠ 0) (hs : w.1 a = (3, n, c)) (h0 : 0 ≤ i) (h1 : i < n) (hn : n ≤ 2147483647) : wy N xs d k pc L ((0, i) :: gr a :: st) w Q ↔ wy N xs d k (pc + 1) L ((0, (w.2.1 a i.toNat).2) :: st) w Q := by
  refine wy_eq hd fun f => ?_
  show gg_q 1 1 (if (w.1 a).1 = 2 then gy_ald N xs 2 0 ((0, i) :: (2, Int.ofNat a) :: st) w _ else gy_ald N xs 3 0 ((0, i) :: (2, Int.ofNat a) :: st) w _) = _
  unfold gg_q
  rw [if_pos rfl, gsr_ald, gsr_ald, if_neg ha, if_neg ha, hs]
  refine (if_neg (by decide : ¬ (3 : Nat) = 2)).trans ?_
  rw [if_pos ⟨rfl, io_in_r ⟨by omega, by omega⟩ h0 h1⟩, gk_z (n := 0) h0 (by omega)]
theorem wl_bast {a n c : Nat} {i v : Int} (hd : gg_dt k pc = some (.bastore, 1)) (hs : w.1 a = (3, n, c)) (h0 : 0 ≤ i) (h1 : i < n) (hn : n ≤ 2147483647) : wy N xs d k pc L ((0, v) :: (0, i) :: gr a :: st) w Q ↔ wy N xs d k (pc + 1) L st (w.1, gy_up w.2.1 a i.toNat (0, io_i2b v), w.2.2) Q := by
  refine wy_eq hd fun f => ?_
  show gg_q 1 1 (if (w.1 a).1 = 2 then gy_ast 2 0 ((0, v) :: (0, i) :: (2, Int.ofNat a) :: st) w _ else gy_ast 3 0 ((0, v) :: (0, i) :: (2, Int.ofNat a) :: st) w _) = _
  unfold gg_q
  rw [if_pos rfl, gsr_ast, gsr_ast, hs]
  refine (if_neg (by decide : ¬ (3 : Nat) = 2)).trans ?_
  rw [if_pos ⟨rfl, rfl, io_in_r ⟨by omega, by omega⟩ h0 h1, fun z => absurd z (by decide)⟩, gk_z (n := 0) h0 (by omega)]
  rfl
/-- a handler behind a call -/
theorem wz_h {E h j m n : Nat} {r : List gg_V} {v : gg_V} (hne : gg_hd k ≠ []) (h1 : gg_hdl (gg_hd k) pc (E + 2) = some h) (h2 : gg_hst k h = some (j, m)) (hj : j < L.length) (hL : gg_s1 L j (3, 0) = L') : wz N xs d k pc n L r Q ((E + 2, v), w) ↔ wy N xs d k (h + m) L' [] w Q := by
  unfold wz
  have e : ∀ f, gy_aft (gy_ex N xs f) d k pc n L r (some ((E + 2, v), w)) = gy_ex N xs f d k (h + m) L' [] w := by
    intro f
    show (if gg_hd k = [] then some ((E + 2, ((3 : Nat), (0 : Int))), w) else match gg_hdl (gg_hd k) pc (E + 2) with
      | none => none
      | some h => match gg_hst k h with
        | none => none
        | some (j, m) => if j < L.length then gy_ex N xs f d k (h + m) (gg_s1 L j (3, 0)) [] w else none) = _
    rw [if_neg hne, h1]
    show (match gg_hst k h with
        | none => none
        | some (j, m) => if j < L.length then gy_ex N xs f d k (h + m) (gg_s1 L j (3, 0)) [] w else none) = _
    rw [h2]
    show (if j < L.length then gy_ex N xs f d k (h + m) (gg_s1 L j (3, 0)) [] w else none) = _
    rw [if_pos hj, hL]
  simp only [e]
  rfl
end WL2
