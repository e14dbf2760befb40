/-! rules of the moving interpreter, for any method -/
theorem gl_cx {L : List gg_V} {j : Nat} {l : gg_V} (h : L[j]? = some l) (hl : l.1 ≠ 1) : gg_cut L (j + 1) = L := by
  unfold gg_cut
  dsimp only
  rw [h]
  obtain ⟨t, x⟩ := l
  split
  · rename_i heq
    cases heq
    exact absurd rfl hl
  · rfl
theorem gl_ra {v : gg_V} (h : gy_ra v = true) : v.1 ≠ 1 := by
  have := gy_ra_ok h
  omega
section WL
variable {N : Nat} {xs : Nat → Int32} {d k pc : Nat} {L L' st : List gg_V} {w : gy_W} {Q : gy_O → Prop}
theorem wl_aload_n {j : Fin 4} {v : gg_V} (hd : gg_dt k pc = some (.aload_n j, 1)) (hL : L[j.1]? = some v) (hv : gy_ra v = true) : wy N xs d k pc L st w Q ↔ wy N xs d k (pc + 1) L (v :: st) w Q := by
  refine wy_eq hd fun f => ?_
  show gy_ldA L j.1 _ = _
  unfold gy_ldA
  rw [hL]
  exact if_pos hv
theorem wl_aload {j : Nat} {v : gg_V} (hd : gg_dt k pc = some (.aload j, 2)) (hL : L[j]? = some v) (hv : gy_ra v = true) : wy N xs d k pc L st w Q ↔ wy N xs d k (pc + 2) L (v :: st) w Q := by
  refine wy_eq hd fun f => ?_
  show gy_ldA L j _ = _
  unfold gy_ldA
  rw [hL]
  exact if_pos hv
theorem wl_astore_n {j : Fin 4} {v : gg_V} (hd : gg_dt k pc = some (.astore_n j, 1)) (hv : gy_ra v = true) (hj : j.1 < L.length) (hc : gg_cut L j.1 = L) (hL : L.set j.1 v = L') : wy N xs d k pc L (v :: st) w Q ↔ wy N xs d k (pc + 1) L' st w Q := by
  subst hL
  refine wy_eq hd fun f => ?_
  show (if gy_ra v = true then (if j.1 < L.length then gy_ex N xs f d k (pc + 1) ((gg_cut L j.1).set j.1 v) st w else none) else none) = _
  rw [if_pos hv, if_pos hj, hc]
theorem wl_astore {j : Nat} {v : gg_V} (hd : gg_dt k pc = some (.astore j, 2)) (hv : gy_ra v = true) (hj : j < L.length) (hc : gg_cut L j = L) (hL : L.set j v = L') : wy N xs d k pc L (v :: st) w Q ↔ wy N xs d k (pc + 2) L' st w Q := by
  subst hL
  refine wy_eq hd fun f => ?_
  show (if gy_ra v = true then (if j < L.length then gy_ex N xs f d k (pc + 2) ((gg_cut L j).set j v) st w else none) else none) = _
  rw [if_pos hv, if_pos hj, hc]
theorem wl_istore_n {j : Fin 4} {v : Int} (hd : gg_dt k pc = some (.istore_n j, 1)) (hj : j.1 < L.length) (hc : gg_cut L j.1 = L) (hL : L.set j.1 (0, v) = L') : wy N xs d k pc L ((0, v) :: st) w Q ↔ wy N xs d k (pc + 1) L' st w Q := by
  subst hL
  refine wy_eq hd fun f => ?_
  show (if j.1 < L.length then gy_ex N xs f d k (pc + 1) ((gg_cut L j.1).set j.1 (0, v)) st w else none) = _
  rw [if_pos hj, hc]
theorem wl_istore {j : Nat} {v : Int} (hd : gg_dt k pc = some (.istore j, 2)) (hj : j < L.length) (hc : gg_cut L j = L) (hL : L.set j (0, v) = L') : wy N xs d k pc L ((0, v) :: st) w Q ↔ wy N xs d k (pc + 2) L' st w Q := by
  subst hL
  refine wy_eq hd fun f => ?_
  show (if j < L.length then gy_ex N xs f d k (pc + 2) ((gg_cut L j).set j (0, v)) st w else none) = _
  rw [if_pos hj, hc]
theorem wl_iinc {j : Nat} {v c : Int} (hd : gg_dt k pc = some (.iinc j c, 3)) (hx : L[j]? = some (0, v)) (hj : j < L.length) (hc : gg_cut L j = L) (hL : L.set j (0, io_add v c) = L') : wy N xs d k pc L st w Q ↔ wy N xs d k (pc + 3) L' st w Q := by
  subst hL
  refine wy_eq hd fun f => ?_
  show gg_ld L 0 j (fun x => if j < L.length then gy_ex N xs f d k (pc + 3) ((gg_cut L j).set j (0, io_add x c)) st w else none) = _
  unfold gg_ld
  rw [hx]
  show (if j < L.length then _ else none) = _
  rw [if_pos hj, hc]
theorem wl_dup {v : gg_V} (hd : gg_dt k pc = some (.dup, 1)) (hv : v.1 ≠ 1) : wy N xs d k pc L (v :: st) w Q ↔ wy N xs d k (pc + 1) L (v :: v :: st) w Q := wy_eq hd fun f => if_pos hv
theorem wl_pop {v : gg_V} (hd : gg_dt k pc = some (.pop, 1)) (hv : v.1 ≠ 1) : wy N xs d k pc L (v :: st) w Q ↔ wy N xs d k (pc + 1) L st w Q := wy_eq hd fun f => if_pos hv
theorem wl_if1 {c : ClassFile.Cond} {off : Int} {t : Nat} {a : Int} (hd : gg_dt k pc = some (.ifCond c off, 3)) (ht : (pc : Int) + off = Int.ofNat t) (ha : -2147483648 ≤ a) (ha2 : a ≤ 2147483647) : wy N xs d k pc L ((0, a) :: st) w Q ↔ ((gg_cp c a 0 → wy N xs d k t L st w Q) ∧ (¬ gg_cp c a 0 → wy N xs d k (pc + 3) L st w Q)) := by
  have e : ∀ f, gy_step (gy_ex N xs f) N xs d k pc L ((0, a) :: st) w (.ifCond c off) 3 = if gg_cond c a 0 = true then gy_ex N xs f d k t L st w else gy_ex N xs f d k (pc + 3) L st w := by
    intro f
    show gg_q 3 3 (if gg_cond c a 0 = true then gg_tgt pc off _ else _) = _
    unfold gg_q gg_tgt
    rw [if_pos rfl, ht]
  rw [wy_br hd e]
  have h := gg_cp_ok (c := c) ha ha2 (b := 0) (by decide) (by decide)
  by_cases hc : gg_cp c a 0
  · rw [if_pos (h.2 hc)]
    exact ⟨fun x => ⟨fun _ => x, fun y => absurd hc y⟩, fun x => x.1 hc⟩
  · rw [if_neg (fun x => hc (h.1 x))]
    exact ⟨fun x => ⟨fun y => absurd y hc, fun _ => x⟩, fun x => x.2 hc⟩
theorem wl_if2 {c : ClassFile.Cond} {off : Int} {t : Nat} {a b : Int} (hd : gg_dt k pc = some (.if_icmp c off, 3)) (ht : (pc : Int) + off = Int.ofNat t) (ha : -2147483648 ≤ a) (ha2 : a ≤ 2147483647) (hb : -2147483648 ≤ b) (hb2 : b ≤ 2147483647) : wy N xs d k pc L ((0, b) :: (0, a) :: st) w Q ↔ ((gg_cp c a b → wy N xs d k t L st w Q) ∧ (¬ gg_cp c a b → wy N xs d k (pc + 3) L st w Q)) := by
  have e : ∀ f, gy_step (gy_ex N xs f) N xs d k pc L ((0, b) :: (0, a) :: st) w (.if_icmp c off) 3 = if gg_cond c a b = true then gy_ex N xs f d k t L st w else gy_ex N xs f d k (pc + 3) L st w := by
    intro f
    show gg_q 3 3 (if gg_cond c a b = true then gg_tgt pc off _ else _) = _
    unfold gg_q gg_tgt
    rw [if_pos rfl, ht]
  rw [wy_br hd e]
  have h := gg_cp_ok (c := c) ha ha2 hb hb2
  by_cases hc : gg_cp c a b
  · rw [if_pos (h.2 hc)]
    exact ⟨fun x => ⟨fun _ => x, fun y => absurd hc y⟩, fun x => x.1 hc⟩
  · rw [if_neg (fun x => hc (h.1 x))]
    exact ⟨fun x => ⟨fun y => absurd y hc, fun _ => x⟩, fun x => x.2 hc⟩
theorem wl_rem {a b : Int} (hd : gg_dt k pc = some (.irem, 1)) (hb : 1 ≤ b) (hb2 : b ≤ 2147483647) (ha : -2147483648 ≤ a) (ha2 : a ≤ 2147483647) : wy N xs d k pc L ((0, b) :: (0, a) :: st) w Q ↔ wy N xs d k (pc + 1) L ((0, a.tmod b) :: st) w Q := by
  refine wy_eq hd fun f => ?_
  show gg_q 1 1 (if gg_i b = 0 then none else gy_ex N xs f d k (pc + 1) L ((0, io_rem a b) :: st) w) = _
  unfold gg_q
  rw [if_pos rfl, if_neg (io_i0 ⟨by omega, by omega⟩ (by omega)), io_rem_r ⟨by omega, by omega⟩ ⟨by omega, by omega⟩ (by omega)]
theorem wl_div {a b : Int} (hd : gg_dt k pc = some (.idiv, 1)) (hb : 1 ≤ b) (hb2 : b ≤ 2147483647) (ha : -2147483648 ≤ a) (ha2 : a ≤ 2147483647) : wy N xs d k pc L ((0, b) :: (0, a) :: st) w Q ↔ wy N xs d k (pc + 1) L ((0, a.tdiv b) :: st) w Q := by
  refine wy_eq hd fun f => ?_
  show gg_q 1 1 (if gg_i b = 0 then none else gy_ex N xs f d k (pc + 1) L ((0, io_div a b) :: st) w) = _
  unfold gg_q
  rw [if_pos rfl, if_neg (io_i0 ⟨by omega, by omega⟩ (by omega)), io_div_r ⟨by omega, by omega⟩ ⟨by omega, by omega⟩ (by omega)]
theorem wl_get {ix ci p t a : Nat} (hd : gg_dt k pc = some (.getfield ix, 3)) (hf : gg_lf (gg_mt k).1 ix = some (ci, p, t)) (hs : w.1 a = (0, 0, ci)) : wy N xs d k pc L (gr a :: st) w Q ↔ wy N xs d k (pc + 3) L (w.2.1 a p :: st) w Q := by
  refine wy_eq hd fun f => ?_
  show gg_q 3 3 (gy_get (gg_mt k).1 ix ((2, Int.ofNat a) :: st) w _) = _
  unfold gg_q
  rw [if_pos rfl, gsr_get2, hf]
  exact if_pos hs
theorem wl_gets {ix ci p t a : Nat} (hd : gg_dt k pc = some (.getfield ix, 3)) (hf : gg_lf (gg_mt k).1 ix = none) (hf2 : gy_lf (gg_mt k).1 ix = some (ci, p, t)) (hs : w.1 a = (0, 0, ci)) : wy N xs d k pc L (gr a :: st) w Q ↔ wy N xs d k (pc + 3) L (w.2.1 a p :: st) w Q := by
  refine wy_eq hd fun f => ?_
  show gg_q 3 3 (gy_get (gg_mt k).1 ix ((2, Int.ofNat a) :: st) w _) = _
  unfold gg_q
  rw [if_pos rfl, gsr_get2, hf]
  show (match gy_lf (gg_mt k).1 ix with
    | some (ci, k', _) => if w.1 a = (0, 0, ci) then gy_ex N xs f d k (pc + 3) L (w.2.1 a k' :: st) w else none
    | none => none) = _
  rw [hf2]
  exact if_pos hs
theorem wl_put {ix ci p t a : Nat} {v : gg_V} (hd : gg_dt k pc = some (.putfield ix, 3)) (hf : gg_lf (gg_mt k).1 ix = some (ci, p, t)) (hs : w.1 a = (0, 0, ci)) (hv : gy_fit t v (gg_mt k).2.1 (gg_mt k).1 ci = true) : wy N xs d k pc L (v :: gr a :: st) w Q ↔ wy N xs d k (pc + 3) L st (w.1, gy_up w.2.1 a p v, w.2.2) Q := by
  refine wy_eq hd fun f => ?_
  show gg_q 3 3 (gy_put (gg_mt k).1 (gg_mt k).2.1 ix (v :: (2, Int.ofNat a) :: st) w _) = _
  unfold gg_q
  rw [if_pos rfl, gsr_put, hf]
  exact if_pos ⟨hs, hv⟩
theorem wl_puts {ix ci p a : Nat} {v : Int} (hd : gg_dt k pc = some (.putfield ix, 3)) (hf : gg_lf (gg_mt k).1 ix = none) (hf2 : gy_lf (gg_mt k).1 ix = some (ci, p, 1)) (hs : w.1 a = (0, 0, ci)) : wy N xs d k pc L ((0, v) :: gr a :: st) w Q ↔ wy N xs d k (pc + 3) L st (w.1, gy_up w.2.1 a p (0, v), w.2.2) Q := by
  refine wy_eq hd fun f => ?_
  show gg_q 3 3 (gy_put (gg_mt k).1 (gg_mt k).2.1 ix ((0, v) :: (2, Int.ofNat a) :: st) w _) = _
  unfold gg_q
  rw [if_pos rfl, gsr_put, hf]
  show (match gy_lf (gg_mt k).1 ix with
    | some (ci, k', md) => if w.1 a = (0, 0, ci) ∧ md = 1 ∧ (0 : Nat) = 0 then gy_ex N xs f d k (pc + 3) L st (w.1, gy_up w.2.1 a k' (0, v), w.2.2) else none
    | none => none) = _
  rw [hf2]
  exact if_pos ⟨hs, rfl, rfl⟩
theorem wl_new {ix c : Nat} (hd : gg_dt k pc = some (.new ix, 3)) (ht : gg_thr k pc (.new ix) = none) (hc : gg_lc (gg_mt k).1 ix = some c) (ho : gy_ob c = true) : wy N xs d k pc L st w Q ↔ wy N xs d k (pc + 3) L (gr (w.2.2.1 + 1) :: st) (gy_mk w (0, 0, c) (fun j => gy_df (gg_ft c j)) (gg_nf c)) Q := by
  refine wy_eq hd fun f => ?_
  show (match gg_thr k pc (.new ix) with
    | some E => if (st.map gg_cat).sum ≤ 8 then some ((E, ((3 : Nat), (0 : Int))), (w.1, w.2.1, w.2.2.1 + 1, w.2.2.2 + 6)) else none
    | none => match gg_lc (gg_mt k).1 ix with
      | some c => gy_new c w fun v w => gy_ex N xs f d k (pc + 3) L (v :: st) w
      | none => none) = _
  rw [ht, hc]
  exact if_pos ho
/-- a row of ints -/
theorem wl_iald {a : Nat} {i : Int} {n c : Nat} (hd : gg_dt k pc = some (.iaload, 1)) (ha : a ≠ 0) (hs : w.1 a = (1, n, c)) (h0 : 0 ≤ i) (h1 : i < n) (hn : n ≤ 2147483647) : wy N xs d k pc L ((0, i) :: gr a :: st) w Q ↔ wy N xs d k (pc + 1) L ((0, (w.2.1 a i.toNat).2) :: st) w Q := by
  refine wy_eq hd fun f => ?_
  show gg_q 1 1 (gy_ald N xs 1 0 ((0, i) :: (2, Int.ofNat a) :: st) w _) = _
  unfold gg_q
  rw [if_pos rfl, gsr_ald, if_neg ha, hs, if_pos ⟨rfl, io_in_r ⟨by omega, by omega⟩ h0 h1⟩, gk_z (n := 0) h0 (by omega)]
/-- the script -/
theorem wl_scr {i : Int} (hd : gg_dt k pc = some (.iaload, 1)) (h0 : 0 ≤ i) (h1 : i < N) (hN : N ≤ 2560) : wy N xs d k pc L ((0, i) :: gr 0 :: st) w Q ↔ wy N xs d k (pc + 1) L ((0, (xs i.toNat).toInt) :: st) w Q := by
  refine wy_eq hd fun f => ?_
  show gg_q 1 1 (gy_ald N xs 1 0 ((0, i) :: (2, Int.ofNat 0) :: st) w _) = _
  unfold gg_q
  rw [if_pos rfl, gsr_ald, if_pos rfl, if_pos ⟨rfl, io_in_r ⟨by omega, by omega⟩ h0 h1⟩, gk_z (n := 0) h0 (by omega)]
theorem wl_scrl (hd : gg_dt k pc = some (.arraylength, 1)) : wy N xs d k pc L (gr 0 :: st) w Q ↔ wy N xs d k (pc + 1) L ((0, (N : Int)) :: st) w Q := wy_eq hd fun f => rfl
theorem wl_alen {a n kd c : Nat} (hd : gg_dt k pc = some (.arraylength, 1)) (ha : a ≠ 0) (hs : w.1 a = (kd, n, c)) (h1 : 1 ≤ kd) (h5 : kd ≤ 5) (hc : kd = 5 → gy_ec c = true) : wy N xs d k pc L (gr a :: st) w Q ↔ wy N xs d k (pc + 1) L ((0, (n : Int)) :: st) w Q := by
  refine wy_eq hd fun f => ?_
  show (if a = 0 then _ else if 1 ≤ (w.1 a).1 ∧ (w.1 a).1 ≤ 5 ∧ ((w.1 a).1 = 5 → gy_ec (w.1 a).2.2 = true) then gy_ex N xs f d k (pc + 1) L ((0, ((w.1 a).2.1 : Int)) :: st) w else none) = _
  rw [if_neg ha, hs]
  exact if_pos ⟨h1, h5, hc⟩
theorem wl_iast {a : Nat} {i v : Int} {n c : Nat} (hd : gg_dt k pc = some (.iastore, 1)) (hs : w.1 a = (1, n, c)) (h0 : 0 ≤ i) (h1 : i < n) (hn : n ≤ 2147483647) : wy N xs d k pc L ((0, v) :: (0, i) :: gr a :: st) w Q ↔ wy N xs d k (pc + 1) L st (w.1, gy_up w.2.1 a i.toNat (0, v), w.2.2) Q := by
  refine wy_eq hd fun f => ?_
  show gg_q 1 1 (gy_ast 1 0 ((0, v) :: (0, i) :: (2, Int.ofNat a) :: st) w _) = _
  unfold gg_q
  rw [if_pos rfl, gsr_ast, hs, if_pos ⟨rfl, rfl, io_in_r ⟨by omega, by omega⟩ h0 h1, fun z => absurd z (by decide)⟩, gk_z (n := 0) h0 (by omega)]
  rfl
/-- a row of references -/
theorem wl_aald {a : Nat} {i : Int} {n c : Nat} (hd : gg_dt k pc = some (.aaload, 1)) (hs : w.1 a = (5, n, c)) (hc : gy_ec c = true) (h0 : 0 ≤ i) (h1 : i < n) (hn : n ≤ 2147483647) (hv : gy_rr (w.2.1 a i.toNat) = true) : wy N xs d k pc L ((0, i) :: gr a :: st) w Q ↔ wy N xs d k (pc + 1) L (w.2.1 a i.toNat :: st) w Q := by
  refine wy_eq hd fun f => ?_
  have e : gg_k i = i.toNat := gk_z (n := 0) h0 (by omega)
  show gg_q 1 1 (gy_aal ((0, i) :: (2, Int.ofNat a) :: st) w _) = _
  unfold gg_q
  rw [if_pos rfl, gsr_aal, hs, e, if_pos ⟨rfl, hc, io_in_r ⟨by omega, by omega⟩ h0 h1, hv⟩]
theorem wl_aast {a : Nat} {i : Int} {v : gg_V} {n c : Nat} (hd : gg_dt k pc = some (.aastore, 1)) (hs : w.1 a = (5, n, c)) (h0 : 0 ≤ i) (h1 : i < n) (hn : n ≤ 2147483647) (hv : gy_el v w c = true) : wy N xs d k pc L (v :: (0, i) :: gr a :: st) w Q ↔ wy N xs d k (pc + 1) L st (w.1, gy_up w.2.1 a i.toNat v, w.2.2) Q := by
  refine wy_eq hd fun f => ?_
  have e : gg_k i = i.toNat := gk_z (n := 0) h0 (by omega)
  show gg_q 1 1 (gy_aas (v :: (0, i) :: (2, Int.ofNat a) :: st) w _) = _
  unfold gg_q
  rw [if_pos rfl, gsr_aas, hs, e, if_pos ⟨rfl, io_in_r ⟨by omega, by omega⟩ h0 h1, hv⟩]
theorem wl_cast {ix c : Nat} {v : gg_V} (hd : gg_dt k pc = some (.checkcast ix, 3)) (hc : gg_lc (gg_mt k).1 ix = some c) (hv : gy_cst c v w = true) : wy N xs d k pc L (v :: st) w Q ↔ wy N xs d k (pc + 3) L (v :: st) w Q := by
  refine wy_eq hd fun f => ?_
  show (match gg_lc (gg_mt k).1 ix with
    | some c => if gy_cst c v w = true then gy_ex N xs f d k (pc + 3) L (v :: st) w else none
    | none => none) = _
  rw [hc]
  exact if_pos hv
/-- calls: static; of an object's class; a constructor -/
theorem wl_callS {ix y b1 ci ml rk : Nat} {tg : List Nat} {vs r L1 : List gg_V} (hd : gg_dt k pc = some (.invokestatic ix, 3)) (hl : gg_lm (gg_mt k).1 ix = some (y, b1)) (hy : y < 1000) (hm : gg_mt y = (ci, 1, ml, tg, rk)) (h1 : vs.map gy_tg = tg) (h2 : tg.length ≤ st.length) (h3 : (r.map gg_cat).sum ≤ 8) (hv : (st.take tg.length).reverse = vs) (hr : st.drop tg.length = r) (hL : gg_en ml vs = L1) :
    wy N xs (d + 1) k pc L st w Q ↔ wy N xs d y 0 L1 [] w (wz N xs (d + 1) k pc 3 L r Q) := by
  refine wy_call (vk := 1) hd (fun f => ?_) hm ⟨by rw [hv]; exact h1, h2, by rw [hr]; exact h3, Or.inl ⟨rfl, rfl⟩⟩ hv hr hL
  show (match gg_lm (gg_mt k).1 ix with
    | some (y, _) => _
    | none => none) = _
  rw [hl]
  show (if y = 1000 then _ else if y = 1001 then _ else if y = 1002 then _ else if (gg_mt y).2.1 = 1 then gy_call (gy_ex N xs f) 1 (d + 1) k pc 3 L st w y else none) = _
  rw [if_neg (by omega), if_neg (by omega), if_neg (by omega), hm]
  exact if_pos rfl
theorem wl_callV {ix x y b1 c ci ml rk : Nat} {tg : List Nat} {vs r L1 : List gg_V} (hd : gg_dt k pc = some (.invokevirtual ix, 3)) (hl : gg_lm (gg_mt k).1 ix = some (x, b1)) (hx : x < 1000) (hm : gg_mt y = (ci, 0, ml, tg, rk)) (hxt : (gg_mt x).2.2.2.1 = tg) (hs : gy_sel c x = some y) (hc : gy_cl (vs.headD (3, 0)) w = some c) (h1 : vs.map gy_tg = tg) (h2 : tg.length ≤ st.length) (h3 : (r.map gg_cat).sum ≤ 8) (hv : (st.take tg.length).reverse = vs) (hr : st.drop tg.length = r) (hL : gg_en ml vs = L1) :
    wy N xs (d + 1) k pc L st w Q ↔ wy N xs d y 0 L1 [] w (wz N xs (d + 1) k pc 3 L r Q) := by
  refine wy_call (vk := 0) hd (fun f => ?_) hm ⟨by rw [hv]; exact h1, h2, by rw [hr]; exact h3, Or.inr (Or.inr ⟨rfl, Or.inl rfl⟩)⟩ hv hr hL
  show (match gg_lm (gg_mt k).1 ix with
    | some (y, _) => _
    | none => none) = _
  rw [hl]
  show (if x = 1004 then _ else if x = 1005 then _ else if x = 1006 then _ else match gy_cl (gy_rc st (gg_mt x).2.2.2.1.length) w with
    | some c => match gy_sel c x with
      | some y' => gy_call (gy_ex N xs f) 0 (d + 1) k pc 3 L st w y'
      | none => none
    | none => none) = _
  have e : gy_rc st (gg_mt x).2.2.2.1.length = vs.headD (3, 0) := by unfold gy_rc; rw [hxt, hv]
  rw [if_neg (by omega), if_neg (by omega), if_neg (by omega), e, hc]
  show (match gy_sel c x with
    | some y' => gy_call (gy_ex N xs f) 0 (d + 1) k pc 3 L st w y'
    | none => none) = _
  rw [hs]
theorem wl_callI {ix y b1 ci ml rk : Nat} {tg : List Nat} {vs r L1 : List gg_V} (hd : gg_dt k pc = some (.invokespecial ix, 3)) (hl : gg_lm (gg_mt k).1 ix = some (y, b1)) (hy : y < 1000) (hm : gg_mt y = (ci, 2, ml, tg, rk)) (hi : gy_ir (vs.headD (3, 0)) = true) (h1 : vs.map gy_tg = tg) (h2 : tg.length ≤ st.length) (h3 : (r.map gg_cat).sum ≤ 8) (hv : (st.take tg.length).reverse = vs) (hr : st.drop tg.length = r) (hL : gg_en ml vs = L1) :
    wy N xs (d + 1) k pc L st w Q ↔ wy N xs d y 0 L1 [] w (wz N xs (d + 1) k pc 3 L r Q) := by
  refine wy_call (vk := 2) hd (fun f => ?_) hm ⟨by rw [hv]; exact h1, h2, by rw [hr]; exact h3, Or.inr (Or.inl ⟨rfl, rfl⟩)⟩ hv hr hL
  show (match gg_lm (gg_mt k).1 ix with
    | some (y, _) => _
    | none => none) = _
  rw [hl]
  have e : gy_rc st (gg_mt y).2.2.2.1.length = vs.headD (3, 0) := by unfold gy_rc; rw [hm]; show (st.take tg.length).reverse.headD (3, 0) = _; rw [hv]
  show (if y = 1003 then _ else if (gg_mt y).2.1 = 2 ∧ gy_ir (gy_rc st (gg_mt y).2.2.2.1.length) = true then gy_call (gy_ex N xs f) 2 (d + 1) k pc 3 L st w y else _) = _
  rw [if_neg (by omega), e, hm]
  exact if_pos ⟨rfl, hi⟩
theorem wl_oi {ix a b1 : Nat} (hd : gg_dt k pc = some (.invokespecial ix, 3)) (hl : gg_lm (gg_mt k).1 ix = some (1003, b1)) (hst : (st.map gg_cat).sum ≤ 8) : wy N xs d k pc L (gr a :: st) w Q ↔ wy N xs d k (pc + 3) L st w Q := by
  refine wy_eq hd fun f => ?_
  show (match gg_lm (gg_mt k).1 ix with
    | some (y, _) => _
    | none => none) = _
  rw [hl]
  exact if_pos hst
theorem wl_iret {x : Int} (hd : gg_dt k pc = some (.ireturn, 1)) (hx : gg_rI (gg_mt k).2.2.2.2 x = true) : wy N xs d k pc L [(0, x)] w Q ↔ Q ((1, (0, x)), w) := wy_end hd fun f => if_pos hx
theorem wl_aret {v : gg_V} (hd : gg_dt k pc = some (.areturn, 1)) (hv : gy_rr v = true) (hk : (gg_mt k).2.2.2.2 = 4) : wy N xs d k pc L [v] w Q ↔ Q ((1, v), w) := wy_end hd fun f => if_pos ⟨hv, hk⟩
end WL
