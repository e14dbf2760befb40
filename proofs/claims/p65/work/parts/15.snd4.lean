/-! the machine follows the interpreter: what is made -/
theorem gw_dv : ∀ c, gy_ob c = true → ∀ (S0 b : Nat) (ad : Nat → Int → Nat) (opq : Value) (w : gy_W) (a : Nat), (∀ k, w.2.1 a k = gy_df (gg_ft c k)) → ∀ k, k < (gg_cln c).2.2 → defaultValue (gg_tyn c k) = vp_V (gy_fl S0 b ad opq c w a) k := by
  intro c hc S0 b ad opq w a h1 k hk
  obtain ⟨g1, g2, g3, g4, g5, g6, g7, g8⟩ := gg_cf hc
  unfold vp_V
  rw [List.getD_eq_getElem?_getD, gy_fl_get (by rw [g2]; exact hk), h1]
  show _ = yv S0 b ad opq (gy_df (gg_ft c k))
  unfold gy_df
  rcases g7 k hk with z | z | z | z
  · rw [z.1, z.2, if_neg (by decide)]; rfl
  · rw [z.1, z.2, if_neg (by decide)]; rfl
  · rw [if_pos z.1, z.2.2]; rfl
  · rw [z.2, if_neg (by omega)]; rfl
theorem gy_sup_ne {g : gy_S} {a o : Nat} {x : Nat × Nat × Nat} (h : o ≠ a) : gy_sup g a x o = g o := if_neg h
theorem gy_sup_at {g : gy_S} {a : Nat} {x : Nat × Nat × Nat} : gy_sup g a x a = x := if_pos rfl
theorem gy_row_ne {g : gy_M} {a o : Nat} {x : Nat → gg_V} (h : o ≠ a) : gy_row g a x o = g o := by
  funext j
  exact if_neg h
theorem gy_row_at {g : gy_M} {a k : Nat} {x : Nat → gg_V} : gy_row g a x a k = x k := if_pos rfl
theorem gy_cn_own {c : Nat} (h : gy_ob c = true) : gy_cn c = gg_c c := by
  have h2 : c < 18 := by
    unfold gy_ob at h
    rw [Bool.and_eq_true, decide_eq_true_eq] at h
    exact h.1
  unfold gy_cn
  rw [if_neg (by omega), if_neg (by omega), if_neg (by omega), if_neg (by omega), if_neg (by omega), if_neg (by omega), if_neg (by omega)]
theorem gy_outer (c : ClassId) (N h0 : Nat) : ∀ i : Nat, Jvm.Free.Multi.outerC c N h0 i = arrV c N (fun j => va_rf (if j < i then some (h0 + 1 + j) else none))
  | 0 => by
    show ({ cls := c, slots := Array.replicate N .null, vm := .none } : Cell) = _
    rw [arrV_new]
    refine congrArg (arrV c N) (funext fun j => ?_)
    simp [va_rf]
  | i + 1 => by
    show (Jvm.Free.Multi.outerC c N h0 i).setSlot i (.ref (h0 + 1 + i)) = _
    rw [gy_outer c N h0 i, arrV_store]
    refine congrArg (arrV c N) (funext fun j => ?_)
    by_cases e : j = i
    · subst e
      simp [updV, va_rf]
    · by_cases h : j < i
      · simp [updV, e, h, Nat.lt_succ_of_lt h]
      · simp [updV, e, h, show ¬ j < i + 1 by omega]
section GS4
variable {l : Launch} {S0 b Lx : Nat} {xs : Nat → Int32} {D : va_G} {cA : Nat → ClassId} {ad : Nat → Int → Nat} {opq : Value} {p : Program} {e : Env} {R : Room} {s : State} {m : MethodId} {args : Array Value} {below : List Frame} {meth : Method} {c : Code} {Q : State → Prop} {k d nL cb sb : Nat} {o : gy_O} {f : Nat}
variable {pc n : Nat} {L st : List gg_V} {w w' : gy_W} {H H' : Heap} {locs : List Loc} {cells slots : Nat} {ls : Array Slot}
/-- one cell was made -/
theorem gy_H_mk {x : Nat × Nat × Nat} {g : Nat → gg_V} {nn : Nat} (hH : gy_H S0 b D cA ad opq w H) (he : va_at D gg_cl (S0 + w.2.2.1, gy_ce S0 b ad opq cA (gy_mk w x g nn) (w.2.2.1 + 1)) H') (z : H'.size = H.size + 1) (oq : ∀ q, q < H.size → H'[q]? = H[q]?) : gy_H S0 b D cA ad opq (gy_mk w x g nn) H' :=
  gy_H_push (n := 1) hH rfl (fun o ho => ⟨gy_sup_ne (by omega), gy_row_ne (by omega)⟩) (fun j hj => by
    have : j = 0 := by omega
    subst this
    exact he) z oq
theorem gs_new (IH : gy_Wk l S0 b Lx xs D cA ad opq p e R s m args below meth c Q k d nL cb sb o f) (CX : gy_CX l S0 b Lx xs D cA ad opq p R s m args meth c k d nL cb sb o) (RL : gy_Rl S0 b Lx xs D cA ad opq s nL cb sb L w H locs cells slots ls) {ix : Nat} (hthr : gg_thr k pc (.new ix) = none) (hdg : decode (gg_bt k) pc = .ok (.new ix, n)) (h : gy_step (gy_ex Lx xs f) Lx xs d k pc L st w (.new ix) n = some o) : W p l e R s m args below meth c H locs cells slots Q (F0 m pc ls (st.map (yv S0 b ad opq))) := by
  obtain ⟨⟨hx, hb, hml, hown, hts⟩, hE, hR, hin, hfl, hS0⟩ := id CX
  obtain ⟨hL, hl, hH, hS, hc, hs⟩ := id RL
  obtain ⟨rfl, h_1⟩ := gq_ok h
  rw [hthr] at h_1
  cases hc0 : gg_lc (gg_mt k).1 ix with
  | none => rw [hc0] at h_1; cases h_1
  | some ci =>
    rw [hc0] at h_1
    obtain ⟨h1, hf⟩ := gif_ok h_1
    obtain ⟨g1, g2, g3, g4, g5, g6, g7, g8⟩ := gg_cf h1
    have hmn := gy_ex_mn _ _ _ _ _ _ _ _ _ _ hf
    have hmn1 : w.2.2.1 + 1 ≤ o.2.2.2.1 := hmn.1
    have hmn2 : w.2.2.2 + gg_nf ci ≤ o.2.2.2.2 := hmn.2
    have hlk := gg_lc_ok hc0
    rw [gy_cn_own h1, ← g1] at hlk
    have hKn := hE.1.1 ci _ (gg_cl_at h1)
    have hsz : H.size = S0 + w.2.2.1 := hH.2
    refine W.newcK hx hb hown (hts _ hlk) (hts _ (by rw [g1]; exact g4)) (hts _ (by rw [g1]; exact g3)) rfl hdg (by omega) (by rw [← g2]; omega) hKn.2.1 hsz fun H1 kC hkC e1 z1 o1 => ?_
    have hb9 := u_born (gg_tyn ci) hts g5 hKn hkC e1 g6
    have kk2 := IH _ _ _ _ H1 locs (cells + 1) (slots + (gg_cln ci).2.2) ls hf ⟨hL, hl, gy_H_mk hH (by
        rw [gy_ce_obj (w := gy_mk w (0, 0, ci) _ _) gy_sup_at]
        exact ⟨_, gg_cl_at h1, hb9.to (fun j hj => gw_dv ci h1 S0 b ad opq _ (w.2.2.1 + 1) (fun q => gy_row_at (g := w.2.1) (a := w.2.2.1 + 1) (k := q) (x := fun k => gy_df (gg_ft ci k))) j hj)⟩) (by omega) (fun q hq => o1 q (by omega)), ⟨Nat.le_trans hS.1 (by omega), fun q a1 a2 => (o1 q (by have := hS.1; omega)).trans (hS.2.1 q a1 a2), hS.2.2⟩, by show cells + 1 + cb = w.2.2.1 + 1; omega, by show slots + _ + sb = w.2.2.2 + gg_nf ci; rw [g2]; omega⟩
    exact kk2
theorem gynewa_ok {kd ec : Nat} {fk : List gg_V → gy_W → Option gy_O} (h : gy_newa kd ec st w fk = some o) : ∃ (nn : Int) (r : List gg_V), st = (0, nn) :: r ∧ (¬ gg_i nn < 0 ∧ gg_k nn ≤ 10000 ∧ (1 ≤ kd ∧ kd ≤ 4 ∨ kd = 5 ∧ (ec = 0 ∨ ec = 2 ∨ ec = 14 ∨ ec = 24))) ∧ fk ((2, ((w.2.2.1 + 1 : Nat) : Int)) :: r) (gy_mk w (kd, gg_k nn, ec) (fun _ => gy_de kd) (gg_k nn)) = some o := by
  obtain ⟨a, r, rfl, h1⟩ := gpI_ok h
  obtain ⟨h2, h3⟩ := gif_ok h1
  exact ⟨a, r, rfl, h2, h3⟩
theorem gs_newarray (IH : gy_Wk l S0 b Lx xs D cA ad opq p e R s m args below meth c Q k d nL cb sb o f) (CX : gy_CX l S0 b Lx xs D cA ad opq p R s m args meth c k d nL cb sb o) (RL : gy_Rl S0 b Lx xs D cA ad opq s nL cb sb L w H locs cells slots ls) {t : ArrayType} (hdg : decode (gg_bt k) pc = .ok (.newarray t, n)) (h : gy_step (gy_ex Lx xs f) Lx xs d k pc L st w (.newarray t) n = some o) : W p l e R s m args below meth c H locs cells slots Q (F0 m pc ls (st.map (yv S0 b ad opq))) := by
  obtain ⟨⟨hx, hb, hml, hown, hts⟩, hE, hR, hin, hfl, hS0⟩ := id CX
  obtain ⟨hL, hl, hH, hS, hc, hs⟩ := id RL
  obtain ⟨rfl, h_1⟩ := gq_ok h
  obtain ⟨n0, r, rfl, ⟨h1, h4, h2⟩, hf⟩ := gynewa_ok h_1
  have hmn := gy_ex_mn _ _ _ _ _ _ _ _ _ _ hf
  have hmn1 : w.2.2.1 + 1 ≤ o.2.2.2.1 := hmn.1
  have hmn2 : w.2.2.2 + gg_k n0 ≤ o.2.2.2.2 := hmn.2
  have hsz : H.size = S0 + w.2.2.1 := hH.2
  have main : ∀ (ty : FieldType) (t0 : Nat), newarray.typeOf t = ty → (Cond.arrayClass ty).before args s = true → componentBytes ty ≤ 8 → (gg_ty cA)[t0]? = some (cA (gg_akd t), ty) → (match ty with | .object _ => False | _ => True) →
      (∀ H1 : Heap, H1[H.size]? = some (arrV (cA (gg_akd t)) (gg_k n0) (fun _ => defaultValue ty)) → va_at D gg_cl (S0 + w.2.2.1, gy_ce S0 b ad opq cA (gy_mk w (gg_akd t, gg_k n0, 0) (fun _ => gy_de (gg_akd t)) (gg_k n0)) (w.2.2.1 + 1)) H1) →
      W p l e R s m args below meth c H locs cells slots Q (F0 m pc ls (.int (gg_i n0) :: r.map (yv S0 b ad opq))) := by
    intro ty t0 hty har hcb ht0 hno hat
    subst hty
    refine W.newa hx hb har rfl hdg rfl h1 (Nat.le_trans (Nat.mul_le_mul h4 hcb) (by decide)) (by omega) (by show slots + gg_k n0 ≤ _; omega) fun cA' kA comp a1 a2 a3 => ?_
    have hra := (hE.1.2 t0 _ ht0).2
    have hcA : cA' = cA (gg_akd t) := by
      cases t <;> first | exact Option.some.inj (a1.symm.trans hra) | exact absurd hno (by simp [newarray.typeOf])
    subst hcA
    have e1 : (H.push ({ cls := cA (gg_akd t), slots := Array.replicate (gg_i n0).toNatClampNeg (defaultValue (newarray.typeOf t)), vm := .none } : Cell))[H.size]? = some (arrV (cA (gg_akd t)) (gg_k n0) (fun _ => defaultValue (newarray.typeOf t))) := by
      rw [Array.getElem?_push_size, ← arrV_new]
      rfl
    have o1 : ∀ q : Nat, q < H.size → (H.push ({ cls := cA (gg_akd t), slots := Array.replicate (gg_i n0).toNatClampNeg (defaultValue (newarray.typeOf t)), vm := .none } : Cell))[q]? = H[q]? := fun q hq => by rw [Array.getElem?_push, if_neg (Nat.ne_of_lt hq)]
    have kk2 := IH _ _ _ _ (H.push ({ cls := cA (gg_akd t), slots := Array.replicate (gg_i n0).toNatClampNeg (defaultValue (newarray.typeOf t)), vm := .none } : Cell)) locs (cells + 1) (slots + gg_k n0) ls hf ⟨hL, hl, gy_H_mk hH (hat _ e1) (by simp) o1, ⟨Nat.le_trans hS.1 (by simp), fun q a1 a2 => (o1 q (by have := hS.1; omega)).trans (hS.2.1 q a1 a2), hS.2.2⟩, by show cells + 1 + cb = w.2.2.1 + 1; omega, by show slots + gg_k n0 + sb = w.2.2.2 + gg_k n0; omega⟩
    rw [List.map_cons, show yv S0 b ad opq (2, ((w.2.2.1 + 1 : Nat) : Int)) = .ref (S0 + w.2.2.1) from rfl, ← hsz] at kk2
    exact kk2
  cases t
  case int =>
    refine main .int 0 rfl (hts _ gw_ai) (by decide) rfl trivial fun H1 e1 => ?_
    have hsh : (gy_mk w (1, gg_k n0, 0) (fun _ => gy_de 1) (gg_k n0)).1 (w.2.2.1 + 1) = (1, gg_k n0, 0) := gy_sup_at
    show va_at D gg_cl (S0 + w.2.2.1, gy_ce S0 b ad opq cA (gy_mk w (1, gg_k n0, 0) (fun _ => gy_de 1) (gg_k n0)) (w.2.2.1 + 1)) H1
    rw [gy_ce_num (kd := 1) (by rw [hsh]) (Or.inl rfl), hsh]
    show H1[_]? = some (vp_cell _ _)
    rw [← hsz, e1, vp_cell_i]
    congr 2
    funext j
    show Value.int (gg_i 0) = Value.int (gg_i (gy_row w.2.1 (w.2.2.1 + 1) (fun _ => gy_de 1) (w.2.2.1 + 1) j).2)
    rw [gy_row_at]
    rfl
  case boolean =>
    refine main .boolean 1 rfl (hts _ gw_az) (by decide) rfl trivial fun H1 e1 => ?_
    have hsh : (gy_mk w (2, gg_k n0, 0) (fun _ => gy_de 2) (gg_k n0)).1 (w.2.2.1 + 1) = (2, gg_k n0, 0) := gy_sup_at
    show va_at D gg_cl (S0 + w.2.2.1, gy_ce S0 b ad opq cA (gy_mk w (2, gg_k n0, 0) (fun _ => gy_de 2) (gg_k n0)) (w.2.2.1 + 1)) H1
    rw [gy_ce_num (kd := 2) (by rw [hsh]) (Or.inr (Or.inl rfl)), hsh]
    show H1[_]? = some (vp_cell _ _)
    rw [← hsz, e1, vp_cell_i]
    congr 2
    funext j
    show Value.int (gg_i 0) = Value.int (gg_i (gy_row w.2.1 (w.2.2.1 + 1) (fun _ => gy_de 2) (w.2.2.1 + 1) j).2)
    rw [gy_row_at]
    rfl
  case byte =>
    refine main .byte 2 rfl (hts _ gw_ab) (by decide) rfl trivial fun H1 e1 => ?_
    have hsh : (gy_mk w (3, gg_k n0, 0) (fun _ => gy_de 3) (gg_k n0)).1 (w.2.2.1 + 1) = (3, gg_k n0, 0) := gy_sup_at
    show va_at D gg_cl (S0 + w.2.2.1, gy_ce S0 b ad opq cA (gy_mk w (3, gg_k n0, 0) (fun _ => gy_de 3) (gg_k n0)) (w.2.2.1 + 1)) H1
    rw [gy_ce_num (kd := 3) (by rw [hsh]) (Or.inr (Or.inr rfl)), hsh]
    show H1[_]? = some (vp_cell _ _)
    rw [← hsz, e1, vp_cell_i]
    congr 2
    funext j
    show Value.int (gg_i 0) = Value.int (gg_i (gy_row w.2.1 (w.2.2.1 + 1) (fun _ => gy_de 3) (w.2.2.1 + 1) j).2)
    rw [gy_row_at]
    rfl
  case long =>
    refine main .long 3 rfl (hts _ gw_aj) (by decide) rfl trivial fun H1 e1 => ?_
    have hsh : (gy_mk w (4, gg_k n0, 0) (fun _ => gy_de 4) (gg_k n0)).1 (w.2.2.1 + 1) = (4, gg_k n0, 0) := gy_sup_at
    show va_at D gg_cl (S0 + w.2.2.1, gy_ce S0 b ad opq cA (gy_mk w (4, gg_k n0, 0) (fun _ => gy_de 4) (gg_k n0)) (w.2.2.1 + 1)) H1
    rw [gy_ce_long (by rw [hsh]), hsh]
    show H1[_]? = some (vp_cell _ _)
    rw [← hsz, e1, vp_cell_l]
    congr 2
    funext j
    show Value.long (gg_l 0) = Value.long (gg_l (gy_row w.2.1 (w.2.2.1 + 1) (fun _ => gy_de 4) (w.2.2.1 + 1) j).2)
    rw [gy_row_at]
    rfl
  all_goals (exact absurd h2 (by decide))
theorem gs_anewarray (IH : gy_Wk l S0 b Lx xs D cA ad opq p e R s m args below meth c Q k d nL cb sb o f) (CX : gy_CX l S0 b Lx xs D cA ad opq p R s m args meth c k d nL cb sb o) (RL : gy_Rl S0 b Lx xs D cA ad opq s nL cb sb L w H locs cells slots ls) {ix : Nat} (hdg : decode (gg_bt k) pc = .ok (.anewarray ix, n)) (h : gy_step (gy_ex Lx xs f) Lx xs d k pc L st w (.anewarray ix) n = some o) : W p l e R s m args below meth c H locs cells slots Q (F0 m pc ls (st.map (yv S0 b ad opq))) := by
  obtain ⟨⟨hx, hb, hml, hown, hts⟩, hE, hR, hin, hfl, hS0⟩ := id CX
  obtain ⟨hL, hl, hH, hS, hc, hs⟩ := id RL
  obtain ⟨rfl, h_1⟩ := gq_ok h
  cases hc0 : gg_lc (gg_mt k).1 ix with
  | none => rw [hc0] at h_1; cases h_1
  | some ci =>
    rw [hc0] at h_1
    obtain ⟨n0, r, rfl, ⟨h1, h4, h2⟩, hf⟩ := gynewa_ok h_1
    have hmn := gy_ex_mn _ _ _ _ _ _ _ _ _ _ hf
    have hmn1 : w.2.2.1 + 1 ≤ o.2.2.2.1 := hmn.1
    have hmn2 : w.2.2.2 + gg_k n0 ≤ o.2.2.2.2 := hmn.2
    have hsz : H.size = S0 + w.2.2.1 := hH.2
    have hlk := gg_lc_ok hc0
    have hsh : (gy_mk w (5, gg_k n0, ci) (fun _ => gy_de 5) (gg_k n0)).1 (w.2.2.1 + 1) = (5, gg_k n0, ci) := gy_sup_at
    have main : ∀ (C : String) (t0 : Nat), gy_cn ci = C → va_AO C s → (gg_ty cA)[t0]? = some (cA (5 + ci), .object C) → W p l e R s m args below meth c H locs cells slots Q (F0 m pc ls (.int (gg_i n0) :: r.map (yv S0 b ad opq))) := by
      intro C t0 hw hao ht0
      rw [hw] at hlk
      refine W.anew hx hb hown (hts _ hlk) (va_AO.use hao) rfl hdg rfl h1 (Nat.le_trans (Nat.mul_le_mul_right 4 h4) (by decide)) (by omega) (by show slots + gg_k n0 ≤ _; omega) fun cA' kA comp a1 a2 a3 a4 => ?_
      obtain ⟨kA2, comp2, b1, b2, b3, b4⟩ := (hE.1.2 t0 _ ht0).2
      have hcA : cA' = cA (5 + ci) := Option.some.inj (a1.symm.trans b4)
      subst hcA
      have e1 : (H.push ({ cls := cA (5 + ci), slots := Array.replicate (gg_i n0).toNatClampNeg .null, vm := .none } : Cell))[H.size]? = some (arrV (cA (5 + ci)) (gg_k n0) (fun _ => .null)) := by
        rw [Array.getElem?_push_size, ← arrV_new]
        rfl
      have o1 : ∀ q : Nat, q < H.size → (H.push ({ cls := cA (5 + ci), slots := Array.replicate (gg_i n0).toNatClampNeg .null, vm := .none } : Cell))[q]? = H[q]? := fun q hq => by rw [Array.getElem?_push, if_neg (Nat.ne_of_lt hq)]
      have kk2 := IH _ _ _ _ (H.push ({ cls := cA (5 + ci), slots := Array.replicate (gg_i n0).toNatClampNeg .null, vm := .none } : Cell)) locs (cells + 1) (slots + gg_k n0) ls hf ⟨hL, hl, gy_H_mk hH (by
          rw [gy_ce_ref (by rw [hsh]), hsh]
          show _ = some (vp_cell _ _)
          rw [← hsz, e1, vp_cell_q]
          congr 2
          funext j
          show Value.null = va_rf (yo S0 b ad (gy_row w.2.1 (w.2.2.1 + 1) (fun _ => gy_de 5) (w.2.2.1 + 1) j))
          rw [gy_row_at]
          rfl) (by simp) o1, ⟨Nat.le_trans hS.1 (by simp), fun q a1 a2 => (o1 q (by have := hS.1; omega)).trans (hS.2.1 q a1 a2), hS.2.2⟩, by show cells + 1 + cb = w.2.2.1 + 1; omega, by show slots + gg_k n0 + sb = w.2.2.2 + gg_k n0; omega⟩
      rw [List.map_cons, show yv S0 b ad opq (2, ((w.2.2.1 + 1 : Nat) : Int)) = .ref (S0 + w.2.2.1) from rfl, ← hsz] at kk2
      exact kk2
    have hA := hE.2.2.2.2.2.2.2.2.2.1.2.2.2.2.1
    have h5 : ci = 0 ∨ ci = 2 ∨ ci = 14 ∨ ci = 24 := by omega
    rcases h5 with rfl | rfl | rfl | rfl
    · exact main "GainGraphs$Graph" 4 rfl (hA _ (by decide +kernel)) rfl
    · exact main "GainGraphs$Parts" 5 rfl (hA _ (by decide +kernel)) rfl
    · exact main "GainGraphsLaw$Graph" 6 rfl (hA _ (by decide +kernel)) rfl
    · exact main "java/lang/Object" 7 rfl (hA _ (by decide +kernel)) rfl
theorem gw_c89 : Cond.classLink (gg_c 14) 89 "[[I" ∈ gg_gw := gg_lc_ok (o := 14) (i := 89) (c := 113) (by decide +kernel)
theorem gs_multianewarray (IH : gy_Wk l S0 b Lx xs D cA ad opq p e R s m args below meth c Q k d nL cb sb o f) (CX : gy_CX l S0 b Lx xs D cA ad opq p R s m args meth c k d nL cb sb o) (RL : gy_Rl S0 b Lx xs D cA ad opq s nL cb sb L w H locs cells slots ls) {ix dm : Nat} (hdg : decode (gg_bt k) pc = .ok (.multianewarray ix dm, n)) (h : gy_step (gy_ex Lx xs f) Lx xs d k pc L st w (.multianewarray ix dm) n = some o) : W p l e R s m args below meth c H locs cells slots Q (F0 m pc ls (st.map (yv S0 b ad opq))) := by
  obtain ⟨⟨hx, hb, hml, hown, hts⟩, hE, hR, hin, hfl, hS0⟩ := id CX
  obtain ⟨hL, hl, hH, hS, hc, hs⟩ := id RL
  obtain ⟨rfl, h_1⟩ := gq_ok h
  obtain ⟨⟨hq1, rfl, rfl⟩, h_2⟩ := gif_ok h_1
  obtain ⟨k0, r1, rfl, h_3⟩ := gpI_ok h_2
  obtain ⟨n0, r, rfl, h_4⟩ := gpI_ok h_3
  obtain ⟨⟨h1, h2, h3, h4⟩, hf⟩ := gif_ok h_4
  rw [hq1] at hown
  have hmn := gy_ex_mn _ _ _ _ _ _ _ _ _ _ hf
  have hmn1 : w.2.2.1 + 1 + gg_k n0 ≤ o.2.2.2.1 := hmn.1
  have hmn2 : w.2.2.2 + gg_k n0 + gg_k n0 * gg_k k0 ≤ o.2.2.2.2 := hmn.2
  have hsz : H.size = S0 + w.2.2.1 := hH.2
  have hn : gg_k n0 = (gg_i n0).toNatClampNeg := rfl
  have hk : gg_k k0 = (gg_i k0).toNatClampNeg := rfl
  have hover : (Cond.arrayOver (.array .int)).before args s = true := hE.2.2.2.2.2.2.2.2.2.1.2.2.2.2.2.1
  have hlink : (Cond.classLink (gg_c 14) 89 ("[" ++ (FieldType.array .int).toString)).before args s = true := by
    rw [show "[" ++ (FieldType.array .int).toString = "[[I" by decide +kernel]
    exact hts _ gw_c89
  intro T hT X
  obtain ⟨vm₁, cA', comp, -, fA, fC, hO, -, X', step⟩ := X.multianewarray2F hx hown hlink hover (hts _ gw_ai) (g := F0 m pc ls (.int (gg_i k0) :: .int (gg_i n0) :: r.map (yv S0 b ad opq))) rfl (by rw [hb]; exact hdg) rfl h1 h2
    (by omega) (Nat.le_trans (Nat.mul_le_mul h4 (show componentBytes .int ≤ 8 by decide)) (by decide)) (by omega) rfl rfl (by omega) (by rw [← hn, ← hk]; omega)
  have hcA : cA' = cA 30 := Option.some.inj (fA.symm.trans (hE.1.2 8 _ rfl).2)
  have hcy : comp = cA 1 := by
    have h5 := (hE.1.2 0 _ rfl).2
    have h6 : s.vm.findClass ("[" ++ FieldType.int.toString) = some (cA 1) := h5
    rw [show (FieldType.array .int).toString = "[" ++ FieldType.int.toString by decide +kernel] at fC
    exact Option.some.inj (fC.symm.trans h6)
  subst hcA
  subst hcy
  generalize hF : Jvm.Free.Multi.fill (T.setVm vm₁) (cA 30) (cA 1) (gg_i n0).toNatClampNeg (gg_i k0).toNatClampNeg (defaultValue .int) (gg_i n0).toNatClampNeg = F at X' step
  have hTh : (T.setVm vm₁).heap = H := hT
  obtain ⟨f1, f2, -, -⟩ := Jvm.Free.Multi.fill_facts (T.setVm vm₁) (cA 30) (cA 1) (gg_i n0).toNatClampNeg (gg_i k0).toNatClampNeg (defaultValue .int) (gg_i n0).toNatClampNeg
  rw [hF, hTh] at f1 f2
  have hold : ∀ x : Nat, x < H.size → F.heap[x]? = H[x]? := fun x hx => by
    have := Jvm.Free.Multi.fill_old (T.setVm vm₁) (cA 30) (cA 1) (gg_i n0).toNatClampNeg (gg_i k0).toNatClampNeg (defaultValue .int) (a := x) (by rw [hTh]; exact hx) (gg_i n0).toNatClampNeg
    rw [hF, hTh] at this
    exact this
  have hrow : ∀ j : Nat, j < gg_k n0 → F.heap[H.size + 1 + j]? = some (arrV (cA 1) (gg_k k0) (fun _ => .int (gg_i 0))) := fun j hj => by
    have := Jvm.Free.Multi.fill_inner (T.setVm vm₁) (cA 30) (cA 1) (gg_i n0).toNatClampNeg (gg_i k0).toNatClampNeg (defaultValue .int) (gg_i n0).toNatClampNeg j hj
    rw [hF, hTh] at this
    rw [this, ← arrV_new]
    rfl
  rw [gy_outer] at f2
  obtain ⟨t, a1, b1⟩ := IH _ _ _ _ F.heap locs (cells + 1 + gg_k n0) (slots + gg_k n0 + gg_k n0 * gg_k k0) ls hf ⟨hL, hl, gy_H_push (n := 1 + gg_k n0) hH (by show w.2.2.1 + 1 + gg_k n0 = _; omega) (fun o ho => ⟨by
        show (if o = w.2.2.1 + 1 then _ else if w.2.2.1 + 1 < o ∧ o ≤ w.2.2.1 + 1 + gg_k n0 then _ else w.1 o) = w.1 o
        rw [if_neg (by omega), if_neg (by omega)], by
        funext j
        show (if o = w.2.2.1 + 1 then _ else if w.2.2.1 + 1 < o ∧ o ≤ w.2.2.1 + 1 + gg_k n0 then _ else w.2.1 o j) = w.2.1 o j
        rw [if_neg (by omega), if_neg (by omega)]⟩) (fun j hj => by
        by_cases hj0 : j = 0
        · subst hj0
          rw [gy_ce_ref (by show (if w.2.2.1 + 1 + 0 = w.2.2.1 + 1 then (5, gg_k n0, 25) else _ : Nat × Nat × Nat).1 = 5; rw [if_pos rfl])]
          have e0 : (if w.2.2.1 + 1 + 0 = w.2.2.1 + 1 then (5, gg_k n0, 25) else if w.2.2.1 + 1 < w.2.2.1 + 1 + 0 ∧ w.2.2.1 + 1 + 0 ≤ w.2.2.1 + 1 + gg_k n0 then (1, gg_k k0, 0) else w.1 (w.2.2.1 + 1 + 0) : Nat × Nat × Nat) = (5, gg_k n0, 25) := if_pos rfl
          dsimp only
          rw [e0]
          show F.heap[S0 + (w.2.2.1 + 0)]? = some (vp_cell _ _)
          rw [show S0 + (w.2.2.1 + 0) = H.size by omega, f2, vp_cell_q]
          congr 2
          funext q
          rw [if_pos rfl]
          show va_rf (if q < (gg_i n0).toNatClampNeg then some (H.size + 1 + q) else none) = va_rf (gg_ro S0 b (if q < gg_k n0 then ((w.2.2.1 + 2 + q : Nat) : Int) else -1))
          rw [← hn]
          by_cases hq : q < gg_k n0
          · rw [if_pos hq, if_pos hq]
            show va_rf (some (H.size + 1 + q)) = va_rf (gg_ro S0 b (Int.ofNat (w.2.2.1 + 2 + q)))
            rw [gg_ro_pos (by omega), hsz]
            congr 2
            omega
          · rw [if_neg hq, if_neg hq]
            rfl
        · have e0 : (if w.2.2.1 + 1 + j = w.2.2.1 + 1 then (5, gg_k n0, 25) else if w.2.2.1 + 1 < w.2.2.1 + 1 + j ∧ w.2.2.1 + 1 + j ≤ w.2.2.1 + 1 + gg_k n0 then (1, gg_k k0, 0) else w.1 (w.2.2.1 + 1 + j) : Nat × Nat × Nat) = (1, gg_k k0, 0) := by rw [if_neg (by omega), if_pos (by omega)]
          rw [gy_ce_num (kd := 1) (by dsimp only; rw [e0]) (Or.inl rfl)]
          dsimp only
          rw [e0]
          show F.heap[S0 + (w.2.2.1 + j)]? = some (vp_cell _ _)
          rw [show S0 + (w.2.2.1 + j) = H.size + 1 + (j - 1) by omega, hrow (j - 1) (by omega), vp_cell_i]
          congr 2
          funext q
          rw [if_neg (by omega), if_pos (by omega)]) (by omega) hold, ⟨by have := hS.1; omega, fun x g1 g2 => (hold x (Nat.lt_of_lt_of_le g1 hS.1)).trans (hS.2.1 x g1 g2), hS.2.2⟩, by show cells + 1 + gg_k n0 + cb = w.2.2.1 + 1 + gg_k n0; omega, by show slots + gg_k n0 + gg_k n0 * gg_k k0 + sb = w.2.2.2 + gg_k n0 + gg_k n0 * gg_k k0; omega⟩ F rfl X'
  refine ⟨t, step t ?_, b1⟩
  have e : T.heap.size = H.size := by rw [hT]
  rw [e]
  rw [List.map_cons, show yv S0 b ad opq (2, ((w.2.2.1 + 1 : Nat) : Int)) = .ref (S0 + w.2.2.1) from rfl, ← hsz] at a1
  exact a1
end GS4
