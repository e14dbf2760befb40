/-! the machine follows the interpreter: what is made, copied; Math; ends -/
theorem gw_dv : ∀ c, c < 8 → ∀ (S0 b : Nat) (adK adV : Nat → Nat) (opq : Value) (w : gg_W) (a : Nat), (∀ k, w.1 a k = -1) → (∀ k, w.2.1 a k = 0) → ∀ k, k < (gg_cln c).2.2 → defaultValue (gg_tyn c k) = vp_V (gg_fl S0 b adK adV opq c w a) k := by
  intro c hc S0 b adK adV opq w a h1 h2 k hk
  obtain ⟨g1, g2, g3, g4, g5, g6, g7, g8⟩ := gg_cf hc
  unfold vp_V
  rw [List.getD_eq_getElem?_getD, gg_fl_get (by rw [g2]; exact hk)]
  show _ = gv S0 b adK adV opq (gg_rd (gg_ft c k) w a k)
  unfold gg_rd
  rw [h1, h2]
  rcases g7 k hk with z | z | z
  · rw [z.1, z.2]; rfl
  · rw [z.1, z.2]; rfl
  · rw [z.1, z.2.2]; rfl
theorem gg_sh99_all : gg_shs.all (fun e => decide (e.1 < 99)) = true := by decide +kernel
theorem gg_sh99 {a : Nat} (h : 99 ≤ (gg_sh a).1) : False := by
  unfold gg_sh at h
  rw [List.getD_eq_getElem?_getD] at h
  cases hq : gg_shs[a]? with
  | none => rw [hq] at h; exact absurd h (by decide)
  | some e =>
    rw [hq] at h
    have h2 : e.1 < 99 := of_decide_eq_true (List.all_eq_true.mp gg_sh99_all e (List.mem_of_getElem? hq))
    have h3 : 99 ≤ e.1 := h
    omega
section GS4
variable {l : Launch} {S0 b Lx : Nat} {xs : Nat → Int32} {D : va_G} {cA : Nat → ClassId} {adK adV : Nat → Nat} {opq : Value} {p : Program} {e : Env} {R : Room} {s : State} {m : MethodId} {args : Array Value} {below : List Frame} {meth : Method} {c : Code} {Q : State → Prop} {k d nL cb sb : Nat} {o : gg_O} {f : Nat}
variable {pc n : Nat} {L st : List gg_V} {w w' : gg_W} {H H' : Heap} {locs : List Loc} {cells slots : Nat} {ls : Array Slot}
/-- one cell was made -/
theorem gg_H_push (hH : gg_H S0 b Lx xs D cA adK adV opq w H) (hcc : w.2.2.2.1 + 1 = w.2.2.1) (h1 : w'.2.2.1 = w.2.2.1 + 1) (h2 : w'.2.2.2.1 = w.2.2.2.1 + 1) (hm : ∀ o, o ≠ w.2.2.1 → w'.1 o = w.1 o ∧ w'.2.1 o = w.2.1 o)
    (he : va_at D gg_cl (S0 + (w.2.2.1 - 1), gg_ce S0 b adK adV opq cA w' w.2.2.1) H') (z : H'.size = H.size + 1) (oq : ∀ q, q < H.size → H'[q]? = H[q]?) : gg_H S0 b Lx xs D cA adK adV opq w' H' := by
  obtain ⟨hP, h3, h4, h5, h6⟩ := hH
  refine ⟨?_, by omega, by omega, ⟨by omega, fun _ => by have := h5.2 hcc; omega⟩, ⟨rfl, rfl⟩⟩
  rw [← gg_ws_push S0 b adK adV opq cA (w := w) h3 h1 (fun o ho => gg_ce_congr (hm o ho).1 (hm o ho).2)]
  refine (hP.kept fun j q hq => oq q.1 ((hP j q hq).lt)).app fun j q hq => ?_
  have hz : j < 1 := (List.getElem?_eq_some_iff.mp hq).1
  rw [show j = 0 by omega] at hq
  cases hq
  exact he
theorem gg_fill_ne {g : gg_M} {a o : Nat} {x : Int} (h : o ≠ a) : gg_fill g a x o = g o := by
  funext j
  unfold gg_fill
  rw [if_neg h]
theorem gg_fill_at {g : gg_M} {a k : Nat} {x : Int} : gg_fill g a x a k = x := by
  unfold gg_fill
  rw [if_pos rfl]
theorem gs_new (IH : gg_Wk l S0 b Lx xs D cA adK adV opq p e R s m args below meth c Q k d nL cb sb o f) (CX : gg_CX l S0 b Lx xs D cA adK adV opq p R s m args meth c k d nL cb sb o) (RL : gg_Rl S0 b Lx xs D cA adK adV opq s nL cb sb L w H locs cells slots ls) {ix : Nat} (hthr : gg_thr k pc (.new ix) = none) (hdg : decode (gg_bt k) pc = .ok (.new ix, n)) (h : gg_step (gg_ex Lx xs f) Lx xs d k pc L st w (.new ix) n = some o) : W p l e R s m args below meth c H locs cells slots Q (F0 m pc ls (st.map (gv S0 b adK adV opq))) := by
  obtain ⟨⟨hx, hb, hml, hown, hts⟩, hE, hR, hin, hfl, hS0⟩ := id CX
  obtain ⟨hL, hl, hH, hS, hc, hs⟩ := id RL
  obtain ⟨rfl, h_1⟩ := gq_ok h
  rw [hthr] at h_1
  cases hc0 : gg_lc (gg_mt k).1 ix with
  | none => rw [hc0] at h_1; cases h_1
  | some ci =>
    rw [hc0] at h_1
    obtain ⟨⟨h1, h2, h3⟩, hf⟩ := gnew_ok h_1
    obtain ⟨g1, g2, g3, g4, g5, g6, g7, g8⟩ := gg_cf h1
    have hmn := gg_ex_mn _ _ _ _ _ _ _ _ _ _ hf
    have hmn1 : w.2.2.2.1 + 1 ≤ o.2.2.2.2.1 := hmn.1
    have hmn2 : w.2.2.2.2 + gg_nf ci ≤ o.2.2.2.2.2 := hmn.2
    have hlk := gg_lc_ok hc0
    rw [if_neg (by omega), if_neg (by omega)] at hlk
    have hKn := hE.1.1 ci _ (gg_cl_at h1)
    have hsz : H.size = S0 + (w.2.2.1 - 1) := by have := hH.2.2.2.1.2 h3; omega
    refine W.newcK hx hb hown (hts _ hlk) (hts _ g4) (hts _ g3) rfl hdg (by omega) (by rw [← g2]; omega) (by rw [← g1]; exact hKn.2.1) hsz fun H1 kC hkC e1 z1 o1 => ?_
    have hb9 := u_born (gg_tyn ci) hts g5 hKn hkC e1 g6
    have kk2 := IH _ _ _ _ H1 locs (cells + 1) (slots + (gg_cln ci).2.2) ls hf ⟨hL, hl, gg_H_push hH h3 rfl rfl (fun o ho => ⟨gg_fill_ne ho, gg_fill_ne ho⟩) (by
        rw [gg_ce_obj h2]
        exact ⟨_, gg_cl_at h1, hb9.to (fun j hj => gw_dv ci h1 S0 b adK adV opq _ w.2.2.1 (fun _ => gg_fill_at) (fun _ => gg_fill_at) j hj)⟩) (by omega) (fun q hq => o1 q (by omega)), ⟨Nat.le_trans hS.1 (by omega), fun q a1 a2 => (o1 q (by have := hS.1; omega)).trans (hS.2.1 q a1 a2), hS.2.2⟩, by show cells + 1 + cb = w.2.2.2.1 + 1; omega, by show slots + _ + sb = w.2.2.2.2 + gg_nf ci; rw [g2]; omega⟩
    rw [List.map_cons, show gv S0 b adK adV opq (2, (w.2.2.1 : Int)) = .ref (S0 + (w.2.2.1 - 1)) from gg_rf_pos hH.2.1] at kk2
    exact kk2

theorem gs_newarray (IH : gg_Wk l S0 b Lx xs D cA adK adV opq p e R s m args below meth c Q k d nL cb sb o f) (CX : gg_CX l S0 b Lx xs D cA adK adV opq p R s m args meth c k d nL cb sb o) (RL : gg_Rl S0 b Lx xs D cA adK adV opq s nL cb sb L w H locs cells slots ls) {t : ArrayType} (hdg : decode (gg_bt k) pc = .ok (.newarray t, n)) (h : gg_step (gg_ex Lx xs f) Lx xs d k pc L st w (.newarray t) n = some o) : W p l e R s m args below meth c H locs cells slots Q (F0 m pc ls (st.map (gv S0 b adK adV opq))) := by
  obtain ⟨⟨hx, hb, hml, hown, hts⟩, hE, hR, hin, hfl, hS0⟩ := id CX
  obtain ⟨hL, hl, hH, hS, hc, hs⟩ := id RL
  obtain ⟨rfl, h_1⟩ := gq_ok h
  obtain ⟨n0, r, rfl, ⟨h1, h2, h3, h4⟩, hf⟩ := gnewa_ok h_1
  have hmn := gg_ex_mn _ _ _ _ _ _ _ _ _ _ hf
  have hmn1 : w.2.2.2.1 + 1 ≤ o.2.2.2.2.1 := hmn.1
  have hmn2 : w.2.2.2.2 + gg_k n0 ≤ o.2.2.2.2.2 := hmn.2
  have hsz : H.size = S0 + (w.2.2.1 - 1) := by have := hH.2.2.2.1.2 h3; omega
  have main : ∀ (ty : FieldType) (t0 : Nat), newarray.typeOf t = ty → (Cond.arrayClass ty).before args s = true → componentBytes ty ≤ 8 → (gg_ty cA)[t0]? = some (cA (gg_akd t), ty) → (match ty with | .object _ => False | _ => True) →
      (∀ H1 : Heap, H1[H.size]? = some (arrV (cA (gg_akd t)) (gg_k n0) (fun _ => defaultValue ty)) → va_at D gg_cl (S0 + (w.2.2.1 - 1), gg_ce S0 b adK adV opq cA (gg_fill w.1 w.2.2.1 (-1), gg_fill w.2.1 w.2.2.1 0, w.2.2.1 + 1, w.2.2.2.1 + 1, w.2.2.2.2 + gg_k n0) w.2.2.1) H1) →
      W p l e R s m args below meth c H locs cells slots Q (F0 m pc ls (.int (gg_i n0) :: r.map (gv S0 b adK adV opq))) := by
    intro ty t0 hty har hcb ht0 hno hat
    subst hty
    refine W.newa hx hb har rfl hdg rfl h1 (Nat.le_trans (Nat.mul_le_mul h4 hcb) (by decide)) (by omega) (by show slots + gg_k n0 ≤ _; omega) fun cA' kA comp a1 a2 a3 => ?_
    have hra := (hE.1.2 t0 _ ht0).2
    have hcA : cA' = cA (gg_akd t) := by
      cases t <;> first | exact Option.some.inj (a1.symm.trans hra) | exact absurd hno (by simp [newarray.typeOf])
    subst hcA
    have e1 : (H.push ({ cls := cA (gg_akd t), slots := Array.replicate (gg_i n0).toNatClampNeg (defaultValue (newarray.typeOf t)), vm := .none } : Cell))[H.size]? = some (arrV (cA (gg_akd t)) (gg_k n0) (fun _ => defaultValue (newarray.typeOf t))) := by
      rw [Array.getElem?_push_size, ← arrV_new]
      rfl
    have o1 : ∀ q : Nat, q < H.size → (H.push ({ cls := cA (gg_akd t), slots := Array.replicate (gg_i n0).toNatClampNeg (defaultValue (newarray.typeOf t)), vm := .none } : Cell))[q]? = H[q]? := fun q hq => by rw [Array.getElem?_push, if_neg (Nat.ne_of_lt hq)]
    have kk2 := IH _ _ _ _ (H.push ({ cls := cA (gg_akd t), slots := Array.replicate (gg_i n0).toNatClampNeg (defaultValue (newarray.typeOf t)), vm := .none } : Cell)) locs (cells + 1) (slots + gg_k n0) ls hf ⟨hL, hl, gg_H_push hH h3 rfl rfl (fun o ho => ⟨gg_fill_ne ho, gg_fill_ne ho⟩) (hat _ e1) (by simp) o1, ⟨Nat.le_trans hS.1 (by simp), fun q a1 a2 => (o1 q (by have := hS.1; omega)).trans (hS.2.1 q a1 a2), hS.2.2⟩, by show cells + 1 + cb = w.2.2.2.1 + 1; omega, by show slots + gg_k n0 + sb = w.2.2.2.2 + gg_k n0; omega⟩
    rw [List.map_cons, show gv S0 b adK adV opq (2, (w.2.2.1 : Int)) = .ref (S0 + (w.2.2.1 - 1)) from gg_rf_pos hH.2.1, ← hsz] at kk2
    exact kk2
  have hsh1 : (gg_sh w.2.2.1).1 = gg_akd t := by rw [h2]
  have hsh2 : (gg_sh w.2.2.1).2.1 = gg_k n0 := by rw [h2]
  cases t
  case int =>
    refine main .int 0 rfl (hts _ gw_ai) (by decide) rfl trivial fun H1 e1 => ?_
    rw [gg_ce_num hsh1 (Or.inl rfl), hsh2]
    show H1[_]? = some (vp_cell _ _)
    rw [← hsz, e1, vp_cell_i]
    congr 2
    funext j
    show Value.int (gg_i 0) = Value.int (gg_i (gg_fill w.2.1 w.2.2.1 0 w.2.2.1 j))
    rw [gg_fill_at]
  case boolean =>
    refine main .boolean 1 rfl (hts _ gw_az) (by decide) rfl trivial fun H1 e1 => ?_
    rw [gg_ce_num hsh1 (Or.inr (Or.inl rfl)), hsh2]
    show H1[_]? = some (vp_cell _ _)
    rw [← hsz, e1, vp_cell_i]
    congr 2
    funext j
    show Value.int (gg_i 0) = Value.int (gg_i (gg_fill w.2.1 w.2.2.1 0 w.2.2.1 j))
    rw [gg_fill_at]
  case byte =>
    refine main .byte 2 rfl (hts _ gw_ab) (by decide) rfl trivial fun H1 e1 => ?_
    rw [gg_ce_num hsh1 (Or.inr (Or.inr rfl)), hsh2]
    show H1[_]? = some (vp_cell _ _)
    rw [← hsz, e1, vp_cell_i]
    congr 2
    funext j
    show Value.int (gg_i 0) = Value.int (gg_i (gg_fill w.2.1 w.2.2.1 0 w.2.2.1 j))
    rw [gg_fill_at]
  case long =>
    refine main .long 3 rfl (hts _ gw_aj) (by decide) rfl trivial fun H1 e1 => ?_
    rw [gg_ce_long hsh1, hsh2]
    show H1[_]? = some (vp_cell _ _)
    rw [← hsz, e1, vp_cell_l]
    congr 2
    funext j
    show Value.long (gg_l 0) = Value.long (gg_l (gg_fill w.2.1 w.2.2.1 0 w.2.2.1 j))
    rw [gg_fill_at]
  all_goals (exact absurd hsh1 (fun z => gg_sh99 (Nat.le_of_eq z.symm)))

theorem gs_anewarray (IH : gg_Wk l S0 b Lx xs D cA adK adV opq p e R s m args below meth c Q k d nL cb sb o f) (CX : gg_CX l S0 b Lx xs D cA adK adV opq p R s m args meth c k d nL cb sb o) (RL : gg_Rl S0 b Lx xs D cA adK adV opq s nL cb sb L w H locs cells slots ls) {ix : Nat} (hdg : decode (gg_bt k) pc = .ok (.anewarray ix, n)) (h : gg_step (gg_ex Lx xs f) Lx xs d k pc L st w (.anewarray ix) n = some o) : W p l e R s m args below meth c H locs cells slots Q (F0 m pc ls (st.map (gv S0 b adK adV opq))) := by
  obtain ⟨⟨hx, hb, hml, hown, hts⟩, hE, hR, hin, hfl, hS0⟩ := id CX
  obtain ⟨hL, hl, hH, hS, hc, hs⟩ := id RL
  obtain ⟨rfl, h_1⟩ := gq_ok h
  cases hc0 : gg_lc (gg_mt k).1 ix with
  | none => rw [hc0] at h_1; cases h_1
  | some ci =>
    rw [hc0] at h_1
    obtain ⟨n0, r, rfl, ⟨h1, h2, h3, h4⟩, hf⟩ := gnewa_ok h_1
    have hmn := gg_ex_mn _ _ _ _ _ _ _ _ _ _ hf
    have hmn1 : w.2.2.2.1 + 1 ≤ o.2.2.2.2.1 := hmn.1
    have hmn2 : w.2.2.2.2 + gg_k n0 ≤ o.2.2.2.2.2 := hmn.2
    have hsz : H.size = S0 + (w.2.2.1 - 1) := by have := hH.2.2.2.1.2 h3; omega
    have hsh1 : (gg_sh w.2.2.1).1 = 5 := by rw [h2]
    have hsh2 : (gg_sh w.2.2.1).2.1 = gg_k n0 := by rw [h2]
    have hsh3 : (gg_sh w.2.2.1).2.2 = ci := by rw [h2]
    have hlk := gg_lc_ok hc0
    have main : ∀ (C : String) (t0 : Nat), Cond.classLink (gg_c (gg_mt k).1) ix C ∈ gg_gw → va_AO C s → (gg_ty cA)[t0]? = some (cA (5 + ci), .object C) → W p l e R s m args below meth c H locs cells slots Q (F0 m pc ls (.int (gg_i n0) :: r.map (gv S0 b adK adV opq))) := by
      intro C t0 hw hao ht0
      refine W.anew hx hb hown (hts _ hw) (va_AO.use hao) rfl hdg rfl h1 (Nat.le_trans (Nat.mul_le_mul_right 4 h4) (by decide)) (by omega) (by show slots + gg_k n0 ≤ _; omega) fun cA' kA comp a1 a2 a3 a4 => ?_
      obtain ⟨kA2, comp2, b1, b2, b3, b4⟩ := (hE.1.2 t0 _ ht0).2
      have hcA : cA' = cA (5 + ci) := Option.some.inj (a1.symm.trans b4)
      subst hcA
      have e1 : (H.push ({ cls := cA (5 + ci), slots := Array.replicate (gg_i n0).toNatClampNeg .null, vm := .none } : Cell))[H.size]? = some (arrV (cA (5 + ci)) (gg_k n0) (fun _ => .null)) := by
        rw [Array.getElem?_push_size, ← arrV_new]
        rfl
      have o1 : ∀ q : Nat, q < H.size → (H.push ({ cls := cA (5 + ci), slots := Array.replicate (gg_i n0).toNatClampNeg .null, vm := .none } : Cell))[q]? = H[q]? := fun q hq => by rw [Array.getElem?_push, if_neg (Nat.ne_of_lt hq)]
      have kk2 := IH _ _ _ _ (H.push ({ cls := cA (5 + ci), slots := Array.replicate (gg_i n0).toNatClampNeg .null, vm := .none } : Cell)) locs (cells + 1) (slots + gg_k n0) ls hf ⟨hL, hl, gg_H_push hH h3 rfl rfl (fun o ho => ⟨gg_fill_ne ho, gg_fill_ne ho⟩) (by
          rw [gg_ce_ref hsh1, hsh2, hsh3]
          show _ = some (vp_cell _ _)
          rw [← hsz, e1, vp_cell_q]
          congr 2
          funext j
          show Value.null = va_rf (gg_ro S0 b (gg_fill w.1 w.2.2.1 (-1) w.2.2.1 j))
          rw [gg_fill_at]
          rfl) (by simp) o1, ⟨Nat.le_trans hS.1 (by simp), fun q a1 a2 => (o1 q (by have := hS.1; omega)).trans (hS.2.1 q a1 a2), hS.2.2⟩, by show cells + 1 + cb = w.2.2.2.1 + 1; omega, by show slots + gg_k n0 + sb = w.2.2.2.2 + gg_k n0; omega⟩
      rw [List.map_cons, show gv S0 b adK adV opq (2, (w.2.2.1 : Int)) = .ref (S0 + (w.2.2.1 - 1)) from gg_rf_pos hH.2.1, ← hsz] at kk2
      exact kk2
    rcases gg_sh5 hsh1 with hc2 | hc2
    · have hci : ci = 0 := by omega
      subst hci
      exact main RX0 4 hlk hE.2.2.2.2.2.2.2.2.2.1.2.2.2.2.1 rfl
    · have hci : ci = 2 := by omega
      subst hci
      exact main RX2 5 hlk hE.2.2.2.2.2.2.2.2.2.1.2.2.2.2.2 rfl

end GS4
