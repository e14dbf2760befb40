/-! the machine follows the interpreter: arrays -/
theorem gald_ok {N : Nat} {xs : Nat → Int32} {kd t : Nat} {st : List gg_V} {w : gg_W} {f : List gg_V → Option gg_O} {x : gg_O} (h : gg_ald N xs kd t st w f = some x) : ∃ i : Int,
    (∃ r : List gg_V, st = (0, i) :: (2, Int.ofNat 0) :: r ∧ (kd = 1 ∧ gg_in i N = true) ∧ f ((0, (xs (gg_k i)).toInt) :: r) = some x) ∨
    (∃ (a : Nat) (r : List gg_V), st = (0, i) :: (2, Int.ofNat a) :: r ∧ 1 ≤ a ∧ (a < w.2.2.1 ∧ (gg_sh a).1 = kd ∧ gg_in i (gg_sh a).2.1 = true) ∧ f ((t, if t = 2 then w.1 a (gg_k i) else w.2.1 a (gg_k i)) :: r) = some x) ∨
    (∃ (s : Nat) (r : List gg_V), st = (0, i) :: (8, Int.ofNat s) :: r ∧ (kd = 3 ∧ s < 3 ∧ gg_in i (gg_tx s).length = true) ∧ f ((0, (gg_tx s).getD (gg_k i) 0) :: r) = some x) := by
  unfold gg_ald at h
  obtain ⟨i, r1, rfl, h1⟩ := gpI_ok h
  refine ⟨i, ?_⟩
  split at h1
  · rename_i a r
    split at h1
    · rename_i ha
      subst ha
      obtain ⟨h2, h3⟩ := gif_ok h1
      exact Or.inl ⟨r, rfl, h2, h3⟩
    · rename_i ha
      obtain ⟨h2, h3⟩ := gif_ok h1
      exact Or.inr (Or.inl ⟨a, r, rfl, by omega, h2, h3⟩)
  · rename_i s r
    obtain ⟨h2, h3⟩ := gif_ok h1
    exact Or.inr (Or.inr ⟨s, r, rfl, h2, h3⟩)
  · cases h1
theorem gast_ok {kd t : Nat} {st : List gg_V} {w : gg_W} {f : List gg_V → gg_W → Option gg_O} {x : gg_O} (h : gg_ast kd t st w f = some x) : ∃ (v i : Int) (a : Nat) (r : List gg_V), st = (t, v) :: (0, i) :: (2, Int.ofNat a) :: r ∧
    (1 ≤ a ∧ a < w.2.2.1 ∧ (gg_sh a).1 = kd ∧ gg_in i (gg_sh a).2.1 = true ∧ (kd = 2 → v = 0 ∨ v = 1)) ∧ f r (w.1, gg_up w.2.1 a (gg_k i) (if kd = 3 then io_i2b v else v), w.2.2) = some x := by
  unfold gg_ast at h
  split at h
  · rename_i t' v i a r
    obtain ⟨⟨h1, h2, h3, h4, h5, h6⟩, h7⟩ := gif_ok h
    subst h3
    exact ⟨v, i, a, r, rfl, ⟨h1, h2, h4, h5, h6⟩, h7⟩
  · cases h
theorem gaas_ok {st : List gg_V} {w : gg_W} {f : List gg_V → gg_W → Option gg_O} {x : gg_O} (h : gg_aas st w f = some x) : ∃ (v a : Nat) (i : Int) (r : List gg_V), st = (2, Int.ofNat v) :: (0, i) :: (2, Int.ofNat a) :: r ∧
    (1 ≤ a ∧ a < w.2.2.1 ∧ (gg_sh a).1 = 5 ∧ gg_in i (gg_sh a).2.1 = true ∧ 1 ≤ v ∧ v < w.2.2.1 ∧ gg_sh v = (0, 0, (gg_sh a).2.2)) ∧ f r (gg_up w.1 a (gg_k i) (v : Int), w.2) = some x := by
  unfold gg_aas at h
  split at h
  · rename_i v i a r
    obtain ⟨h1, h2⟩ := gif_ok h
    exact ⟨v, a, i, r, rfl, h1, h2⟩
  · cases h
theorem gg_sh5_all : gg_shs.all (fun e => decide (e.1 = 5 → e.2.2 = 0 ∨ e.2.2 = 2)) = true := by decide +kernel
theorem gg_sh5 {a : Nat} (h : (gg_sh a).1 = 5) : (gg_sh a).2.2 = 0 ∨ (gg_sh a).2.2 = 2 := by
  unfold gg_sh at h ⊢
  rw [List.getD_eq_getElem?_getD] at h ⊢
  cases hq : gg_shs[a]? with
  | none => rw [hq] at h; exact absurd h (by decide)
  | some e =>
    rw [hq] at h
    exact of_decide_eq_true (List.all_eq_true.mp gg_sh5_all e (List.mem_of_getElem? hq)) h
section GS3
variable {l : Launch} {S0 b Lx : Nat} {xs : Nat → Int32} {D : va_G} {cA : Nat → ClassId} {adK adV : Nat → Nat} {opq : Value} {p : Program} {e : Env} {R : Room} {s : State} {m : MethodId} {args : Array Value} {below : List Frame} {meth : Method} {c : Code} {Q : State → Prop} {k d nL cb sb : Nat} {o : gg_O} {f : Nat}
variable {pc n : Nat} {L st : List gg_V} {w : gg_W} {H : Heap} {locs : List Loc} {cells slots : Nat} {ls : Array Slot}
theorem gs_iaload (IH : gg_Wk l S0 b Lx xs D cA adK adV opq p e R s m args below meth c Q k d nL cb sb o f) (CX : gg_CX l S0 b Lx xs D cA adK adV opq p R s m args meth c k d nL cb sb o) (RL : gg_Rl S0 b Lx xs D cA adK adV opq s nL cb sb L w H locs cells slots ls) (hdg : decode (gg_bt k) pc = .ok (.iaload, n)) (h : gg_step (gg_ex Lx xs f) Lx xs d k pc L st w (.iaload) n = some o) : W p l e R s m args below meth c H locs cells slots Q (F0 m pc ls (st.map (gv S0 b adK adV opq))) := by
  obtain ⟨⟨hx, hb, hml, hown, hts⟩, hE, hR, hin, hfl, hS0⟩ := id CX
  obtain ⟨hL, hl, hH, hS, hc, hs⟩ := id RL
  obtain ⟨rfl, h_1⟩ := gq_ok h
  obtain ⟨i, h_2⟩ := gald_ok h_1
  rcases h_2 with ⟨r, rfl, ⟨h1, h2⟩, hf⟩ | ⟨a, r, rfl, h1, ⟨h2, h3, h4⟩, hf⟩ | ⟨s2, r, rfl, ⟨h1, h2, h3⟩, hf⟩
  · have kk := IH _ _ _ _ _ _ _ _ _ hf RL
    rw [List.map_cons, show gv S0 b adK adV opq (0, (xs (gg_k i)).toInt) = .int (xs (gg_i i).toNatClampNeg) from congrArg Value.int (gi_of _)] at kk
    obtain ⟨scr, hs1, -⟩ := id hE.2.2.1
    exact va_sld hx hb hE.2.2.1 (Array.getElem?_eq_some_iff.mp hs1).1 (Nat.not_le.mpr hE.2.2.2.1) hS (gin_ok h2) hdg kk
  · have kk := IH _ _ _ _ _ _ _ _ _ hf RL
    rw [List.map_cons, List.map_cons, show gv S0 b adK adV opq (2, Int.ofNat a) = .ref (S0 + (a - 1)) from gg_rf_pos h1]
    have he := gg_ws_get S0 b adK adV opq cA h1 h2
    rw [gg_ce_num h3 (Or.inl rfl)] at he
    exact va_iald (t0 := 0) hx hb hE.1 hH.1 (a - 1) he rfl (gin_ok h4) hdg kk
  · exact absurd h1 (by decide)

theorem gs_baload (IH : gg_Wk l S0 b Lx xs D cA adK adV opq p e R s m args below meth c Q k d nL cb sb o f) (CX : gg_CX l S0 b Lx xs D cA adK adV opq p R s m args meth c k d nL cb sb o) (RL : gg_Rl S0 b Lx xs D cA adK adV opq s nL cb sb L w H locs cells slots ls) (hdg : decode (gg_bt k) pc = .ok (.baload, n)) (h : gg_step (gg_ex Lx xs f) Lx xs d k pc L st w (.baload) n = some o) : W p l e R s m args below meth c H locs cells slots Q (F0 m pc ls (st.map (gv S0 b adK adV opq))) := by
  obtain ⟨⟨hx, hb, hml, hown, hts⟩, hE, hR, hin, hfl, hS0⟩ := id CX
  obtain ⟨hL, hl, hH, hS, hc, hs⟩ := id RL
  obtain ⟨rfl, h_1⟩ := gq_ok h
  have key : (∃ (i : Int) (a kd : Nat) (r : List gg_V), st = (0, i) :: (2, Int.ofNat a) :: r ∧ 1 ≤ a ∧ (kd = 2 ∨ kd = 3) ∧ (a < w.2.2.1 ∧ (gg_sh a).1 = kd ∧ gg_in i (gg_sh a).2.1 = true) ∧ gg_ex Lx xs f d k (pc + 1) L ((0, w.2.1 a (gg_k i)) :: r) w = some o) ∨
      (∃ (i : Int) (s2 : Nat) (r : List gg_V), st = (0, i) :: (8, Int.ofNat s2) :: r ∧ (s2 < 3 ∧ gg_in i (gg_tx s2).length = true) ∧ gg_ex Lx xs f d k (pc + 1) L ((0, (gg_tx s2).getD (gg_k i) 0) :: r) w = some o) := by
    split at h_1
    · split at h_1
      · obtain ⟨i, h_2⟩ := gald_ok h_1
        rcases h_2 with ⟨r, e1, ⟨h1, h2⟩, hf⟩ | ⟨a, r, e1, h1, h2, hf⟩ | ⟨s2, r, e1, ⟨h1, h2, h3⟩, hf⟩
        · exact absurd h1 (by decide)
        · exact Or.inl ⟨i, a, 2, r, e1, h1, Or.inl rfl, h2, hf⟩
        · exact absurd h1 (by decide)
      · obtain ⟨i, h_3⟩ := gald_ok h_1
        rcases h_3 with ⟨r, e1, ⟨h1, h2⟩, hf⟩ | ⟨a, r, e1, h1, h2, hf⟩ | ⟨s2, r, e1, ⟨h1, h2, h3⟩, hf⟩
        · exact absurd h1 (by decide)
        · exact Or.inl ⟨i, a, 3, r, e1, h1, Or.inr rfl, h2, hf⟩
        · exact Or.inr ⟨i, s2, r, e1, ⟨h2, h3⟩, hf⟩
    · obtain ⟨i, h_4⟩ := gald_ok h_1
      rcases h_4 with ⟨r, e1, ⟨h1, h2⟩, hf⟩ | ⟨a, r, e1, h1, h2, hf⟩ | ⟨s2, r, e1, ⟨h1, h2, h3⟩, hf⟩
      · exact absurd h1 (by decide)
      · exact Or.inl ⟨i, a, 3, r, e1, h1, Or.inr rfl, h2, hf⟩
      · exact Or.inr ⟨i, s2, r, e1, ⟨h2, h3⟩, hf⟩
  rcases key with ⟨i, a, kd, r, rfl, h1, hkd, ⟨h2, h3, h4⟩, hf⟩ | ⟨i, s2, r, rfl, ⟨h2, h3⟩, hf⟩
  · have kk := IH _ _ _ _ _ _ _ _ _ hf RL
    rw [List.map_cons, List.map_cons, show gv S0 b adK adV opq (2, Int.ofNat a) = .ref (S0 + (a - 1)) from gg_rf_pos h1]
    have he := gg_ws_get S0 b adK adV opq cA h1 h2
    rcases hkd with rfl | rfl
    · rw [gg_ce_num h3 (Or.inr (Or.inl rfl))] at he
      exact va_zald (t0 := 1) hx hb hE.1 hH.1 (a - 1) he rfl (gin_ok h4) hdg kk
    · rw [gg_ce_num h3 (Or.inr (Or.inr rfl))] at he
      exact va_bald (t0 := 2) hx hb hE.1 hH.1 (a - 1) he rfl (gin_ok h4) hdg kk
  · have kk := IH _ _ _ _ _ _ _ _ _ hf RL
    exact va_tb hx hb (hE.2.2.2.2.2.2.2.1 s2 h2).2.2.2 hS (gin_ok h3) rfl hdg kk

theorem gs_laload (IH : gg_Wk l S0 b Lx xs D cA adK adV opq p e R s m args below meth c Q k d nL cb sb o f) (CX : gg_CX l S0 b Lx xs D cA adK adV opq p R s m args meth c k d nL cb sb o) (RL : gg_Rl S0 b Lx xs D cA adK adV opq s nL cb sb L w H locs cells slots ls) (hdg : decode (gg_bt k) pc = .ok (.laload, n)) (h : gg_step (gg_ex Lx xs f) Lx xs d k pc L st w (.laload) n = some o) : W p l e R s m args below meth c H locs cells slots Q (F0 m pc ls (st.map (gv S0 b adK adV opq))) := by
  obtain ⟨⟨hx, hb, hml, hown, hts⟩, hE, hR, hin, hfl, hS0⟩ := id CX
  obtain ⟨hL, hl, hH, hS, hc, hs⟩ := id RL
  obtain ⟨rfl, h_1⟩ := gq_ok h
  obtain ⟨i, h_2⟩ := gald_ok h_1
  rcases h_2 with ⟨r, rfl, ⟨h1, h2⟩, hf⟩ | ⟨a, r, rfl, h1, ⟨h2, h3, h4⟩, hf⟩ | ⟨s2, r, rfl, ⟨h1, h2, h3⟩, hf⟩
  · exact absurd h1 (by decide)
  · have kk := IH _ _ _ _ _ _ _ _ _ hf RL
    rw [List.map_cons, List.map_cons, show gv S0 b adK adV opq (2, Int.ofNat a) = .ref (S0 + (a - 1)) from gg_rf_pos h1]
    have he := gg_ws_get S0 b adK adV opq cA h1 h2
    rw [gg_ce_long h3] at he
    exact va_lald (t0 := 3) hx hb hE.1 hH.1 (a - 1) he rfl (gin_ok h4) hdg kk
  · exact absurd h1 (by decide)

theorem gs_aaload (IH : gg_Wk l S0 b Lx xs D cA adK adV opq p e R s m args below meth c Q k d nL cb sb o f) (CX : gg_CX l S0 b Lx xs D cA adK adV opq p R s m args meth c k d nL cb sb o) (RL : gg_Rl S0 b Lx xs D cA adK adV opq s nL cb sb L w H locs cells slots ls) (hdg : decode (gg_bt k) pc = .ok (.aaload, n)) (h : gg_step (gg_ex Lx xs f) Lx xs d k pc L st w (.aaload) n = some o) : W p l e R s m args below meth c H locs cells slots Q (F0 m pc ls (st.map (gv S0 b adK adV opq))) := by
  obtain ⟨⟨hx, hb, hml, hown, hts⟩, hE, hR, hin, hfl, hS0⟩ := id CX
  obtain ⟨hL, hl, hH, hS, hc, hs⟩ := id RL
  obtain ⟨rfl, h_1⟩ := gq_ok h
  obtain ⟨i, h_2⟩ := gald_ok h_1
  rcases h_2 with ⟨r, rfl, ⟨h1, h2⟩, hf⟩ | ⟨a, r, rfl, h1, ⟨h2, h3, h4⟩, hf⟩ | ⟨s2, r, rfl, ⟨h1, h2, h3⟩, hf⟩
  · exact absurd h1 (by decide)
  · have kk := IH _ _ _ _ _ _ _ _ _ hf RL
    rw [List.map_cons, show gv S0 b adK adV opq (2, if 2 = 2 then w.1 a (gg_k i) else w.2.1 a (gg_k i)) = va_rf (gg_ro S0 b (w.1 a (gg_k i))) from (gg_ro_rf S0 b _).symm] at kk
    rw [List.map_cons, List.map_cons, show gv S0 b adK adV opq (2, Int.ofNat a) = .ref (S0 + (a - 1)) from gg_rf_pos h1]
    have he := gg_ws_get S0 b adK adV opq cA h1 h2
    rw [gg_ce_ref h3] at he
    have hc2 : (gg_sh a).2.2 = 0 ∨ (gg_sh a).2.2 = 2 := gg_sh5 h3
    rcases hc2 with hc2 | hc2
    · rw [hc2] at he
      exact va_aldq (t0 := 4) hx hb hE.1 hH.1 (a - 1) he rfl (gin_ok h4) hdg kk
    · rw [hc2] at he
      exact va_aldq (t0 := 5) hx hb hE.1 hH.1 (a - 1) he rfl (gin_ok h4) hdg kk
  · exact absurd h1 (by decide)

theorem gs_iastore (IH : gg_Wk l S0 b Lx xs D cA adK adV opq p e R s m args below meth c Q k d nL cb sb o f) (CX : gg_CX l S0 b Lx xs D cA adK adV opq p R s m args meth c k d nL cb sb o) (RL : gg_Rl S0 b Lx xs D cA adK adV opq s nL cb sb L w H locs cells slots ls) (hdg : decode (gg_bt k) pc = .ok (.iastore, n)) (h : gg_step (gg_ex Lx xs f) Lx xs d k pc L st w (.iastore) n = some o) : W p l e R s m args below meth c H locs cells slots Q (F0 m pc ls (st.map (gv S0 b adK adV opq))) := by
  obtain ⟨⟨hx, hb, hml, hown, hts⟩, hE, hR, hin, hfl, hS0⟩ := id CX
  obtain ⟨hL, hl, hH, hS, hc, hs⟩ := id RL
  obtain ⟨rfl, h_1⟩ := gq_ok h
  obtain ⟨v, i, a, r, rfl, ⟨h1, h2, h3, h4, h5⟩, hf⟩ := gast_ok h_1
  rw [List.map_cons, List.map_cons, List.map_cons, show gv S0 b adK adV opq (2, Int.ofNat a) = .ref (S0 + (a - 1)) from gg_rf_pos h1]
  have hat := gg_H_at hH h1 h2
  rw [gg_ce_num h3 (Or.inl rfl)] at hat
  refine W.iast (x := gg_i v) (j := gg_i i) hx hb hat ((hE.1.2 0 _ rfl).1 (gg_sh a).2.1 (fun j => .int (gg_i (w.2.1 a j)))) (fun q => by cases q) (by show ¬ (gg_i i < 0 ∨ (arrV _ _ _).slots.size ≤ _); rw [arrV_size]; exact gin_ok h4) rfl rfl hdg fun H1 e1 z oq => ?_
  refine IH _ _ _ _ _ _ _ _ _ hf ⟨hL, hl, gg_H_set hH h1 h2 rfl (fun o ho => ⟨rfl, gg_up_ne ho⟩) ?_ z oq, hS.put z oq (Nat.le_add_right _ _), hc, hs⟩
  rw [gg_ce_num h3 (Or.inl rfl)]
  show H1[S0 + (a - 1)]? = some (vp_cell _ _)
  rw [e1, vp_cell_i, vp_cell_i, arrV_store]
  congr 2
  funext q
  show updV _ _ _ q = .int (gg_i (gg_up w.2.1 a (gg_k i) _ a q))
  unfold updV gg_up gg_k
  by_cases hq : q = (gg_i i).toNatClampNeg
  · subst hq
    rw [if_pos rfl, if_pos ⟨rfl, rfl⟩]
    rfl
  · rw [if_neg hq, if_neg (fun z => hq z.2)]

theorem gs_lastore (IH : gg_Wk l S0 b Lx xs D cA adK adV opq p e R s m args below meth c Q k d nL cb sb o f) (CX : gg_CX l S0 b Lx xs D cA adK adV opq p R s m args meth c k d nL cb sb o) (RL : gg_Rl S0 b Lx xs D cA adK adV opq s nL cb sb L w H locs cells slots ls) (hdg : decode (gg_bt k) pc = .ok (.lastore, n)) (h : gg_step (gg_ex Lx xs f) Lx xs d k pc L st w (.lastore) n = some o) : W p l e R s m args below meth c H locs cells slots Q (F0 m pc ls (st.map (gv S0 b adK adV opq))) := by
  obtain ⟨⟨hx, hb, hml, hown, hts⟩, hE, hR, hin, hfl, hS0⟩ := id CX
  obtain ⟨hL, hl, hH, hS, hc, hs⟩ := id RL
  obtain ⟨rfl, h_1⟩ := gq_ok h
  obtain ⟨v, i, a, r, rfl, ⟨h1, h2, h3, h4, h5⟩, hf⟩ := gast_ok h_1
  rw [List.map_cons, List.map_cons, List.map_cons, show gv S0 b adK adV opq (2, Int.ofNat a) = .ref (S0 + (a - 1)) from gg_rf_pos h1]
  have hat := gg_H_at hH h1 h2
  rw [gg_ce_long h3] at hat
  refine W.last (x := gg_l v) (j := gg_i i) hx hb hat ((hE.1.2 3 _ rfl).1 (gg_sh a).2.1 (fun j => .long (gg_l (w.2.1 a j)))) (fun q => by cases q) (by show ¬ (gg_i i < 0 ∨ (arrV _ _ _).slots.size ≤ _); rw [arrV_size]; exact gin_ok h4) rfl rfl hdg fun H1 e1 z oq => ?_
  refine IH _ _ _ _ _ _ _ _ _ hf ⟨hL, hl, gg_H_set hH h1 h2 rfl (fun o ho => ⟨rfl, gg_up_ne ho⟩) ?_ z oq, hS.put z oq (Nat.le_add_right _ _), hc, hs⟩
  rw [gg_ce_long h3]
  show H1[S0 + (a - 1)]? = some (vp_cell _ _)
  rw [e1, vp_cell_l, vp_cell_l, arrV_store]
  congr 2
  funext q
  show updV _ _ _ q = .long (gg_l (gg_up w.2.1 a (gg_k i) _ a q))
  unfold updV gg_up gg_k
  by_cases hq : q = (gg_i i).toNatClampNeg
  · subst hq
    rw [if_pos rfl, if_pos ⟨rfl, rfl⟩]
    rfl
  · rw [if_neg hq, if_neg (fun z => hq z.2)]

theorem gs_bastore (IH : gg_Wk l S0 b Lx xs D cA adK adV opq p e R s m args below meth c Q k d nL cb sb o f) (CX : gg_CX l S0 b Lx xs D cA adK adV opq p R s m args meth c k d nL cb sb o) (RL : gg_Rl S0 b Lx xs D cA adK adV opq s nL cb sb L w H locs cells slots ls) (hdg : decode (gg_bt k) pc = .ok (.bastore, n)) (h : gg_step (gg_ex Lx xs f) Lx xs d k pc L st w (.bastore) n = some o) : W p l e R s m args below meth c H locs cells slots Q (F0 m pc ls (st.map (gv S0 b adK adV opq))) := by
  obtain ⟨⟨hx, hb, hml, hown, hts⟩, hE, hR, hin, hfl, hS0⟩ := id CX
  obtain ⟨hL, hl, hH, hS, hc, hs⟩ := id RL
  obtain ⟨rfl, h_1⟩ := gq_ok h
  have key : gg_ast 2 0 st w (fun st w => gg_ex Lx xs f d k (pc + 1) L st w) = some o ∨ gg_ast 3 0 st w (fun st w => gg_ex Lx xs f d k (pc + 1) L st w) = some o := by
    split at h_1
    · split at h_1
      · exact Or.inl h_1
      · exact Or.inr h_1
    · cases h_1
  rcases key with key | key
  · obtain ⟨v, i, a, r, rfl, ⟨h1, h2, h3, h4, h5⟩, hf⟩ := gast_ok key
    rw [List.map_cons, List.map_cons, List.map_cons, show gv S0 b adK adV opq (2, Int.ofNat a) = .ref (S0 + (a - 1)) from gg_rf_pos h1]
    have hat := gg_H_at hH h1 h2
    rw [gg_ce_num h3 (Or.inr (Or.inl rfl))] at hat
    refine W.zast (x := gg_i v) (j := gg_i i) hx hb hat ((hE.1.2 1 _ rfl).1 (gg_sh a).2.1 (fun j => .int (gg_i (w.2.1 a j)))) (fun q => by cases q) (by show ¬ (gg_i i < 0 ∨ (arrV _ _ _).slots.size ≤ _); rw [arrV_size]; exact gin_ok h4) rfl rfl hdg fun H1 e1 z oq => ?_
    refine IH _ _ _ _ _ _ _ _ _ hf ⟨hL, hl, gg_H_set hH h1 h2 rfl (fun o ho => ⟨rfl, gg_up_ne ho⟩) ?_ z oq, hS.put z oq (Nat.le_add_right _ _), hc, hs⟩
    rw [gg_ce_num h3 (Or.inr (Or.inl rfl))]
    show H1[S0 + (a - 1)]? = some (vp_cell _ _)
    rw [e1, vp_cell_i, vp_cell_i, arrV_store]
    congr 2
    funext q
    show updV _ _ _ q = .int (gg_i (gg_up w.2.1 a (gg_k i) _ a q))
    unfold updV gg_up gg_k
    by_cases hq : q = (gg_i i).toNatClampNeg
    · subst hq
      rw [if_pos rfl, if_pos ⟨rfl, rfl⟩]
      rcases h5 rfl with rfl | rfl <;> decide +kernel
    · rw [if_neg hq, if_neg (fun z => hq z.2)]
  · obtain ⟨v, i, a, r, rfl, ⟨h1, h2, h3, h4, h5⟩, hf⟩ := gast_ok key
    rw [List.map_cons, List.map_cons, List.map_cons, show gv S0 b adK adV opq (2, Int.ofNat a) = .ref (S0 + (a - 1)) from gg_rf_pos h1]
    have hat := gg_H_at hH h1 h2
    rw [gg_ce_num h3 (Or.inr (Or.inr rfl))] at hat
    refine W.bast (x := gg_i v) (j := gg_i i) hx hb hat ((hE.1.2 2 _ rfl).1 (gg_sh a).2.1 (fun j => .int (gg_i (w.2.1 a j)))) (fun q => by cases q) (by show ¬ (gg_i i < 0 ∨ (arrV _ _ _).slots.size ≤ _); rw [arrV_size]; exact gin_ok h4) rfl rfl hdg fun H1 e1 z oq => ?_
    refine IH _ _ _ _ _ _ _ _ _ hf ⟨hL, hl, gg_H_set hH h1 h2 rfl (fun o ho => ⟨rfl, gg_up_ne ho⟩) ?_ z oq, hS.put z oq (Nat.le_add_right _ _), hc, hs⟩
    rw [gg_ce_num h3 (Or.inr (Or.inr rfl))]
    show H1[S0 + (a - 1)]? = some (vp_cell _ _)
    rw [e1, vp_cell_i, vp_cell_i, arrV_store]
    congr 2
    funext q
    show updV _ _ _ q = .int (gg_i (gg_up w.2.1 a (gg_k i) _ a q))
    unfold updV gg_up gg_k
    by_cases hq : q = (gg_i i).toNatClampNeg
    · subst hq
      rw [if_pos rfl, if_pos ⟨rfl, rfl⟩]
      exact congrArg Value.int (gi_of _).symm
    · rw [if_neg hq, if_neg (fun z => hq z.2)]

theorem gs_aastore (IH : gg_Wk l S0 b Lx xs D cA adK adV opq p e R s m args below meth c Q k d nL cb sb o f) (CX : gg_CX l S0 b Lx xs D cA adK adV opq p R s m args meth c k d nL cb sb o) (RL : gg_Rl S0 b Lx xs D cA adK adV opq s nL cb sb L w H locs cells slots ls) (hdg : decode (gg_bt k) pc = .ok (.aastore, n)) (h : gg_step (gg_ex Lx xs f) Lx xs d k pc L st w (.aastore) n = some o) : W p l e R s m args below meth c H locs cells slots Q (F0 m pc ls (st.map (gv S0 b adK adV opq))) := by
  obtain ⟨⟨hx, hb, hml, hown, hts⟩, hE, hR, hin, hfl, hS0⟩ := id CX
  obtain ⟨hL, hl, hH, hS, hc, hs⟩ := id RL
  obtain ⟨rfl, h_1⟩ := gq_ok h
  obtain ⟨v, a, i, r, rfl, ⟨h1, h2, h3, h4, h5, h6, h7⟩, hf⟩ := gaas_ok h_1
  rw [List.map_cons, List.map_cons, List.map_cons, show gv S0 b adK adV opq (2, Int.ofNat a) = .ref (S0 + (a - 1)) from gg_rf_pos h1, show gv S0 b adK adV opq (2, Int.ofNat v) = .ref (S0 + (v - 1)) from gg_rf_pos h5]
  have hat := gg_H_at hH h1 h2
  rw [gg_ce_ref h3] at hat
  have hav := gg_H_at hH h5 h6
  rw [gg_ce_obj h7] at hav
  obtain ⟨rv, hrv, cellV, g1, g2, g3, -⟩ := hav
  have hlt : (gg_i i).toNatClampNeg < (gg_sh a).2.1 := Nat.not_le.mp fun q => gin_ok h4 (Or.inr q)
  have h0 : ¬ gg_i i < 0 := fun q => gin_ok h4 (Or.inl q)
  have hfin : ∀ H1 : Heap, H1[S0 + (a - 1)]? = some ((vp_cell (cA (5 + (gg_sh a).2.2)) ((gg_sh a).2.1, .inr (.inr (.inr (.inr fun j => gg_ro S0 b (w.1 a j)))))).setSlot (gg_i i).toNatClampNeg (.ref (S0 + (v - 1)))) → H1.size = H.size → (∀ q, q ≠ S0 + (a - 1) → H1[q]? = H[q]?) → W p l e R s m args below meth c H1 (locs ++ [⟨S0 + (a - 1), (gg_i i).toNatClampNeg⟩]) cells slots Q (F0 m (pc + 1) ls (r.map (gv S0 b adK adV opq))) := by
    intro H1 e1 z oq
    refine IH _ _ _ _ _ _ _ _ _ hf ⟨hL, hl, gg_H_set hH h1 h2 rfl (fun o ho => ⟨gg_up_ne ho, rfl⟩) ?_ z oq, hS.put z oq (Nat.le_add_right _ _), hc, hs⟩
    rw [gg_ce_ref h3]
    show H1[S0 + (a - 1)]? = some (vp_cell _ _)
    rw [e1, vp_cell_q, vp_cell_q, arrV_store]
    congr 2
    funext q
    show updV _ _ _ q = va_rf (gg_ro S0 b (gg_up w.1 a (gg_k i) (v : Int) a q))
    unfold updV gg_up gg_k
    by_cases hq : q = (gg_i i).toNatClampNeg
    · subst hq
      rw [if_pos rfl, if_pos ⟨rfl, rfl⟩, show ((v : Int)) = Int.ofNat v from rfl, gg_ro_pos h5]
      rfl
    · rw [if_neg hq, if_neg (fun z => hq z.2)]
  have hc2 : (gg_sh a).2.2 = 0 ∨ (gg_sh a).2.2 = 2 := gg_sh5 h3
  have main : ∀ (t0 ci : Nat) (r0 : vw_C), (gg_sh a).2.2 = ci → gg_cl[ci]? = some r0 → (gg_ty cA)[t0]? = some (cA (5 + ci), .object r0.1) → W p l e R s m args below meth c H locs cells slots Q (F0 m pc ls (.ref (S0 + (v - 1)) :: .int (gg_i i) :: .ref (S0 + (a - 1)) :: r.map (gv S0 b adK adV opq))) := by
    intro t0 ci r0 hci hr0 ht0
    rw [hci] at hat hfin g2
    have hcls := (hE.1.1 ci r0 hr0).2
    obtain ⟨kA, comp, k1, k2, k3, -⟩ := (hE.1.2 t0 _ ht0).2
    have hcomp : comp = D.1 ci := Option.some.inj (k3.symm.trans hcls.1)
    subst hcomp
    obtain ⟨kC, hkC, -⟩ := hcls.2
    exact W.aast hx hb hat (fun q h_1 => by cases h_1) (fun h_1 => by cases h_1) k1 k2 rfl hkC ⟨h0, by show _ < (arrV _ _ _).slots.size; rw [arrV_size]; exact hlt⟩ g1 (fun q h_1 => by rw [g3] at h_1; cases h_1) (by rw [g2]; exact hkC) (by rw [g2]; exact va_assign hcls) rfl rfl hdg hfin
  rcases hc2 with hc2 | hc2
  · exact main 4 0 _ hc2 rfl rfl
  · exact main 5 2 _ hc2 rfl rfl

theorem gs_arraylength (IH : gg_Wk l S0 b Lx xs D cA adK adV opq p e R s m args below meth c Q k d nL cb sb o f) (CX : gg_CX l S0 b Lx xs D cA adK adV opq p R s m args meth c k d nL cb sb o) (RL : gg_Rl S0 b Lx xs D cA adK adV opq s nL cb sb L w H locs cells slots ls) (hdg : decode (gg_bt k) pc = .ok (.arraylength, n)) (h : gg_step (gg_ex Lx xs f) Lx xs d k pc L st w (.arraylength) n = some o) : W p l e R s m args below meth c H locs cells slots Q (F0 m pc ls (st.map (gv S0 b adK adV opq))) := by
  obtain ⟨⟨hx, hb, hml, hown, hts⟩, hE, hR, hin, hfl, hS0⟩ := id CX
  obtain ⟨hL, hl, hH, hS, hc, hs⟩ := id RL
  obtain ⟨rfl, h_1⟩ := gq_ok h
  split at h_1
  · rename_i a r
    obtain ⟨⟨h2, h20⟩, h_2⟩ := gif_ok h_1
    unfold gg_len at h_2
    by_cases ha : a = 0
    · subst ha
      rw [if_pos rfl] at h_2
      obtain ⟨scr, hs1, -⟩ := id hE.2.2.1
      have kk := IH _ _ _ _ _ _ _ _ _ h_2 RL
      exact va_slen hx hb hE.2.2.1 (Array.getElem?_eq_some_iff.mp hs1).1 (Nat.not_le.mpr hE.2.2.2.1) hS hdg kk
    · rw [if_neg ha] at h_2
      have h1 : 1 ≤ a := by omega
      have he := gg_ws_get S0 b adK adV opq cA h1 h2
      rw [List.map_cons, show gv S0 b adK adV opq (2, Int.ofNat a) = .ref (S0 + (a - 1)) from gg_rf_pos h1]
      have hcase : ∃ n5, gg_ex Lx xs f d k (pc + 1) L ((0, (n5 : Int)) :: r) w = some o ∧ (gg_sh a).2.1 = n5 ∧ 1 ≤ (gg_sh a).1 ∧ (gg_sh a).1 ≤ 5 := by
        revert h_2
        generalize gg_sh a = t
        obtain ⟨x, y, z⟩ := t
        intro h_2
        match x, h_2 with
        | 0, h_2 => cases h_2
        | x + 1, h_2 =>
          by_cases hx5 : x + 1 ≤ 5
          · simp only [if_pos hx5] at h_2
            exact ⟨y, h_2, rfl, by omega, hx5⟩
          · simp only [if_neg hx5] at h_2
            cases h_2
      obtain ⟨n5, hf, hn5, hk1, hk5⟩ := hcase
      subst hn5
      have kk := IH _ _ _ _ _ _ _ _ _ hf RL
      have hkd : (gg_sh a).1 = 1 ∨ (gg_sh a).1 = 2 ∨ (gg_sh a).1 = 3 ∨ (gg_sh a).1 = 4 ∨ (gg_sh a).1 = 5 := by omega
      rcases hkd with h3 | h3 | h3 | h3 | h3
      · rw [gg_ce_num h3 (Or.inl rfl)] at he
        exact va_alen (t0 := 0) hx hb hE.1 hH.1 (a - 1) he rfl rfl hdg kk
      · rw [gg_ce_num h3 (Or.inr (Or.inl rfl))] at he
        exact va_alen (t0 := 1) hx hb hE.1 hH.1 (a - 1) he rfl rfl hdg kk
      · rw [gg_ce_num h3 (Or.inr (Or.inr rfl))] at he
        exact va_alen (t0 := 2) hx hb hE.1 hH.1 (a - 1) he rfl rfl hdg kk
      · rw [gg_ce_long h3] at he
        exact va_alen (t0 := 3) hx hb hE.1 hH.1 (a - 1) he rfl rfl hdg kk
      · rw [gg_ce_ref h3] at he
        rcases gg_sh5 h3 with hc2 | hc2
        · rw [hc2] at he
          exact va_alen (t0 := 4) hx hb hE.1 hH.1 (a - 1) he rfl rfl hdg kk
        · rw [hc2] at he
          exact va_alen (t0 := 5) hx hb hE.1 hH.1 (a - 1) he rfl rfl hdg kk
  · rename_i s2 r
    obtain ⟨h2, h_3⟩ := gif_ok h_1
    have kk := IH _ _ _ _ _ _ _ _ _ h_3 RL
    exact va_tlen hx hb (hE.2.2.2.2.2.2.2.1 s2 h2).2.2.2 hS rfl hdg kk
  · cases h_1

theorem gs_getstatic (IH : gg_Wk l S0 b Lx xs D cA adK adV opq p e R s m args below meth c Q k d nL cb sb o f) (CX : gg_CX l S0 b Lx xs D cA adK adV opq p R s m args meth c k d nL cb sb o) (RL : gg_Rl S0 b Lx xs D cA adK adV opq s nL cb sb L w H locs cells slots ls) {ix : Nat} (hdg : decode (gg_bt k) pc = .ok (.getstatic ix, n)) (h : gg_step (gg_ex Lx xs f) Lx xs d k pc L st w (.getstatic ix) n = some o) : W p l e R s m args below meth c H locs cells slots Q (F0 m pc ls (st.map (gv S0 b adK adV opq))) := by
  obtain ⟨⟨hx, hb, hml, hown, hts⟩, hE, hR, hin, hfl, hS0⟩ := id CX
  obtain ⟨hL, hl, hH, hS, hc, hs⟩ := id RL
  obtain ⟨rfl, h_1⟩ := gq_ok h
  split at h_1
  · rename_i hq
    obtain ⟨hq1, rfl⟩ := hq
    rw [hq1] at hown
    have kk := IH _ _ _ _ _ _ _ _ _ h_1 RL
    exact va_gets hx hb hE.2.2.2.2.1 hS hown (hts _ gw_str_38) (fun _ z => z) hdg kk
  · split at h_1
    · rename_i hq
      obtain ⟨hq1, rfl⟩ := hq
      rw [hq1] at hown
      have kk := IH _ _ _ _ _ _ _ _ _ h_1 RL
      exact va_gets hx hb hE.2.2.2.2.2.1 hS hown (hts _ gw_str_1053) (fun _ z => z) hdg kk
    · cases h_1

end GS3
