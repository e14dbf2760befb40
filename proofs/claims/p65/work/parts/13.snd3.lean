/-! the machine follows the interpreter: rows -/
theorem gyald_ok {N : Nat} {xs : Nat → Int32} {kd t : Nat} {st : List gg_V} {w : gy_W} {f : List gg_V → Option gy_O} {x : gy_O} (h : gy_ald N xs kd t st w f = some x) : ∃ i : Int,
    (∃ r : List gg_V, st = (0, i) :: (2, Int.ofNat 0) :: r ∧ (kd = 1 ∧ gg_in i N = true) ∧ f ((0, (xs (gg_k i)).toInt) :: r) = some x) ∨
    (∃ (a : Nat) (r : List gg_V), st = (0, i) :: (2, Int.ofNat a) :: r ∧ 1 ≤ a ∧ ((w.1 a).1 = kd ∧ gg_in i (w.1 a).2.1 = true) ∧ f ((t, (w.2.1 a (gg_k i)).2) :: r) = some x) ∨
    (∃ (s : Nat) (r : List gg_V), st = (0, i) :: (8, Int.ofNat s) :: r ∧ (kd = 3 ∧ s < 7 ∧ gg_in i (gg_tx s).length = true) ∧ f ((0, (gg_tx s).getD (gg_k i) 0) :: r) = some x) ∨
    (∃ (z : Int) (r : List gg_V), st = (0, i) :: (7, z) :: r ∧ (kd = 3 ∧ (z = 2 ∨ z = 3) ∧ gg_in i 100 = true) ∧ f ((0, gy_dg z (gg_k i)) :: r) = some x) := by
  unfold gy_ald at h
  obtain ⟨i, r1, rfl, h1⟩ := gpI_ok h
  refine ⟨i, ?_⟩
  split at h1
  · rename_i a r
    split at h1
    · rename_i ha
      subst ha
      obtain ⟨h2, h3⟩ := gif_ok h1
      exact Or.inl ⟨r, rfl, h2, h3⟩
    · rename_i ha
      obtain ⟨h2, h3⟩ := gif_ok h1
      exact Or.inr (Or.inl ⟨a, r, rfl, by omega, h2, h3⟩)
  · rename_i s r
    obtain ⟨h2, h3⟩ := gif_ok h1
    exact Or.inr (Or.inr (Or.inl ⟨s, r, rfl, h2, h3⟩))
  · rename_i z r
    obtain ⟨h2, h3⟩ := gif_ok h1
    exact Or.inr (Or.inr (Or.inr ⟨z, r, rfl, h2, h3⟩))
  · cases h1
theorem gyast_ok {kd t : Nat} {st : List gg_V} {w : gy_W} {f : List gg_V → gy_W → Option gy_O} {x : gy_O} (h : gy_ast kd t st w f = some x) : ∃ (v i : Int) (a : Nat) (r : List gg_V), st = (t, v) :: (0, i) :: (2, Int.ofNat a) :: r ∧
    ((w.1 a).1 = kd ∧ gg_in i (w.1 a).2.1 = true ∧ (kd = 2 → v = 0 ∨ v = 1)) ∧ f r (w.1, gy_up w.2.1 a (gg_k i) (t, if kd = 3 then io_i2b v else v), w.2.2) = some x := by
  unfold gy_ast at h
  split at h
  · rename_i t' v i a r
    obtain ⟨⟨h1, h2, h3, h4⟩, h7⟩ := gif_ok h
    subst h1
    exact ⟨v, i, a, r, rfl, ⟨h2, h3, h4⟩, h7⟩
  · cases h
section GS3
variable {l : Launch} {S0 b Lx : Nat} {xs : Nat → Int32} {D : va_G} {cA : Nat → ClassId} {ad : Nat → Int → Nat} {opq : Value} {p : Program} {e : Env} {R : Room} {s : State} {m : MethodId} {args : Array Value} {below : List Frame} {meth : Method} {c : Code} {Q : State → Prop} {k d nL cb sb : Nat} {o : gy_O} {f : Nat}
variable {pc n : Nat} {L st : List gg_V} {w w' : gy_W} {H H' : Heap} {locs : List Loc} {cells slots : Nat} {ls : Array Slot}
theorem gs_iaload (IH : gy_Wk l S0 b Lx xs D cA ad opq p e R s m args below meth c Q k d nL cb sb o f) (CX : gy_CX l S0 b Lx xs D cA ad opq p R s m args meth c k d nL cb sb o) (RL : gy_Rl S0 b Lx xs D cA ad opq s nL cb sb L w H locs cells slots ls)  (hdg : decode (gg_bt k) pc = .ok (.iaload, n)) (h : gy_step (gy_ex Lx xs f) Lx xs d k pc L st w (.iaload) n = some o) : W p l e R s m args below meth c H locs cells slots Q (F0 m pc ls (st.map (yv S0 b ad opq))) := by
  obtain ⟨⟨hx, hb, hml, hown, hts⟩, hE, hR, hin, hfl, hS0⟩ := id CX
  obtain ⟨hL, hl, hH, hS, hc, hs⟩ := id RL
  obtain ⟨rfl, h_1⟩ := gq_ok h
  obtain ⟨i, h_2⟩ := gyald_ok h_1
  rcases h_2 with ⟨r, rfl, ⟨h1, h2⟩, hf⟩ | ⟨a, r, rfl, h1, ⟨h3, h4⟩, hf⟩ | ⟨s2, r, rfl, ⟨h1, h2, h3⟩, hf⟩ | ⟨z, r, rfl, ⟨h1, h2, h3⟩, hf⟩
  · have kk := IH _ _ _ _ _ _ _ _ _ hf RL
    rw [List.map_cons, show yv S0 b ad opq (0, (xs (gg_k i)).toInt) = .int (xs (gg_i i).toNatClampNeg) from congrArg Value.int (gi_of _)] at kk
    obtain ⟨scr, hs1, -⟩ := id hE.2.2.1
    exact va_sld hx hb hE.2.2.1 (Array.getElem?_eq_some_iff.mp hs1).1 (Nat.not_le.mpr hE.2.2.2.1) hS (gin_ok h2) hdg kk
  · have kk := IH _ _ _ _ _ _ _ _ _ hf RL
    rw [List.map_cons, List.map_cons, show yv S0 b ad opq (2, Int.ofNat a) = .ref (S0 + (a - 1)) from gg_rf_pos h1]
    obtain ⟨-, -, hat⟩ := hH.1 a (by rw [h3]; decide)
    rw [gy_ce_num h3 (Or.inl rfl)] at hat
    exact va_iald (t0 := 0) hx hb hE.1 (gy_one hat) 0 rfl rfl (gin_ok h4) hdg kk
  · exact absurd h1 (by decide)
  · exact absurd h1 (by decide)
theorem gs_laload (IH : gy_Wk l S0 b Lx xs D cA ad opq p e R s m args below meth c Q k d nL cb sb o f) (CX : gy_CX l S0 b Lx xs D cA ad opq p R s m args meth c k d nL cb sb o) (RL : gy_Rl S0 b Lx xs D cA ad opq s nL cb sb L w H locs cells slots ls)  (hdg : decode (gg_bt k) pc = .ok (.laload, n)) (h : gy_step (gy_ex Lx xs f) Lx xs d k pc L st w (.laload) n = some o) : W p l e R s m args below meth c H locs cells slots Q (F0 m pc ls (st.map (yv S0 b ad opq))) := by
  obtain ⟨⟨hx, hb, hml, hown, hts⟩, hE, hR, hin, hfl, hS0⟩ := id CX
  obtain ⟨hL, hl, hH, hS, hc, hs⟩ := id RL
  obtain ⟨rfl, h_1⟩ := gq_ok h
  obtain ⟨i, h_2⟩ := gyald_ok h_1
  rcases h_2 with ⟨r, rfl, ⟨h1, h2⟩, hf⟩ | ⟨a, r, rfl, h1, ⟨h3, h4⟩, hf⟩ | ⟨s2, r, rfl, ⟨h1, h2, h3⟩, hf⟩ | ⟨z, r, rfl, ⟨h1, h2, h3⟩, hf⟩
  · exact absurd h1 (by decide)
  · have kk := IH _ _ _ _ _ _ _ _ _ hf RL
    rw [List.map_cons, List.map_cons, show yv S0 b ad opq (2, Int.ofNat a) = .ref (S0 + (a - 1)) from gg_rf_pos h1]
    obtain ⟨-, -, hat⟩ := hH.1 a (by rw [h3]; decide)
    rw [gy_ce_long h3] at hat
    exact va_lald (t0 := 3) hx hb hE.1 (gy_one hat) 0 rfl rfl (gin_ok h4) hdg kk
  · exact absurd h1 (by decide)
  · exact absurd h1 (by decide)
theorem gs_baload (IH : gy_Wk l S0 b Lx xs D cA ad opq p e R s m args below meth c Q k d nL cb sb o f) (CX : gy_CX l S0 b Lx xs D cA ad opq p R s m args meth c k d nL cb sb o) (RL : gy_Rl S0 b Lx xs D cA ad opq s nL cb sb L w H locs cells slots ls)  (hdg : decode (gg_bt k) pc = .ok (.baload, n)) (h : gy_step (gy_ex Lx xs f) Lx xs d k pc L st w (.baload) n = some o) : W p l e R s m args below meth c H locs cells slots Q (F0 m pc ls (st.map (yv S0 b ad opq))) := by
  obtain ⟨⟨hx, hb, hml, hown, hts⟩, hE, hR, hin, hfl, hS0⟩ := id CX
  obtain ⟨hL, hl, hH, hS, hc, hs⟩ := id RL
  obtain ⟨rfl, h_1⟩ := gq_ok h
  have key : (∃ (i : Int) (a kd : Nat) (r : List gg_V), st = (0, i) :: (2, Int.ofNat a) :: r ∧ 1 ≤ a ∧ (kd = 2 ∨ kd = 3) ∧ ((w.1 a).1 = kd ∧ gg_in i (w.1 a).2.1 = true) ∧ gy_ex Lx xs f d k (pc + 1) L ((0, (w.2.1 a (gg_k i)).2) :: r) w = some o) ∨
      (∃ (i : Int) (s2 : Nat) (r : List gg_V), st = (0, i) :: (8, Int.ofNat s2) :: r ∧ (s2 < 7 ∧ gg_in i (gg_tx s2).length = true) ∧ gy_ex Lx xs f d k (pc + 1) L ((0, (gg_tx s2).getD (gg_k i) 0) :: r) w = some o) ∨
      (∃ (i z : Int) (r : List gg_V), st = (0, i) :: (7, z) :: r ∧ ((z = 2 ∨ z = 3) ∧ gg_in i 100 = true) ∧ gy_ex Lx xs f d k (pc + 1) L ((0, gy_dg z (gg_k i)) :: r) w = some o) := by
    have k3 : ∀ {F : List gg_V → Option gy_O}, F = (fun st => gy_ex Lx xs f d k (pc + 1) L st w) → gy_ald Lx xs 3 0 st w F = some o → (∃ (i : Int) (a kd : Nat) (r : List gg_V), st = (0, i) :: (2, Int.ofNat a) :: r ∧ 1 ≤ a ∧ (kd = 2 ∨ kd = 3) ∧ ((w.1 a).1 = kd ∧ gg_in i (w.1 a).2.1 = true) ∧ gy_ex Lx xs f d k (pc + 1) L ((0, (w.2.1 a (gg_k i)).2) :: r) w = some o) ∨
        (∃ (i : Int) (s2 : Nat) (r : List gg_V), st = (0, i) :: (8, Int.ofNat s2) :: r ∧ (s2 < 7 ∧ gg_in i (gg_tx s2).length = true) ∧ gy_ex Lx xs f d k (pc + 1) L ((0, (gg_tx s2).getD (gg_k i) 0) :: r) w = some o) ∨
        (∃ (i z : Int) (r : List gg_V), st = (0, i) :: (7, z) :: r ∧ ((z = 2 ∨ z = 3) ∧ gg_in i 100 = true) ∧ gy_ex Lx xs f d k (pc + 1) L ((0, gy_dg z (gg_k i)) :: r) w = some o) := by
      intro F hF h_3
      subst hF
      obtain ⟨i, h_4⟩ := gyald_ok h_3
      rcases h_4 with ⟨r, e1, ⟨h1, h2⟩, hf⟩ | ⟨a, r, e1, h1, h2, hf⟩ | ⟨s2, r, e1, ⟨h1, h2, h3⟩, hf⟩ | ⟨z, r, e1, ⟨h1, h2, h3⟩, hf⟩
      · exact absurd h1 (by decide)
      · exact Or.inl ⟨i, a, 3, r, e1, h1, Or.inr rfl, h2, hf⟩
      · exact Or.inr (Or.inl ⟨i, s2, r, e1, ⟨h2, h3⟩, hf⟩)
      · exact Or.inr (Or.inr ⟨i, z, r, e1, ⟨h2, h3⟩, hf⟩)
    split at h_1
    · split at h_1
      · obtain ⟨i, h_2⟩ := gyald_ok h_1
        rcases h_2 with ⟨r, e1, ⟨h1, h2⟩, hf⟩ | ⟨a, r, e1, h1, h2, hf⟩ | ⟨s2, r, e1, ⟨h1, h2, h3⟩, hf⟩ | ⟨z, r, e1, ⟨h1, h2, h3⟩, hf⟩
        · exact absurd h1 (by decide)
        · exact Or.inl ⟨i, a, 2, r, e1, h1, Or.inl rfl, h2, hf⟩
        · exact absurd h1 (by decide)
        · exact absurd h1 (by decide)
      · exact k3 rfl h_1
    · exact k3 rfl h_1
  rcases key with ⟨i, a, kd, r, rfl, h1, hkd, ⟨h3, h4⟩, hf⟩ | ⟨i, s2, r, rfl, ⟨h2, h3⟩, hf⟩ | ⟨i, z, r, rfl, ⟨h2, h3⟩, hf⟩
  · have kk := IH _ _ _ _ _ _ _ _ _ hf RL
    rw [List.map_cons, List.map_cons, show yv S0 b ad opq (2, Int.ofNat a) = .ref (S0 + (a - 1)) from gg_rf_pos h1]
    obtain ⟨-, -, hat⟩ := hH.1 a (by omega)
    rcases hkd with rfl | rfl
    · rw [gy_ce_num h3 (Or.inr (Or.inl rfl))] at hat
      exact va_zald (t0 := 1) hx hb hE.1 (gy_one hat) 0 rfl rfl (gin_ok h4) hdg kk
    · rw [gy_ce_num h3 (Or.inr (Or.inr rfl))] at hat
      exact va_bald (t0 := 2) hx hb hE.1 (gy_one hat) 0 rfl rfl (gin_ok h4) hdg kk
  · exact va_tb hx hb (hE.2.2.2.2.2.2.2.1 s2 h2).2.2.2 hS (gin_ok h3) rfl hdg (IH _ _ _ _ _ _ _ _ _ hf RL)
  · have hF := hE.2.2.2.2.2.2.2.2.2.2.2
    rcases h2 with rfl | rfl
    · exact va_tb hx hb hF.2.1.2 hS (gin_ok h3) rfl hdg (IH _ _ _ _ _ _ _ _ _ hf RL)
    · exact va_tb hx hb hF.2.2.1.2 hS (gin_ok h3) rfl hdg (IH _ _ _ _ _ _ _ _ _ hf RL)
theorem gyaal_ok {st : List gg_V} {w : gy_W} {f : List gg_V → Option gy_O} {x : gy_O} (h : gy_aal st w f = some x) : ∃ i : Int,
    (∃ (a : Nat) (r : List gg_V), st = (0, i) :: (2, Int.ofNat a) :: r ∧ ((w.1 a).1 = 5 ∧ gy_ec (w.1 a).2.2 = true ∧ gg_in i (w.1 a).2.1 = true ∧ gy_rr (w.2.1 a (gg_k i)) = true) ∧ f (w.2.1 a (gg_k i) :: r) = some x) ∨
    (∃ (r : List gg_V), st = (0, i) :: (7, 4) :: r ∧ gg_in i 256 = true ∧ f ((6, (gg_k i : Int) - 128) :: r) = some x) := by
  unfold gy_aal at h
  obtain ⟨i, r1, rfl, h1⟩ := gpI_ok h
  refine ⟨i, ?_⟩
  split at h1
  · rename_i a r
    obtain ⟨h2, h3⟩ := gif_ok h1
    exact Or.inl ⟨a, r, rfl, h2, h3⟩
  · rename_i z r
    obtain ⟨⟨rfl, h2⟩, h3⟩ := gif_ok h1
    exact Or.inr ⟨r, rfl, h2, h3⟩
  · cases h1
/-- which rows of references there are: of an element's code, its place among the types -/
theorem gy_el5 {c : Nat} (h : gy_ec c = true) : ∃ (t0 : Nat) (ty : FieldType), (gg_ty cA)[t0]? = some (cA (5 + c), ty) ∧ ty.isReference = true := by
  rcases of_decide_eq_true h with rfl | rfl | rfl | rfl | rfl
  · exact ⟨4, _, rfl, rfl⟩
  · exact ⟨5, _, rfl, rfl⟩
  · exact ⟨6, _, rfl, rfl⟩
  · exact ⟨7, _, rfl, rfl⟩
  · exact ⟨8, _, rfl, rfl⟩
theorem gs_aaload (IH : gy_Wk l S0 b Lx xs D cA ad opq p e R s m args below meth c Q k d nL cb sb o f) (CX : gy_CX l S0 b Lx xs D cA ad opq p R s m args meth c k d nL cb sb o) (RL : gy_Rl S0 b Lx xs D cA ad opq s nL cb sb L w H locs cells slots ls)  (hdg : decode (gg_bt k) pc = .ok (.aaload, n)) (h : gy_step (gy_ex Lx xs f) Lx xs d k pc L st w (.aaload) n = some o) : W p l e R s m args below meth c H locs cells slots Q (F0 m pc ls (st.map (yv S0 b ad opq))) := by
  obtain ⟨⟨hx, hb, hml, hown, hts⟩, hE, hR, hin, hfl, hS0⟩ := id CX
  obtain ⟨hL, hl, hH, hS, hc, hs⟩ := id RL
  obtain ⟨rfl, h_1⟩ := gq_ok h
  obtain ⟨i, h_2⟩ := gyaal_ok h_1
  rcases h_2 with ⟨a, r, rfl, ⟨h3, h4, h5, h6⟩, hf⟩ | ⟨r, rfl, h3, hf⟩
  · obtain ⟨h1, -, hat⟩ := hH.1 a (by omega)
    rw [gy_ce_ref h3] at hat
    have kk := IH _ _ _ _ _ _ _ _ _ hf RL
    rw [List.map_cons, ← yo_yv S0 b ad opq h6] at kk
    rw [List.map_cons, List.map_cons, show yv S0 b ad opq (2, Int.ofNat a) = .ref (S0 + (a - 1)) from gg_rf_pos h1]
    obtain ⟨t0, ty, ht, hr⟩ := gy_el5 (cA := cA) h4
    have hlt : (gg_i i).toNatClampNeg < (w.1 a).2.1 := Nat.not_le.mp fun q => gin_ok h5 (Or.inr q)
    exact W.aald (v := va_rf (yo S0 b ad (w.2.1 a (gg_k i)))) (ty := ty) hx hb hat ((hE.1.2 t0 _ ht).1 (w.1 a).2.1 (fun j => va_rf (yo S0 b ad (w.2.1 a j)))) hr (fun q => by cases q) (by show ¬ (gg_i i < 0 ∨ (arrV _ _ _).slots.size ≤ _); rw [arrV_size]; exact gin_ok h5) (by show (arrV _ _ _).slots[_]? = _; rw [arrV_read _ _ hlt]; rfl) rfl rfl hdg kk
  · have hF := hE.2.2.2.2.2.2.2.2.2.2.2.2.2.2.2
    exact vb_tq hx hb hF.2.1 hS (gin_ok h3) rfl hdg (IH _ _ _ _ _ _ _ _ _ hf RL)
theorem gs_iastore (IH : gy_Wk l S0 b Lx xs D cA ad opq p e R s m args below meth c Q k d nL cb sb o f) (CX : gy_CX l S0 b Lx xs D cA ad opq p R s m args meth c k d nL cb sb o) (RL : gy_Rl S0 b Lx xs D cA ad opq s nL cb sb L w H locs cells slots ls)  (hdg : decode (gg_bt k) pc = .ok (.iastore, n)) (h : gy_step (gy_ex Lx xs f) Lx xs d k pc L st w (.iastore) n = some o) : W p l e R s m args below meth c H locs cells slots Q (F0 m pc ls (st.map (yv S0 b ad opq))) := by
  obtain ⟨⟨hx, hb, hml, hown, hts⟩, hE, hR, hin, hfl, hS0⟩ := id CX
  obtain ⟨hL, hl, hH, hS, hc, hs⟩ := id RL
  obtain ⟨rfl, h_1⟩ := gq_ok h
  obtain ⟨v, i, a, r, rfl, ⟨h3, h4, h5⟩, hf⟩ := gyast_ok h_1
  obtain ⟨h1, -, hat⟩ := hH.1 a (by omega)
  rw [List.map_cons, List.map_cons, List.map_cons, show yv S0 b ad opq (2, Int.ofNat a) = .ref (S0 + (a - 1)) from gg_rf_pos h1]
  rw [gy_ce_num h3 (Or.inl rfl)] at hat
  refine W.iast (x := gg_i v) (j := gg_i i) hx hb hat ((hE.1.2 0 _ rfl).1 (w.1 a).2.1 (fun j => .int (gg_i (w.2.1 a j).2))) (fun q => by cases q) (by show ¬ (gg_i i < 0 ∨ (arrV _ _ _).slots.size ≤ _); rw [arrV_size]; exact gin_ok h4) rfl rfl hdg fun H1 e1 z oq => ?_
  refine IH _ _ _ _ _ _ _ _ _ hf ⟨hL, hl, gy_H_set hH (by omega) ⟨rfl, rfl⟩ (fun o ho => gy_up_ne ho) ?_ z oq, hS.put z oq (Nat.le_add_right _ _), hc, hs⟩
  rw [gy_ce_num (w := (w.1, gy_up w.2.1 a (gg_k i) (0, if 1 = 3 then io_i2b v else v), w.2.2)) h3 (Or.inl rfl)]
  show H1[S0 + (a - 1)]? = some (vp_cell _ _)
  rw [e1, vp_cell_i, vp_cell_i, arrV_store]
  congr 2
  funext q
  show updV _ _ _ q = .int (gg_i (gy_up w.2.1 a (gg_k i) _ a q).2)
  unfold updV gy_up gg_k
  by_cases hq : q = (gg_i i).toNatClampNeg
  · subst hq
    rw [if_pos rfl, if_pos ⟨rfl, rfl⟩]
    rfl
  · rw [if_neg hq, if_neg (fun z => hq z.2)]
theorem gs_lastore (IH : gy_Wk l S0 b Lx xs D cA ad opq p e R s m args below meth c Q k d nL cb sb o f) (CX : gy_CX l S0 b Lx xs D cA ad opq p R s m args meth c k d nL cb sb o) (RL : gy_Rl S0 b Lx xs D cA ad opq s nL cb sb L w H locs cells slots ls)  (hdg : decode (gg_bt k) pc = .ok (.lastore, n)) (h : gy_step (gy_ex Lx xs f) Lx xs d k pc L st w (.lastore) n = some o) : W p l e R s m args below meth c H locs cells slots Q (F0 m pc ls (st.map (yv S0 b ad opq))) := by
  obtain ⟨⟨hx, hb, hml, hown, hts⟩, hE, hR, hin, hfl, hS0⟩ := id CX
  obtain ⟨hL, hl, hH, hS, hc, hs⟩ := id RL
  obtain ⟨rfl, h_1⟩ := gq_ok h
  obtain ⟨v, i, a, r, rfl, ⟨h3, h4, h5⟩, hf⟩ := gyast_ok h_1
  obtain ⟨h1, -, hat⟩ := hH.1 a (by omega)
  rw [List.map_cons, List.map_cons, List.map_cons, show yv S0 b ad opq (2, Int.ofNat a) = .ref (S0 + (a - 1)) from gg_rf_pos h1]
  rw [gy_ce_long h3] at hat
  refine W.last (x := gg_l v) (j := gg_i i) hx hb hat ((hE.1.2 3 _ rfl).1 (w.1 a).2.1 (fun j => .long (gg_l (w.2.1 a j).2))) (fun q => by cases q) (by show ¬ (gg_i i < 0 ∨ (arrV _ _ _).slots.size ≤ _); rw [arrV_size]; exact gin_ok h4) rfl rfl hdg fun H1 e1 z oq => ?_
  refine IH _ _ _ _ _ _ _ _ _ hf ⟨hL, hl, gy_H_set hH (by omega) ⟨rfl, rfl⟩ (fun o ho => gy_up_ne ho) ?_ z oq, hS.put z oq (Nat.le_add_right _ _), hc, hs⟩
  rw [gy_ce_long (w := (w.1, gy_up w.2.1 a (gg_k i) (1, if 4 = 3 then io_i2b v else v), w.2.2)) h3]
  show H1[S0 + (a - 1)]? = some (vp_cell _ _)
  rw [e1, vp_cell_l, vp_cell_l, arrV_store]
  congr 2
  funext q
  show updV _ _ _ q = .long (gg_l (gy_up w.2.1 a (gg_k i) _ a q).2)
  unfold updV gy_up gg_k
  by_cases hq : q = (gg_i i).toNatClampNeg
  · subst hq
    rw [if_pos rfl, if_pos ⟨rfl, rfl⟩]
    rfl
  · rw [if_neg hq, if_neg (fun z => hq z.2)]
theorem gs_bastore (IH : gy_Wk l S0 b Lx xs D cA ad opq p e R s m args below meth c Q k d nL cb sb o f) (CX : gy_CX l S0 b Lx xs D cA ad opq p R s m args meth c k d nL cb sb o) (RL : gy_Rl S0 b Lx xs D cA ad opq s nL cb sb L w H locs cells slots ls)  (hdg : decode (gg_bt k) pc = .ok (.bastore, n)) (h : gy_step (gy_ex Lx xs f) Lx xs d k pc L st w (.bastore) n = some o) : W p l e R s m args below meth c H locs cells slots Q (F0 m pc ls (st.map (yv S0 b ad opq))) := by
  obtain ⟨⟨hx, hb, hml, hown, hts⟩, hE, hR, hin, hfl, hS0⟩ := id CX
  obtain ⟨hL, hl, hH, hS, hc, hs⟩ := id RL
  obtain ⟨rfl, h_1⟩ := gq_ok h
  have key : gy_ast 2 0 st w (fun st w => gy_ex Lx xs f d k (pc + 1) L st w) = some o ∨ gy_ast 3 0 st w (fun st w => gy_ex Lx xs f d k (pc + 1) L st w) = some o := by
    split at h_1
    · split at h_1
      · exact Or.inl h_1
      · exact Or.inr h_1
    · cases h_1
  rcases key with key | key
  · obtain ⟨v, i, a, r, rfl, ⟨h3, h4, h5⟩, hf⟩ := gyast_ok key
    obtain ⟨h1, -, hat⟩ := hH.1 a (by omega)
    rw [List.map_cons, List.map_cons, List.map_cons, show yv S0 b ad opq (2, Int.ofNat a) = .ref (S0 + (a - 1)) from gg_rf_pos h1]
    rw [gy_ce_num h3 (Or.inr (Or.inl rfl))] at hat
    refine W.zast (x := gg_i v) (j := gg_i i) hx hb hat ((hE.1.2 1 _ rfl).1 (w.1 a).2.1 (fun j => .int (gg_i (w.2.1 a j).2))) (fun q => by cases q) (by show ¬ (gg_i i < 0 ∨ (arrV _ _ _).slots.size ≤ _); rw [arrV_size]; exact gin_ok h4) rfl rfl hdg fun H1 e1 z oq => ?_
    refine IH _ _ _ _ _ _ _ _ _ hf ⟨hL, hl, gy_H_set hH (by omega) ⟨rfl, rfl⟩ (fun o ho => gy_up_ne ho) ?_ z oq, hS.put z oq (Nat.le_add_right _ _), hc, hs⟩
    rw [gy_ce_num (w := (w.1, gy_up w.2.1 a (gg_k i) (0, if 2 = 3 then io_i2b v else v), w.2.2)) h3 (Or.inr (Or.inl rfl))]
    show H1[S0 + (a - 1)]? = some (vp_cell _ _)
    rw [e1, vp_cell_i, vp_cell_i, arrV_store]
    congr 2
    funext q
    show updV _ _ _ q = .int (gg_i (gy_up w.2.1 a (gg_k i) _ a q).2)
    unfold updV gy_up gg_k
    by_cases hq : q = (gg_i i).toNatClampNeg
    · subst hq
      rw [if_pos rfl, if_pos ⟨rfl, rfl⟩]
      rcases h5 rfl with rfl | rfl <;> decide +kernel
    · rw [if_neg hq, if_neg (fun z => hq z.2)]
  · obtain ⟨v, i, a, r, rfl, ⟨h3, h4, h5⟩, hf⟩ := gyast_ok key
    obtain ⟨h1, -, hat⟩ := hH.1 a (by omega)
    rw [List.map_cons, List.map_cons, List.map_cons, show yv S0 b ad opq (2, Int.ofNat a) = .ref (S0 + (a - 1)) from gg_rf_pos h1]
    rw [gy_ce_num h3 (Or.inr (Or.inr rfl))] at hat
    refine W.bast (x := gg_i v) (j := gg_i i) hx hb hat ((hE.1.2 2 _ rfl).1 (w.1 a).2.1 (fun j => .int (gg_i (w.2.1 a j).2))) (fun q => by cases q) (by show ¬ (gg_i i < 0 ∨ (arrV _ _ _).slots.size ≤ _); rw [arrV_size]; exact gin_ok h4) rfl rfl hdg fun H1 e1 z oq => ?_
    refine IH _ _ _ _ _ _ _ _ _ hf ⟨hL, hl, gy_H_set hH (by omega) ⟨rfl, rfl⟩ (fun o ho => gy_up_ne ho) ?_ z oq, hS.put z oq (Nat.le_add_right _ _), hc, hs⟩
    rw [gy_ce_num (w := (w.1, gy_up w.2.1 a (gg_k i) (0, if 3 = 3 then io_i2b v else v), w.2.2)) h3 (Or.inr (Or.inr rfl))]
    show H1[S0 + (a - 1)]? = some (vp_cell _ _)
    rw [e1, vp_cell_i, vp_cell_i, arrV_store]
    congr 2
    funext q
    show updV _ _ _ q = .int (gg_i (gy_up w.2.1 a (gg_k i) _ a q).2)
    unfold updV gy_up gg_k
    by_cases hq : q = (gg_i i).toNatClampNeg
    · subst hq
      rw [if_pos rfl, if_pos ⟨rfl, rfl⟩]
      exact congrArg Value.int (gi_of _).symm
    · rw [if_neg hq, if_neg (fun z => hq z.2)]
theorem gyaas_ok {st : List gg_V} {w : gy_W} {f : List gg_V → gy_W → Option gy_O} {x : gy_O} (h : gy_aas st w f = some x) : ∃ (v : gg_V) (a : Nat) (i : Int) (r : List gg_V), st = v :: (0, i) :: (2, Int.ofNat a) :: r ∧
    ((w.1 a).1 = 5 ∧ gg_in i (w.1 a).2.1 = true ∧ gy_el v w (w.1 a).2.2 = true) ∧ f r (w.1, gy_up w.2.1 a (gg_k i) v, w.2.2) = some x := by
  unfold gy_aas at h
  split at h
  · rename_i v i a r
    obtain ⟨h1, h2⟩ := gif_ok h
    exact ⟨v, a, i, r, rfl, h1, h2⟩
  · cases h
/-- an element that may stand in a row: null, or an object whose class can stand there -/
theorem gy_el_ok {v : gg_V} {w : gy_W} {c : Nat} {H : Heap} {locs : List Loc} (h : gy_el v w c = true) (hE : gy_E S0 b Lx xs D cA ad opq s s.heap) (hH : gy_H S0 b D cA ad opq w H) (hS : va_S (gg_A S0) s.heap H locs) : gy_rr v = true ∧
    ∃ (C : String) (t0 : Nat), (gg_ty cA)[t0]? = some (cA (5 + c), .object C) ∧ (c = 24 → C = "java/lang/Object") ∧ ((yo S0 b ad v = none ∧ c = 24) ∨ ∃ (q : Nat) (cellV : Cell), yo S0 b ad v = some q ∧ H[q]? = some cellV ∧ cellV.vm.isStatics = false ∧ (∃ kC, s.vm.classes[cellV.cls]? = some kC) ∧ ∀ comp : ClassId, s.vm.findClass C = some comp → s.vm.assignable cellV.cls comp = true) := by
  have hcast : ∀ (C : String) (cl : ClassId), (C, "java/lang/Object") ∈ gg_xs → s.vm.findClass C = some cl → ∀ comp : ClassId, s.vm.findClass "java/lang/Object" = some comp → s.vm.assignable cl comp = true := by
    intro C cl hC hcl comp hcomp
    obtain ⟨c0, t0, f1, f2, f3⟩ := Cond.castable_spec (va_Nw.use (A := #[]) rfl (hE.2.2.2.2.2.2.2.2.2.1.2.1 _ hC))
    cases hcl.symm.trans f1
    cases hcomp.symm.trans f2
    exact f3
  have hobj : ∀ (n ci : Nat), w.1 n = (0, 0, ci) → gy_ob ci = true → ∃ cellV : Cell, yo S0 b ad (2, Int.ofNat n) = some (S0 + (n - 1)) ∧ H[S0 + (n - 1)]? = some cellV ∧ cellV.vm.isStatics = false ∧ (∃ kC, s.vm.classes[cellV.cls]? = some kC) ∧ s.vm.findClass (gg_c ci) = some cellV.cls ∧ s.vm.assignable cellV.cls cellV.cls = true := by
    intro n ci h3 hob
    obtain ⟨h1, -, hat⟩ := hH.1 n (by rw [h3]; exact (by decide : (0 : Nat) ≠ 9))
    rw [gy_ce_obj h3] at hat
    obtain ⟨r0, q0, cell, q1, q2, q3, q4⟩ := hat
    have hcl := (hE.1.1 ci _ (gg_cl_at hob)).2
    rw [(gg_cf hob).1] at hcl
    obtain ⟨kC, hkC, -⟩ := id hcl.2
    exact ⟨cell, gg_ro_pos h1, q1, by rw [q3]; rfl, ⟨kC, by rw [q2]; exact hkC⟩, by rw [q2]; exact hcl.1, va_asg _ _⟩
  unfold gy_el at h
  split at h
  · rename_i n
    simp only [Bool.or_eq_true, Bool.and_eq_true, decide_eq_true_eq] at h
    refine ⟨rfl, ?_⟩
    rcases h with ⟨h3, hc⟩ | ⟨rfl, h3⟩
    · have hob : gy_ob c = true := by rcases hc with rfl | rfl | rfl <;> rfl
      obtain ⟨cellV, a1, a2, a3, a4, a5, a6⟩ := hobj n c h3 hob
      have main : ∀ t0 : Nat, (gg_ty cA)[t0]? = some (cA (5 + c), .object (gg_c c)) → _ := fun t0 ht => (⟨gg_c c, t0, ht, fun z => by omega, Or.inr ⟨_, cellV, a1, a2, a3, a4, fun comp hcomp => by cases a5.symm.trans hcomp; exact a6⟩⟩ : ∃ (C : String) (t0 : Nat), (gg_ty cA)[t0]? = some (cA (5 + c), .object C) ∧ (c = 24 → C = "java/lang/Object") ∧ ((yo S0 b ad (2, Int.ofNat n) = none ∧ c = 24) ∨ ∃ (q : Nat) (cellV : Cell), yo S0 b ad (2, Int.ofNat n) = some q ∧ H[q]? = some cellV ∧ cellV.vm.isStatics = false ∧ (∃ kC, s.vm.classes[cellV.cls]? = some kC) ∧ ∀ comp : ClassId, s.vm.findClass C = some comp → s.vm.assignable cellV.cls comp = true))
      rcases hc with rfl | rfl | rfl
      · exact main 4 rfl
      · exact main 5 rfl
      · exact main 6 rfl
    · have hx : ∃ ci, w.1 n = (0, 0, ci) ∧ gy_ob ci = true ∧ (gg_c ci, "java/lang/Object") ∈ gg_xs := by
        rcases h3 with h3 | h3
        · exact ⟨7, h3, rfl, by decide +kernel⟩
        · exact ⟨14, h3, rfl, by decide +kernel⟩
      obtain ⟨ci, h4, hob, hin⟩ := hx
      obtain ⟨cellV, a1, a2, a3, a4, a5, a6⟩ := hobj n ci h4 hob
      exact ⟨"java/lang/Object", 7, rfl, fun _ => rfl, Or.inr ⟨_, cellV, a1, a2, a3, a4, hcast _ _ hin a5⟩⟩
  · rename_i x hx
    have hc : c = 24 := of_decide_eq_true h
    subst hc
    refine ⟨rfl, "java/lang/Object", 7, rfl, fun _ => rfl, Or.inl ⟨?_, rfl⟩⟩
    match x, hx with
    | .ofNat n, hx => exact absurd rfl (hx n)
    | .negSucc n, _ => rfl
  · rename_i x
    obtain ⟨rfl, h2, h3⟩ := of_decide_eq_true h
    have e1 : (((x + 128).toNat : Nat) : Int) - 128 = x := by omega
    obtain ⟨cell, b1, b2, b3, b4⟩ := hE.2.2.2.2.2.2.2.2.2.2.2.2.2.2.2.2.2.1 (x + 128).toNat (by omega)
    dsimp only at b1 b4
    rw [e1] at b1 b4
    have b1' : H[ad 6 x]? = some cell := by rw [hS.2.1 _ (Array.getElem?_eq_some_iff.mp b1).1 b4]; exact b1
    obtain ⟨kE, hkE, -⟩ := Vm.findClass_spec b3
    exact ⟨rfl, "java/lang/Object", 7, rfl, fun _ => rfl, Or.inr ⟨ad 6 x, cell, rfl, b1', b2, ⟨kE, hkE⟩, hcast "java/lang/Integer" _ (by decide +kernel) b3⟩⟩
  · cases h
theorem gs_aastore (IH : gy_Wk l S0 b Lx xs D cA ad opq p e R s m args below meth c Q k d nL cb sb o f) (CX : gy_CX l S0 b Lx xs D cA ad opq p R s m args meth c k d nL cb sb o) (RL : gy_Rl S0 b Lx xs D cA ad opq s nL cb sb L w H locs cells slots ls)  (hdg : decode (gg_bt k) pc = .ok (.aastore, n)) (h : gy_step (gy_ex Lx xs f) Lx xs d k pc L st w (.aastore) n = some o) : W p l e R s m args below meth c H locs cells slots Q (F0 m pc ls (st.map (yv S0 b ad opq))) := by
  obtain ⟨⟨hx, hb, hml, hown, hts⟩, hE, hR, hin, hfl, hS0⟩ := id CX
  obtain ⟨hL, hl, hH, hS, hc, hs⟩ := id RL
  obtain ⟨rfl, h_1⟩ := gq_ok h
  obtain ⟨v, a, i, r, rfl, ⟨h3, h4, h5⟩, hf⟩ := gyaas_ok h_1
  obtain ⟨h1, -, hat⟩ := hH.1 a (by omega)
  rw [gy_ce_ref h3] at hat
  obtain ⟨hrr, C, t0, ht0, -, hel⟩ := gy_el_ok h5 hE hH hS
  rw [List.map_cons, List.map_cons, List.map_cons, show yv S0 b ad opq (2, Int.ofNat a) = .ref (S0 + (a - 1)) from gg_rf_pos h1, ← yo_yv S0 b ad opq hrr]
  have hlt : (gg_i i).toNatClampNeg < (w.1 a).2.1 := Nat.not_le.mp fun q => gin_ok h4 (Or.inr q)
  have h0 : ¬ gg_i i < 0 := fun q => gin_ok h4 (Or.inl q)
  have hfin : ∀ H1 : Heap, H1[S0 + (a - 1)]? = some ((vp_cell (cA (5 + (w.1 a).2.2)) ((w.1 a).2.1, .inr (.inr (.inr (.inr fun j => yo S0 b ad (w.2.1 a j)))))).setSlot (gg_i i).toNatClampNeg (va_rf (yo S0 b ad v))) → H1.size = H.size → (∀ q, q ≠ S0 + (a - 1) → H1[q]? = H[q]?) → W p l e R s m args below meth c H1 (locs ++ [⟨S0 + (a - 1), (gg_i i).toNatClampNeg⟩]) cells slots Q (F0 m (pc + 1) ls (r.map (yv S0 b ad opq))) := by
    intro H1 e1 z oq
    refine IH _ _ _ _ _ _ _ _ _ hf ⟨hL, hl, gy_H_set hH (by omega) ⟨rfl, rfl⟩ (fun o ho => gy_up_ne ho) ?_ z oq, hS.put z oq (Nat.le_add_right _ _), hc, hs⟩
    rw [gy_ce_ref (w := (w.1, gy_up w.2.1 a (gg_k i) v, w.2.2)) h3]
    show H1[S0 + (a - 1)]? = some (vp_cell _ _)
    rw [e1, vp_cell_q, vp_cell_q, arrV_store]
    congr 2
    funext q
    show updV _ _ _ q = va_rf (yo S0 b ad (gy_up w.2.1 a (gg_k i) v a q))
    unfold updV gy_up gg_k
    by_cases hq : q = (gg_i i).toNatClampNeg
    · subst hq
      rw [if_pos rfl, if_pos ⟨rfl, rfl⟩]
    · rw [if_neg hq, if_neg (fun z => hq z.2)]
  rcases hel with ⟨hn, hc24⟩ | ⟨q, cellV, hq, g1, g2, ⟨kC, hkC⟩, hasg⟩
  · rw [hn] at hfin ⊢
    exact va_WaastN (C := C) hx hb hat ((hE.1.2 t0 _ ht0).1 (w.1 a).2.1 (fun j => va_rf (yo S0 b ad (w.2.1 a j)))) (fun q => by cases q) (by show ¬ (gg_i i < 0 ∨ (arrV _ _ _).slots.size ≤ _); rw [arrV_size]; exact gin_ok h4) rfl rfl hdg hfin
  · rw [hq] at hfin ⊢
    obtain ⟨kA, comp, k1, k2, k3, -⟩ := (hE.1.2 t0 _ ht0).2
    obtain ⟨kE, hkE, -⟩ := Vm.findClass_spec k3
    exact W.aast hx hb hat (fun q h_1 => by cases h_1) (fun h_1 => by cases h_1) k1 k2 rfl hkE ⟨h0, by show _ < (arrV _ _ _).slots.size; rw [arrV_size]; exact hlt⟩ g1 (fun q h_1 => by rw [h_1] at g2; cases g2) hkC (hasg comp k3) rfl rfl hdg hfin
theorem gs_arraylength (IH : gy_Wk l S0 b Lx xs D cA ad opq p e R s m args below meth c Q k d nL cb sb o f) (CX : gy_CX l S0 b Lx xs D cA ad opq p R s m args meth c k d nL cb sb o) (RL : gy_Rl S0 b Lx xs D cA ad opq s nL cb sb L w H locs cells slots ls)  (hdg : decode (gg_bt k) pc = .ok (.arraylength, n)) (h : gy_step (gy_ex Lx xs f) Lx xs d k pc L st w (.arraylength) n = some o) : W p l e R s m args below meth c H locs cells slots Q (F0 m pc ls (st.map (yv S0 b ad opq))) := by
  obtain ⟨⟨hx, hb, hml, hown, hts⟩, hE, hR, hin, hfl, hS0⟩ := id CX
  obtain ⟨hL, hl, hH, hS, hc, hs⟩ := id RL
  obtain ⟨rfl, h_1⟩ := gq_ok h
  split at h_1
  · rename_i a r
    by_cases ha : a = 0
    · subst ha
      rw [if_pos rfl] at h_1
      obtain ⟨scr, hs1, -⟩ := id hE.2.2.1
      exact va_slen hx hb hE.2.2.1 (Array.getElem?_eq_some_iff.mp hs1).1 (Nat.not_le.mpr hE.2.2.2.1) hS hdg (IH _ _ _ _ _ _ _ _ _ h_1 RL)
    · rw [if_neg ha] at h_1
      obtain ⟨⟨hk1, hk5, hec⟩, hf⟩ := gif_ok h_1
      obtain ⟨h1, -, hat⟩ := hH.1 a (by omega)
      rw [List.map_cons, show yv S0 b ad opq (2, Int.ofNat a) = .ref (S0 + (a - 1)) from gg_rf_pos h1]
      have kk := IH _ _ _ _ _ _ _ _ _ hf RL
      have hkd : (w.1 a).1 = 1 ∨ (w.1 a).1 = 2 ∨ (w.1 a).1 = 3 ∨ (w.1 a).1 = 4 ∨ (w.1 a).1 = 5 := by omega
      rcases hkd with h3 | h3 | h3 | h3 | h3
      · rw [gy_ce_num h3 (Or.inl rfl)] at hat
        exact va_alen (t0 := 0) hx hb hE.1 (gy_one hat) 0 rfl rfl rfl hdg kk
      · rw [gy_ce_num h3 (Or.inr (Or.inl rfl))] at hat
        exact va_alen (t0 := 1) hx hb hE.1 (gy_one hat) 0 rfl rfl rfl hdg kk
      · rw [gy_ce_num h3 (Or.inr (Or.inr rfl))] at hat
        exact va_alen (t0 := 2) hx hb hE.1 (gy_one hat) 0 rfl rfl rfl hdg kk
      · rw [gy_ce_long h3] at hat
        exact va_alen (t0 := 3) hx hb hE.1 (gy_one hat) 0 rfl rfl rfl hdg kk
      · rw [gy_ce_ref h3] at hat
        obtain ⟨t0, ty, ht, -⟩ := gy_el5 (cA := cA) (hec h3)
        exact va_alen (t0 := t0) hx hb hE.1 (gy_one hat) 0 rfl ht rfl hdg kk
  · rename_i s2 r
    obtain ⟨h2, h_3⟩ := gif_ok h_1
    exact va_tlen hx hb (hE.2.2.2.2.2.2.2.1 s2 h2).2.2.2 hS rfl hdg (IH _ _ _ _ _ _ _ _ _ h_3 RL)
  · rename_i z r
    obtain ⟨rfl, h_3⟩ := gif_ok h_1
    exact va_tlen hx hb hE.2.2.2.2.2.2.2.2.2.2.2.1.2 hS rfl hdg (IH _ _ _ _ _ _ _ _ _ h_3 RL)
  · cases h_1
theorem gy_gs_in {o i : Nat} {v : gg_V} (h : gy_gs o i = some v) : (o, i, v) ∈ gy_gss := by
  unfold gy_gs at h
  cases hf : gy_gss.find? (fun e => e.1 == o && e.2.1 == i) with
  | none => rw [hf] at h; cases h
  | some e =>
    rw [hf] at h
    have h1 := List.find?_some hf
    have h2 := List.mem_of_find?_eq_some hf
    obtain ⟨o', i', v'⟩ := e
    simp only [Bool.and_eq_true, beq_iff_eq] at h1
    obtain ⟨rfl, rfl⟩ := h1
    cases h
    exact h2
theorem gs_getstatic (IH : gy_Wk l S0 b Lx xs D cA ad opq p e R s m args below meth c Q k d nL cb sb o f) (CX : gy_CX l S0 b Lx xs D cA ad opq p R s m args meth c k d nL cb sb o) (RL : gy_Rl S0 b Lx xs D cA ad opq s nL cb sb L w H locs cells slots ls) {ix : Nat} (hdg : decode (gg_bt k) pc = .ok (.getstatic ix, n)) (h : gy_step (gy_ex Lx xs f) Lx xs d k pc L st w (.getstatic ix) n = some o) : W p l e R s m args below meth c H locs cells slots Q (F0 m pc ls (st.map (yv S0 b ad opq))) := by
  obtain ⟨⟨hx, hb, hml, hown, hts⟩, hE, hR, hin, hfl, hS0⟩ := id CX
  obtain ⟨hL, hl, hH, hS, hc, hs⟩ := id RL
  obtain ⟨rfl, h_1⟩ := gq_ok h
  cases hv : gy_gs (gg_mt k).1 ix with
  | none => rw [hv] at h_1; cases h_1
  | some v =>
    rw [hv] at h_1
    have hin3 := gy_gs_in hv
    simp only [gy_gss, List.mem_cons, List.not_mem_nil, or_false, Prod.mk.injEq] at hin3
    have kk := IH _ _ _ _ _ _ _ _ _ h_1 RL
    rcases hin3 with ⟨ho, rfl, rfl⟩ | ⟨ho, rfl, rfl⟩ | ⟨ho, rfl, rfl⟩ | ⟨ho, rfl, rfl⟩ | ⟨ho, rfl, rfl⟩ | ⟨ho, rfl, rfl⟩ | ⟨ho, rfl, rfl⟩ | ⟨ho, rfl, rfl⟩
    · rw [ho] at hown
      exact va_gets hx hb hE.2.2.2.2.1 hS hown (hts _ gw_str_38) (fun _ z => z) hdg kk
    · rw [ho] at hown
      exact va_gets hx hb hE.2.2.2.2.1 hS hown (hts _ gw_asb_18) (fun _ z => z) hdg kk
    · rw [ho] at hown
      exact va_gets hx hb hE.2.2.2.2.2.1 hS hown (hts _ gw_str_1053) (fun _ z => z) hdg kk
    · rw [ho] at hown
      exact va_gets hx hb hE.2.2.2.2.2.2.2.2.2.2.2.1.1 hS hown (hts _ gw_al_39) (fun _ z => z) hdg kk
    · rw [ho] at hown
      exact va_gets hx hb hE.2.2.2.2.2.2.2.2.2.2.2.2.1.1 hS hown (hts _ gw_in_83) (fun _ z => z) hdg kk
    · rw [ho] at hown
      exact va_gets hx hb hE.2.2.2.2.2.2.2.2.2.2.2.2.2.1.1 hS hown (hts _ gw_in_87) (fun _ z => z) hdg kk
    · rw [ho] at hown
      exact va_gets hx hb hE.2.2.2.2.2.2.2.2.2.2.2.2.2.2.1 hS hown (hts _ gw_in_191) (fun _ z => z) hdg kk
    · rw [ho] at hown
      exact va_gets hx hb hE.2.2.2.2.2.2.2.2.2.2.2.2.2.2.2.1 hS hown (hts _ gw_in_195) (fun _ z => z) hdg kk
end GS3
