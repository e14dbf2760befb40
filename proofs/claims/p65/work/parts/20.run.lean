/-! the machine follows the interpreter: the call itself -/
theorem gg_rok0 {r : Option FieldType} (h : gg_rok 0 r = true) : r = none := by
  cases r with
  | none => rfl
  | some t => cases h
section GS9
variable {l : Launch} {S0 b Lx : Nat} {xs : Nat → Int32} {D : va_G} {cA : Nat → ClassId} {ad : Nat → Int → Nat} {opq : Value} {p : Program} {e : Env} {R : Room} {s : State} {m : MethodId} {args : Array Value} {below : List Frame} {meth : Method} {c : Code} {Q : State → Prop} {k d nL cb sb : Nat} {o : gy_O} {f : Nat}
variable {pc n : Nat} {L st : List gg_V} {w w' : gy_W} {H H' : Heap} {locs : List Loc} {cells slots : Nat} {ls : Array Slot}
theorem gy_pre (CX : gy_CX l S0 b Lx xs D cA ad opq p R s m args meth c k d nL cb sb o) (RL : gy_Rl S0 b Lx xs D cA ad opq s nL cb sb L w H locs cells slots ls) (vs : List gg_V) : ∀ U : State, U.heap = H → s.WarmedH U.vm → gy_Pc S0 b Lx xs D cA ad opq vs w (vs.map (yv S0 b ad opq)).toArray U := by
  obtain ⟨-, hE, -⟩ := id CX
  obtain ⟨hL, hl, hH, hS, hc, hs⟩ := id RL
  intro U hU hW
  have hE1 : gy_E S0 b Lx xs D cA ad opq s H := hE.kept fun a h1 h2 => hS.2.1 a h1 h2
  exact ⟨rfl, by rw [hU]; exact hE1.warm hW, by rw [hU]; exact hH⟩
/-- the receiver is there, and of its class -/
theorem gy_recv (CX : gy_CX l S0 b Lx xs D cA ad opq p R s m args meth c k d nL cb sb o) (RL : gy_Rl S0 b Lx xs D cA ad opq s nL cb sb L w H locs cells slots ls) {v0 : gg_V} {ci : Nat} (h : gy_cl v0 w = some ci) :
    ∃ bb : Nat, yv S0 b ad opq v0 = .ref bb ∧ ∃ cellB : Cell, H[bb]? = some cellB ∧ cellB.vm.isStatics = false ∧ s.vm.findClass (gg_c ci) = some cellB.cls := by
  obtain ⟨⟨hx, hb, hml, hown, hts⟩, hE, hR, hin, hfl, hS0⟩ := id CX
  obtain ⟨hL, hl, hH, hS, hc, hs⟩ := id RL
  unfold gy_cl at h
  split at h
  · rename_i a
    obtain ⟨⟨h1, h2, hob⟩, h3⟩ := gif_ok h
    cases h3
    have hsh : w.1 a = (0, 0, (w.1 a).2.2) := Prod.ext h1 (Prod.ext h2 rfl)
    obtain ⟨a1, -, hat⟩ := hH.1 a (by omega)
    rw [gy_ce_obj hsh] at hat
    obtain ⟨r0, q0, cell, q1, q2, q3, q4⟩ := hat
    have hcl := (hE.1.1 _ _ (gg_cl_at hob)).2
    rw [(gg_cf hob).1] at hcl
    exact ⟨_, gg_rf_pos a1, cell, q1, by rw [q3]; rfl, by rw [q2]; exact hcl.1⟩
  · rename_i i
    obtain ⟨h2, h3⟩ := gif_ok h
    cases h3
    obtain ⟨cell, h3, h4, h5, h6⟩ := (hE.2.2.2.2.2.2.2.1 i h2).1
    exact ⟨ad 4 i, rfl, cell, by rw [hS.2.1 _ (Array.getElem?_eq_some_iff.mp h3).1 h6]; exact h3, h4, h5⟩
  · rename_i x
    obtain ⟨⟨h2, h3⟩, h4⟩ := gif_ok h
    cases h4
    have e1 : (((x + 128).toNat : Nat) : Int) - 128 = x := by omega
    obtain ⟨cell, b1, b2, b3, b4⟩ := hE.2.2.2.2.2.2.2.2.2.2.2.2.2.2.2.2.2.1 (x + 128).toNat (by omega)
    dsimp only at b1 b4
    rw [e1] at b1 b4
    exact ⟨ad 6 x, rfl, cell, by rw [hS.2.1 _ (Array.getElem?_eq_some_iff.mp b1).1 b4]; exact b1, b2, b3⟩
  · cases h
theorem gy_ir_ok {v : gg_V} (h : gy_ir v = true) : ∃ bb : Nat, yv S0 b ad opq v = .ref bb := by
  unfold gy_ir at h
  split at h
  · rename_i n
    cases n with
    | zero => exact ⟨_, rfl⟩
    | succ n => exact ⟨_, rfl⟩
  · cases h
theorem gs_com (CX : gy_CX l S0 b Lx xs D cA ad opq p R s m args meth c k d nL cb sb o) (RL : gy_Rl S0 b Lx xs D cA ad opq s nL cb sb L w H locs cells slots ls) {y ci kd ml : Nat} {tg : List Nat} {rk d' : Nat} {o1 : gy_O} {ix : Nat} (hm : gg_mt y = (ci, kd, ml, tg, rk)) (hd : d = d' + 1) (hy : gy_own y) (htg : (st.take tg.length).reverse.map gy_tg = tg) (hlen : tg.length ≤ st.length) (hcat : ((st.drop tg.length).map gg_cat).sum ≤ 8) (hC : gy_Ct l S0 b Lx xs D cA ad opq d' y (st.take tg.length).reverse w o1) (hle : gy_le w o1.2) (hle2 : gy_le o1.2 o.2) :
    CallFix p m c (gg_bt k) nL s args gg_gw (gg_c (gg_mt k).1) ∧
    ((gy_rm d' (o1.2.2.2.1 - w.2.2.1) (o1.2.2.2.2 - w.2.2.2)).frames + 1 ≤ R.frames ∧ 8 + (ml + 11) + (gy_rm d' (o1.2.2.2.1 - w.2.2.1) (o1.2.2.2.2 - w.2.2.2)).locals ≤ R.locals) ∧
    (∀ w' ∈ gg_wd y :: gg_gw, ∀ (a' : Array Value) (U : State), s.WarmedH U.vm → w'.before a' U = true) ∧
    (cells + (o1.2.2.2.1 - w.2.2.1) ≤ R.cells ∧ slots + (o1.2.2.2.2 - w.2.2.2) ≤ R.slots) ∧
    (∀ sig, parseMethodDescriptor (gg_nm y).desc = some sig → (if kd = 1 then tg.length else tg.length - 1) = sig.parameters.length) ∧
    (2 * (F0 m pc ls (st.map (yv S0 b ad opq))).monitorRoom + (((st.drop tg.length).map (yv S0 b ad opq)).map fun v => v.category).sum ≤ 8) ∧
    (st.take tg.length).reverse.length = tg.length ∧
    st.map (yv S0 b ad opq) = ((st.take tg.length).reverse.map (yv S0 b ad opq)).reverse ++ (st.drop tg.length).map (yv S0 b ad opq) := by
  obtain ⟨⟨hx, hb, hml, hown, hts⟩, hE, hR, hin, hfl, hS0⟩ := id CX
  obtain ⟨hL, hl, hH, hS, hc, hs⟩ := id RL
  obtain ⟨hR1, hR2, hR3, hR4⟩ := hR
  obtain ⟨hle1, hle3⟩ := hle
  obtain ⟨hle4, hle5⟩ := hle2
  obtain ⟨m1, m2, m3, m4, m5, m6, m7, m8, m9, m10, m11, m12, m13, m14⟩ := gg_mfacts hy hm
  refine ⟨⟨hx, hb, hml, hown, hts⟩, ⟨?_, ?_⟩, fun w' hw' a' U hW => word_at hW (gg_gw_good w' (gg_wd_in m1 hw')).2 (hts w' (gg_wd_in m1 hw')), ⟨by omega, by omega⟩, fun sig h => ?_, ?_, by rw [List.length_reverse, List.length_take]; omega, ?_⟩
  · show d' + 20 + 1 ≤ _
    omega
  · show 8 + (ml + 11) + (60 * d' + 200) ≤ _
    omega
  · rw [h] at m8
    exact (Option.some.inj m8).symm
  · rw [yv_cats hE.2.2.2.2.2.2.1]
    show 2 * 0 + _ ≤ 8
    omega
  · rw [← List.map_reverse, List.reverse_reverse, ← List.map_append, List.take_append_drop]
theorem gs_runS (CX : gy_CX l S0 b Lx xs D cA ad opq p R s m args meth c k d nL cb sb o) (RL : gy_Rl S0 b Lx xs D cA ad opq s nL cb sb L w H locs cells slots ls) {y ci kd ml : Nat} {tg : List Nat} {rk d' : Nat} {o1 : gy_O} {ix : Nat} (hm : gg_mt y = (ci, kd, ml, tg, rk)) (hd : d = d' + 1) (hy : gy_own y) (htg : (st.take tg.length).reverse.map gy_tg = tg) (hlen : tg.length ≤ st.length) (hcat : ((st.drop tg.length).map gg_cat).sum ≤ 8) (hC : gy_Ct l S0 b Lx xs D cA ad opq d' y (st.take tg.length).reverse w o1) (hle : gy_le w o1.2) (hle2 : gy_le o1.2 o.2) (hkd : kd = 1) (hlk : Cond.methodLink (gg_c (gg_mt k).1) ix (gg_nm y) ∈ gg_gw) (hdg : decode (gg_bt k) pc = .ok (.invokestatic ix, 3)) : ∃ arr : Array Value, gy_Rn 3 p l e R s m args below meth c H locs cells slots (o1.2.2.2.1 - w.2.2.1) (o1.2.2.2.2 - w.2.2.2) (F0 m pc ls (st.map (yv S0 b ad opq))) ((st.drop tg.length).map (yv S0 b ad opq)) (gy_Qc S0 b Lx xs D cA ad opq o1 arr) (gy_XC S0 b Lx xs D cA ad opq o1) (gg_A S0) := by
  subst hkd
  obtain ⟨fix, hroom, hpay, hf, hpl, hW, hvl, hst⟩ := gs_com (pc := pc) (ix := ix) CX RL hm hd hy htg hlen hcat hC hle hle2
  obtain ⟨⟨hx, hb, hml, hown, hts⟩, hE, hR, hin, hfl, hS0⟩ := id CX
  obtain ⟨hL, hl, hH, hS, hc, hs⟩ := id RL
  obtain ⟨m1, m2, m3, m4, m5, m6, m7, m8, m9, m10, m11, m12, m13, m14⟩ := gg_mfacts hy hm
  have hpre := gy_pre CX RL (st.take tg.length).reverse
  by_cases hh0 : gg_hd y = []
  · have hwd : gg_wd y = Cond.code (gg_nm y) (gg_bt y) ml (gg_rt y) := by unfold gg_wd; rw [if_pos hh0, hm]
    refine ⟨_, vx_runS (As := (st.take tg.length).reverse.map (yv S0 b ad opq)) fix hC ⟨⟨rfl, rfl, hroom.1, hroom.2, hpay, by rw [← hwd]; exact List.mem_cons_self, by rw [← hwd]; exact hts _ m1, hts _ m5, m4, hpl, hts _ hlk⟩, hts _ (m9 rfl)⟩ ⟨gy_Pc_blind, hpre⟩ rfl ?_ hl.1 hst hW hdg hf⟩
    rw [List.length_map, if_pos rfl]
    exact hvl
  · have hwd : gg_wd y = Cond.codeWith (gg_nm y) (gg_bt y) ml (gg_rt y) (gg_hh y) := by unfold gg_wd; rw [if_neg hh0, hm]; rfl
    refine ⟨_, vx_runSX (hh := gg_hh y) (As := (st.take tg.length).reverse.map (yv S0 b ad opq)) fix hC ⟨⟨rfl, rfl, hroom.1, hroom.2, hpay, by rw [← hwd]; exact List.mem_cons_self⟩, by rw [← hwd]; exact hts _ m1, hts _ m5, m4, hpl, hts _ hlk, hts _ (m9 rfl)⟩ ⟨gy_Pc_blind, hpre⟩ rfl ?_ hl.1 hst hW hdg hf⟩
    rw [List.length_map, if_pos rfl]
    exact hvl
theorem gs_runV (CX : gy_CX l S0 b Lx xs D cA ad opq p R s m args meth c k d nL cb sb o) (RL : gy_Rl S0 b Lx xs D cA ad opq s nL cb sb L w H locs cells slots ls) {y ci kd ml : Nat} {tg : List Nat} {rk d' : Nat} {o1 : gy_O} {ix : Nat} (hm : gg_mt y = (ci, kd, ml, tg, rk)) (hd : d = d' + 1) (hy : gy_own y) (htg : (st.take tg.length).reverse.map gy_tg = tg) (hlen : tg.length ≤ st.length) (hcat : ((st.drop tg.length).map gg_cat).sum ≤ 8) (hC : gy_Ct l S0 b Lx xs D cA ad opq d' y (st.take tg.length).reverse w o1) (hle : gy_le w o1.2) (hle2 : gy_le o1.2 o.2) (hkd : kd = 0) (hns : ¬ gy_nos ci y) (hrc : gy_cl (gy_rc st tg.length) w = some ci) (hlk : Cond.methodLink (gg_c (gg_mt k).1) ix (gg_nm y) ∈ gg_gw) (hdg : decode (gg_bt k) pc = .ok (.invokevirtual ix, 3)) : ∃ arr : Array Value, gy_Rn 3 p l e R s m args below meth c H locs cells slots (o1.2.2.2.1 - w.2.2.1) (o1.2.2.2.2 - w.2.2.2) (F0 m pc ls (st.map (yv S0 b ad opq))) ((st.drop tg.length).map (yv S0 b ad opq)) (gy_Qc S0 b Lx xs D cA ad opq o1 arr) (gy_XC S0 b Lx xs D cA ad opq o1) (gg_A S0) := by
  subst hkd
  obtain ⟨fix, hroom, hpay, hf, hpl, hW, hvl, hst⟩ := gs_com (pc := pc) (ix := ix) CX RL hm hd hy htg hlen hcat hC hle hle2
  obtain ⟨⟨hx, hb, hml, hown, hts⟩, hE, hR, hin, hfl, hS0⟩ := id CX
  obtain ⟨hL, hl, hH, hS, hc, hs⟩ := id RL
  obtain ⟨m1, m2, m3, m4, m5, m6, m7, m8, m9, m10, m11, m12, m13, m14⟩ := gg_mfacts hy hm
  have hpre := gy_pre CX RL (st.take tg.length).reverse
  have hh0 : gg_hd y = [] := m14.resolve_left (by decide)
  obtain ⟨hins, htl⟩ := m10 (by decide)
  unfold gy_rc at hrc
  generalize hvs : (st.take tg.length).reverse = vs at hpre hC hvl hst hrc
  match vs, hrc, hvl, hst, hpre, hC with
  | [], hrc, hvl, hst, hpre, hC => simp only [List.length_nil] at hvl; omega
  | v0 :: As, hrc, hvl, hst, hpre, hC =>
    have hrc2 : gy_cl v0 w = some ci := hrc
    obtain ⟨bb, hbb, cellB, c1, c2, c3⟩ := gy_recv CX RL hrc2
    rw [List.map_cons, hbb] at hpre hst
    have hn : (As.map (yv S0 b ad opq)).length = (if 0 = 1 then tg.length else tg.length - 1) := by
      rw [List.length_map, if_neg (by decide)]
      simp only [List.length_cons] at hvl
      omega
    have hst2 : (F0 m pc ls (st.map (yv S0 b ad opq))).stack = (As.map (yv S0 b ad opq)).reverse ++ .ref bb :: (st.drop tg.length).map (yv S0 b ad opq) := by
      show st.map (yv S0 b ad opq) = _
      rw [hst, List.reverse_cons, List.append_assoc]
      rfl
    have hwd : gg_wd y = Cond.code (gg_nm y) (gg_bt y) ml (gg_rt y) := by unfold gg_wd; rw [if_pos hh0, hm]
    exact ⟨_, vx_runV (C := (gg_nm y).cls) (As := As.map (yv S0 b ad opq)) (b := bb) fix hC ⟨⟨rfl, rfl, hroom.1, hroom.2, hpay, by rw [← hwd]; exact List.mem_cons_self, by rw [← hwd]; exact hts _ m1, hts _ m5, m4, hpl, hts _ hlk⟩, hts _ hins, hts _ (m11 rfl hns)⟩ ⟨gy_Pc_blind, ⟨cellB, c1, c2, by rw [m2]; exact c3⟩, hpre⟩ rfl hn hl.1 hst2 hW hdg hf⟩
theorem gs_runU (CX : gy_CX l S0 b Lx xs D cA ad opq p R s m args meth c k d nL cb sb o) (RL : gy_Rl S0 b Lx xs D cA ad opq s nL cb sb L w H locs cells slots ls) {y ci kd ml : Nat} {tg : List Nat} {rk d' : Nat} {o1 : gy_O} {ix : Nat} (hm : gg_mt y = (ci, kd, ml, tg, rk)) (hd : d = d' + 1) (hy : gy_own y) (htg : (st.take tg.length).reverse.map gy_tg = tg) (hlen : tg.length ≤ st.length) (hcat : ((st.drop tg.length).map gg_cat).sum ≤ 8) (hC : gy_Ct l S0 b Lx xs D cA ad opq d' y (st.take tg.length).reverse w o1) (hle : gy_le w o1.2) (hle2 : gy_le o1.2 o.2) {x : Nat} (hkd : kd = 0) (hrc : gy_cl (gy_rc st tg.length) w = some 17) (hlk : Cond.methodLink (gg_c (gg_mt k).1) ix (gg_nm x) ∈ gg_gw) (hown2 : (gg_nm x).cls = "java/lang/AbstractStringBuilder") (hsame : Cond.sameMethod (gg_nm x).cls (gg_nm x).cls (gg_nm x).name (gg_nm x).desc ∈ gg_gw) (hdx : va_Decl s (gg_nm x)) (hsel : (Cond.selects "java/lang/StringBuilder" (gg_nm x) (gg_nm y)).before args s = true) (hdesc : (gg_nm x).desc = (gg_nm y).desc) (hdg : decode (gg_bt k) pc = .ok (.invokevirtual ix, 3)) : ∃ arr : Array Value, gy_Rn 3 p l e R s m args below meth c H locs cells slots (o1.2.2.2.1 - w.2.2.1) (o1.2.2.2.2 - w.2.2.2) (F0 m pc ls (st.map (yv S0 b ad opq))) ((st.drop tg.length).map (yv S0 b ad opq)) (gy_Qc S0 b Lx xs D cA ad opq o1 arr) (gy_XC S0 b Lx xs D cA ad opq o1) (gg_A S0) := by
  subst hkd
  obtain ⟨fix, hroom, hpay, hf, hpl, hW, hvl, hst⟩ := gs_com (pc := pc) (ix := ix) CX RL hm hd hy htg hlen hcat hC hle hle2
  obtain ⟨⟨hx, hb, hml, hown, hts⟩, hE, hR, hin, hfl, hS0⟩ := id CX
  obtain ⟨hL, hl, hH, hS, hc, hs⟩ := id RL
  obtain ⟨m1, m2, m3, m4, m5, m6, m7, m8, m9, m10, m11, m12, m13, m14⟩ := gg_mfacts hy hm
  have hpre := gy_pre CX RL (st.take tg.length).reverse
  have hh0 : gg_hd y = [] := m14.resolve_left (by decide)
  obtain ⟨hins, htl⟩ := m10 (by decide)
  unfold gy_rc at hrc
  generalize hvs : (st.take tg.length).reverse = vs at hpre hC hvl hst hrc
  match vs, hrc, hvl, hst, hpre, hC with
  | [], hrc, hvl, hst, hpre, hC => simp only [List.length_nil] at hvl; omega
  | v0 :: As, hrc, hvl, hst, hpre, hC =>
    have hrc2 : gy_cl v0 w = some 17 := hrc
    obtain ⟨bb, hbb, cellB, c1, c2, c3⟩ := gy_recv CX RL hrc2
    rw [List.map_cons, hbb] at hpre hst
    have hn : (As.map (yv S0 b ad opq)).length = (if 0 = 1 then tg.length else tg.length - 1) := by
      rw [List.length_map, if_neg (by decide)]
      simp only [List.length_cons] at hvl
      omega
    have hst2 : (F0 m pc ls (st.map (yv S0 b ad opq))).stack = (As.map (yv S0 b ad opq)).reverse ++ .ref bb :: (st.drop tg.length).map (yv S0 b ad opq) := by
      show st.map (yv S0 b ad opq) = _
      rw [hst, List.reverse_cons, List.append_assoc]
      rfl
    have hwd : gg_wd y = Cond.code (gg_nm y) (gg_bt y) ml (gg_rt y) := by unfold gg_wd; rw [if_pos hh0, hm]
    refine ⟨_, vx_runU (x := gg_nm x) (owner := (gg_nm x).cls) (C := "java/lang/StringBuilder") (As := As.map (yv S0 b ad opq)) (b := bb) (rm := gy_rm d' (o1.2.2.2.1 - w.2.2.1) (o1.2.2.2.2 - w.2.2.2)) (bytes := gg_bt y) (maxL := ml) (ret := gg_rt y) fix hC ⟨⟨rfl, rfl, hroom.1, hroom.2, hpay, by rw [← hwd]; exact List.mem_cons_self⟩, by rw [← hwd]; exact hts _ m1, hts _ m5, by rw [hown2]; exact ⟨by decide, by decide⟩, fun sig h => hpl sig (by rw [← hdesc]; exact h), hts _ hlk, hts _ hsame, hdx, hsel, hts _ hins⟩ ⟨gy_Pc_blind, ⟨cellB, c1, c2, c3⟩, hpre⟩ rfl hn hl.1 hst2 hW hdg hf⟩
theorem gs_runSU (CX : gy_CX l S0 b Lx xs D cA ad opq p R s m args meth c k d nL cb sb o) (RL : gy_Rl S0 b Lx xs D cA ad opq s nL cb sb L w H locs cells slots ls) {y ci kd ml : Nat} {tg : List Nat} {rk d' : Nat} {o1 : gy_O} {ix : Nat} (hm : gg_mt y = (ci, kd, ml, tg, rk)) (hd : d = d' + 1) (hy : gy_own y) (htg : (st.take tg.length).reverse.map gy_tg = tg) (hlen : tg.length ≤ st.length) (hcat : ((st.drop tg.length).map gg_cat).sum ≤ 8) (hC : gy_Ct l S0 b Lx xs D cA ad opq d' y (st.take tg.length).reverse w o1) (hle : gy_le w o1.2) (hle2 : gy_le o1.2 o.2) (hkd : kd = 0) (hk17 : (gg_mt k).1 = 17) (hrc : gy_cl (gy_rc st tg.length) w = some 17) (hlk : Cond.methodLink (gg_c (gg_mt k).1) ix (gg_nm y) ∈ gg_gw) (hsup : Cond.superclass (gg_c 17) (gg_nm y).cls ∈ gg_gw) (hsame : Cond.sameMethod (gg_nm y).cls (gg_nm y).cls (gg_nm y).name (gg_nm y).desc ∈ gg_gw) (hno : (gg_nm y).name ≠ "<init>") (hdg : decode (gg_bt k) pc = .ok (.invokespecial ix, 3)) : ∃ arr : Array Value, gy_Rn 3 p l e R s m args below meth c H locs cells slots (o1.2.2.2.1 - w.2.2.1) (o1.2.2.2.2 - w.2.2.2) (F0 m pc ls (st.map (yv S0 b ad opq))) ((st.drop tg.length).map (yv S0 b ad opq)) (gy_Qc S0 b Lx xs D cA ad opq o1 arr) (gy_XC S0 b Lx xs D cA ad opq o1) (gg_A S0) := by
  subst hkd
  obtain ⟨fix, hroom, hpay, hf, hpl, hW, hvl, hst⟩ := gs_com (pc := pc) (ix := ix) CX RL hm hd hy htg hlen hcat hC hle hle2
  obtain ⟨⟨hx, hb, hml, hown, hts⟩, hE, hR, hin, hfl, hS0⟩ := id CX
  obtain ⟨hL, hl, hH, hS, hc, hs⟩ := id RL
  obtain ⟨m1, m2, m3, m4, m5, m6, m7, m8, m9, m10, m11, m12, m13, m14⟩ := gg_mfacts hy hm
  have hpre := gy_pre CX RL (st.take tg.length).reverse
  have hh0 : gg_hd y = [] := m14.resolve_left (by decide)
  obtain ⟨hins, htl⟩ := m10 (by decide)
  unfold gy_rc at hrc
  generalize hvs : (st.take tg.length).reverse = vs at hpre hC hvl hst hrc
  match vs, hrc, hvl, hst, hpre, hC with
  | [], hrc, hvl, hst, hpre, hC => simp only [List.length_nil] at hvl; omega
  | v0 :: As, hrc, hvl, hst, hpre, hC =>
    have hrc2 : gy_cl v0 w = some 17 := hrc
    obtain ⟨bb, hbb, cellB, c1, c2, c3⟩ := gy_recv CX RL hrc2
    rw [List.map_cons, hbb] at hpre hst
    have hn : (As.map (yv S0 b ad opq)).length = (if 0 = 1 then tg.length else tg.length - 1) := by
      rw [List.length_map, if_neg (by decide)]
      simp only [List.length_cons] at hvl
      omega
    have hst2 : (F0 m pc ls (st.map (yv S0 b ad opq))).stack = (As.map (yv S0 b ad opq)).reverse ++ .ref bb :: (st.drop tg.length).map (yv S0 b ad opq) := by
      show st.map (yv S0 b ad opq) = _
      rw [hst, List.reverse_cons, List.append_assoc]
      rfl
    have hwd : gg_wd y = Cond.code (gg_nm y) (gg_bt y) ml (gg_rt y) := by unfold gg_wd; rw [if_pos hh0, hm]
    have hcl := (hE.1.1 17 _ (gg_cl_at (by decide))).2
    rw [(gg_cf (c := 17) (by decide)).1] at hcl
    exact ⟨_, vx_runSU (C := gg_c 17) (As := As.map (yv S0 b ad opq)) (b := bb) (rm := gy_rm d' (o1.2.2.2.1 - w.2.2.1) (o1.2.2.2.2 - w.2.2.2)) (bytes := gg_bt y) (maxL := ml) (ret := gg_rt y) hcl fix hC ⟨⟨rfl, rfl, hroom.1, hroom.2, hpay, by rw [← hwd]; exact List.mem_cons_self⟩, hts _ hlk, hts _ hsame, by rw [hk17]; exact hts _ hsup, hts _ hins, hts _ m5, by rw [← hwd]; exact hts _ m1, hno, hpl⟩ ⟨gy_Pc_blind, ⟨cellB, c1, c2, c3⟩, hpre⟩ rfl hn hl.1 hst2 hW hdg hf⟩
theorem gs_runF (CX : gy_CX l S0 b Lx xs D cA ad opq p R s m args meth c k d nL cb sb o) (RL : gy_Rl S0 b Lx xs D cA ad opq s nL cb sb L w H locs cells slots ls) {y ci kd ml : Nat} {tg : List Nat} {rk d' : Nat} {o1 : gy_O} {ix : Nat} (hm : gg_mt y = (ci, kd, ml, tg, rk)) (hd : d = d' + 1) (hy : gy_own y) (htg : (st.take tg.length).reverse.map gy_tg = tg) (hlen : tg.length ≤ st.length) (hcat : ((st.drop tg.length).map gg_cat).sum ≤ 8) (hC : gy_Ct l S0 b Lx xs D cA ad opq d' y (st.take tg.length).reverse w o1) (hle : gy_le w o1.2) (hle2 : gy_le o1.2 o.2) {x : MethodName} {ct : Nat} (hkd : kd = 0) (hob : gy_ob ci = true) (hrc : gy_cl (gy_rc st tg.length) w = some ci) (hlk : Cond.methodLink (gg_c (gg_mt k).1) ix x ∈ gg_gw) (hsel : Cond.selects (gg_c ci) x (gg_nm y) ∈ gg_gw) (hF : va_Fw (gg_c ci) x (gg_nm y) s) (hmh : x.cls ≠ "java/lang/invoke/MethodHandle" ∧ x.cls ≠ "java/lang/invoke/VarHandle") (hdesc : x.desc = (gg_nm y).desc) (hdg : decode (gg_bt k) pc = .ok (.invokeinterface ix ct, 5)) : ∃ arr : Array Value, gy_Rn 5 p l e R s m args below meth c H locs cells slots (o1.2.2.2.1 - w.2.2.1) (o1.2.2.2.2 - w.2.2.2) (F0 m pc ls (st.map (yv S0 b ad opq))) ((st.drop tg.length).map (yv S0 b ad opq)) (gy_Qc S0 b Lx xs D cA ad opq o1 arr) (gy_XC S0 b Lx xs D cA ad opq o1) (gg_A S0) := by
  subst hkd
  obtain ⟨fix, hroom, hpay, hf, hpl, hW, hvl, hst⟩ := gs_com (pc := pc) (ix := ix) CX RL hm hd hy htg hlen hcat hC hle hle2
  obtain ⟨⟨hx, hb, hml, hown, hts⟩, hE, hR, hin, hfl, hS0⟩ := id CX
  obtain ⟨hL, hl, hH, hS, hc, hs⟩ := id RL
  obtain ⟨m1, m2, m3, m4, m5, m6, m7, m8, m9, m10, m11, m12, m13, m14⟩ := gg_mfacts hy hm
  have hpre := gy_pre CX RL (st.take tg.length).reverse
  have hh0 : gg_hd y = [] := m14.resolve_left (by decide)
  obtain ⟨hins, htl⟩ := m10 (by decide)
  unfold gy_rc at hrc
  generalize hvs : (st.take tg.length).reverse = vs at hpre hC hvl hst hrc
  match vs, hrc, hvl, hst, hpre, hC with
  | [], hrc, hvl, hst, hpre, hC => simp only [List.length_nil] at hvl; omega
  | v0 :: As, hrc, hvl, hst, hpre, hC =>
    have hrc2 : gy_cl v0 w = some ci := hrc
    obtain ⟨bb, hbb, cellB, c1, c2, c3⟩ := gy_recv CX RL hrc2
    rw [List.map_cons, hbb] at hpre hst
    have hn : (As.map (yv S0 b ad opq)).length = (if 0 = 1 then tg.length else tg.length - 1) := by
      rw [List.length_map, if_neg (by decide)]
      simp only [List.length_cons] at hvl
      omega
    have hst2 : (F0 m pc ls (st.map (yv S0 b ad opq))).stack = (As.map (yv S0 b ad opq)).reverse ++ .ref bb :: (st.drop tg.length).map (yv S0 b ad opq) := by
      show st.map (yv S0 b ad opq) = _
      rw [hst, List.reverse_cons, List.append_assoc]
      rfl
    have hwd : gg_wd y = Cond.code (gg_nm y) (gg_bt y) ml (gg_rt y) := by unfold gg_wd; rw [if_pos hh0, hm]
    have hcl := (hE.1.1 ci _ (gg_cl_at hob)).2
    rw [(gg_cf hob).1] at hcl
    exact ⟨_, vx_runF (x := x) (C := gg_c ci) (As := As.map (yv S0 b ad opq)) (b := bb) (rm := gy_rm d' (o1.2.2.2.1 - w.2.2.1) (o1.2.2.2.2 - w.2.2.2)) (bytes := gg_bt y) (maxL := ml) (ret := gg_rt y) hcl fix hC ⟨⟨rfl, rfl, hroom.1, hroom.2, hpay, by rw [← hwd]; exact List.mem_cons_self⟩, hts _ hlk, va_any rfl hF.1, va_any rfl hF.2.1, hts _ hsel, hts _ hins, va_any rfl hF.2.2.1, va_any rfl hF.2.2.2.1, va_any rfl hF.2.2.2.2, hts _ m5, by rw [← hwd]; exact hts _ m1, hmh, fun sig h => hpl sig (by rw [← hdesc]; exact h)⟩ ⟨gy_Pc_blind, ⟨cellB, c1, c2, c3⟩, hpre⟩ rfl hn hl.1 hst2 hW hdg hf⟩
theorem gs_runI (CX : gy_CX l S0 b Lx xs D cA ad opq p R s m args meth c k d nL cb sb o) (RL : gy_Rl S0 b Lx xs D cA ad opq s nL cb sb L w H locs cells slots ls) {y ci kd ml : Nat} {tg : List Nat} {rk d' : Nat} {o1 : gy_O} {ix : Nat} (hm : gg_mt y = (ci, kd, ml, tg, rk)) (hd : d = d' + 1) (hy : gy_own y) (htg : (st.take tg.length).reverse.map gy_tg = tg) (hlen : tg.length ≤ st.length) (hcat : ((st.drop tg.length).map gg_cat).sum ≤ 8) (hC : gy_Ct l S0 b Lx xs D cA ad opq d' y (st.take tg.length).reverse w o1) (hle : gy_le w o1.2) (hle2 : gy_le o1.2 o.2) {ns : Nat} (hkd : kd = 2) (hrc : gy_ir (gy_rc st tg.length) = true) (hlk : if ns = 0 then Cond.methodLink (gg_c (gg_mt k).1) ix (gg_nm y) ∈ gg_gw else ((gg_mt k).1, ix, y, ns) ∈ gg_nls ∧ (gg_mt y).2.1 = 2) (hdg : decode (gg_bt k) pc = .ok (.invokespecial ix, 3)) : ∃ arr : Array Value, gy_Rn 3 p l e R s m args below meth c H locs cells slots (o1.2.2.2.1 - w.2.2.1) (o1.2.2.2.2 - w.2.2.2) (F0 m pc ls (st.map (yv S0 b ad opq))) ((st.drop tg.length).map (yv S0 b ad opq)) (gy_Qc S0 b Lx xs D cA ad opq o1 arr) (gy_XC S0 b Lx xs D cA ad opq o1) (gg_A S0) := by
  subst hkd
  obtain ⟨fix, hroom, hpay, hf, hpl, hW, hvl, hst⟩ := gs_com (pc := pc) (ix := ix) CX RL hm hd hy htg hlen hcat hC hle hle2
  obtain ⟨⟨hx, hb, hml, hown, hts⟩, hE, hR, hin, hfl, hS0⟩ := id CX
  obtain ⟨hL, hl, hH, hS, hc, hs⟩ := id RL
  obtain ⟨m1, m2, m3, m4, m5, m6, m7, m8, m9, m10, m11, m12, m13, m14⟩ := gg_mfacts hy hm
  have hpre := gy_pre CX RL (st.take tg.length).reverse
  have hh0 : gg_hd y = [] := m14.resolve_left (by decide)
  obtain ⟨hins, htl⟩ := m10 (by decide)
  unfold gy_rc at hrc
  generalize hvs : (st.take tg.length).reverse = vs at hpre hC hvl hst hrc
  match vs, hrc, hvl, hst, hpre, hC with
  | [], hrc, hvl, hst, hpre, hC => simp only [List.length_nil] at hvl; omega
  | v0 :: As, hrc, hvl, hst, hpre, hC =>
    have hrc2 : gy_ir v0 = true := hrc
    obtain ⟨bb, hbb⟩ := gy_ir_ok (S0 := S0) (b := b) (ad := ad) (opq := opq) hrc2
    rw [List.map_cons, hbb] at hpre hst
    have hn : (As.map (yv S0 b ad opq)).length = (if 2 = 1 then tg.length else tg.length - 1) := by
      rw [List.length_map, if_neg (by decide)]
      simp only [List.length_cons] at hvl
      omega
    have hst2 : (F0 m pc ls (st.map (yv S0 b ad opq))).stack = (As.map (yv S0 b ad opq)).reverse ++ .ref bb :: (st.drop tg.length).map (yv S0 b ad opq) := by
      show st.map (yv S0 b ad opq) = _
      rw [hst, List.reverse_cons, List.append_assoc]
      rfl
    obtain ⟨hnm, hrk⟩ := m12 rfl
    subst hrk
    have hrt : gg_rt y = none := gg_rok0 m6
    have hwd : gg_wd y = Cond.code (gg_nm y) (gg_bt y) ml none := by unfold gg_wd; rw [if_pos hh0, hm, hrt]
    by_cases hz : ns = 0
    · rw [if_pos hz] at hlk
      exact ⟨_, vx_runI (As := As.map (yv S0 b ad opq)) (b := bb) fix hC ⟨⟨rfl, rfl, hroom.1, hroom.2, hpay, by rw [← hwd]; exact List.mem_cons_self, by rw [← hwd]; exact hts _ m1, hts _ m5, m4, hpl, hts _ hlk⟩, hnm, hts _ hins⟩ ⟨gy_Pc_blind, hpre⟩ rfl hn hl.1 hst2 hW hdg hf⟩
    · rw [if_neg hz] at hlk
      have hnw : va_Nw (.methodLinkNest (gg_c (gg_mt k).1) ix (gg_nm y) (gy_host ns)) s := hE.2.2.2.2.2.2.2.2.2.1.1.1 ((gg_mt k).1, ix, y, ns) hlk.1
      exact ⟨_, vx_runIN (host := gy_host ns) (As := As.map (yv S0 b ad opq)) (b := bb) fix hC ⟨⟨⟨rfl, rfl, hroom.1, hroom.2, hpay, by rw [← hwd]; exact List.mem_cons_self⟩, by rw [← hwd]; exact hts _ m1, hts _ m5, m4, hpl, va_Nw.use rfl hnw⟩, hnm, hts _ hins⟩ ⟨gy_Pc_blind, hpre⟩ rfl hn hl.1 hst2 hW hdg hf⟩
end GS9
