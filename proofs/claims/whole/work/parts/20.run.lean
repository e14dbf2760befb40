/-! the machine follows the interpreter: the call itself -/
theorem gg_split {st : List gg_V} {n : Nat} (h : n ≤ st.length) : st = (st.take n).reverse.reverse ++ st.drop n := by rw [List.reverse_reverse, List.take_append_drop]
theorem gg_rok0 {r : Option FieldType} (h : gg_rok 0 r = true) : r = none := by
  cases r with
  | none => rfl
  | some t => cases h
def gg_ivk (kd ix : Nat) : Instr := match kd with
  | 0 => .invokevirtual ix
  | 1 => .invokestatic ix
  | _ => .invokespecial ix
section GS9
variable {l : Launch} {S0 b Lx : Nat} {xs : Nat → Int32} {D : va_G} {cA : Nat → ClassId} {adK adV : Nat → Nat} {opq : Value} {p : Program} {e : Env} {R : Room} {s : State} {m : MethodId} {args : Array Value} {below : List Frame} {meth : Method} {c : Code} {Q : State → Prop} {k d nL cb sb : Nat} {o : gg_O} {f : Nat}
variable {pc n : Nat} {L st : List gg_V} {w w' : gg_W} {H H' : Heap} {locs : List Loc} {cells slots : Nat} {ls : Array Slot}
theorem gg_pre (CX : gg_CX l S0 b Lx xs D cA adK adV opq p R s m args meth c k d nL cb sb o) (RL : gg_Rl S0 b Lx xs D cA adK adV opq s nL cb sb L w H locs cells slots ls) (vs : List gg_V) : ∀ U : State, U.heap = H → s.WarmedH U.vm → gg_Pc S0 b Lx xs D cA adK adV opq vs w (vs.map (gv S0 b adK adV opq)).toArray U := by
  obtain ⟨-, hE, -⟩ := id CX
  obtain ⟨hL, hl, hH, hS, hc, hs⟩ := id RL
  intro U hU hW
  have hE1 : gg_E S0 b Lx xs D cA adK adV opq s H := hE.kept fun a h1 h2 => hS.2.1 a h1 h2
  exact ⟨rfl, by rw [hU]; exact hE1.warm hW, by rw [hU]; exact hH⟩
/-- the receiver is there, and of its class -/
theorem gg_recv (CX : gg_CX l S0 b Lx xs D cA adK adV opq p R s m args meth c k d nL cb sb o) (RL : gg_Rl S0 b Lx xs D cA adK adV opq s nL cb sb L w H locs cells slots ls) {v0 : gg_V} {As : List gg_V} {ci : Nat} (h : gg_rcv (v0 :: As) ci w.2.2.1 = true) :
    ∃ bb : Nat, gv S0 b adK adV opq v0 = .ref bb ∧ ∃ cellB : Cell, H[bb]? = some cellB ∧ cellB.vm.isStatics = false ∧ s.vm.findClass (gg_c ci) = some cellB.cls := by
  obtain ⟨-, hE, -⟩ := id CX
  obtain ⟨hL, hl, hH, hS, hc, hs⟩ := id RL
  unfold gg_rcv at h
  split at h
  · rename_i o1 r1 heq
    cases heq
    obtain ⟨h1, h2, h3⟩ := of_decide_eq_true h
    have hat := gg_H_at hH h1 h2
    rw [gg_ce_obj h3] at hat
    obtain ⟨r0, q0, cell, q1, q2, q3, q4⟩ := hat
    have hci : ci < 8 := by
      have := (List.getElem?_eq_some_iff.mp q0).1
      exact this
    refine ⟨_, gg_rf_pos h1, cell, q1, by rw [q3]; rfl, ?_⟩
    have := (hE.1.1 ci _ (gg_cl_at hci)).2.1
    rw [(gg_cf hci).1] at this
    rw [q2]
    exact this
  · rename_i i1 r1 heq
    cases heq
    obtain ⟨rfl, h2⟩ := of_decide_eq_true h
    obtain ⟨cell, h3, h4, h5, h6⟩ := (hE.2.2.2.2.2.2.2.1 i1 h2).1
    exact ⟨adK i1, rfl, cell, by rw [hS.2.1 _ (Array.getElem?_eq_some_iff.mp h3).1 h6]; exact h3, h4, h5⟩
  · cases h
theorem gs_run (CX : gg_CX l S0 b Lx xs D cA adK adV opq p R s m args meth c k d nL cb sb o) (RL : gg_Rl S0 b Lx xs D cA adK adV opq s nL cb sb L w H locs cells slots ls)
    {y ci kd ml : Nat} {tg : List Nat} {rk d' : Nat} {o1 : gg_O} {ix : Nat} {i : Instr} (hm : gg_mt y = (ci, kd, ml, tg, rk)) (hd : d = d' + 1) (hi : i = gg_ivk kd ix)
    (hdg : decode (gg_bt k) pc = .ok (i, 3)) {ns : Nat} (hlm : gg_lm (gg_mt k).1 ix = some (y, ns)) (hb4 : y ≠ 1000 ∧ y ≠ 1001 ∧ y ≠ 1002 ∧ y ≠ 1003)
    (htg : (st.take tg.length).reverse.map gg_tg = tg) (hlen : tg.length ≤ st.length) (hcat : ((st.drop tg.length).map gg_cat).sum ≤ 8) (hrc : kd = 1 ∨ gg_rcv (st.take tg.length).reverse ci w.2.2.1 = true)
    (hC : gg_Ct l S0 b Lx xs D cA adK adV opq d' y (st.take tg.length).reverse w o1) (hle : gg_le w o1.2) (hle2 : gg_le o1.2 o.2) :
    ∃ arr : Array Value, vx_Run p l e R s m args below meth c H locs cells slots (o1.2.2.2.2.1 - w.2.2.2.1) (o1.2.2.2.2.2 - w.2.2.2.2) (F0 m pc ls (st.map (gv S0 b adK adV opq))) ((st.drop tg.length).map (gv S0 b adK adV opq)) (gg_Qc S0 b Lx xs D cA adK adV opq o1 arr) (gg_XC S0 b Lx xs D cA adK adV opq o1) (gg_A S0) := by
  obtain ⟨⟨hx, hb, hml, hown, hts⟩, hE, ⟨hR1, hR2, hR3, hR4⟩, hin, hfl, hS0⟩ := id CX
  obtain ⟨hL, hl, hH, hS, hc, hs⟩ := id RL
  obtain ⟨hle1, hle3⟩ := hle
  obtain ⟨hle4, hle5⟩ := hle2
  obtain ⟨⟨hy, hyn⟩, hlk⟩ := (gg_lm_ok hlm).2.2.2.2 hb4.1 hb4.2.1 hb4.2.2.1 hb4.2.2.2
  obtain ⟨m1, m2, m3, m4, m5, m6, m7, m8, m9, m10, m11, m12, m13, m14⟩ := gg_mfacts hy hyn hm
  have hpre := gg_pre CX RL (st.take tg.length).reverse
  have hpay : ∀ w' ∈ gg_wd y :: gg_gw, ∀ (a' : Array Value) (U : State), s.WarmedH U.vm → w'.before a' U = true := fun w' hw' a' U hW => word_at hW (gg_gw_good w' (gg_wd_in m1 hw')).2 (hts w' (gg_wd_in m1 hw'))
  have hroom : (gg_rm d' (o1.2.2.2.2.1 - w.2.2.2.1) (o1.2.2.2.2.2 - w.2.2.2.2)).frames + 1 ≤ R.frames ∧ 8 + (ml + 11) + (gg_rm d' (o1.2.2.2.2.1 - w.2.2.2.1) (o1.2.2.2.2.2 - w.2.2.2.2)).locals ≤ R.locals := by
    refine ⟨?_, ?_⟩
    · show d' + 20 + 1 ≤ _
      omega
    · show 8 + (ml + 11) + (60 * d' + 200) ≤ _
      omega
  have hf : cells + (o1.2.2.2.2.1 - w.2.2.2.1) ≤ R.cells ∧ slots + (o1.2.2.2.2.2 - w.2.2.2.2) ≤ R.slots := by omega
  have hpl : ∀ sig, parseMethodDescriptor (gg_nm y).desc = some sig → (if kd = 1 then tg.length else tg.length - 1) = sig.parameters.length := fun sig h => by
    rw [h] at m8
    exact (Option.some.inj m8).symm
  have hW : 2 * (F0 m pc ls (st.map (gv S0 b adK adV opq))).monitorRoom + (((st.drop tg.length).map (gv S0 b adK adV opq)).map fun v => v.category).sum ≤ 8 := by
    rw [gv_cats hE.2.2.2.2.2.2.1]
    show 2 * 0 + _ ≤ 8
    omega
  have hvl : (st.take tg.length).reverse.length = tg.length := by rw [List.length_reverse, List.length_take]; omega
  have hst : st.map (gv S0 b adK adV opq) = ((st.take tg.length).reverse.map (gv S0 b adK adV opq)).reverse ++ (st.drop tg.length).map (gv S0 b adK adV opq) := by
    rw [← List.map_reverse, List.reverse_reverse, ← List.map_append, List.take_append_drop]
  have fix : CallFix p m c (gg_bt k) nL s args gg_gw (gg_c (gg_mt k).1) := ⟨hx, hb, hml, hown, hts⟩
  generalize hvs : (st.take tg.length).reverse = vs at hpre hC hvl hst hrc
  have hk3 : kd = 0 ∨ kd = 1 ∨ kd = 2 := by omega
  have nonest : kd ≠ 2 → Cond.methodLink (gg_c (gg_mt k).1) ix (gg_nm y) ∈ gg_gw := fun hn => by
    by_cases hz : ns = 0
    · rw [if_pos hz] at hlk; exact hlk
    · rw [if_neg hz, hm] at hlk
      exact absurd hlk.2 hn
  rcases hk3 with rfl | rfl | rfl
  · -- an instance's
    subst hi
    have hh0 : gg_hd y = [] := m14.resolve_left (by decide)
    have hr := hrc.resolve_left (by decide)
    obtain ⟨hins, htl⟩ := m10 (by decide)
    match vs, hr, hvl, hst, hpre, hC with
    | [], hr, hvl, hst, hpre, hC => cases hr
    | v0 :: As, hr, hvl, hst, hpre, hC =>
      obtain ⟨bb, hbb, cellB, c1, c2, c3⟩ := gg_recv CX RL hr
      rw [List.map_cons, hbb] at hpre hst
      have hwd : gg_wd y = Cond.code (gg_nm y) (gg_bt y) ml (gg_rt y) := by unfold gg_wd; rw [if_pos hh0, hm]
      refine ⟨_, vx_runV (C := (gg_nm y).cls) (As := As.map (gv S0 b adK adV opq)) (b := bb) fix hC ⟨⟨rfl, rfl, hroom.1, hroom.2, hpay, by rw [← hwd]; exact List.mem_cons_self, by rw [← hwd]; exact hts _ m1, hts _ m5, m4, hpl, hts _ (nonest (by decide))⟩, hts _ hins, hts _ (m11 rfl)⟩ ⟨gg_Pc_blind, ⟨cellB, c1, c2, by rw [m2]; exact c3⟩, hpre⟩ rfl ?_ hl.1 ?_ hW hdg hf⟩
      · rw [List.length_map, if_neg (by decide)]
        simp only [List.length_cons] at hvl
        omega
      · show st.map (gv S0 b adK adV opq) = _
        rw [hst, List.reverse_cons, List.append_assoc]
        rfl
  · -- static
    subst hi
    by_cases hh0 : gg_hd y = []
    · have hwd : gg_wd y = Cond.code (gg_nm y) (gg_bt y) ml (gg_rt y) := by unfold gg_wd; rw [if_pos hh0, hm]
      refine ⟨_, vx_runS (As := vs.map (gv S0 b adK adV opq)) fix hC ⟨⟨rfl, rfl, hroom.1, hroom.2, hpay, by rw [← hwd]; exact List.mem_cons_self, by rw [← hwd]; exact hts _ m1, hts _ m5, m4, hpl, hts _ (nonest (by decide))⟩, hts _ (m9 rfl)⟩ ⟨gg_Pc_blind, hpre⟩ rfl ?_ hl.1 hst hW hdg hf⟩
      rw [List.length_map, if_pos rfl]
      exact hvl
    · have hwd : gg_wd y = Cond.codeWith (gg_nm y) (gg_bt y) ml (gg_rt y) (gg_hh y) := by unfold gg_wd; rw [if_neg hh0, hm]; rfl
      refine ⟨_, vx_runSX (hh := gg_hh y) (As := vs.map (gv S0 b adK adV opq)) fix hC ⟨⟨rfl, rfl, hroom.1, hroom.2, hpay, by rw [← hwd]; exact List.mem_cons_self⟩, by rw [← hwd]; exact hts _ m1, hts _ m5, m4, hpl, hts _ (nonest (by decide)), hts _ (m9 rfl)⟩ ⟨gg_Pc_blind, hpre⟩ rfl ?_ hl.1 hst hW hdg hf⟩
      rw [List.length_map, if_pos rfl]
      exact hvl
  · -- a constructor
    subst hi
    have hh0 : gg_hd y = [] := m14.resolve_left (by decide)
    have hr := hrc.resolve_left (by decide)
    obtain ⟨hins, htl⟩ := m10 (by decide)
    obtain ⟨hnm, hrk⟩ := m12 rfl
    subst hrk
    have hrt : gg_rt y = none := gg_rok0 m6
    have hwd : gg_wd y = Cond.code (gg_nm y) (gg_bt y) ml none := by unfold gg_wd; rw [if_pos hh0, hm, hrt]
    match vs, hr, hvl, hst, hpre, hC with
    | [], hr, hvl, hst, hpre, hC => cases hr
    | v0 :: As, hr, hvl, hst, hpre, hC =>
      obtain ⟨bb, hbb, cellB, c1, c2, c3⟩ := gg_recv CX RL hr
      rw [List.map_cons, hbb] at hpre hst
      have hn : (As.map (gv S0 b adK adV opq)).length = (if 2 = 1 then tg.length else tg.length - 1) := by
        rw [List.length_map, if_neg (by decide)]
        simp only [List.length_cons] at hvl
        omega
      have hst2 : (F0 m pc ls (st.map (gv S0 b adK adV opq))).stack = (As.map (gv S0 b adK adV opq)).reverse ++ .ref bb :: (st.drop tg.length).map (gv S0 b adK adV opq) := by
        show st.map (gv S0 b adK adV opq) = _
        rw [hst, List.reverse_cons, List.append_assoc]
        rfl
      by_cases hz : ns = 0
      · rw [if_pos hz] at hlk
        exact ⟨_, vx_runI (As := As.map (gv S0 b adK adV opq)) (b := bb) fix hC ⟨⟨rfl, rfl, hroom.1, hroom.2, hpay, by rw [← hwd]; exact List.mem_cons_self, by rw [← hwd]; exact hts _ m1, hts _ m5, m4, hpl, hts _ hlk⟩, hnm, hts _ hins⟩ ⟨gg_Pc_blind, hpre⟩ rfl hn hl.1 hst2 hW hdg hf⟩
      · rw [if_neg hz] at hlk
        have hnw : va_Nw (.methodLinkNest (gg_c (gg_mt k).1) ix (gg_nm y) "GainGraphs") s := hE.2.2.2.2.2.2.2.2.2.1.1 ((gg_mt k).1, ix, y) hlk.1
        exact ⟨_, vx_runIN (host := "GainGraphs") (As := As.map (gv S0 b adK adV opq)) (b := bb) fix hC ⟨⟨⟨rfl, rfl, hroom.1, hroom.2, hpay, by rw [← hwd]; exact List.mem_cons_self⟩, by rw [← hwd]; exact hts _ m1, hts _ m5, m4, hpl, va_Nw.use rfl hnw⟩, hnm, hts _ hins⟩ ⟨gg_Pc_blind, hpre⟩ rfl hn hl.1 hst2 hW hdg hf⟩
end GS9
