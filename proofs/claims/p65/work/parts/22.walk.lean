/-! THE MACHINE FOLLOWS THE INTERPRETER -/
def gg_offok (e : Nat × Instr × Nat) : Bool := match e.2.1 with
  | .ifCond _ off => decide (0 ≤ (e.1 : Int) + off)
  | .if_icmp _ off => decide (0 ≤ (e.1 : Int) + off)
  | .if_acmp _ off => decide (0 ≤ (e.1 : Int) + off)
  | _ => true
set_option maxRecDepth 100000 in
theorem gg_offok_all : gg_dts.all (fun r => r.all gg_offok) = true := by decide +kernel
theorem gg_fd_in {pc : Nat} {x : Instr × Nat} : ∀ {r : List (Nat × Instr × Nat)}, gg_fd pc r = some x → (pc, x) ∈ r
  | e :: r, h => by
    unfold gg_fd at h
    split at h
    · rename_i he
      cases h
      rw [← he]
      exact List.mem_cons_self
    · exact List.mem_cons_of_mem _ (gg_fd_in h)
theorem gg_dt_in {k pc : Nat} {x : Instr × Nat} (h : gg_dt k pc = some x) : ∃ r ∈ gg_dts, r = gg_dts.getD k [] ∧ (pc, x) ∈ r := by
  unfold gg_dt at h
  have h1 := gg_fd_in h
  refine ⟨_, ?_, rfl, h1⟩
  rw [List.getD_eq_getElem?_getD] at h1 ⊢
  cases hq : gg_dts[k]? with
  | none => rw [hq] at h1; cases h1
  | some r => exact List.mem_of_getElem? hq
theorem gg_off {k pc n : Nat} {off : Int} {i : Instr} (h : gg_dt k pc = some (i, n)) (hi : (∃ q, i = .ifCond q off) ∨ (∃ q, i = .if_icmp q off) ∨ (∃ q, i = .if_acmp q off)) : ∃ t : Nat, (pc : Int) + off = (t : Int) := by
  obtain ⟨r, hr, -, h2⟩ := gg_dt_in h
  have h3 := List.all_eq_true.mp (List.all_eq_true.mp gg_offok_all r hr) _ h2
  have h4 : 0 ≤ (pc : Int) + off := by
    rcases hi with ⟨q, rfl⟩ | ⟨q, rfl⟩ | ⟨q, rfl⟩
    · exact of_decide_eq_true h3
    · exact of_decide_eq_true h3
    · exact of_decide_eq_true h3
  exact ⟨((pc : Int) + off).toNat, by omega⟩
section GW
variable {l : Launch} {S0 b Lx : Nat} {xs : Nat → Int32} {D : va_G} {cA : Nat → ClassId} {ad : Nat → Int → Nat} {opq : Value} {p : Program} {e : Env} {R : Room} {s : State} {m : MethodId} {args : Array Value} {below : List Frame} {meth : Method} {c : Code} {Q : State → Prop} {k d nL cb sb : Nat} {o : gy_O} {f : Nat}
variable {pc n : Nat} {L st : List gg_V} {w w' : gy_W} {H H' : Heap} {locs : List Loc} {cells slots : Nat} {ls : Array Slot}
/-- what is to be shown where the method throws -/
def gy_Kt (l : Launch) (S0 b Lx : Nat) (xs : Nat → Int32) (D : va_G) (cA : Nat → ClassId) (ad : Nat → Int → Nat) (opq : Value) (p : Program) (e : Env) (R : Room) (s : State) (m : MethodId) (args : Array Value) (below : List Frame) (meth : Method) (c : Code) (Q : State → Prop) (k nL cb sb : Nat) (o : gy_O) : Prop :=
  ∀ (pc ix E : Nat) (L st : List gg_V) (w : gy_W) (H : Heap) (locs : List Loc) (cells slots : Nat) (ls : Array Slot), gg_dt k pc = some (.new ix, 3) → gg_thr k pc (.new ix) = some E → (st.map gg_cat).sum ≤ 8 → o = ((E, (3, 0)), (w.1, w.2.1, w.2.2.1 + 1, w.2.2.2 + 6)) →
    gy_Rl S0 b Lx xs D cA ad opq s nL cb sb L w H locs cells slots ls → W p l e R s m args below meth c H locs cells slots Q (F0 m pc ls (st.map (yv S0 b ad opq)))
/-- the four ends -/
def gy_end (k : Nat) (i : Instr) (st : List gg_V) (w : gy_W) (o : gy_O) : Prop :=
  (∃ x : Int, i = .ireturn ∧ st = [(0, x)] ∧ gg_rI (gg_mt k).2.2.2.2 x = true ∧ o = ((1, (0, x)), w)) ∨ (∃ x : Int, i = .lreturn ∧ st = [(1, x)] ∧ (gg_mt k).2.2.2.2 = 3 ∧ o = ((1, (1, x)), w)) ∨
  (∃ v : gg_V, i = .areturn ∧ st = [v] ∧ gy_rr v = true ∧ (gg_mt k).2.2.2.2 = 4 ∧ o = ((1, v), w)) ∨ (i = .return_ ∧ st = [] ∧ (gg_mt k).2.2.2.2 = 0 ∧ o = ((0, (3, 0)), w))
/-- what is to be shown where the method ends -/
def gy_Kr (l : Launch) (S0 b Lx : Nat) (xs : Nat → Int32) (D : va_G) (cA : Nat → ClassId) (ad : Nat → Int → Nat) (opq : Value) (p : Program) (e : Env) (R : Room) (s : State) (m : MethodId) (args : Array Value) (below : List Frame) (meth : Method) (c : Code) (Q : State → Prop) (k nL cb sb : Nat) (o : gy_O) : Prop :=
  ∀ (pc : Nat) (i : Instr) (L st : List gg_V) (w : gy_W) (H : Heap) (locs : List Loc) (cells slots : Nat) (ls : Array Slot), gg_dt k pc = some (i, 1) → gy_end k i st w o →
    gy_Rl S0 b Lx xs D cA ad opq s nL cb sb L w H locs cells slots ls → W p l e R s m args below meth c H locs cells slots Q (F0 m pc ls (st.map (yv S0 b ad opq)))
/-- the contracts of all methods of ours, for runs of so much fuel -/
def gy_CtF (l : Launch) (S0 b Lx : Nat) (xs : Nat → Int32) (D : va_G) (cA : Nat → ClassId) (ad : Nat → Int → Nat) (opq : Value) (f : Nat) : Prop :=
  ∀ (d y : Nat) (vs : List gg_V) (w : gy_W) (o : gy_O) (ci kd ml : Nat) (tg : List Nat) (rk : Nat), gy_own y → gg_mt y = (ci, kd, ml, tg, rk) → vs.map gy_tg = tg → gy_ex Lx xs f d y 0 (gg_en ml vs) [] w = some o → gy_Ct l S0 b Lx xs D cA ad opq d y vs w o
theorem gy_lt1000 {y v : Nat} (h : (gg_mt y).2.1 = v) (h2 : v ≠ 9) : y < 1000 := by
  apply Nat.lt_of_not_le
  intro hle
  unfold gg_mt at h
  rw [List.getD_eq_getElem?_getD, List.getElem?_eq_none (by have : gg_mts.length = 421 := by decide +kernel
                                                            omega)] at h
  exact h2 h.symm
theorem gy_sel_lt {c y y' : Nat} {v : gg_V} {w : gy_W} (h : gy_sel c y = some y') (hc : gy_cl v w = some c) : y < 1000 := by
  apply Nat.lt_of_not_le
  intro hle
  have h99 : (gg_mt y).1 = 99 := by
    unfold gg_mt
    rw [List.getD_eq_getElem?_getD, List.getElem?_eq_none (by have : gg_mts.length = 421 := by decide +kernel
                                                              omega)]
    rfl
  have hc18 : c < 18 := by
    unfold gy_cl at hc
    split at hc
    · obtain ⟨⟨-, -, z1⟩, z2⟩ := gif_ok hc
      rw [Option.some.inj z2] at z1
      unfold gy_ob at z1
      rw [Bool.and_eq_true, decide_eq_true_eq] at z1
      exact z1.1
    · obtain ⟨-, z2⟩ := gif_ok hc; cases z2; decide
    · obtain ⟨-, z2⟩ := gif_ok hc; cases z2; decide
    · cases hc
  unfold gy_sel at h
  rw [if_neg (by omega)] at h
  obtain ⟨-, h2⟩ := gif_ok h
  split at h2
  · omega
  · obtain ⟨h3, -⟩ := gif_ok h2
    omega
theorem gs_callG (IH : gy_Wk l S0 b Lx xs D cA ad opq p e R s m args below meth c Q k d nL cb sb o f) (CX : gy_CX l S0 b Lx xs D cA ad opq p R s m args meth c k d nL cb sb o) (RL : gy_Rl S0 b Lx xs D cA ad opq s nL cb sb L w H locs cells slots ls)
    (KO : gy_Ko l S0 b Lx xs D cA ad opq p e R s m args below meth c Q k cb sb o) (hdt : ∀ k pc i n, gg_dt k pc = some (i, n) → decode (gg_bt k) pc = .ok (i, n)) (htab : gg_hd k ≠ [] → c.exceptionTable.toList = tableOf (gg_hh k)) (hCt : gy_CtF l S0 b Lx xs D cA ad opq f) {y vk n : Nat} (hy : gy_own y) (h : gy_call (gy_ex Lx xs f) vk d k pc n L st w y = some o)
    (hrun : ∀ (ci kd ml : Nat) (tg : List Nat) (rk d' : Nat) (o1 : gy_O), gg_mt y = (ci, kd, ml, tg, rk) → d = d' + 1 → (kd = 1 ∧ vk = 1 ∨ kd = 2 ∧ vk = 2 ∨ kd = 0 ∧ (vk = 0 ∨ vk = 3 ∨ vk = 4)) → (st.take tg.length).reverse.map gy_tg = tg → tg.length ≤ st.length → ((st.drop tg.length).map gg_cat).sum ≤ 8 → gy_Ct l S0 b Lx xs D cA ad opq d' y (st.take tg.length).reverse w o1 → gy_le w o1.2 → gy_le o1.2 o.2 → ∃ arr : Array Value, gy_Rn n p l e R s m args below meth c H locs cells slots (o1.2.2.2.1 - w.2.2.1) (o1.2.2.2.2 - w.2.2.2) (F0 m pc ls (st.map (yv S0 b ad opq))) ((st.drop tg.length).map (yv S0 b ad opq)) (gy_Qc S0 b Lx xs D cA ad opq o1 arr) (gy_XC S0 b Lx xs D cA ad opq o1) (gg_A S0)) : W p l e R s m args below meth c H locs cells slots Q (F0 m pc ls (st.map (yv S0 b ad opq))) := by
  obtain ⟨ci, kd, ml, tg, rk, d', o1, hm, hd, ⟨h1, h2, h3, h4⟩, hex, haf⟩ := gycall_ok h
  have hC := hCt d' y (st.take tg.length).reverse w o1 ci kd ml tg rk hy hm h1 hex
  have hle := gy_ex_mn _ _ _ _ _ _ _ _ _ _ hex
  have hle2 := gyaft_mn (gy_ex_mn Lx xs f) haf
  obtain ⟨arr, hr⟩ := hrun ci kd ml tg rk d' o1 hm hd h4 h1 h2 h3 hC hle hle2
  exact gs_after IH CX RL KO hdt htab hle hr haf
theorem gy_decl {y : Nat} {s : State} {args : Array Value} (hts : ∀ w ∈ gg_gw, w.before args s = true) (hy : gy_own y) (hk : (gg_mt y).2.1 ≠ 1) : va_Decl s (gg_nm y) := by
  obtain ⟨m1, m2, m3, m4, m5, m6, m7, m8, m9, m10, m11, m12, m13, m14⟩ := gg_mfacts hy (rfl : gg_mt y = ((gg_mt y).1, (gg_mt y).2.1, (gg_mt y).2.2.1, (gg_mt y).2.2.2.1, (gg_mt y).2.2.2.2))
  have hh0 : gg_hd y = [] := m14.resolve_left hk
  have hwd : gg_wd y = Cond.code (gg_nm y) (gg_bt y) (gg_mt y).2.2.1 (gg_rt y) := by unfold gg_wd; rw [if_pos hh0]
  exact va_Decl.of (hts _ (m10 hk).1) (by rw [← hwd]; exact hts _ m1)
theorem gy_rc_tg {y ci kd ml : Nat} {tg : List Nat} {rk : Nat} (hm : gg_mt y = (ci, kd, ml, tg, rk)) : gy_rc st (gg_mt y).2.2.2.1.length = gy_rc st tg.length := by rw [hm]
theorem gy_asb_mt {y : Nat} (h : gy_asb y) : gg_mt y = (18, 0, (gg_mt y).2.2.1, (gg_mt y).2.2.2.1, (gg_mt y).2.2.2.2) := by
  unfold gy_asb at h
  rcases h with rfl | rfl | rfl | rfl | rfl | rfl | rfl | rfl | rfl | rfl <;> rfl
theorem gs_callS (IH : gy_Wk l S0 b Lx xs D cA ad opq p e R s m args below meth c Q k d nL cb sb o f) (CX : gy_CX l S0 b Lx xs D cA ad opq p R s m args meth c k d nL cb sb o) (RL : gy_Rl S0 b Lx xs D cA ad opq s nL cb sb L w H locs cells slots ls)
    (KO : gy_Ko l S0 b Lx xs D cA ad opq p e R s m args below meth c Q k cb sb o) (hdt : ∀ k pc i n, gg_dt k pc = some (i, n) → decode (gg_bt k) pc = .ok (i, n)) (htab : gg_hd k ≠ [] → c.exceptionTable.toList = tableOf (gg_hh k)) (hCt : gy_CtF l S0 b Lx xs D cA ad opq f) {y ns ix : Nat} (hlm : gg_lm (gg_mt k).1 ix = some (y, ns)) (hy1 : y < 1000) (hkd : (gg_mt y).2.1 = 1) (hdg : decode (gg_bt k) pc = .ok (.invokestatic ix, 3)) (h : gy_call (gy_ex Lx xs f) 1 d k pc 3 L st w y = some o) : W p l e R s m args below meth c H locs cells slots Q (F0 m pc ls (st.map (yv S0 b ad opq))) := by
  obtain ⟨hy, hlk⟩ := (gg_lm_ok hlm).2 hy1
  have hlk2 : Cond.methodLink (gg_c (gg_mt k).1) ix (gg_nm y) ∈ gg_gw := by
    by_cases hz : ns = 0
    · rw [if_pos hz] at hlk; exact hlk
    · rw [if_neg hz, hkd] at hlk; exact absurd hlk.2 (by decide)
  exact gs_callG IH CX RL KO hdt htab hCt hy h fun ci kd ml tg rk d' o1 hm hd h4 h1 h2 h3 hC hle hle2 => gs_runS CX RL hm hd hy h1 h2 h3 hC hle hle2 (by omega) hlk2 hdg
theorem gs_callI (IH : gy_Wk l S0 b Lx xs D cA ad opq p e R s m args below meth c Q k d nL cb sb o f) (CX : gy_CX l S0 b Lx xs D cA ad opq p R s m args meth c k d nL cb sb o) (RL : gy_Rl S0 b Lx xs D cA ad opq s nL cb sb L w H locs cells slots ls)
    (KO : gy_Ko l S0 b Lx xs D cA ad opq p e R s m args below meth c Q k cb sb o) (hdt : ∀ k pc i n, gg_dt k pc = some (i, n) → decode (gg_bt k) pc = .ok (i, n)) (htab : gg_hd k ≠ [] → c.exceptionTable.toList = tableOf (gg_hh k)) (hCt : gy_CtF l S0 b Lx xs D cA ad opq f) {y ns ix : Nat} (hlm : gg_lm (gg_mt k).1 ix = some (y, ns)) (hy1 : y < 1000) (hir : gy_ir (gy_rc st (gg_mt y).2.2.2.1.length) = true) (hdg : decode (gg_bt k) pc = .ok (.invokespecial ix, 3)) (h : gy_call (gy_ex Lx xs f) 2 d k pc 3 L st w y = some o) : W p l e R s m args below meth c H locs cells slots Q (F0 m pc ls (st.map (yv S0 b ad opq))) := by
  obtain ⟨hy, hlk⟩ := (gg_lm_ok hlm).2 hy1
  exact gs_callG IH CX RL KO hdt htab hCt hy h fun ci kd ml tg rk d' o1 hm hd h4 h1 h2 h3 hC hle hle2 => gs_runI CX RL hm hd hy h1 h2 h3 hC hle hle2 (by omega) (by rw [← gy_rc_tg hm]; exact hir) hlk hdg
theorem gs_callSU (IH : gy_Wk l S0 b Lx xs D cA ad opq p e R s m args below meth c Q k d nL cb sb o f) (CX : gy_CX l S0 b Lx xs D cA ad opq p R s m args meth c k d nL cb sb o) (RL : gy_Rl S0 b Lx xs D cA ad opq s nL cb sb L w H locs cells slots ls)
    (KO : gy_Ko l S0 b Lx xs D cA ad opq p e R s m args below meth c Q k cb sb o) (hdt : ∀ k pc i n, gg_dt k pc = some (i, n) → decode (gg_bt k) pc = .ok (i, n)) (htab : gg_hd k ≠ [] → c.exceptionTable.toList = tableOf (gg_hh k)) (hCt : gy_CtF l S0 b Lx xs D cA ad opq f) {y ns ix : Nat} (hlm : gg_lm (gg_mt k).1 ix = some (y, ns)) (hk17 : (gg_mt k).1 = 17) (hyA : gy_asb y) (hcl : gy_cl (gy_rc st (gg_mt y).2.2.2.1.length) w = some 17) (hdg : decode (gg_bt k) pc = .ok (.invokespecial ix, 3)) (h : gy_call (gy_ex Lx xs f) 3 d k pc 3 L st w y = some o) : W p l e R s m args below meth c H locs cells slots Q (F0 m pc ls (st.map (yv S0 b ad opq))) := by
  obtain ⟨a1, a2, a3, a4⟩ := gy_asb_ok hyA
  obtain ⟨hy, hlk⟩ := (gg_lm_ok hlm).2 (by have := a4.1; omega)
  have hlk2 : Cond.methodLink (gg_c (gg_mt k).1) ix (gg_nm y) ∈ gg_gw := by
    by_cases hz : ns = 0
    · rw [if_pos hz] at hlk; exact hlk
    · rw [if_neg hz, gy_asb_mt hyA] at hlk; exact absurd hlk.2 (by show ¬ (0 : Nat) = 2; decide)
  exact gs_callG IH CX RL KO hdt htab hCt hy h fun ci kd ml tg rk d' o1 hm hd h4 h1 h2 h3 hC hle hle2 => gs_runSU CX RL hm hd hy h1 h2 h3 hC hle hle2 (by omega) hk17 (by rw [← gy_rc_tg hm]; exact hcl) hlk2 (by rw [a2]; exact gw_sup17) a1 a3 hdg
theorem gs_callF (IH : gy_Wk l S0 b Lx xs D cA ad opq p e R s m args below meth c Q k d nL cb sb o f) (CX : gy_CX l S0 b Lx xs D cA ad opq p R s m args meth c k d nL cb sb o) (RL : gy_Rl S0 b Lx xs D cA ad opq s nL cb sb L w H locs cells slots ls)
    (KO : gy_Ko l S0 b Lx xs D cA ad opq p e R s m args below meth c Q k cb sb o) (hdt : ∀ k pc i n, gg_dt k pc = some (i, n) → decode (gg_bt k) pc = .ok (i, n)) (htab : gg_hd k ≠ [] → c.exceptionTable.toList = tableOf (gg_hh k)) (hCt : gy_CtF l S0 b Lx xs D cA ad opq f) {y c0 ix ct : Nat} (hli : gy_li (gg_mt k).1 ix = some y) (hcl : gy_cl (gy_rc st (gg_mt y).2.2.2.1.length) w = some c0) (hc0 : c0 = (gg_mt y).1) (hdg : decode (gg_bt k) pc = .ok (.invokeinterface ix ct, 5)) (h : gy_call (gy_ex Lx xs f) 4 d k pc 5 L st w y = some o) : W p l e R s m args below meth c H locs cells slots Q (F0 m pc ls (st.map (yv S0 b ad opq))) := by
  obtain ⟨z, hz, a1, a2, hy, a4, a5, a6, a7, a8⟩ := gy_li_ok hli
  obtain ⟨⟨hx, hb, hml, hown, hts⟩, hE, hR, hin, hfl, hS0⟩ := id CX
  have hF := hE.2.2.2.2.2.2.2.2.2.1.2.2.2.2.2.2.2.2 z hz
  rw [a1] at hF
  rw [a2] at hF a4 a8
  subst hc0
  exact gs_callG IH CX RL KO hdt htab hCt hy h fun ci kd ml tg rk d' o1 hm hd h4 h1 h2 h3 hC hle hle2 => gs_runF CX RL hm hd hy h1 h2 h3 hC hle hle2 (by omega) (by rw [hm] at a4; exact a4) (by rw [← gy_rc_tg hm, hcl, hm]) a7 (by rw [hm] at a8; exact a8) (by rw [hm] at hF; exact hF) a6 a5 hdg
theorem gs_callV (IH : gy_Wk l S0 b Lx xs D cA ad opq p e R s m args below meth c Q k d nL cb sb o f) (CX : gy_CX l S0 b Lx xs D cA ad opq p R s m args meth c k d nL cb sb o) (RL : gy_Rl S0 b Lx xs D cA ad opq s nL cb sb L w H locs cells slots ls)
    (KO : gy_Ko l S0 b Lx xs D cA ad opq p e R s m args below meth c Q k cb sb o) (hdt : ∀ k pc i n, gg_dt k pc = some (i, n) → decode (gg_bt k) pc = .ok (i, n)) (htab : gg_hd k ≠ [] → c.exceptionTable.toList = tableOf (gg_hh k)) (hCt : gy_CtF l S0 b Lx xs D cA ad opq f) {x y c0 ns ix : Nat} (hlm : gg_lm (gg_mt k).1 ix = some (x, ns)) (hx1 : x < 1000) (hcl : gy_cl (gy_rc st (gg_mt x).2.2.2.1.length) w = some c0) (hsel : gy_sel c0 x = some y) (hdg : decode (gg_bt k) pc = .ok (.invokevirtual ix, 3)) (h : gy_call (gy_ex Lx xs f) 0 d k pc 3 L st w y = some o) : W p l e R s m args below meth c H locs cells slots Q (F0 m pc ls (st.map (yv S0 b ad opq))) := by
  obtain ⟨⟨hx, hb, hml, hown, hts⟩, hE, hR, hin, hfl, hS0⟩ := id CX
  obtain ⟨hyx, hlk⟩ := (gg_lm_ok hlm).2 hx1
  by_cases hxc : (gg_mt x).1 = c0
  · unfold gy_sel at hsel
    rw [if_pos hxc] at hsel
    cases hsel
    have hlk2 : (gg_mt x).2.1 = 0 → Cond.methodLink (gg_c (gg_mt k).1) ix (gg_nm x) ∈ gg_gw := fun hk0 => by
      by_cases hz : ns = 0
      · rw [if_pos hz] at hlk; exact hlk
      · rw [if_neg hz, hk0] at hlk; exact absurd hlk.2 (by decide)
    have hno := gy_lm_nos hlm
    have hc18 : c0 ≠ 18 := by
      intro z
      subst z
      unfold gy_cl at hcl
      split at hcl
      · obtain ⟨⟨-, -, z1⟩, z2⟩ := gif_ok hcl
        rw [Option.some.inj z2] at z1
        exact absurd z1 (by decide)
      · obtain ⟨-, z2⟩ := gif_ok hcl; cases z2
      · obtain ⟨-, z2⟩ := gif_ok hcl; cases z2
      · cases hcl
    subst hxc
    exact gs_callG IH CX RL KO hdt htab hCt hyx h fun ci kd ml tg rk d' o1 hm hd h4 h1 h2 h3 hC hle hle2 => gs_runV CX RL hm hd hyx h1 h2 h3 hC hle hle2 (by omega) (by rw [hm] at hc18; have : ci ≠ 18 := hc18; show ¬ (ci = 18 ∨ _); omega) (by rw [← gy_rc_tg hm, hcl, hm]) (hlk2 (by rw [hm]; show kd = 0; omega)) hdg
  · have h17 : c0 = 17 := by
      unfold gy_sel at hsel
      rw [if_neg hxc] at hsel
      exact (gif_ok hsel).1
    subst h17
    obtain ⟨hA, hyy, hdesc, hs2⟩ := gy_asb_sel hts hxc hsel
    obtain ⟨a1, a2, a3, a4⟩ := gy_asb_ok hA
    have hlk2 : Cond.methodLink (gg_c (gg_mt k).1) ix (gg_nm x) ∈ gg_gw := by
      by_cases hz : ns = 0
      · rw [if_pos hz] at hlk; exact hlk
      · rw [if_neg hz, gy_asb_mt hA] at hlk; exact absurd hlk.2 (by show ¬ (0 : Nat) = 2; decide)
    have htl : (gg_mt x).2.2.2.1.length = (gg_mt y).2.2.2.1.length := by
      unfold gy_sel at hsel
      rw [if_neg hxc, if_pos rfl] at hsel
      split at hsel
      · rename_i z
        subst z
        cases hsel
        rfl
      · obtain ⟨-, z⟩ := gif_ok hsel
        cases z
        rfl
    rw [htl] at hcl
    exact gs_callG IH CX RL KO hdt htab hCt hyy h fun ci kd ml tg rk d' o1 hm hd h4 h1 h2 h3 hC hle hle2 => gs_runU CX RL hm hd hyy h1 h2 h3 hC hle hle2 (by omega) (by rw [← gy_rc_tg hm]; exact hcl) hlk2 a2 a1 (gy_decl hts hyx (by rw [gy_asb_mt hA]; show (0 : Nat) ≠ 1; decide)) hs2 hdesc hdg
theorem gy_walk (CX : gy_CX l S0 b Lx xs D cA ad opq p R s m args meth c k d nL cb sb o)
    (KO : gy_Ko l S0 b Lx xs D cA ad opq p e R s m args below meth c Q k cb sb o) (KT : gy_Kt l S0 b Lx xs D cA ad opq p e R s m args below meth c Q k nL cb sb o) (KR : gy_Kr l S0 b Lx xs D cA ad opq p e R s m args below meth c Q k nL cb sb o)
    (hdt : ∀ k pc i n, gg_dt k pc = some (i, n) → decode (gg_bt k) pc = .ok (i, n)) (htab : gg_hd k ≠ [] → c.exceptionTable.toList = tableOf (gg_hh k)) :
    ∀ f, (∀ f', f' < f → gy_CtF l S0 b Lx xs D cA ad opq f') → gy_Wk l S0 b Lx xs D cA ad opq p e R s m args below meth c Q k d nL cb sb o f := by
  intro f
  induction f with
  | zero =>
    intro _ pc L st w H locs cells slots ls h RL
    cases h
  | succ f ih =>
    intro hCt pc L st w H locs cells slots ls h RL
    have IH := ih fun f' hf => hCt f' (by omega)
    have hC := hCt f (Nat.lt_succ_self f)
    cases hd : gg_dt k pc with
    | none =>
      have h2 : (match gg_dt k pc with
        | some (i, n) => gy_step (gy_ex Lx xs f) Lx xs d k pc L st w i n
        | none => none) = some o := h
      rw [hd] at h2
      cases h2
    | some x =>
      obtain ⟨i, n⟩ := x
      have h2 : (match gg_dt k pc with
        | some (i, n) => gy_step (gy_ex Lx xs f) Lx xs d k pc L st w i n
        | none => none) = some o := h
      rw [hd] at h2
      have h3 : gy_step (gy_ex Lx xs f) Lx xs d k pc L st w i n = some o := h2
      have hdg := hdt k pc i n hd
      clear h h2
      cases i
      case iconst v => exact gs_iconst IH CX RL hdg h3
      case bipush v => exact gs_bipush IH CX RL hdg h3
      case sipush v => exact gs_sipush IH CX RL hdg h3
      case lconst v => exact gs_lconst IH CX RL hdg h3
      case iload_n v => exact gs_iload_n IH CX RL hdg h3
      case iload v => exact gs_iload IH CX RL hdg h3
      case lload_n v => exact gs_lload_n IH CX RL hdg h3
      case lload v => exact gs_lload IH CX RL hdg h3
      case aload_n v => exact gs_aload_n IH CX RL hdg h3
      case aload v => exact gs_aload IH CX RL hdg h3
      case istore_n v => exact gs_istore_n IH CX RL hdg h3
      case istore v => exact gs_istore IH CX RL hdg h3
      case lstore_n v => exact gs_lstore_n IH CX RL hdg h3
      case lstore v => exact gs_lstore IH CX RL hdg h3
      case astore_n v => exact gs_astore_n IH CX RL hdg h3
      case astore v => exact gs_astore IH CX RL hdg h3
      case aconst_null => exact gs_aconst_null IH CX RL hdg h3
      case goto v => exact gs_goto IH CX RL hdg h3
      case ldc v => exact gs_ldc IH CX RL hdg h3
      case ldc_w v => exact gs_ldc_w IH CX RL hdg h3
      case ldc2_w v => exact gs_ldc2_w IH CX RL hdg h3
      case getstatic v => exact gs_getstatic IH CX RL hdg h3
      case getfield v => exact gs_getfield IH CX RL hdg h3
      case putfield v => exact gs_putfield IH CX RL hdg h3
      case newarray v => exact gs_newarray IH CX RL hdg h3
      case anewarray v => exact gs_anewarray IH CX RL hdg h3
      case iinc v u => exact gs_iinc IH CX RL hdg h3
      case iadd => exact gs_iadd IH CX RL hdg h3
      case isub => exact gs_isub IH CX RL hdg h3
      case imul => exact gs_imul IH CX RL hdg h3
      case iand => exact gs_iand IH CX RL hdg h3
      case ior => exact gs_ior IH CX RL hdg h3
      case ixor => exact gs_ixor IH CX RL hdg h3
      case ishl => exact gs_ishl IH CX RL hdg h3
      case ishr => exact gs_ishr IH CX RL hdg h3
      case iushr => exact gs_iushr IH CX RL hdg h3
      case idiv => exact gs_idiv IH CX RL hdg h3
      case irem => exact gs_irem IH CX RL hdg h3
      case ineg => exact gs_ineg IH CX RL hdg h3
      case i2b => exact gs_i2b IH CX RL hdg h3
      case i2c => exact gs_i2c IH CX RL hdg h3
      case i2l => exact gs_i2l IH CX RL hdg h3
      case l2i => exact gs_l2i IH CX RL hdg h3
      case ladd => exact gs_ladd IH CX RL hdg h3
      case lsub => exact gs_lsub IH CX RL hdg h3
      case lmul => exact gs_lmul IH CX RL hdg h3
      case land => exact gs_land IH CX RL hdg h3
      case lor => exact gs_lor IH CX RL hdg h3
      case lxor => exact gs_lxor IH CX RL hdg h3
      case lneg => exact gs_lneg IH CX RL hdg h3
      case lshl => exact gs_lshl IH CX RL hdg h3
      case lshr => exact gs_lshr IH CX RL hdg h3
      case lushr => exact gs_lushr IH CX RL hdg h3
      case lcmp => exact gs_lcmp IH CX RL hdg h3
      case dup => exact gs_dup IH CX RL hdg h3
      case dup2 => exact gs_dup2 IH CX RL hdg h3
      case pop => exact gs_pop IH CX RL hdg h3
      case dup_x1 => exact gs_dup_x1 IH CX RL hdg h3
      case ifnonnull v => exact gs_ifnonnull IH CX RL hdg h3
      case checkcast v => exact gs_checkcast IH CX RL hdg h3
      case multianewarray u v => exact gs_multianewarray IH CX RL hdg h3
      case if_acmp q off => exact gs_if_acmp IH CX RL (gg_off hd (Or.inr (Or.inr ⟨q, rfl⟩))) hdg h3
      case iaload => exact gs_iaload IH CX RL hdg h3
      case baload => exact gs_baload IH CX RL hdg h3
      case laload => exact gs_laload IH CX RL hdg h3
      case aaload => exact gs_aaload IH CX RL hdg h3
      case iastore => exact gs_iastore IH CX RL hdg h3
      case bastore => exact gs_bastore IH CX RL hdg h3
      case lastore => exact gs_lastore IH CX RL hdg h3
      case aastore => exact gs_aastore IH CX RL hdg h3
      case arraylength => exact gs_arraylength IH CX RL hdg h3
      case ifCond q off => exact gs_ifCond IH CX RL (gg_off hd (Or.inl ⟨q, rfl⟩)) hdg h3
      case if_icmp q off => exact gs_if_icmp IH CX RL (gg_off hd (Or.inr (Or.inl ⟨q, rfl⟩))) hdg h3
      case tableswitch a b2 c2 v => exact gs_tableswitch IH CX RL hdg h3
      case new ix =>
        obtain ⟨rfl, h4⟩ := gq_ok h3
        cases ht : gg_thr k pc (.new ix) with
        | none => exact gs_new IH CX RL ht hdg h3
        | some E =>
          rw [ht] at h4
          obtain ⟨h5, h6⟩ := gif_ok h4
          exact KT pc ix E L st w H locs cells slots ls hd ht h5 (Option.some.inj h6).symm RL
      case invokespecial ix =>
        obtain ⟨rfl, h4⟩ := gq_ok h3
        split at h4
        · rename_i y ns hlm
          split at h4
          · rename_i hy
            subst hy
            split at h4
            · rename_i x r
              obtain ⟨h6, h7⟩ := gif_ok h4
              exact gs_objinit IH CX RL ((gg_lm_ok hlm).1 (by decide)) hdg h6 h7
            · cases h4
          · rename_i hy
            split at h4
            · rename_i hy2
              exact gs_callI IH CX RL KO hdt htab hC hlm (gy_lt1000 hy2.1 (by decide)) hy2.2 hdg h4
            · obtain ⟨⟨⟨h5, h6⟩, h7⟩, h8⟩ := gif_ok h4
              exact gs_callSU IH CX RL KO hdt htab hC hlm h5 (by unfold gy_asb; omega) h7 hdg h8
        · cases h4
      case invokevirtual ix =>
        obtain ⟨rfl, h4⟩ := gq_ok h3
        split at h4
        · rename_i y ns hlm
          split at h4
          · rename_i hy
            subst hy
            exact gs_clone IH CX RL (kd := 1) (t0 := 0) (an := "[I") (ty := .int) ((gg_lm_ok hlm).1 (by decide)) gw_cl3 gw_cl5 (by decide +kernel) (Or.inl rfl) rfl va_nm_int (fun _ _ => rfl) hdg h4
          · rename_i hy0
            split at h4
            · rename_i hy
              subst hy
              exact gs_clone IH CX RL (kd := 3) (t0 := 2) (an := "[B") (ty := .byte) ((gg_lm_ok hlm).1 (by decide)) gw_cl4 gw_cl6 (by decide +kernel) (Or.inr rfl) rfl va_nm_byte (fun x hx => by
                have e1 : gg_i x = (gg_i x).toInt8.toInt32 := by
                  have h2 : gg_i (io_i2b x) = (gg_i x).toInt8.toInt32 := gi_of _
                  rw [hx rfl] at h2
                  exact h2
                rw [e1]
                exact pk_fb _) hdg h4
            · rename_i hy1
              split at h4
              · rename_i hy
                subst hy
                split at h4
                · rename_i a r
                  obtain ⟨⟨h5, h6, h7⟩, h8⟩ := gif_ok h4
                  exact gs_getclass IH CX RL ((gg_lm_ok hlm).1 (by decide)) hdg h5 h6 h7 h8
                · cases h4
              · rename_i hy2
                split at h4
                · rename_i c0 hcl
                  split at h4
                  · rename_i y' hsel
                    exact gs_callV IH CX RL KO hdt htab hC hlm (gy_sel_lt hsel hcl) hcl hsel hdg h4
                  · cases h4
                · cases h4
        · cases h4
      case invokeinterface ix ct =>
        obtain ⟨rfl, h4⟩ := gq_ok h3
        split at h4
        · rename_i y hli
          split at h4
          · rename_i c0 hcl
            obtain ⟨h5, h6⟩ := gif_ok h4
            exact gs_callF IH CX RL KO hdt htab hC hli hcl h5 hdg h6
          · cases h4
        · cases h4
      case invokestatic ix =>
        obtain ⟨rfl, h4⟩ := gq_ok h3
        split at h4
        · rename_i y ns hlm
          split at h4
          · rename_i hy
            subst hy
            obtain ⟨yb, r1, rfl, h5⟩ := gpI_ok h4
            obtain ⟨xa, r, rfl, h6⟩ := gpI_ok h5
            obtain ⟨h7, h8⟩ := gif_ok h6
            exact gs_min IH CX RL ((gg_lm_ok hlm).1 (by decide)) hdg h7 h8
          · rename_i hy0
            split at h4
            · rename_i hy
              subst hy
              obtain ⟨yb, r1, rfl, h5⟩ := gpI_ok h4
              obtain ⟨xa, r, rfl, h6⟩ := gpI_ok h5
              obtain ⟨h7, h8⟩ := gif_ok h6
              exact gs_max IH CX RL ((gg_lm_ok hlm).1 (by decide)) hdg h7 h8
            · rename_i hy1
              split at h4
              · rename_i hy
                subst hy
                exact gs_copy IH CX RL ((gg_lm_ok hlm).1 (by decide)) hdg h4
              · rename_i hy2
                obtain ⟨h5, h6⟩ := gif_ok h4
                exact gs_callS IH CX RL KO hdt htab hC hlm (gy_lt1000 h5 (by decide)) h5 hdg h6
        · cases h4
      case ireturn =>
        obtain ⟨rfl, h4⟩ := gq_ok h3
        split at h4
        · rename_i x
          obtain ⟨h5, h6⟩ := gif_ok h4
          exact KR pc _ L _ w H locs cells slots ls hd (Or.inl ⟨x, rfl, rfl, h5, (Option.some.inj h6).symm⟩) RL
        · cases h4
      case lreturn =>
        obtain ⟨rfl, h4⟩ := gq_ok h3
        split at h4
        · rename_i x
          obtain ⟨h5, h6⟩ := gif_ok h4
          exact KR pc _ L _ w H locs cells slots ls hd (Or.inr (Or.inl ⟨x, rfl, rfl, h5, (Option.some.inj h6).symm⟩)) RL
        · cases h4
      case areturn =>
        obtain ⟨rfl, h4⟩ := gq_ok h3
        split at h4
        · rename_i x
          obtain ⟨⟨h5, h6⟩, h7⟩ := gif_ok h4
          exact KR pc _ L _ w H locs cells slots ls hd (Or.inr (Or.inr (Or.inl ⟨x, rfl, rfl, h5, h6, (Option.some.inj h7).symm⟩))) RL
        · cases h4
      case return_ =>
        obtain ⟨rfl, h4⟩ := gq_ok h3
        split at h4
        · obtain ⟨h5, h6⟩ := gif_ok h4
          exact KR pc _ L _ w H locs cells slots ls hd (Or.inr (Or.inr (Or.inr ⟨rfl, rfl, h5, (Option.some.inj h6).symm⟩))) RL
        · cases h4
      all_goals (exact absurd h3 (by intro z; cases z))
end GW
