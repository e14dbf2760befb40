/-! the machine follows the interpreter: instructions on fields and arrays -/
theorem gw_str_38 : Cond.fieldLink (gg_c 9) 38 "java/lang/String" "COMPACT_STRINGS" "Z" ∈ gg_gw := gg_at_in (pos := 394) (by decide +kernel)
theorem gw_str_1053 : Cond.fieldLink (gg_c 9) 1053 "jdk/internal/util/Preconditions" "SIOOBE_FORMATTER" "Ljava/util/function/BiFunction;" ∈ gg_gw := gg_at_in (pos := 410) (by decide +kernel)
theorem gw_str_9 : Cond.fieldLink (gg_c 9) 9 "java/lang/String" "value" "[B" ∈ gg_gw := gg_at_in (pos := 1870) (by decide +kernel)
theorem gw_str_15 : Cond.fieldLink (gg_c 9) 15 "java/lang/String" "coder" "B" ∈ gg_gw := gg_at_in (pos := 1871) (by decide +kernel)
theorem gw_math : Cond.initialized "java/lang/Math" ∈ gg_gw := gg_at_in (pos := 94) (by decide +kernel)
theorem gw_sys : Cond.initialized "java/lang/System" ∈ gg_gw := gg_at_in (pos := 95) (by decide +kernel)
theorem gw_oi : Cond.instanceMethod Lib.objectInit ∈ gg_gw := gg_at_in (pos := 109) (by decide +kernel)
theorem gw_oc : Cond.code Lib.objectInit ⟨#[0xb1]⟩ 1 none ∈ gg_gw := gg_at_in (pos := 110) (by decide +kernel)
theorem gw_ai : Cond.arrayClass .int ∈ gg_gw := gg_at_in (pos := 186) (by decide +kernel)
theorem gw_az : Cond.arrayClass .boolean ∈ gg_gw := gg_at_in (pos := 242) (by decide +kernel)
theorem gw_ab : Cond.arrayClass .byte ∈ gg_gw := gg_at_in (pos := 300) (by decide +kernel)
theorem gw_aj : Cond.arrayClass .long ∈ gg_gw := gg_at_in (pos := 301) (by decide +kernel)
theorem gw_min1 : Cond.static Lib.Math.min.name ∈ gg_gw := gg_at_in (pos := 447) (by decide +kernel)
theorem gw_min2 : Cond.code Lib.Math.min.name Lib.Math.min.code 2 (some .int) ∈ gg_gw := gg_at_in (pos := 448) (by decide +kernel)
theorem gw_max1 : Cond.static Lib.Math.max.name ∈ gg_gw := gg_at_in (pos := 537) (by decide +kernel)
theorem gw_max2 : Cond.code Lib.Math.max.name Lib.Math.max.code 2 (some .int) ∈ gg_gw := gg_at_in (pos := 538) (by decide +kernel)
theorem gw_ac1 : Cond.static arraycopyName ∈ gg_gw := gg_at_in (pos := 473) (by decide +kernel)
theorem gw_ac2 : Cond.native arraycopyName ∈ gg_gw := gg_at_in (pos := 474) (by decide +kernel)
section GS2
variable {l : Launch} {S0 b Lx : Nat} {xs : Nat → Int32} {D : va_G} {cA : Nat → ClassId} {adK adV : Nat → Nat} {opq : Value} {p : Program} {e : Env} {R : Room} {s : State} {m : MethodId} {args : Array Value} {below : List Frame} {meth : Method} {c : Code} {Q : State → Prop} {k d nL cb sb : Nat} {o : gg_O} {f : Nat}
variable {pc n : Nat} {L st : List gg_V} {w : gg_W} {H : Heap} {locs : List Loc} {cells slots : Nat} {ls : Array Slot}
theorem gs_getfield (IH : gg_Wk l S0 b Lx xs D cA adK adV opq p e R s m args below meth c Q k d nL cb sb o f) (CX : gg_CX l S0 b Lx xs D cA adK adV opq p R s m args meth c k d nL cb sb o) (RL : gg_Rl S0 b Lx xs D cA adK adV opq s nL cb sb L w H locs cells slots ls) {ix : Nat} (hdg : decode (gg_bt k) pc = .ok (.getfield ix, n)) (h : gg_step (gg_ex Lx xs f) Lx xs d k pc L st w (.getfield ix) n = some o) : W p l e R s m args below meth c H locs cells slots Q (F0 m pc ls (st.map (gv S0 b adK adV opq))) := by
  obtain ⟨⟨hx, hb, hml, hown, hts⟩, hE, hR, hin, hfl, hS0⟩ := id CX
  obtain ⟨hL, hl, hH, hS, hc, hs⟩ := id RL
  obtain ⟨rfl, h_1⟩ := gq_ok h
  rcases gget_ok h_1 with ⟨a, r, ci, k0, t, rfl, hl0, ⟨h1, h2, h3⟩, hf⟩ | ⟨i, r, rfl, ⟨h9, hi⟩, hf⟩
  · obtain ⟨f1, f2, f3, f4, f5, f6⟩ := gg_lf_ok hl0
    obtain ⟨g1, g2, g3, g4, g5, g6, g7, g8⟩ := gg_cf f1
    have kk := IH _ _ _ _ _ _ _ _ _ hf RL
    rw [List.map_cons] at kk ⊢
    rw [show gv S0 b adK adV opq (2, Int.ofNat a) = .ref (S0 + (a - 1)) from gg_rf_pos h1]
    have he := gg_ws_get S0 b adK adV opq cA h1 h2
    rw [gg_ce_obj h3] at he
    exact va_get (ref := ((gg_cln ci).2.1 k0).1) hx hb hts g5 hown hE.1 hH.1 (a - 1) he (gg_cl_at f1) k0 f2 (hts _ f3) (fun _ z => z) (by rw [gg_fl_get (by rw [g2]; exact f2), f4]) hdg kk
  · have htx := hE.2.2.2.2.2.2.2.1 i hi
    rw [h9] at hown
    rcases hf with ⟨hix, hf⟩ | ⟨hix, hf⟩
    · subst hix
      have kk := IH _ _ _ _ _ _ _ _ _ hf RL
      exact vk_getf hx hb htx.2.2.1 hS hown (hts _ gw_str_9) (fun _ z => z) hdg kk
    · subst hix
      have kk := IH _ _ _ _ _ _ _ _ _ hf RL
      exact vk_getf hx hb htx.2.1 hS hown (hts _ gw_str_15) (fun _ z => z) hdg kk

theorem gs_putfield (IH : gg_Wk l S0 b Lx xs D cA adK adV opq p e R s m args below meth c Q k d nL cb sb o f) (CX : gg_CX l S0 b Lx xs D cA adK adV opq p R s m args meth c k d nL cb sb o) (RL : gg_Rl S0 b Lx xs D cA adK adV opq s nL cb sb L w H locs cells slots ls) {ix : Nat} (hdg : decode (gg_bt k) pc = .ok (.putfield ix, n)) (h : gg_step (gg_ex Lx xs f) Lx xs d k pc L st w (.putfield ix) n = some o) : W p l e R s m args below meth c H locs cells slots Q (F0 m pc ls (st.map (gv S0 b adK adV opq))) := by
  obtain ⟨⟨hx, hb, hml, hown, hts⟩, hE, hR, hin, hfl, hS0⟩ := id CX
  obtain ⟨hL, hl, hH, hS, hc, hs⟩ := id RL
  obtain ⟨rfl, h_1⟩ := gq_ok h
  obtain ⟨t', v, a, r, ci, k0, t, rfl, hl0, ⟨h1, h2, h3⟩, hf⟩ := gput_ok h_1
  obtain ⟨f1, f2, f3, f4, f5, f6⟩ := gg_lf_ok hl0
  obtain ⟨g1, g2, g3, g4, g5, g6, g7, g8⟩ := gg_cf f1
  have hat := gg_H_at hH h1 h2
  rw [gg_ce_obj h3] at hat
  obtain ⟨r0, q0, cell, q1, q2, q3, q4⟩ := hat
  have hr0 : r0 = gg_cln ci := Option.some.inj (q0.symm.trans (gg_cl_at f1))
  subst hr0
  have hlf : k0 < (gg_fl S0 b adK adV opq ci w a).length := by rw [gg_fl_len, g2]; exact f2
  have hap := va_apart (own := gg_c (gg_mt k).1) hts g5 (gg_tyn ci) g6 g8 hE.1 (gg_cl_at f1)
  obtain ⟨hSl, hfc, kC, hkC, hkind⟩ := hE.1.1 ci _ (gg_cl_at f1)
  obtain ⟨cf, kf, fi, fd, hi, hsl⟩ := hSl k0 f2
  have hlay := hts _ (g5 _ (u_in_lay f2))
  have hst := (u_facts hfc hkC (u_lays hts g5 f2) hi).1
  rw [List.map_cons, List.map_cons, show gv S0 b adK adV opq (2, Int.ofNat a) = .ref (S0 + (a - 1)) from gg_rf_pos h1]
  unfold u_lay at hlay
  rcases hf with ⟨ht, hf⟩ | ⟨⟨ht, ht', hkd, ho, hv1⟩, hf⟩
  · have ht0 : t' = 0 := by
      rcases ht with ht | ht
      · exact ht.2
      · exact ht.2.1
    subst ht0
    have htn : t ≠ 2 := by rcases ht with ht | ht <;> omega
    have hfin : ((gg_cln ci).2.1 k0).2.2.2 = false := by rw [f5]; simp [htn]
    rw [if_neg (by rw [hfin]; decide)] at hlay
    have hty : narrow (gg_tyn ci k0) (.int (gg_i v)) = .int (gg_i v) ∧ fits (gg_tyn ci k0) (.int (gg_i v)) = true := by
      rcases g7 k0 f2 with z | z | z
      · rw [z.2]
        exact ⟨rfl, rfl⟩
      · rw [z.2]
        have : t = 1 := by rw [← f4]; exact z.1
        have hv : v = 0 ∨ v = 1 := by
          rcases ht with ht | ht
          · omega
          · exact ht.2.2
        rcases hv with rfl | rfl <;> exact ⟨by decide +kernel, by decide +kernel⟩
      · rw [← f4] at htn
        exact absurd z.1 htn
    have h6 := u_store hfc hkC hkind hlay hi (g6 k0 f2) hty.1 hty.2
    refine W.putK hx hb (f := fd) ⟨hown, hts _ f3, ⟨_, _, _, hi⟩, hst⟩ (by rw [q2]; exact h6) q1 q3 (by rw [hsl]; exact k2_hasslot (q4 k0 f2)) rfl rfl hdg fun H' e1 e2 e3 => ?_
    rw [hsl] at e1 ⊢
    refine IH _ _ _ _ _ _ _ _ _ hf ⟨hL, hl, gg_H_set (w' := (w.1, gg_up w.2.1 a k0 v, w.2.2)) hH h1 h2 rfl (fun o ho => ⟨rfl, gg_up_ne ho⟩) ?_ e2 e3, hS.put e2 e3 (Nat.le_add_right _ _), hc, hs⟩
    have hset := gg_fl_set (S0 := S0) (b := b) (adK := adK) (adV := adV) (opq := opq) (c := ci) (w := w) (w' := (w.1, gg_up w.2.1 a k0 v, w.2.2)) (o := a) (k := k0) (v := .int (gg_i v)) (by rw [g2]; exact f2) (by rw [f4]; unfold gg_rd; rw [if_neg htn]; show Value.int (gg_i (gg_up w.2.1 a k0 v a k0)) = _; unfold gg_up; rw [if_pos ⟨rfl, rfl⟩]) (fun j hj => ⟨rfl, by show gg_up w.2.1 a k0 v a j = _; unfold gg_up; rw [if_neg (fun z => hj z.2)]⟩)
    rw [gg_ce_obj h3, ← hset]
    exact ⟨_, gg_cl_at f1, t_OB.to (V := updV (vp_V (gg_fl S0 b adK adV opq ci w a)) k0 (.int (gg_i v))) ⟨_, e1, q2, q3, t_set q4 hap f2 _⟩ (fun j _ => vp_updV_set hlf _ j)⟩
  · subst ht'
    subst ht
    have hfin : ((gg_cln ci).2.1 k0).2.2.2 = true := by rw [f5]; rfl
    rw [if_pos hfin] at hlay
    obtain ⟨va, rfl⟩ : ∃ va : Nat, v = Int.ofNat va := ⟨v.toNat, by show v = ((v.toNat : Nat) : Int); omega⟩
    have hva : 1 ≤ va := by have : (1 : Int) ≤ (va : Int) := hv1; omega
    have hcf : m.cls = cf := by
      obtain ⟨_, _, c', _, _, _, -, -, hf', -, -, -, hown2, -⟩ := Cond.laysFinal_spec hlay
      have e1 : c' = cf := by have := hi.symm.trans hf'; simp at this; exact this.1.symm
      rw [f6, ← ho] at hown2
      rw [← e1]
      exact Option.some.inj (hown.symm.trans hown2)
    have hty : narrow (gg_tyn ci k0) (.ref (S0 + (va - 1))) = .ref (S0 + (va - 1)) ∧ fits (gg_tyn ci k0) (.ref (S0 + (va - 1))) = true := by
      rcases g7 k0 f2 with z | z | z
      · rw [f4] at z; exact absurd z.1 (by decide)
      · rw [f4] at z; exact absurd z.1 (by decide)
      · have z2 := z.2.1
        revert z2
        cases gg_tyn ci k0 <;> intro z2 <;> first | exact ⟨rfl, rfl⟩ | (exact absurd z2 (by decide))
    have h6 := u_fits hfc hkC hkind (Or.inr hlay) hi (g6 k0 f2) hty.1 hty.2
    rw [show gv S0 b adK adV opq (2, Int.ofNat va) = .ref (S0 + (va - 1)) from gg_rf_pos hva]
    refine W.putFinK hx hb hown (hts _ f3) hi hst hcf (hin hkd) (by rw [q2]; exact h6) q1 q3 (by rw [hsl]; exact k2_hasslot (q4 k0 f2)) rfl rfl hdg fun H' e1 e2 e3 => ?_
    rw [hsl] at e1 ⊢
    refine IH _ _ _ _ _ _ _ _ _ hf ⟨hL, hl, gg_H_set (w' := (gg_up w.1 a k0 (Int.ofNat va), w.2.1, w.2.2)) hH h1 h2 rfl (fun o ho => ⟨gg_up_ne ho, rfl⟩) ?_ e2 e3, hS.put e2 e3 (Nat.le_add_right _ _), hc, hs⟩
    have hset := gg_fl_set (S0 := S0) (b := b) (adK := adK) (adV := adV) (opq := opq) (c := ci) (w := w) (w' := (gg_up w.1 a k0 (Int.ofNat va), w.2.1, w.2.2)) (o := a) (k := k0) (v := .ref (S0 + (va - 1))) (by rw [g2]; exact f2) (by rw [f4]; unfold gg_rd; rw [if_pos rfl]; show gg_rf S0 b (gg_up w.1 a k0 (Int.ofNat va) a k0) = _; unfold gg_up; rw [if_pos ⟨rfl, rfl⟩]; exact gg_rf_pos hva) (fun j hj => ⟨by show gg_up w.1 a k0 (Int.ofNat va) a j = _; unfold gg_up; rw [if_neg (fun z => hj z.2)], rfl⟩)
    rw [gg_ce_obj h3, ← hset]
    exact ⟨_, gg_cl_at f1, t_OB.to (V := updV (vp_V (gg_fl S0 b adK adV opq ci w a)) k0 (.ref (S0 + (va - 1)))) ⟨_, e1, q2, q3, t_set q4 hap f2 _⟩ (fun j _ => vp_updV_set hlf _ j)⟩

end GS2
