/-! EVERY METHOD OF OURS ENDS AS THE INTERPRETER SAYS: its contract -/
theorem gw_i1 : Cond.initialized "java/lang/IllegalArgumentException" ∈ gg_gw := gg_at_in (pos := 49) (by decide +kernel)
theorem gw_i2 : Cond.initialized "java/lang/IndexOutOfBoundsException" ∈ gg_gw := gg_at_in (pos := 51) (by decide +kernel)
set_option maxRecDepth 100000 in
theorem gw_ot1 : ∀ w' ∈ Cond.classLink (gg_c 6) 111 "java/lang/IllegalArgumentException" :: Cond.initialized "java/lang/IllegalArgumentException" :: gg_xw 113 "java/lang/IllegalArgumentException", vx_ot w' = true := List.all_eq_true.mp (by decide +kernel)
set_option maxRecDepth 100000 in
theorem gw_ot2 : ∀ w' ∈ Cond.classLink (gg_c 6) 338 "java/lang/IndexOutOfBoundsException" :: Cond.initialized "java/lang/IndexOutOfBoundsException" :: gg_xw 340 "java/lang/IndexOutOfBoundsException", vx_ot w' = true := List.all_eq_true.mp (by decide +kernel)
section GC
variable {l : Launch} {S0 b Lx : Nat} {xs : Nat → Int32} {D : va_G} {cA : Nat → ClassId} {ad : Nat → Int → Nat} {opq : Value}
theorem gy_narrow {rk : Nat} {x : Int} {r : Option FieldType} (h : gg_rI rk x = true) (hr : gg_rok rk r = true) : ∃ ty, r = some ty ∧ narrow ty (.int (gg_i x)) = .int (gg_i x) := by
  unfold gg_rI at h
  simp only [Bool.or_eq_true, Bool.and_eq_true, beq_iff_eq, decide_eq_true_eq] at h
  rcases h with ((rfl | ⟨rfl, h⟩) | ⟨rfl, h⟩) | ⟨rfl, h⟩
  · match r, hr with
    | some .int, _ => exact ⟨_, rfl, rfl⟩
  · match r, hr with
    | some .boolean, _ =>
      refine ⟨_, rfl, ?_⟩
      rcases h with rfl | rfl <;> decide +kernel
  · match r, hr with
    | some .char, _ =>
      refine ⟨_, rfl, ?_⟩
      have e1 : gg_i x = ((gg_i x).toUInt32 % 65536).toInt32 := by
        have h2 : gg_i (io_i2c x) = ((gg_i x).toUInt32 % 65536).toInt32 := gi_of _
        rw [h] at h2
        exact h2
      rw [e1]
      exact pk_nc _
  · match r, hr with
    | some .byte, _ =>
      refine ⟨_, rfl, ?_⟩
      have e1 : gg_i x = (gg_i x).toInt8.toInt32 := by
        have h2 : gg_i (io_i2b x) = (gg_i x).toInt8.toInt32 := gi_of _
        rw [h] at h2
        exact h2
      rw [e1]
      exact pk_nb _
/-- what a body is to be walked for, in any frame -/
theorem gy_body (hfl : l.stackTraces = false) (hdt : ∀ k pc i n, gg_dt k pc = some (i, n) → decode (gg_bt k) pc = .ok (i, n)) {f : Nat} (hC : ∀ f', f' < f → gy_CtF l S0 b Lx xs D cA ad opq f')
    {d y : Nat} {vs : List gg_V} {w : gy_W} {o : gy_O} {ci kd ml : Nat} {tg : List Nat} {rk : Nat} (hy : gy_own y) (hm : gg_mt y = (ci, kd, ml, tg, rk)) (htg : vs.map gy_tg = tg) (hex : gy_ex Lx xs f d y 0 (gg_en ml vs) [] w = some o)
    {p : Program} {e : Env} {s : State} {m : MethodId} {args : Array Value} {below : List Frame} {meth : Method} {c : Code}
    (hx : p.tables.exec = Jvm.exec) (hb : c.code = gg_bt y) (hml : c.maxLocals = ml) (hown : s.vm.findClass (gg_nm y).cls = some m.cls) (hts : ∀ w' ∈ gg_wd y :: gg_gw, w'.before args s = true) (hlocks : meth.locks = false) (hname : meth.name = (gg_nm y).name) (hret : meth.sig.returnType = gg_rt y)
    (htab : c.exceptionTable.toList = tableOf (gg_hh y)) (hP : gy_Pc S0 b Lx xs D cA ad opq vs w args s) :
    W p l e (gy_rm d (o.2.2.2.1 - w.2.2.1) (o.2.2.2.2 - w.2.2.2)) s m args below meth c s.heap [] 0 0 (vx_MQ below (gy_Qc S0 b Lx xs D cA ad opq o) (gy_XC S0 b Lx xs D cA ad opq o) args s (o.2.2.2.1 - w.2.2.1) (o.2.2.2.2 - w.2.2.2) (gg_A S0)) (entryFrame m args ml) := by
  obtain ⟨rfl, hE, hH⟩ := hP
  obtain ⟨m1, m2, m3, m4, m5, m6, m7, m8, m9, m10, m11, m12, m13, m14⟩ := gg_mfacts hy hm
  have hmn := gy_ex_mn _ _ _ _ _ _ _ _ _ _ hex
  have hgw : ∀ w' ∈ gg_gw, w'.before (vs.map (yv S0 b ad opq)).toArray s = true := fun w' hw => hts w' (List.mem_cons_of_mem _ hw)
  have hown2 : s.vm.findClass (gg_c (gg_mt y).1) = some m.cls := by rw [hm]; show s.vm.findClass (gg_c ci) = _; rw [← m2]; exact hown
  have CX : gy_CX l S0 b Lx xs D cA ad opq p (gy_rm d (o.2.2.2.1 - w.2.2.1) (o.2.2.2.2 - w.2.2.2)) s m (vs.map (yv S0 b ad opq)).toArray meth c y d ml w.2.2.1 w.2.2.2 o :=
    ⟨⟨hx, hb, hml, hown2, hgw⟩, hE, ⟨Nat.le_refl _, Nat.le_refl _, by show _ ≤ o.2.2.2.1 - w.2.2.1 + _; omega, by show _ ≤ o.2.2.2.2 - w.2.2.2 + _; omega⟩, fun hk => by rw [hm] at hk; rw [hname]; exact (m12 hk).1, hfl, by have := hH.2; omega⟩
  have KO : gy_Ko l S0 b Lx xs D cA ad opq p e (gy_rm d (o.2.2.2.1 - w.2.2.1) (o.2.2.2.2 - w.2.2.2)) s m (vs.map (yv S0 b ad opq)).toArray below meth c (vx_MQ below (gy_Qc S0 b Lx xs D cA ad opq o) (gy_XC S0 b Lx xs D cA ad opq o) (vs.map (yv S0 b ad opq)).toArray s (o.2.2.2.1 - w.2.2.1) (o.2.2.2.2 - w.2.2.2) (gg_A S0)) y w.2.2.1 w.2.2.2 o := by
    intro pc rest ls E ce q H locs cells slots h1 h2 h3 h4 h5 h6 h7 h8 h9
    refine vx_out (fun x hx => ?_) hlocks h5 h6 h7 (fun t ht hA => ⟨h2, by rw [ht]; exact h3, h4.F ht⟩) h4.2.2 (by omega) (by omega)
    rw [htab] at hx
    unfold gg_hh at hx
    rw [h1] at hx
    cases hx
  have KT : gy_Kt l S0 b Lx xs D cA ad opq p e (gy_rm d (o.2.2.2.1 - w.2.2.1) (o.2.2.2.2 - w.2.2.2)) s m (vs.map (yv S0 b ad opq)).toArray below meth c (vx_MQ below (gy_Qc S0 b Lx xs D cA ad opq o) (gy_XC S0 b Lx xs D cA ad opq o) (vs.map (yv S0 b ad opq)).toArray s (o.2.2.2.1 - w.2.2.1) (o.2.2.2.2 - w.2.2.2) (gg_A S0)) y ml w.2.2.1 w.2.2.2 o := by
    intro pc ix E L st w1 H locs cells slots ls h1 h2 h3 h4 RL
    obtain ⟨hL, hl, hH1, hS, hc, hs⟩ := id RL
    obtain ⟨t1, t2, t3, t4, t5, t6, t7⟩ := gg_ckt_ok h1 h2
    rw [t1] at hown2
    have hcov : ∀ x ∈ c.exceptionTable.toList, covers x (pc + 7) = false := fun x hx => by
      rw [htab] at hx
      unfold gg_hh at hx
      rw [t2] at hx
      cases hx
    have hNe := hE.2.2.2.2.2.2.2.2.2.1
    have hoc : o.2.2.2.1 = w1.2.2.1 + 1 ∧ o.2.2.2.2 = w1.2.2.2 + 6 := by rw [h4]; exact ⟨rfl, rfl⟩
    have hxc : ∀ cls : String, gg_xn cls E → ∀ t : State, s.vm.Alike t.vm → t.heap.size = H.size + 1 → (∀ q : Nat, q < H.size → t.heap[q]? = H[q]?) → gy_XC S0 b Lx xs D cA ad opq o cls s t := by
      intro cls hcls t hA hz hk
      refine ⟨by rw [h4]; exact hcls, ?_, ?_⟩
      · rw [h4]
        refine ⟨fun a ha => ?_, by show t.heap.size = S0 + (w1.2.2.1 + 1); have := hH1.2; omega⟩
        obtain ⟨g1, g2, g3⟩ := hH1.1 a ha
        exact ⟨g1, Nat.le_succ_of_le g2, g3.kept (hk _ g3.lt)⟩
      · exact ⟨by have := hS.1; omega, fun q a1 a2 => by rw [hk q (by have := hS.1; omega)]; exact hS.2.1 q a1 a2⟩
    have main : ∀ (cls : String) (ik ic : Nat), gg_xn cls E → Bundle.fit cls = true → Cond.classLink (gg_c 6) ik cls ∈ gg_gw → Cond.initialized cls ∈ gg_gw → (∀ w' ∈ gg_xw ic cls, w'.before (vs.map (yv S0 b ad opq)).toArray s = true) → (∀ w' ∈ Cond.classLink (gg_c 6) ik cls :: Cond.initialized cls :: gg_xw ic cls, vx_ot w' = true) →
        gg_dt y pc = some (.new ik, 3) → gg_dt y (pc + 4) = some (.invokespecial ic, 3) → W p l e (gy_rm d (o.2.2.2.1 - w.2.2.1) (o.2.2.2.2 - w.2.2.2)) s m (vs.map (yv S0 b ad opq)).toArray below meth c H locs cells slots (vx_MQ below (gy_Qc S0 b Lx xs D cA ad opq o) (gy_XC S0 b Lx xs D cA ad opq o) (vs.map (yv S0 b ad opq)).toArray s (o.2.2.2.1 - w.2.2.1) (o.2.2.2.2 - w.2.2.2) (gg_A S0)) (F0 m pc ls (st.map (yv S0 b ad opq))) := by
      intro cls ik ic a1 a2 a3 a4 a5 a6 a7 a8
      refine vy_throw0 (names := gg_xnm) hx hb hfl hown2 a2 (by decide +kernel) (hgw _ a3) (hgw _ a4) a5 a6 hE.2.1.1 hE.2.1.2 hS (by rw [hml]; exact hl.1) (hdt _ _ _ _ a7) (hdt _ _ _ _ t5) (hdt _ _ _ _ a8) (hdt _ _ _ _ t7) hcov ?_ ?_ ?_ ?_ hlocks (hxc cls a1) hS.2.2 ?_ ?_
      · show 2 + 3 < d + 20
        omega
      · rw [yv_cats hE.2.2.2.2.2.2.1]
        show _ + (13 * (2 + 1) + 42) ≤ 60 * d + 200
        omega
      · show cells + 1 ≤ o.2.2.2.1 - w.2.2.1
        omega
      · show slots + 6 ≤ o.2.2.2.2 - w.2.2.2
        omega
      · omega
      · omega
    rcases t3 with rfl | rfl
    · rw [if_pos rfl] at t4 t6
      subst t4
      refine main "java/lang/IllegalArgumentException" 111 113 (Or.inl ⟨rfl, rfl⟩) (by decide +kernel) (gg_lc_ok (o := 6) (i := 111) (c := 100) (by decide +kernel)) gw_i1 (vx_hat (B := gg_xb "java/lang/IllegalArgumentException") (fun w' hw => ?_) (fun w' hw => ?_) (fun w' hw => ?_)) gw_ot1 h1 t6
      · have h9 := List.all_eq_true.mp gg_xw_3 w' hw
        obtain ⟨j, hj, h10⟩ := List.any_eq_true.mp h9
        obtain ⟨v, hv, h11⟩ := List.any_eq_true.mp h10
        have h12 := of_decide_eq_true h11
        subst h12
        exact hgw _ (gg_gw_tb (gg_tb_in hv) (List.mem_filter.mp hw).2)
      · exact of_decide_eq_true (List.all_eq_true.mp gg_xw_1 w' hw)
      · rcases List.mem_cons.mp hw with rfl | hw
        · exact va_Nw.use rfl (hNe.2.1 ("java/lang/IllegalArgumentException", "java/lang/IllegalArgumentException") (by decide +kernel))
        · obtain ⟨x, hx2, rfl⟩ := List.mem_map.mp hw
          exact va_Nw.use rfl (hNe.2.2.1 x hx2)
    · rw [if_neg (by decide)] at t4 t6
      subst t4
      refine main "java/lang/IndexOutOfBoundsException" 338 340 (Or.inr ⟨rfl, rfl⟩) (by decide +kernel) (gg_lc_ok (o := 6) (i := 338) (c := 101) (by decide +kernel)) gw_i2 (vx_hat (B := gg_xb "java/lang/IndexOutOfBoundsException") (fun w' hw => ?_) (fun w' hw => ?_) (fun w' hw => ?_)) gw_ot2 h1 t6
      · have h9 := List.all_eq_true.mp gg_xw_4 w' hw
        obtain ⟨j, hj, h10⟩ := List.any_eq_true.mp h9
        obtain ⟨v, hv, h11⟩ := List.any_eq_true.mp h10
        have h12 := of_decide_eq_true h11
        subst h12
        exact hgw _ (gg_gw_tb (gg_tb_in hv) (List.mem_filter.mp hw).2)
      · exact of_decide_eq_true (List.all_eq_true.mp gg_xw_2 w' hw)
      · rcases List.mem_cons.mp hw with rfl | hw
        · exact va_Nw.use rfl (hNe.2.1 ("java/lang/IndexOutOfBoundsException", "java/lang/IndexOutOfBoundsException") (by decide +kernel))
        · obtain ⟨x, hx2, rfl⟩ := List.mem_map.mp hw
          exact va_Nw.use rfl (hNe.2.2.1 x hx2)
  have KR : gy_Kr l S0 b Lx xs D cA ad opq p e (gy_rm d (o.2.2.2.1 - w.2.2.1) (o.2.2.2.2 - w.2.2.2)) s m (vs.map (yv S0 b ad opq)).toArray below meth c (vx_MQ below (gy_Qc S0 b Lx xs D cA ad opq o) (gy_XC S0 b Lx xs D cA ad opq o) (vs.map (yv S0 b ad opq)).toArray s (o.2.2.2.1 - w.2.2.1) (o.2.2.2.2 - w.2.2.2) (gg_A S0)) y ml w.2.2.1 w.2.2.2 o := by
    intro pc i L st w1 H locs cells slots ls h1 h2 RL
    obtain ⟨hL, hl, hH1, hS, hc, hs⟩ := id RL
    have hrk : (gg_mt y).2.2.2.2 = rk := by rw [hm]
    unfold gy_end at h2
    rw [hrk] at h2
    rcases h2 with ⟨x, rfl, rfl, h3, h4⟩ | ⟨x, rfl, rfl, h3, h4⟩ | ⟨v, rfl, rfl, hrr, h3, h4⟩ | ⟨rfl, rfl, h3, h4⟩
    · subst h4
      have hcm : w1.2.2.1 - w.2.2.1 = cells := by omega
      have hsm : w1.2.2.2 - w.2.2.2 = slots := by omega
      dsimp only
      rw [hcm, hsm]
      obtain ⟨ty, hty, hnar⟩ := gy_narrow h3 m6
      exact vx_ret (W.zret hx hb (hret.trans hty) hnar (fun t ht hW => ⟨⟨_, rfl, Or.inr ⟨rfl, rfl⟩, by rw [ht]; exact hH1⟩, hS.F ht⟩) hS.2.2 (hdt _ _ _ _ h1) hlocks)
    · subst h4
      have hcm : w1.2.2.1 - w.2.2.1 = cells := by omega
      have hsm : w1.2.2.2 - w.2.2.2 = slots := by omega
      dsimp only
      rw [hcm, hsm]
      have hty : gg_rt y = some .long := by
        rw [h3] at m6
        revert m6
        cases gg_rt y with
        | none => intro z; cases z
        | some t => cases t <;> intro z <;> first | rfl | cases z
      exact vx_ret (W.lret hx hb (hret.trans hty) (fun t ht hW => ⟨⟨_, rfl, Or.inr ⟨rfl, rfl⟩, by rw [ht]; exact hH1⟩, hS.F ht⟩) hS.2.2 (hdt _ _ _ _ h1) hlocks)
    · subst h4
      have hcm : w1.2.2.1 - w.2.2.1 = cells := by omega
      have hsm : w1.2.2.2 - w.2.2.2 = slots := by omega
      dsimp only
      rw [hcm, hsm]
      have hty : ∃ ty, gg_rt y = some ty ∧ ((∃ n, ty = .object n) ∨ ∃ t, ty = .array t) := by
        rw [h3] at m6
        revert m6
        cases gg_rt y with
        | none => intro z; cases z
        | some t => cases t <;> intro z <;> first | exact ⟨_, rfl, Or.inl ⟨_, rfl⟩⟩ | exact ⟨_, rfl, Or.inr ⟨_, rfl⟩⟩ | cases z
      obtain ⟨ty, hty, hob⟩ := hty
      have hv2 : yv S0 b ad opq v = .null ∨ ∃ a, yv S0 b ad opq v = .ref a := by
        rw [← yo_yv S0 b ad opq hrr]
        cases yo S0 b ad v with
        | none => exact Or.inl rfl
        | some a => exact Or.inr ⟨a, rfl⟩
      exact vx_ret (W.aret hx hb (hret.trans hty) hob hv2 (fun t ht hW => ⟨⟨_, rfl, Or.inr ⟨rfl, rfl⟩, by rw [ht]; exact hH1⟩, hS.F ht⟩) hS.2.2 (hdt _ _ _ _ h1) hlocks)
    · subst h4
      have hcm : w1.2.2.1 - w.2.2.1 = cells := by omega
      have hsm : w1.2.2.2 - w.2.2.2 = slots := by omega
      dsimp only
      rw [hcm, hsm]
      have hty : gg_rt y = none := gg_rok0 (by rw [← h3]; exact m6)
      exact vx_ret (W.vret hx hb (hret.trans hty) (fun t ht hW => ⟨⟨_, rfl, Or.inl ⟨rfl, rfl⟩, by rw [ht]; exact hH1⟩, hS.F ht⟩) hS.2.2 (hdt _ _ _ _ h1) hlocks)
  have hsl : (gg_args vs).length ≤ ml := by
    rw [gg_args_len, htg]
    have h9 := of_decide_eq_true (List.all_eq_true.mp gg_cks_all y (List.mem_range.mpr hy.1))
    rw [hm] at h9
    exact h9
  have hlen : (gg_en ml vs).length = ml := by unfold gg_en; rw [List.length_append, List.length_replicate]; omega
  have hl := lv_entry (vs.map (yv S0 b ad opq)) (n := ml) (by rw [gg_sl_len (yv_cat hE.2.2.2.2.2.2.1)]; exact hsl)
  rw [lg_entry_eq]
  exact gy_walk CX KO KT KR hdt (fun _ => htab) f hC 0 (gg_en ml vs) [] w s.heap [] 0 0 _ hex ⟨hlen, ⟨hl.1, hl.2.1, fun q hq => hl.2.2 q (gg_en_mem (yv_cat hE.2.2.2.2.2.2.1) _ vs 0 q hq)⟩, hH, va_S.rf, by omega, by omega⟩
end GC
