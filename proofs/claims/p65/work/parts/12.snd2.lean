/-! the machine follows the interpreter: fields -/
theorem gw_str_38 : Cond.fieldLink (gg_c 9) 38 "java/lang/String" "COMPACT_STRINGS" "Z" ∈ gg_gw := gg_at_in (pos := 543) (by decide +kernel)
theorem gw_asb_18 : Cond.fieldLink (gg_c 18) 18 "java/lang/String" "COMPACT_STRINGS" "Z" ∈ gg_gw := gg_at_in (pos := 714) (by decide +kernel)
theorem gw_str_1053 : Cond.fieldLink (gg_c 9) 1053 "jdk/internal/util/Preconditions" "SIOOBE_FORMATTER" "Ljava/util/function/BiFunction;" ∈ gg_gw := gg_at_in (pos := 559) (by decide +kernel)
theorem gw_al_39 : Cond.fieldLink (gg_c 15) 39 "java/util/ArrayList" "DEFAULTCAPACITY_EMPTY_ELEMENTDATA" "[Ljava/lang/Object;" ∈ gg_gw := gg_at_in (pos := 482) (by decide +kernel)
theorem gw_in_83 : Cond.fieldLink (gg_c 12) 83 "java/lang/Integer" "DigitOnes" "[B" ∈ gg_gw := gg_at_in (pos := 785) (by decide +kernel)
theorem gw_in_87 : Cond.fieldLink (gg_c 12) 87 "java/lang/Integer" "DigitTens" "[B" ∈ gg_gw := gg_at_in (pos := 787) (by decide +kernel)
theorem gw_in_191 : Cond.fieldLink (gg_c 12) 191 "java/lang/Integer$IntegerCache" "high" "I" ∈ gg_gw := gg_at_in (pos := 896) (by decide +kernel)
theorem gw_in_195 : Cond.fieldLink (gg_c 12) 195 "java/lang/Integer$IntegerCache" "cache" "[Ljava/lang/Integer;" ∈ gg_gw := gg_at_in (pos := 898) (by decide +kernel)
theorem gw_in_205 : Cond.fieldLink (gg_c 12) 205 "java/lang/Integer" "value" "I" ∈ gg_gw := gg_at_in (pos := 909) (by decide +kernel)
theorem gw_str_9 : Cond.fieldLink (gg_c 9) 9 "java/lang/String" "value" "[B" ∈ gg_gw := gg_at_in (pos := 1393) (by decide +kernel)
theorem gw_str_15 : Cond.fieldLink (gg_c 9) 15 "java/lang/String" "coder" "B" ∈ gg_gw := gg_at_in (pos := 1394) (by decide +kernel)
theorem gw_it_17 : Cond.fieldLink (gg_c 16) 17 "java/util/ArrayList" "modCount" "I" ∈ gg_gw := gg_at_in (pos := 489) (by decide +kernel)
theorem gw_al_63 : Cond.fieldLink (gg_c 15) 63 "java/util/ArrayList" "modCount" "I" ∈ gg_gw := gg_at_in (pos := 491) (by decide +kernel)
theorem gw_sf : Cond.sameField "java/util/ArrayList" "java/util/AbstractList" "modCount" "I" ∈ gg_gw := gg_at_in (pos := 490) (by decide +kernel)
theorem gw_math : Cond.initialized "java/lang/Math" ∈ gg_gw := gg_at_in (pos := 41) (by decide +kernel)
theorem gw_sys : Cond.initialized "java/lang/System" ∈ gg_gw := gg_at_in (pos := 43) (by decide +kernel)
theorem gw_oi : Cond.instanceMethod Lib.objectInit ∈ gg_gw := gg_at_in (pos := 64) (by decide +kernel)
theorem gw_oc : Cond.code Lib.objectInit ⟨#[0xb1]⟩ 1 none ∈ gg_gw := gg_at_in (pos := 65) (by decide +kernel)
theorem gw_ai : Cond.arrayClass .int ∈ gg_gw := gg_at_in (pos := 136) (by decide +kernel)
theorem gw_az : Cond.arrayClass .boolean ∈ gg_gw := gg_at_in (pos := 192) (by decide +kernel)
theorem gw_ab : Cond.arrayClass .byte ∈ gg_gw := gg_at_in (pos := 246) (by decide +kernel)
theorem gw_aj : Cond.arrayClass .long ∈ gg_gw := gg_at_in (pos := 247) (by decide +kernel)
theorem gw_min1 : Cond.static Lib.Math.min.name ∈ gg_gw := gg_at_in (pos := 398) (by decide +kernel)
theorem gw_min2 : Cond.code Lib.Math.min.name Lib.Math.min.code 2 (some .int) ∈ gg_gw := gg_at_in (pos := 399) (by decide +kernel)
theorem gw_max1 : Cond.static Lib.Math.max.name ∈ gg_gw := gg_at_in (pos := 401) (by decide +kernel)
theorem gw_max2 : Cond.code Lib.Math.max.name Lib.Math.max.code 2 (some .int) ∈ gg_gw := gg_at_in (pos := 402) (by decide +kernel)
theorem gw_ac1 : Cond.static arraycopyName ∈ gg_gw := gg_at_in (pos := 423) (by decide +kernel)
theorem gw_ac2 : Cond.native arraycopyName ∈ gg_gw := gg_at_in (pos := 424) (by decide +kernel)
theorem gw_cl1 : Cond.native ⟨"java/lang/Object", "clone", "()Ljava/lang/Object;"⟩ ∈ gg_gw := gg_at_in (pos := 702) (by decide +kernel)
theorem gw_cl2 : Cond.instanceMethod ⟨"java/lang/Object", "clone", "()Ljava/lang/Object;"⟩ ∈ gg_gw := gg_at_in (pos := 703) (by decide +kernel)
theorem gw_cl3 : Cond.sameMethod "[I" "java/lang/Object" "clone" "()Ljava/lang/Object;" ∈ gg_gw := gg_at_in (pos := 1110) (by decide +kernel)
theorem gw_cl4 : Cond.sameMethod "[B" "java/lang/Object" "clone" "()Ljava/lang/Object;" ∈ gg_gw := gg_at_in (pos := 701) (by decide +kernel)
theorem gw_cl5 : Cond.selects "[I" ⟨"[I", "clone", "()Ljava/lang/Object;"⟩ ⟨"java/lang/Object", "clone", "()Ljava/lang/Object;"⟩ ∈ gg_gw := gg_at_in (pos := 1111) (by decide +kernel)
theorem gw_cl6 : Cond.selects "[B" ⟨"[B", "clone", "()Ljava/lang/Object;"⟩ ⟨"java/lang/Object", "clone", "()Ljava/lang/Object;"⟩ ∈ gg_gw := gg_at_in (pos := 704) (by decide +kernel)
theorem gw_gc1 : Cond.native ⟨"java/lang/Object", "getClass", "()Ljava/lang/Class;"⟩ ∈ gg_gw := gg_at_in (pos := 882) (by decide +kernel)
theorem gw_gc2 : Cond.instanceMethod ⟨"java/lang/Object", "getClass", "()Ljava/lang/Class;"⟩ ∈ gg_gw := gg_at_in (pos := 864) (by decide +kernel)
theorem gw_gc3 : Cond.selects "[Ljava/lang/Object;" ⟨"java/lang/Object", "getClass", "()Ljava/lang/Class;"⟩ ⟨"java/lang/Object", "getClass", "()Ljava/lang/Class;"⟩ ∈ gg_gw := gg_at_in (pos := 1435) (by decide +kernel)
section GS2
variable {l : Launch} {S0 b Lx : Nat} {xs : Nat → Int32} {D : va_G} {cA : Nat → ClassId} {ad : Nat → Int → Nat} {opq : Value} {p : Program} {e : Env} {R : Room} {s : State} {m : MethodId} {args : Array Value} {below : List Frame} {meth : Method} {c : Code} {Q : State → Prop} {k d nL cb sb : Nat} {o : gy_O} {f : Nat}
variable {pc n : Nat} {L st : List gg_V} {w w' : gy_W} {H H' : Heap} {locs : List Loc} {cells slots : Nat} {ls : Array Slot}
theorem gs_getfield (IH : gy_Wk l S0 b Lx xs D cA ad opq p e R s m args below meth c Q k d nL cb sb o f) (CX : gy_CX l S0 b Lx xs D cA ad opq p R s m args meth c k d nL cb sb o) (RL : gy_Rl S0 b Lx xs D cA ad opq s nL cb sb L w H locs cells slots ls) {ix : Nat} (hdg : decode (gg_bt k) pc = .ok (.getfield ix, n)) (h : gy_step (gy_ex Lx xs f) Lx xs d k pc L st w (.getfield ix) n = some o) : W p l e R s m args below meth c H locs cells slots Q (F0 m pc ls (st.map (yv S0 b ad opq))) := by
  obtain ⟨⟨hx, hb, hml, hown, hts⟩, hE, hR, hin, hfl, hS0⟩ := id CX
  obtain ⟨hL, hl, hH, hS, hc, hs⟩ := id RL
  obtain ⟨rfl, h_1⟩ := gq_ok h
  rcases gyget_ok h_1 with ⟨a, r, ci, k0, t, rfl, hl0, h3, hf⟩ | ⟨i, r, rfl, ⟨h9, hi⟩, hf⟩ | ⟨y, r, rfl, ⟨h9, h10, h11, h12⟩, hf⟩
  · obtain ⟨h1, h2, hat⟩ := hH.1 a (by rw [h3]; exact (by decide : (0 : Nat) ≠ 9))
    rw [gy_ce_obj h3] at hat
    have kk := IH _ _ _ _ _ _ _ _ _ hf RL
    rw [List.map_cons] at kk ⊢
    rw [show yv S0 b ad opq (2, Int.ofNat a) = .ref (S0 + (a - 1)) from gg_rf_pos h1]
    rcases hl0 with hl0 | hl0
    · obtain ⟨f1, f2, f3, f4, f5, f6⟩ := gg_lf_ok hl0
      obtain ⟨g1, g2, g3, g4, g5, g6, g7, g8⟩ := gg_cf f1
      exact va_get (ref := ((gg_cln ci).2.1 k0).1) hx hb hts g5 hown hE.1 (gy_one hat) 0 rfl (gg_cl_at f1) k0 f2 (hts _ f3) (fun _ z => z) (gy_fl_get (by rw [g2]; exact f2)) hdg kk
    · have hin3 := gy_lf_in hl0
      simp only [List.mem_cons, List.not_mem_nil, or_false, Prod.mk.injEq] at hin3
      have f1 : gy_ob 15 = true := by decide
      rcases hin3 with ⟨ho, rfl, rfl, rfl, rfl⟩ | ⟨ho, rfl, rfl, rfl, rfl⟩ | ⟨ho, rfl, rfl, rfl, rfl⟩
      · obtain ⟨g1, g2, g3, g4, g5, g6, g7, g8⟩ := gg_cf f1
        rw [ho] at hown
        exact va_getN (ref := "java/util/ArrayList") (host := "java/util/ArrayList") hx hb hts g5 hown hE.1 (gy_one hat) 0 rfl (gg_cl_at f1) 2 (by decide) (va_Nw.use rfl hE.2.2.2.2.2.2.2.2.2.1.1.2) (fun _ z => z) (gy_fl_get (by decide)) hdg kk
      · obtain ⟨g1, g2, g3, g4, g5, g6, g7, g8⟩ := gg_cf f1
        rw [ho] at hown
        exact va_get (ref := "java/util/ArrayList") hx hb hts g5 hown hE.1 (gy_one hat) 0 rfl (gg_cl_at f1) 0 (by decide) (hts _ gw_it_17) (u_same (hts _ gw_sf)) (gy_fl_get (by decide)) hdg kk
      · obtain ⟨g1, g2, g3, g4, g5, g6, g7, g8⟩ := gg_cf f1
        rw [ho] at hown
        exact va_get (ref := "java/util/ArrayList") hx hb hts g5 hown hE.1 (gy_one hat) 0 rfl (gg_cl_at f1) 0 (by decide) (hts _ gw_al_63) (u_same (hts _ gw_sf)) (gy_fl_get (by decide)) hdg kk
  · have htx := hE.2.2.2.2.2.2.2.1 i hi
    rw [h9] at hown
    rcases hf with ⟨hix, hf⟩ | ⟨hix, hf⟩
    · subst hix
      exact vk_getf hx hb htx.2.2.1 hS hown (hts _ gw_str_9) (fun _ z => z) hdg (IH _ _ _ _ _ _ _ _ _ hf RL)
    · subst hix
      exact vk_getf hx hb htx.2.1 hS hown (hts _ gw_str_15) (fun _ z => z) hdg (IH _ _ _ _ _ _ _ _ _ hf RL)
  · subst h10
    rw [h9] at hown
    have kk := IH _ _ _ _ _ _ _ _ _ hf RL
    have hv := hE.2.2.2.2.2.2.2.2.2.2.2.2.2.2.2.2.2.2 (y + 128).toNat (by omega)
    have e1 : (((y + 128).toNat : Nat) : Int) - 128 = y := by omega
    have e2 : vb_c (y + 128).toNat = gg_i y := by
      unfold vb_c gg_i
      rw [← Int32.ofInt_eq_ofNat, show (128 : Int32) = Int32.ofInt 128 from rfl, ← Int32.ofInt_sub, e1]
    dsimp only at hv
    rw [e1, e2] at hv
    exact vk_getf hx hb hv hS hown (hts _ gw_in_205) (fun _ z => z) hdg kk
theorem gy_fits {t ci k0 : Nat} {v : gg_V} {kd ow : Nat} (hf : gy_fit t v kd ow ci = true) (ht : gg_ft ci k0 = t) (g7 : (gg_ft ci k0 = 0 ∧ gg_tyn ci k0 = .int) ∨ (gg_ft ci k0 = 1 ∧ gg_tyn ci k0 = .boolean) ∨ ((gg_ft ci k0 = 2 ∨ gg_ft ci k0 = 4) ∧ fits (gg_tyn ci k0) (.ref 0) = true ∧ defaultValue (gg_tyn ci k0) = .null) ∨ ((gg_ft ci k0 = 3 ∨ gg_ft ci k0 = 5) ∧ gg_tyn ci k0 = .byte)) :
    narrow (gg_tyn ci k0) (yv S0 b ad opq v) = yv S0 b ad opq v ∧ fits (gg_tyn ci k0) (yv S0 b ad opq v) = true := by
  obtain ⟨tv, x⟩ := v
  have hbyte : io_i2b x = x → narrow .byte (.int (gg_i x)) = .int (gg_i x) ∧ fits .byte (.int (gg_i x)) = true := by
    intro h
    have e1 : gg_i x = (gg_i x).toInt8.toInt32 := by
      have h2 : gg_i (io_i2b x) = (gg_i x).toInt8.toInt32 := gi_of _
      rw [h] at h2
      exact h2
    rw [e1]
    exact ⟨pk_nb _, pk_fb _⟩
  have href : ∀ ty : FieldType, fits ty (.ref 0) = true → gy_rr (tv, x) = true → opq = opq → narrow ty (yv S0 b ad opq (tv, x)) = yv S0 b ad opq (tv, x) ∧ fits ty (yv S0 b ad opq (tv, x)) = true := by
    intro ty hty hr _
    rw [← yo_yv S0 b ad opq hr]
    cases yo S0 b ad (tv, x) with
    | none => revert hty; cases ty <;> intro hty <;> first | exact ⟨rfl, rfl⟩ | (exact absurd hty (by decide))
    | some q => revert hty; cases ty <;> intro hty <;> first | exact ⟨rfl, rfl⟩ | (exact absurd hty (by decide))
  rw [ht] at g7
  unfold gy_fit at hf
  match t, hf, g7 with
  | 0, hf, g7 =>
    have e0 : tv = 0 := by simpa using hf
    subst e0
    rw [show gg_tyn ci k0 = .int by rcases g7 with z | z | z | z <;> first | exact z.2 | exact z.2.1 | (exact absurd z.1 (by omega))]
    exact ⟨rfl, rfl⟩
  | 1, hf, g7 =>
    simp only [Bool.and_eq_true, beq_iff_eq, decide_eq_true_eq] at hf
    obtain ⟨e0, e1⟩ := hf
    subst e0
    rw [show gg_tyn ci k0 = .boolean by rcases g7 with z | z | z | z <;> first | exact z.2 | exact z.2.1 | (exact absurd z.1 (by omega))]
    rcases e1 with rfl | rfl
    · exact ⟨congrArg Value.int (by decide +kernel), (by decide +kernel : fits FieldType.boolean (.int (gg_i 0)) = true)⟩
    · exact ⟨congrArg Value.int (by decide +kernel), (by decide +kernel : fits FieldType.boolean (.int (gg_i 1)) = true)⟩
  | 2, hf, g7 =>
    simp only [Bool.and_eq_true] at hf
    exact href _ (by rcases g7 with z | z | z | z <;> first | exact z.2 | exact z.2.1 | (exact absurd z.1 (by omega))) hf.1 rfl
  | 3, hf, g7 =>
    simp only [Bool.and_eq_true, beq_iff_eq, decide_eq_true_eq] at hf
    obtain ⟨e0, e1⟩ := hf
    subst e0
    rw [show gg_tyn ci k0 = .byte by rcases g7 with z | z | z | z <;> first | exact z.2 | exact z.2.1 | (exact absurd z.1 (by omega))]
    exact hbyte e1
  | 4, hf, g7 => exact href _ (by rcases g7 with z | z | z | z <;> first | exact z.2 | exact z.2.1 | (exact absurd z.1 (by omega))) hf rfl
  | 5, hf, g7 =>
    simp only [Bool.and_eq_true, beq_iff_eq, decide_eq_true_eq] at hf
    obtain ⟨⟨e0, e1⟩, -⟩ := hf
    subst e0
    rw [show gg_tyn ci k0 = .byte by rcases g7 with z | z | z | z <;> first | exact z.2 | exact z.2.1 | (exact absurd z.1 (by omega))]
    exact hbyte e1
  | n + 6, hf, g7 => cases hf
theorem gs_putfield (IH : gy_Wk l S0 b Lx xs D cA ad opq p e R s m args below meth c Q k d nL cb sb o f) (CX : gy_CX l S0 b Lx xs D cA ad opq p R s m args meth c k d nL cb sb o) (RL : gy_Rl S0 b Lx xs D cA ad opq s nL cb sb L w H locs cells slots ls) {ix : Nat} (hdg : decode (gg_bt k) pc = .ok (.putfield ix, n)) (h : gy_step (gy_ex Lx xs f) Lx xs d k pc L st w (.putfield ix) n = some o) : W p l e R s m args below meth c H locs cells slots Q (F0 m pc ls (st.map (yv S0 b ad opq))) := by
  obtain ⟨⟨hx, hb, hml, hown, hts⟩, hE, hR, hin, hfl, hS0⟩ := id CX
  obtain ⟨hL, hl, hH, hS, hc, hs⟩ := id RL
  obtain ⟨rfl, h_1⟩ := gq_ok h
  obtain ⟨v, a, r, ci, k0, t, rfl, h3, hl0, hf⟩ := gyput_ok h_1
  obtain ⟨h1, h2, hat⟩ := hH.1 a (by rw [h3]; exact (by decide : (0 : Nat) ≠ 9))
  have h9 : (w.1 a).1 ≠ 9 := by rw [h3]; exact (by decide : (0 : Nat) ≠ 9)
  rw [gy_ce_obj h3] at hat
  have main : ∀ (ref : String) (f1 : gy_ob ci = true) (f2 : k0 < (gg_cln ci).2.2), (Cond.fieldLink (gg_c (gg_mt k).1) ix ref ((gg_cln ci).2.1 k0).2.1 ((gg_cln ci).2.1 k0).2.2.1).before args s = true →
      (∀ x, s.fieldFound? ((gg_cln ci).2.1 k0).1 ((gg_cln ci).2.1 k0).2.1 ((gg_cln ci).2.1 k0).2.2.1 = some x → s.fieldFound? ref ((gg_cln ci).2.1 k0).2.1 ((gg_cln ci).2.1 k0).2.2.1 = some x) →
      (((gg_cln ci).2.1 k0).2.2.2 = true → (gg_mt k).2.1 = 2 ∧ (gg_mt k).1 = ci ∧ ((gg_cln ci).2.1 k0).1 = gg_c ci ∧ ref = ((gg_cln ci).2.1 k0).1) →
      narrow (gg_tyn ci k0) (yv S0 b ad opq v) = yv S0 b ad opq v ∧ fits (gg_tyn ci k0) (yv S0 b ad opq v) = true → W p l e R s m args below meth c H locs cells slots Q (F0 m pc ls ((v :: (2, Int.ofNat a) :: r).map (yv S0 b ad opq))) := by
    intro ref f1 f2 hlk hsame hfinal hty
    obtain ⟨g1, g2, g3, g4, g5, g6, g7, g8⟩ := gg_cf f1
    obtain ⟨r0, q0, cell, q1, q2, q3, q4⟩ := hat
    have hr0 : r0 = gg_cln ci := Option.some.inj (q0.symm.trans (gg_cl_at f1))
    subst hr0
    have hlf : k0 < (gy_fl S0 b ad opq ci w a).length := by rw [gy_fl_len, g2]; exact f2
    have hap := va_apart (own := gg_c (gg_mt k).1) hts g5 (gg_tyn ci) g6 g8 hE.1 (gg_cl_at f1)
    obtain ⟨hSl, hfc, kC, hkC, hkind⟩ := hE.1.1 ci _ (gg_cl_at f1)
    obtain ⟨cf, kf, fi, fd, hi, hsl⟩ := hSl k0 f2
    have hlay := hts _ (g5 _ (u_in_lay f2))
    have hst := (u_facts hfc hkC (u_lays hts g5 f2) hi).1
    rw [List.map_cons, List.map_cons, show yv S0 b ad opq (2, Int.ofNat a) = .ref (S0 + (a - 1)) from gg_rf_pos h1]
    unfold u_lay at hlay
    have fin : ∀ H' : Heap, H'[S0 + (a - 1)]? = some (cell.setSlot fd.slot (yv S0 b ad opq v)) → H'.size = H.size → (∀ q, q ≠ S0 + (a - 1) → H'[q]? = H[q]?) → W p l e R s m args below meth c H' (locs ++ [⟨S0 + (a - 1), fd.slot⟩]) cells slots Q (F0 m (pc + 3) ls (r.map (yv S0 b ad opq))) := by
      intro H' e1 e2 e3
      rw [hsl] at e1 ⊢
      refine IH _ _ _ _ _ _ _ _ _ hf ⟨hL, hl, gy_H_set (w' := (w.1, gy_up w.2.1 a k0 v, w.2.2)) hH h9 ⟨rfl, rfl⟩ (fun o ho => gy_up_ne ho) ?_ e2 e3, hS.put e2 e3 (Nat.le_add_right _ _), hc, hs⟩
      rw [gy_ce_obj (w := (w.1, gy_up w.2.1 a k0 v, w.2.2)) h3, ← gy_fl_set (by rw [g2]; exact f2)]
      exact ⟨_, gg_cl_at f1, t_OB.to (V := updV (vp_V (gy_fl S0 b ad opq ci w a)) k0 (yv S0 b ad opq v)) ⟨_, e1, q2, q3, t_set q4 hap f2 _⟩ (fun j _ => vp_updV_set hlf _ j)⟩
    cases hfi : ((gg_cln ci).2.1 k0).2.2.2 with
    | false =>
      rw [if_neg (by rw [hfi]; decide)] at hlay
      have h6 := u_store hfc hkC hkind hlay hi (g6 k0 f2) hty.1 hty.2
      exact W.putK hx hb (f := fd) ⟨hown, hlk, ⟨_, _, _, hsame _ hi⟩, hst⟩ (by rw [q2]; exact h6) q1 q3 (by rw [hsl]; exact k2_hasslot (q4 k0 f2)) rfl rfl hdg fin
    | true =>
      obtain ⟨hkd, hown0, hdecl, rfl⟩ := hfinal hfi
      rw [if_pos hfi] at hlay
      have hcf : m.cls = cf := by
        obtain ⟨_, _, c', _, _, _, -, -, hf', -, -, -, hown2, -⟩ := Cond.laysFinal_spec hlay
        have e1 : c' = cf := by have := hi.symm.trans hf'; simp at this; exact this.1.symm
        rw [hdecl, ← hown0] at hown2
        rw [← e1]
        exact Option.some.inj (hown.symm.trans hown2)
      have h6 := u_fits hfc hkC hkind (Or.inr hlay) hi (g6 k0 f2) hty.1 hty.2
      exact W.putFinK hx hb hown hlk hi hst hcf (hin hkd) (by rw [q2]; exact h6) q1 q3 (by rw [hsl]; exact k2_hasslot (q4 k0 f2)) rfl rfl hdg fin
  rcases hl0 with ⟨hl0, hfit⟩ | ⟨hl0, ht1, hv0⟩
  · obtain ⟨f1, f2, f3, f4, f5, f6⟩ := gg_lf_ok hl0
    obtain ⟨g1, g2, g3, g4, g5, g6, g7, g8⟩ := gg_cf f1
    refine main _ f1 f2 (hts _ f3) (fun _ z => z) (fun hfi => ?_) (gy_fits hfit f4 (g7 k0 f2))
    rw [f5] at hfi
    have ht25 : t = 2 ∨ t = 5 := by simpa using hfi
    refine ⟨?_, ?_, f6 ht25, rfl⟩
    · rcases ht25 with rfl | rfl <;> simp only [gy_fit, Bool.and_eq_true, decide_eq_true_eq] at hfit <;> exact hfit.2.1
    · rcases ht25 with rfl | rfl <;> simp only [gy_fit, Bool.and_eq_true, decide_eq_true_eq] at hfit <;> exact hfit.2.2
  · have hin3 := gy_lf_in hl0
    simp only [List.mem_cons, List.not_mem_nil, or_false, Prod.mk.injEq] at hin3
    obtain ⟨tv, x⟩ := v
    dsimp only at hv0
    subst hv0
    rcases hin3 with ⟨ho, rfl, rfl, rfl, rfl⟩ | ⟨ho, rfl, rfl, rfl, rfl⟩ | ⟨ho, rfl, rfl, rfl, rfl⟩
    · exact absurd ht1 (by decide)
    · exact main "java/util/ArrayList" (by decide) (by decide) (by rw [ho]; exact hts _ gw_it_17) (u_same (hts _ gw_sf)) (fun z => by cases z) ⟨rfl, rfl⟩
    · exact main "java/util/ArrayList" (by decide) (by decide) (by rw [ho]; exact hts _ gw_al_63) (u_same (hts _ gw_sf)) (fun z => by cases z) ⟨rfl, rfl⟩
end GS2
