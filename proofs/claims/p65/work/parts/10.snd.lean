/-! the machine follows the interpreter: instructions without calls -/
theorem gw_c110 : Cond.classLink (gg_c 19) 110 "[Ljava/lang/Object;" ∈ gg_gw := gg_lc_ok (o := 19) (i := 110) (c := 111) (by decide +kernel)
section GS
variable {l : Launch} {S0 b Lx : Nat} {xs : Nat → Int32} {D : va_G} {cA : Nat → ClassId} {ad : Nat → Int → Nat} {opq : Value} {p : Program} {e : Env} {R : Room} {s : State} {m : MethodId} {args : Array Value} {below : List Frame} {meth : Method} {c : Code} {Q : State → Prop} {k d nL cb sb : Nat} {o : gy_O} {f : Nat}
variable {pc n : Nat} {L st : List gg_V} {w w' : gy_W} {H : Heap} {locs : List Loc} {cells slots : Nat} {ls : Array Slot}
theorem gs_iconst (IH : gy_Wk l S0 b Lx xs D cA ad opq p e R s m args below meth c Q k d nL cb sb o f) (CX : gy_CX l S0 b Lx xs D cA ad opq p R s m args meth c k d nL cb sb o) (RL : gy_Rl S0 b Lx xs D cA ad opq s nL cb sb L w H locs cells slots ls) {v : Int} (hdg : decode (gg_bt k) pc = .ok (.iconst v, n)) (h : gy_step (gy_ex Lx xs f) Lx xs d k pc L st w (.iconst v) n = some o) : W p l e R s m args below meth c H locs cells slots Q (F0 m pc ls (st.map (yv S0 b ad opq))) := by
  obtain ⟨⟨hx, hb, hml, hown, hts⟩, hE, hR, hin, hfl, hS0⟩ := id CX
  obtain ⟨hL, hl, hH, hS, hc, hs⟩ := id RL
  obtain ⟨rfl, h_1⟩ := gq_ok h
  exact lv_iconst (v := gg_i (v)) hx hb hdg rfl (IH _ _ _ _ _ _ _ _ _ h_1 RL)

theorem gs_bipush (IH : gy_Wk l S0 b Lx xs D cA ad opq p e R s m args below meth c Q k d nL cb sb o f) (CX : gy_CX l S0 b Lx xs D cA ad opq p R s m args meth c k d nL cb sb o) (RL : gy_Rl S0 b Lx xs D cA ad opq s nL cb sb L w H locs cells slots ls) {v : Int} (hdg : decode (gg_bt k) pc = .ok (.bipush v, n)) (h : gy_step (gy_ex Lx xs f) Lx xs d k pc L st w (.bipush v) n = some o) : W p l e R s m args below meth c H locs cells slots Q (F0 m pc ls (st.map (yv S0 b ad opq))) := by
  obtain ⟨⟨hx, hb, hml, hown, hts⟩, hE, hR, hin, hfl, hS0⟩ := id CX
  obtain ⟨hL, hl, hH, hS, hc, hs⟩ := id RL
  obtain ⟨rfl, h_1⟩ := gq_ok h
  exact lv_bipush (v := gg_i ((Int8.ofInt v).toInt)) hx hb hdg (by show (Int8.ofInt v).toInt32 = Int32.ofInt (Int8.ofInt v).toInt; rw [← Int8.toInt_toInt32, Int32.ofInt_toInt]) (IH _ _ _ _ _ _ _ _ _ h_1 RL)

theorem gs_sipush (IH : gy_Wk l S0 b Lx xs D cA ad opq p e R s m args below meth c Q k d nL cb sb o f) (CX : gy_CX l S0 b Lx xs D cA ad opq p R s m args meth c k d nL cb sb o) (RL : gy_Rl S0 b Lx xs D cA ad opq s nL cb sb L w H locs cells slots ls) {v : Int} (hdg : decode (gg_bt k) pc = .ok (.sipush v, n)) (h : gy_step (gy_ex Lx xs f) Lx xs d k pc L st w (.sipush v) n = some o) : W p l e R s m args below meth c H locs cells slots Q (F0 m pc ls (st.map (yv S0 b ad opq))) := by
  obtain ⟨⟨hx, hb, hml, hown, hts⟩, hE, hR, hin, hfl, hS0⟩ := id CX
  obtain ⟨hL, hl, hH, hS, hc, hs⟩ := id RL
  obtain ⟨rfl, h_1⟩ := gq_ok h
  exact lv_sipush (v := gg_i ((Int16.ofInt v).toInt)) hx hb hdg (by show (Int16.ofInt v).toInt32 = Int32.ofInt (Int16.ofInt v).toInt; rw [← Int16.toInt_toInt32, Int32.ofInt_toInt]) (IH _ _ _ _ _ _ _ _ _ h_1 RL)

theorem gs_lconst (IH : gy_Wk l S0 b Lx xs D cA ad opq p e R s m args below meth c Q k d nL cb sb o f) (CX : gy_CX l S0 b Lx xs D cA ad opq p R s m args meth c k d nL cb sb o) (RL : gy_Rl S0 b Lx xs D cA ad opq s nL cb sb L w H locs cells slots ls) {v : Fin 2} (hdg : decode (gg_bt k) pc = .ok (.lconst v, n)) (h : gy_step (gy_ex Lx xs f) Lx xs d k pc L st w (.lconst v) n = some o) : W p l e R s m args below meth c H locs cells slots Q (F0 m pc ls (st.map (yv S0 b ad opq))) := by
  obtain ⟨⟨hx, hb, hml, hown, hts⟩, hE, hR, hin, hfl, hS0⟩ := id CX
  obtain ⟨hL, hl, hH, hS, hc, hs⟩ := id RL
  obtain ⟨rfl, h_1⟩ := gq_ok h
  exact lv_lconst (v := gg_l (v.1 : Int)) hx hb hdg (by show Int64.ofNat v.1 = Int64.ofInt (v.1 : Int); rfl) (IH _ _ _ _ _ _ _ _ _ h_1 RL)

theorem gs_iload_n (IH : gy_Wk l S0 b Lx xs D cA ad opq p e R s m args below meth c Q k d nL cb sb o f) (CX : gy_CX l S0 b Lx xs D cA ad opq p R s m args meth c k d nL cb sb o) (RL : gy_Rl S0 b Lx xs D cA ad opq s nL cb sb L w H locs cells slots ls) {j : Fin 4} (hdg : decode (gg_bt k) pc = .ok (.iload_n j, n)) (h : gy_step (gy_ex Lx xs f) Lx xs d k pc L st w (.iload_n j) n = some o) : W p l e R s m args below meth c H locs cells slots Q (F0 m pc ls (st.map (yv S0 b ad opq))) := by
  obtain ⟨⟨hx, hb, hml, hown, hts⟩, hE, hR, hin, hfl, hS0⟩ := id CX
  obtain ⟨hL, hl, hH, hS, hc, hs⟩ := id RL
  obtain ⟨rfl, h_1⟩ := gq_ok h
  obtain ⟨x, hi, h_2⟩ := gld_ok h_1
  exact lv_iload_n (x := gg_i x) hx hb hdg rfl (gg_has_at hl hi (by simp)) (IH _ _ _ _ _ _ _ _ _ h_2 RL)

theorem gs_iload (IH : gy_Wk l S0 b Lx xs D cA ad opq p e R s m args below meth c Q k d nL cb sb o f) (CX : gy_CX l S0 b Lx xs D cA ad opq p R s m args meth c k d nL cb sb o) (RL : gy_Rl S0 b Lx xs D cA ad opq s nL cb sb L w H locs cells slots ls) {j : Nat} (hdg : decode (gg_bt k) pc = .ok (.iload j, n)) (h : gy_step (gy_ex Lx xs f) Lx xs d k pc L st w (.iload j) n = some o) : W p l e R s m args below meth c H locs cells slots Q (F0 m pc ls (st.map (yv S0 b ad opq))) := by
  obtain ⟨⟨hx, hb, hml, hown, hts⟩, hE, hR, hin, hfl, hS0⟩ := id CX
  obtain ⟨hL, hl, hH, hS, hc, hs⟩ := id RL
  obtain ⟨rfl, h_1⟩ := gq_ok h
  obtain ⟨x, hi, h_2⟩ := gld_ok h_1
  exact lv_iload (x := gg_i x) hx hb hdg (gg_has_at hl hi (by simp)) (IH _ _ _ _ _ _ _ _ _ h_2 RL)

theorem gs_lload_n (IH : gy_Wk l S0 b Lx xs D cA ad opq p e R s m args below meth c Q k d nL cb sb o f) (CX : gy_CX l S0 b Lx xs D cA ad opq p R s m args meth c k d nL cb sb o) (RL : gy_Rl S0 b Lx xs D cA ad opq s nL cb sb L w H locs cells slots ls) {j : Fin 4} (hdg : decode (gg_bt k) pc = .ok (.lload_n j, n)) (h : gy_step (gy_ex Lx xs f) Lx xs d k pc L st w (.lload_n j) n = some o) : W p l e R s m args below meth c H locs cells slots Q (F0 m pc ls (st.map (yv S0 b ad opq))) := by
  obtain ⟨⟨hx, hb, hml, hown, hts⟩, hE, hR, hin, hfl, hS0⟩ := id CX
  obtain ⟨hL, hl, hH, hS, hc, hs⟩ := id RL
  obtain ⟨rfl, h_1⟩ := gq_ok h
  obtain ⟨x, hi, h_2⟩ := gld_ok h_1
  exact lv_lload_n (x := gg_l x) hx hb hdg rfl (gg_has_at hl hi (by simp)) (IH _ _ _ _ _ _ _ _ _ h_2 RL)

theorem gs_lload (IH : gy_Wk l S0 b Lx xs D cA ad opq p e R s m args below meth c Q k d nL cb sb o f) (CX : gy_CX l S0 b Lx xs D cA ad opq p R s m args meth c k d nL cb sb o) (RL : gy_Rl S0 b Lx xs D cA ad opq s nL cb sb L w H locs cells slots ls) {j : Nat} (hdg : decode (gg_bt k) pc = .ok (.lload j, n)) (h : gy_step (gy_ex Lx xs f) Lx xs d k pc L st w (.lload j) n = some o) : W p l e R s m args below meth c H locs cells slots Q (F0 m pc ls (st.map (yv S0 b ad opq))) := by
  obtain ⟨⟨hx, hb, hml, hown, hts⟩, hE, hR, hin, hfl, hS0⟩ := id CX
  obtain ⟨hL, hl, hH, hS, hc, hs⟩ := id RL
  obtain ⟨rfl, h_1⟩ := gq_ok h
  obtain ⟨x, hi, h_2⟩ := gld_ok h_1
  exact lv_lload (x := gg_l x) hx hb hdg (gg_has_at hl hi (by simp)) (IH _ _ _ _ _ _ _ _ _ h_2 RL)

theorem gs_istore_n (IH : gy_Wk l S0 b Lx xs D cA ad opq p e R s m args below meth c Q k d nL cb sb o f) (CX : gy_CX l S0 b Lx xs D cA ad opq p R s m args meth c k d nL cb sb o) (RL : gy_Rl S0 b Lx xs D cA ad opq s nL cb sb L w H locs cells slots ls) {j : Fin 4} (hdg : decode (gg_bt k) pc = .ok (.istore_n j, n)) (h : gy_step (gy_ex Lx xs f) Lx xs d k pc L st w (.istore_n j) n = some o) : W p l e R s m args below meth c H locs cells slots Q (F0 m pc ls (st.map (yv S0 b ad opq))) := by
  obtain ⟨⟨hx, hb, hml, hown, hts⟩, hE, hR, hin, hfl, hS0⟩ := id CX
  obtain ⟨hL, hl, hH, hS, hc, hs⟩ := id RL
  obtain ⟨rfl, h_1⟩ := gq_ok h
  obtain ⟨x, r, rfl, h_2⟩ := gpI_ok h_1
  obtain ⟨hj, h_3⟩ := gif_ok h_2
  exact lv_istore_n (x := gg_i x) hx hb hdg rfl hl (by omega) rfl fun ls' hl' => IH _ _ _ _ _ _ _ _ _ h_3 ⟨(gg_s1_len _ _ _).trans hL, gg_has_s1 (x := (0, x)) (yv_cat2 hE.2.2.2.2.2.2.1) hj hl', hH, hS, hc, hs⟩

theorem gs_istore (IH : gy_Wk l S0 b Lx xs D cA ad opq p e R s m args below meth c Q k d nL cb sb o f) (CX : gy_CX l S0 b Lx xs D cA ad opq p R s m args meth c k d nL cb sb o) (RL : gy_Rl S0 b Lx xs D cA ad opq s nL cb sb L w H locs cells slots ls) {j : Nat} (hdg : decode (gg_bt k) pc = .ok (.istore j, n)) (h : gy_step (gy_ex Lx xs f) Lx xs d k pc L st w (.istore j) n = some o) : W p l e R s m args below meth c H locs cells slots Q (F0 m pc ls (st.map (yv S0 b ad opq))) := by
  obtain ⟨⟨hx, hb, hml, hown, hts⟩, hE, hR, hin, hfl, hS0⟩ := id CX
  obtain ⟨hL, hl, hH, hS, hc, hs⟩ := id RL
  obtain ⟨rfl, h_1⟩ := gq_ok h
  obtain ⟨x, r, rfl, h_2⟩ := gpI_ok h_1
  obtain ⟨hj, h_3⟩ := gif_ok h_2
  exact lv_istore (x := gg_i x) hx hb hdg hl (by omega) rfl fun ls' hl' => IH _ _ _ _ _ _ _ _ _ h_3 ⟨(gg_s1_len _ _ _).trans hL, gg_has_s1 (x := (0, x)) (yv_cat2 hE.2.2.2.2.2.2.1) hj hl', hH, hS, hc, hs⟩

theorem gs_lstore_n (IH : gy_Wk l S0 b Lx xs D cA ad opq p e R s m args below meth c Q k d nL cb sb o f) (CX : gy_CX l S0 b Lx xs D cA ad opq p R s m args meth c k d nL cb sb o) (RL : gy_Rl S0 b Lx xs D cA ad opq s nL cb sb L w H locs cells slots ls) {j : Fin 4} (hdg : decode (gg_bt k) pc = .ok (.lstore_n j, n)) (h : gy_step (gy_ex Lx xs f) Lx xs d k pc L st w (.lstore_n j) n = some o) : W p l e R s m args below meth c H locs cells slots Q (F0 m pc ls (st.map (yv S0 b ad opq))) := by
  obtain ⟨⟨hx, hb, hml, hown, hts⟩, hE, hR, hin, hfl, hS0⟩ := id CX
  obtain ⟨hL, hl, hH, hS, hc, hs⟩ := id RL
  obtain ⟨rfl, h_1⟩ := gq_ok h
  obtain ⟨x, r, rfl, h_2⟩ := gpL_ok h_1
  obtain ⟨hj, h_3⟩ := gif_ok h_2
  exact lv_lstore_n (x := gg_l x) hx hb hdg rfl hl (by omega) rfl fun ls' hl' => IH _ _ _ _ _ _ _ _ _ h_3 ⟨(gg_s2_len _ _ _).trans hL, gg_has_s2 (x := (1, x)) (yv_cat2 hE.2.2.2.2.2.2.1) hj hl', hH, hS, hc, hs⟩

theorem gs_lstore (IH : gy_Wk l S0 b Lx xs D cA ad opq p e R s m args below meth c Q k d nL cb sb o f) (CX : gy_CX l S0 b Lx xs D cA ad opq p R s m args meth c k d nL cb sb o) (RL : gy_Rl S0 b Lx xs D cA ad opq s nL cb sb L w H locs cells slots ls) {j : Nat} (hdg : decode (gg_bt k) pc = .ok (.lstore j, n)) (h : gy_step (gy_ex Lx xs f) Lx xs d k pc L st w (.lstore j) n = some o) : W p l e R s m args below meth c H locs cells slots Q (F0 m pc ls (st.map (yv S0 b ad opq))) := by
  obtain ⟨⟨hx, hb, hml, hown, hts⟩, hE, hR, hin, hfl, hS0⟩ := id CX
  obtain ⟨hL, hl, hH, hS, hc, hs⟩ := id RL
  obtain ⟨rfl, h_1⟩ := gq_ok h
  obtain ⟨x, r, rfl, h_2⟩ := gpL_ok h_1
  obtain ⟨hj, h_3⟩ := gif_ok h_2
  exact lv_lstore (x := gg_l x) hx hb hdg hl (by omega) rfl fun ls' hl' => IH _ _ _ _ _ _ _ _ _ h_3 ⟨(gg_s2_len _ _ _).trans hL, gg_has_s2 (x := (1, x)) (yv_cat2 hE.2.2.2.2.2.2.1) hj hl', hH, hS, hc, hs⟩

theorem gs_iinc (IH : gy_Wk l S0 b Lx xs D cA ad opq p e R s m args below meth c Q k d nL cb sb o f) (CX : gy_CX l S0 b Lx xs D cA ad opq p R s m args meth c k d nL cb sb o) (RL : gy_Rl S0 b Lx xs D cA ad opq s nL cb sb L w H locs cells slots ls) {j : Nat} {v : Int} (hdg : decode (gg_bt k) pc = .ok (.iinc j v, n)) (h : gy_step (gy_ex Lx xs f) Lx xs d k pc L st w (.iinc j v) n = some o) : W p l e R s m args below meth c H locs cells slots Q (F0 m pc ls (st.map (yv S0 b ad opq))) := by
  obtain ⟨⟨hx, hb, hml, hown, hts⟩, hE, hR, hin, hfl, hS0⟩ := id CX
  obtain ⟨hL, hl, hH, hS, hc, hs⟩ := id RL
  obtain ⟨rfl, h_1⟩ := gq_ok h
  obtain ⟨x, hi, h_2⟩ := gld_ok h_1
  obtain ⟨hj, h_3⟩ := gif_ok h_2
  have hm : (j, Value.int (gg_i x)) ∈ gg_lo (yv S0 b ad opq) 0 L := (gg_lo_mem _ L 0 _).mpr ⟨j, (0, x), hi, by simp, by simp [yv]⟩
  obtain ⟨q, hq⟩ := List.getElem?_of_mem hm
  refine lv_iinc (x := gg_i x) (v := gg_i (io_add x v)) hx hb hdg hl hq (by rw [show gg_i (io_add x v) = gg_i x + gg_i v from gi_of _]; rfl) (by omega) rfl fun ls' hl' => IH _ _ _ _ _ _ _ _ _ h_3 ⟨(gg_s1_len _ _ _).trans hL, gg_has_s1 (x := (0, io_add x v)) (yv_cat2 hE.2.2.2.2.2.2.1) hj hl', hH, hS, hc, hs⟩

theorem gs_iadd (IH : gy_Wk l S0 b Lx xs D cA ad opq p e R s m args below meth c Q k d nL cb sb o f) (CX : gy_CX l S0 b Lx xs D cA ad opq p R s m args meth c k d nL cb sb o) (RL : gy_Rl S0 b Lx xs D cA ad opq s nL cb sb L w H locs cells slots ls) (hdg : decode (gg_bt k) pc = .ok (.iadd, n)) (h : gy_step (gy_ex Lx xs f) Lx xs d k pc L st w (.iadd) n = some o) : W p l e R s m args below meth c H locs cells slots Q (F0 m pc ls (st.map (yv S0 b ad opq))) := by
  obtain ⟨⟨hx, hb, hml, hown, hts⟩, hE, hR, hin, hfl, hS0⟩ := id CX
  obtain ⟨hL, hl, hH, hS, hc, hs⟩ := id RL
  obtain ⟨rfl, h_1⟩ := gq_ok h
  obtain ⟨x, y, r, rfl, h_2⟩ := gbI_ok h_1
  refine lv_iadd (x := gg_i x) (y := gg_i y) hx hb hdg ?_
  have kk := IH _ _ _ _ _ _ _ _ _ h_2 RL
  rw [List.map_cons, show yv S0 b ad opq (0, io_add x y) = .int (gg_i x + gg_i y) from congrArg Value.int (gi_of _)] at kk
  exact kk

theorem gs_isub (IH : gy_Wk l S0 b Lx xs D cA ad opq p e R s m args below meth c Q k d nL cb sb o f) (CX : gy_CX l S0 b Lx xs D cA ad opq p R s m args meth c k d nL cb sb o) (RL : gy_Rl S0 b Lx xs D cA ad opq s nL cb sb L w H locs cells slots ls) (hdg : decode (gg_bt k) pc = .ok (.isub, n)) (h : gy_step (gy_ex Lx xs f) Lx xs d k pc L st w (.isub) n = some o) : W p l e R s m args below meth c H locs cells slots Q (F0 m pc ls (st.map (yv S0 b ad opq))) := by
  obtain ⟨⟨hx, hb, hml, hown, hts⟩, hE, hR, hin, hfl, hS0⟩ := id CX
  obtain ⟨hL, hl, hH, hS, hc, hs⟩ := id RL
  obtain ⟨rfl, h_1⟩ := gq_ok h
  obtain ⟨x, y, r, rfl, h_2⟩ := gbI_ok h_1
  refine lv_isub (x := gg_i x) (y := gg_i y) hx hb hdg ?_
  have kk := IH _ _ _ _ _ _ _ _ _ h_2 RL
  rw [List.map_cons, show yv S0 b ad opq (0, io_sub x y) = .int (gg_i x - gg_i y) from congrArg Value.int (gi_of _)] at kk
  exact kk

theorem gs_imul (IH : gy_Wk l S0 b Lx xs D cA ad opq p e R s m args below meth c Q k d nL cb sb o f) (CX : gy_CX l S0 b Lx xs D cA ad opq p R s m args meth c k d nL cb sb o) (RL : gy_Rl S0 b Lx xs D cA ad opq s nL cb sb L w H locs cells slots ls) (hdg : decode (gg_bt k) pc = .ok (.imul, n)) (h : gy_step (gy_ex Lx xs f) Lx xs d k pc L st w (.imul) n = some o) : W p l e R s m args below meth c H locs cells slots Q (F0 m pc ls (st.map (yv S0 b ad opq))) := by
  obtain ⟨⟨hx, hb, hml, hown, hts⟩, hE, hR, hin, hfl, hS0⟩ := id CX
  obtain ⟨hL, hl, hH, hS, hc, hs⟩ := id RL
  obtain ⟨rfl, h_1⟩ := gq_ok h
  obtain ⟨x, y, r, rfl, h_2⟩ := gbI_ok h_1
  refine lv_imul (x := gg_i x) (y := gg_i y) hx hb hdg ?_
  have kk := IH _ _ _ _ _ _ _ _ _ h_2 RL
  rw [List.map_cons, show yv S0 b ad opq (0, io_mul x y) = .int (gg_i x * gg_i y) from congrArg Value.int (gi_of _)] at kk
  exact kk

theorem gs_iand (IH : gy_Wk l S0 b Lx xs D cA ad opq p e R s m args below meth c Q k d nL cb sb o f) (CX : gy_CX l S0 b Lx xs D cA ad opq p R s m args meth c k d nL cb sb o) (RL : gy_Rl S0 b Lx xs D cA ad opq s nL cb sb L w H locs cells slots ls) (hdg : decode (gg_bt k) pc = .ok (.iand, n)) (h : gy_step (gy_ex Lx xs f) Lx xs d k pc L st w (.iand) n = some o) : W p l e R s m args below meth c H locs cells slots Q (F0 m pc ls (st.map (yv S0 b ad opq))) := by
  obtain ⟨⟨hx, hb, hml, hown, hts⟩, hE, hR, hin, hfl, hS0⟩ := id CX
  obtain ⟨hL, hl, hH, hS, hc, hs⟩ := id RL
  obtain ⟨rfl, h_1⟩ := gq_ok h
  obtain ⟨x, y, r, rfl, h_2⟩ := gbI_ok h_1
  refine lv_iand (x := gg_i x) (y := gg_i y) hx hb hdg ?_
  have kk := IH _ _ _ _ _ _ _ _ _ h_2 RL
  rw [List.map_cons, show yv S0 b ad opq (0, io_and x y) = .int (gg_i x &&& gg_i y) from congrArg Value.int (gi_of _)] at kk
  exact kk

theorem gs_ior (IH : gy_Wk l S0 b Lx xs D cA ad opq p e R s m args below meth c Q k d nL cb sb o f) (CX : gy_CX l S0 b Lx xs D cA ad opq p R s m args meth c k d nL cb sb o) (RL : gy_Rl S0 b Lx xs D cA ad opq s nL cb sb L w H locs cells slots ls) (hdg : decode (gg_bt k) pc = .ok (.ior, n)) (h : gy_step (gy_ex Lx xs f) Lx xs d k pc L st w (.ior) n = some o) : W p l e R s m args below meth c H locs cells slots Q (F0 m pc ls (st.map (yv S0 b ad opq))) := by
  obtain ⟨⟨hx, hb, hml, hown, hts⟩, hE, hR, hin, hfl, hS0⟩ := id CX
  obtain ⟨hL, hl, hH, hS, hc, hs⟩ := id RL
  obtain ⟨rfl, h_1⟩ := gq_ok h
  obtain ⟨x, y, r, rfl, h_2⟩ := gbI_ok h_1
  refine lv_ior (x := gg_i x) (y := gg_i y) hx hb hdg ?_
  have kk := IH _ _ _ _ _ _ _ _ _ h_2 RL
  rw [List.map_cons, show yv S0 b ad opq (0, io_or x y) = .int (gg_i x ||| gg_i y) from congrArg Value.int (gi_of _)] at kk
  exact kk

theorem gs_ixor (IH : gy_Wk l S0 b Lx xs D cA ad opq p e R s m args below meth c Q k d nL cb sb o f) (CX : gy_CX l S0 b Lx xs D cA ad opq p R s m args meth c k d nL cb sb o) (RL : gy_Rl S0 b Lx xs D cA ad opq s nL cb sb L w H locs cells slots ls) (hdg : decode (gg_bt k) pc = .ok (.ixor, n)) (h : gy_step (gy_ex Lx xs f) Lx xs d k pc L st w (.ixor) n = some o) : W p l e R s m args below meth c H locs cells slots Q (F0 m pc ls (st.map (yv S0 b ad opq))) := by
  obtain ⟨⟨hx, hb, hml, hown, hts⟩, hE, hR, hin, hfl, hS0⟩ := id CX
  obtain ⟨hL, hl, hH, hS, hc, hs⟩ := id RL
  obtain ⟨rfl, h_1⟩ := gq_ok h
  obtain ⟨x, y, r, rfl, h_2⟩ := gbI_ok h_1
  refine lv_ixor (x := gg_i x) (y := gg_i y) hx hb hdg ?_
  have kk := IH _ _ _ _ _ _ _ _ _ h_2 RL
  rw [List.map_cons, show yv S0 b ad opq (0, io_xor x y) = .int (gg_i x ^^^ gg_i y) from congrArg Value.int (gi_of _)] at kk
  exact kk

theorem gs_ishl (IH : gy_Wk l S0 b Lx xs D cA ad opq p e R s m args below meth c Q k d nL cb sb o f) (CX : gy_CX l S0 b Lx xs D cA ad opq p R s m args meth c k d nL cb sb o) (RL : gy_Rl S0 b Lx xs D cA ad opq s nL cb sb L w H locs cells slots ls) (hdg : decode (gg_bt k) pc = .ok (.ishl, n)) (h : gy_step (gy_ex Lx xs f) Lx xs d k pc L st w (.ishl) n = some o) : W p l e R s m args below meth c H locs cells slots Q (F0 m pc ls (st.map (yv S0 b ad opq))) := by
  obtain ⟨⟨hx, hb, hml, hown, hts⟩, hE, hR, hin, hfl, hS0⟩ := id CX
  obtain ⟨hL, hl, hH, hS, hc, hs⟩ := id RL
  obtain ⟨rfl, h_1⟩ := gq_ok h
  obtain ⟨x, y, r, rfl, h_2⟩ := gbI_ok h_1
  refine lv_ishl (x := gg_i x) (y := gg_i y) hx hb hdg ?_
  have kk := IH _ _ _ _ _ _ _ _ _ h_2 RL
  rw [List.map_cons, show yv S0 b ad opq (0, io_shl x y) = .int (gg_i x <<< (gg_i y &&& 31)) from congrArg Value.int (gi_of _)] at kk
  exact kk

theorem gs_ishr (IH : gy_Wk l S0 b Lx xs D cA ad opq p e R s m args below meth c Q k d nL cb sb o f) (CX : gy_CX l S0 b Lx xs D cA ad opq p R s m args meth c k d nL cb sb o) (RL : gy_Rl S0 b Lx xs D cA ad opq s nL cb sb L w H locs cells slots ls) (hdg : decode (gg_bt k) pc = .ok (.ishr, n)) (h : gy_step (gy_ex Lx xs f) Lx xs d k pc L st w (.ishr) n = some o) : W p l e R s m args below meth c H locs cells slots Q (F0 m pc ls (st.map (yv S0 b ad opq))) := by
  obtain ⟨⟨hx, hb, hml, hown, hts⟩, hE, hR, hin, hfl, hS0⟩ := id CX
  obtain ⟨hL, hl, hH, hS, hc, hs⟩ := id RL
  obtain ⟨rfl, h_1⟩ := gq_ok h
  obtain ⟨x, y, r, rfl, h_2⟩ := gbI_ok h_1
  refine lv_ishr (x := gg_i x) (y := gg_i y) hx hb hdg ?_
  have kk := IH _ _ _ _ _ _ _ _ _ h_2 RL
  rw [List.map_cons, show yv S0 b ad opq (0, io_shr x y) = .int (gg_i x >>> (gg_i y &&& 31)) from congrArg Value.int (gi_of _)] at kk
  exact kk

theorem gs_iushr (IH : gy_Wk l S0 b Lx xs D cA ad opq p e R s m args below meth c Q k d nL cb sb o f) (CX : gy_CX l S0 b Lx xs D cA ad opq p R s m args meth c k d nL cb sb o) (RL : gy_Rl S0 b Lx xs D cA ad opq s nL cb sb L w H locs cells slots ls) (hdg : decode (gg_bt k) pc = .ok (.iushr, n)) (h : gy_step (gy_ex Lx xs f) Lx xs d k pc L st w (.iushr) n = some o) : W p l e R s m args below meth c H locs cells slots Q (F0 m pc ls (st.map (yv S0 b ad opq))) := by
  obtain ⟨⟨hx, hb, hml, hown, hts⟩, hE, hR, hin, hfl, hS0⟩ := id CX
  obtain ⟨hL, hl, hH, hS, hc, hs⟩ := id RL
  obtain ⟨rfl, h_1⟩ := gq_ok h
  obtain ⟨x, y, r, rfl, h_2⟩ := gbI_ok h_1
  refine lv_iushr (x := gg_i x) (y := gg_i y) hx hb hdg rfl ?_
  have kk := IH _ _ _ _ _ _ _ _ _ h_2 RL
  rw [List.map_cons, show yv S0 b ad opq (0, io_ushr x y) = .int (((gg_i x).toUInt32 >>> ((gg_i y).toUInt32 &&& Int32.toUInt32 31)).toInt32) from congrArg Value.int (gi_of _)] at kk
  exact kk

theorem gs_idiv (IH : gy_Wk l S0 b Lx xs D cA ad opq p e R s m args below meth c Q k d nL cb sb o f) (CX : gy_CX l S0 b Lx xs D cA ad opq p R s m args meth c k d nL cb sb o) (RL : gy_Rl S0 b Lx xs D cA ad opq s nL cb sb L w H locs cells slots ls) (hdg : decode (gg_bt k) pc = .ok (.idiv, n)) (h : gy_step (gy_ex Lx xs f) Lx xs d k pc L st w (.idiv) n = some o) : W p l e R s m args below meth c H locs cells slots Q (F0 m pc ls (st.map (yv S0 b ad opq))) := by
  obtain ⟨⟨hx, hb, hml, hown, hts⟩, hE, hR, hin, hfl, hS0⟩ := id CX
  obtain ⟨hL, hl, hH, hS, hc, hs⟩ := id RL
  obtain ⟨rfl, h_1⟩ := gq_ok h
  obtain ⟨y, r1, rfl, h_2⟩ := gpI_ok h_1
  obtain ⟨x, r, rfl, h_3⟩ := gpI_ok h_2
  split at h_3
  · cases h_3
  rename_i hne
  refine lv_idiv (x := gg_i x) (y := gg_i y) hx hb hdg hne ?_
  have kk := IH _ _ _ _ _ _ _ _ _ h_3 RL
  rw [List.map_cons, show yv S0 b ad opq (0, io_div x y) = .int (gg_i x / gg_i y) from congrArg Value.int (gi_of _)] at kk
  exact kk

theorem gs_irem (IH : gy_Wk l S0 b Lx xs D cA ad opq p e R s m args below meth c Q k d nL cb sb o f) (CX : gy_CX l S0 b Lx xs D cA ad opq p R s m args meth c k d nL cb sb o) (RL : gy_Rl S0 b Lx xs D cA ad opq s nL cb sb L w H locs cells slots ls) (hdg : decode (gg_bt k) pc = .ok (.irem, n)) (h : gy_step (gy_ex Lx xs f) Lx xs d k pc L st w (.irem) n = some o) : W p l e R s m args below meth c H locs cells slots Q (F0 m pc ls (st.map (yv S0 b ad opq))) := by
  obtain ⟨⟨hx, hb, hml, hown, hts⟩, hE, hR, hin, hfl, hS0⟩ := id CX
  obtain ⟨hL, hl, hH, hS, hc, hs⟩ := id RL
  obtain ⟨rfl, h_1⟩ := gq_ok h
  obtain ⟨y, r1, rfl, h_2⟩ := gpI_ok h_1
  obtain ⟨x, r, rfl, h_3⟩ := gpI_ok h_2
  split at h_3
  · cases h_3
  rename_i hne
  refine lv_irem (x := gg_i x) (y := gg_i y) hx hb hdg hne ?_
  have kk := IH _ _ _ _ _ _ _ _ _ h_3 RL
  rw [List.map_cons, show yv S0 b ad opq (0, io_rem x y) = .int (gg_i x - gg_i x / gg_i y * gg_i y) from congrArg Value.int (gi_of _)] at kk
  exact kk

theorem gs_ineg (IH : gy_Wk l S0 b Lx xs D cA ad opq p e R s m args below meth c Q k d nL cb sb o f) (CX : gy_CX l S0 b Lx xs D cA ad opq p R s m args meth c k d nL cb sb o) (RL : gy_Rl S0 b Lx xs D cA ad opq s nL cb sb L w H locs cells slots ls) (hdg : decode (gg_bt k) pc = .ok (.ineg, n)) (h : gy_step (gy_ex Lx xs f) Lx xs d k pc L st w (.ineg) n = some o) : W p l e R s m args below meth c H locs cells slots Q (F0 m pc ls (st.map (yv S0 b ad opq))) := by
  obtain ⟨⟨hx, hb, hml, hown, hts⟩, hE, hR, hin, hfl, hS0⟩ := id CX
  obtain ⟨hL, hl, hH, hS, hc, hs⟩ := id RL
  obtain ⟨rfl, h_1⟩ := gq_ok h
  obtain ⟨x, r, rfl, h_2⟩ := guI_ok h_1
  refine lv_ineg (x := gg_i x) hx hb hdg ?_
  have kk := IH _ _ _ _ _ _ _ _ _ h_2 RL
  rw [List.map_cons, show yv S0 b ad opq (0, io_neg x) = .int (-gg_i x) from congrArg Value.int (gi_of _)] at kk
  exact kk

theorem gs_i2b (IH : gy_Wk l S0 b Lx xs D cA ad opq p e R s m args below meth c Q k d nL cb sb o f) (CX : gy_CX l S0 b Lx xs D cA ad opq p R s m args meth c k d nL cb sb o) (RL : gy_Rl S0 b Lx xs D cA ad opq s nL cb sb L w H locs cells slots ls) (hdg : decode (gg_bt k) pc = .ok (.i2b, n)) (h : gy_step (gy_ex Lx xs f) Lx xs d k pc L st w (.i2b) n = some o) : W p l e R s m args below meth c H locs cells slots Q (F0 m pc ls (st.map (yv S0 b ad opq))) := by
  obtain ⟨⟨hx, hb, hml, hown, hts⟩, hE, hR, hin, hfl, hS0⟩ := id CX
  obtain ⟨hL, hl, hH, hS, hc, hs⟩ := id RL
  obtain ⟨rfl, h_1⟩ := gq_ok h
  obtain ⟨x, r, rfl, h_2⟩ := guI_ok h_1
  refine lv_i2b (x := gg_i x) hx hb hdg rfl ?_
  have kk := IH _ _ _ _ _ _ _ _ _ h_2 RL
  rw [List.map_cons, show yv S0 b ad opq (0, io_i2b x) = .int ((gg_i x).toInt8.toInt32) from congrArg Value.int (gi_of _)] at kk
  exact kk

theorem gs_i2c (IH : gy_Wk l S0 b Lx xs D cA ad opq p e R s m args below meth c Q k d nL cb sb o f) (CX : gy_CX l S0 b Lx xs D cA ad opq p R s m args meth c k d nL cb sb o) (RL : gy_Rl S0 b Lx xs D cA ad opq s nL cb sb L w H locs cells slots ls) (hdg : decode (gg_bt k) pc = .ok (.i2c, n)) (h : gy_step (gy_ex Lx xs f) Lx xs d k pc L st w (.i2c) n = some o) : W p l e R s m args below meth c H locs cells slots Q (F0 m pc ls (st.map (yv S0 b ad opq))) := by
  obtain ⟨⟨hx, hb, hml, hown, hts⟩, hE, hR, hin, hfl, hS0⟩ := id CX
  obtain ⟨hL, hl, hH, hS, hc, hs⟩ := id RL
  obtain ⟨rfl, h_1⟩ := gq_ok h
  obtain ⟨x, r, rfl, h_2⟩ := guI_ok h_1
  refine lv_i2c (x := gg_i x) hx hb hdg rfl ?_
  have kk := IH _ _ _ _ _ _ _ _ _ h_2 RL
  rw [List.map_cons, show yv S0 b ad opq (0, io_i2c x) = .int (((gg_i x).toUInt32 % 65536).toInt32) from congrArg Value.int (gi_of _)] at kk
  exact kk

theorem gs_i2l (IH : gy_Wk l S0 b Lx xs D cA ad opq p e R s m args below meth c Q k d nL cb sb o f) (CX : gy_CX l S0 b Lx xs D cA ad opq p R s m args meth c k d nL cb sb o) (RL : gy_Rl S0 b Lx xs D cA ad opq s nL cb sb L w H locs cells slots ls) (hdg : decode (gg_bt k) pc = .ok (.i2l, n)) (h : gy_step (gy_ex Lx xs f) Lx xs d k pc L st w (.i2l) n = some o) : W p l e R s m args below meth c H locs cells slots Q (F0 m pc ls (st.map (yv S0 b ad opq))) := by
  obtain ⟨⟨hx, hb, hml, hown, hts⟩, hE, hR, hin, hfl, hS0⟩ := id CX
  obtain ⟨hL, hl, hH, hS, hc, hs⟩ := id RL
  obtain ⟨rfl, h_1⟩ := gq_ok h
  obtain ⟨x, r, rfl, h_2⟩ := gpI_ok h_1
  refine lv_i2l (x := gg_i x) hx hb hdg rfl ?_
  have kk := IH _ _ _ _ _ _ _ _ _ h_2 RL
  rw [List.map_cons, show yv S0 b ad opq (1, io_i2l x) = .long ((gg_i x).toInt64) from congrArg Value.long (gl_of _)] at kk
  exact kk

theorem gs_l2i (IH : gy_Wk l S0 b Lx xs D cA ad opq p e R s m args below meth c Q k d nL cb sb o f) (CX : gy_CX l S0 b Lx xs D cA ad opq p R s m args meth c k d nL cb sb o) (RL : gy_Rl S0 b Lx xs D cA ad opq s nL cb sb L w H locs cells slots ls) (hdg : decode (gg_bt k) pc = .ok (.l2i, n)) (h : gy_step (gy_ex Lx xs f) Lx xs d k pc L st w (.l2i) n = some o) : W p l e R s m args below meth c H locs cells slots Q (F0 m pc ls (st.map (yv S0 b ad opq))) := by
  obtain ⟨⟨hx, hb, hml, hown, hts⟩, hE, hR, hin, hfl, hS0⟩ := id CX
  obtain ⟨hL, hl, hH, hS, hc, hs⟩ := id RL
  obtain ⟨rfl, h_1⟩ := gq_ok h
  obtain ⟨x, r, rfl, h_2⟩ := gpL_ok h_1
  refine lv_l2i (x := gg_l x) hx hb hdg rfl ?_
  have kk := IH _ _ _ _ _ _ _ _ _ h_2 RL
  rw [List.map_cons, show yv S0 b ad opq (0, io_l2i x) = .int ((gg_l x).toInt32) from congrArg Value.int (gi_of _)] at kk
  exact kk

theorem gs_ladd (IH : gy_Wk l S0 b Lx xs D cA ad opq p e R s m args below meth c Q k d nL cb sb o f) (CX : gy_CX l S0 b Lx xs D cA ad opq p R s m args meth c k d nL cb sb o) (RL : gy_Rl S0 b Lx xs D cA ad opq s nL cb sb L w H locs cells slots ls) (hdg : decode (gg_bt k) pc = .ok (.ladd, n)) (h : gy_step (gy_ex Lx xs f) Lx xs d k pc L st w (.ladd) n = some o) : W p l e R s m args below meth c H locs cells slots Q (F0 m pc ls (st.map (yv S0 b ad opq))) := by
  obtain ⟨⟨hx, hb, hml, hown, hts⟩, hE, hR, hin, hfl, hS0⟩ := id CX
  obtain ⟨hL, hl, hH, hS, hc, hs⟩ := id RL
  obtain ⟨rfl, h_1⟩ := gq_ok h
  obtain ⟨x, y, r, rfl, h_2⟩ := gbL_ok h_1
  refine lv_ladd (x := gg_l x) (y := gg_l y) hx hb hdg ?_
  have kk := IH _ _ _ _ _ _ _ _ _ h_2 RL
  rw [List.map_cons, show yv S0 b ad opq (1, il_add x y) = .long (gg_l x + gg_l y) from congrArg Value.long (gl_of _)] at kk
  exact kk

theorem gs_lsub (IH : gy_Wk l S0 b Lx xs D cA ad opq p e R s m args below meth c Q k d nL cb sb o f) (CX : gy_CX l S0 b Lx xs D cA ad opq p R s m args meth c k d nL cb sb o) (RL : gy_Rl S0 b Lx xs D cA ad opq s nL cb sb L w H locs cells slots ls) (hdg : decode (gg_bt k) pc = .ok (.lsub, n)) (h : gy_step (gy_ex Lx xs f) Lx xs d k pc L st w (.lsub) n = some o) : W p l e R s m args below meth c H locs cells slots Q (F0 m pc ls (st.map (yv S0 b ad opq))) := by
  obtain ⟨⟨hx, hb, hml, hown, hts⟩, hE, hR, hin, hfl, hS0⟩ := id CX
  obtain ⟨hL, hl, hH, hS, hc, hs⟩ := id RL
  obtain ⟨rfl, h_1⟩ := gq_ok h
  obtain ⟨x, y, r, rfl, h_2⟩ := gbL_ok h_1
  refine lv_lsub (x := gg_l x) (y := gg_l y) hx hb hdg ?_
  have kk := IH _ _ _ _ _ _ _ _ _ h_2 RL
  rw [List.map_cons, show yv S0 b ad opq (1, il_sub x y) = .long (gg_l x - gg_l y) from congrArg Value.long (gl_of _)] at kk
  exact kk

theorem gs_lmul (IH : gy_Wk l S0 b Lx xs D cA ad opq p e R s m args below meth c Q k d nL cb sb o f) (CX : gy_CX l S0 b Lx xs D cA ad opq p R s m args meth c k d nL cb sb o) (RL : gy_Rl S0 b Lx xs D cA ad opq s nL cb sb L w H locs cells slots ls) (hdg : decode (gg_bt k) pc = .ok (.lmul, n)) (h : gy_step (gy_ex Lx xs f) Lx xs d k pc L st w (.lmul) n = some o) : W p l e R s m args below meth c H locs cells slots Q (F0 m pc ls (st.map (yv S0 b ad opq))) := by
  obtain ⟨⟨hx, hb, hml, hown, hts⟩, hE, hR, hin, hfl, hS0⟩ := id CX
  obtain ⟨hL, hl, hH, hS, hc, hs⟩ := id RL
  obtain ⟨rfl, h_1⟩ := gq_ok h
  obtain ⟨x, y, r, rfl, h_2⟩ := gbL_ok h_1
  refine lv_lmul (x := gg_l x) (y := gg_l y) hx hb hdg ?_
  have kk := IH _ _ _ _ _ _ _ _ _ h_2 RL
  rw [List.map_cons, show yv S0 b ad opq (1, il_mul x y) = .long (gg_l x * gg_l y) from congrArg Value.long (gl_of _)] at kk
  exact kk

theorem gs_land (IH : gy_Wk l S0 b Lx xs D cA ad opq p e R s m args below meth c Q k d nL cb sb o f) (CX : gy_CX l S0 b Lx xs D cA ad opq p R s m args meth c k d nL cb sb o) (RL : gy_Rl S0 b Lx xs D cA ad opq s nL cb sb L w H locs cells slots ls) (hdg : decode (gg_bt k) pc = .ok (.land, n)) (h : gy_step (gy_ex Lx xs f) Lx xs d k pc L st w (.land) n = some o) : W p l e R s m args below meth c H locs cells slots Q (F0 m pc ls (st.map (yv S0 b ad opq))) := by
  obtain ⟨⟨hx, hb, hml, hown, hts⟩, hE, hR, hin, hfl, hS0⟩ := id CX
  obtain ⟨hL, hl, hH, hS, hc, hs⟩ := id RL
  obtain ⟨rfl, h_1⟩ := gq_ok h
  obtain ⟨x, y, r, rfl, h_2⟩ := gbL_ok h_1
  refine lv_land (x := gg_l x) (y := gg_l y) hx hb hdg ?_
  have kk := IH _ _ _ _ _ _ _ _ _ h_2 RL
  rw [List.map_cons, show yv S0 b ad opq (1, il_and x y) = .long (gg_l x &&& gg_l y) from congrArg Value.long (gl_of _)] at kk
  exact kk

theorem gs_lor (IH : gy_Wk l S0 b Lx xs D cA ad opq p e R s m args below meth c Q k d nL cb sb o f) (CX : gy_CX l S0 b Lx xs D cA ad opq p R s m args meth c k d nL cb sb o) (RL : gy_Rl S0 b Lx xs D cA ad opq s nL cb sb L w H locs cells slots ls) (hdg : decode (gg_bt k) pc = .ok (.lor, n)) (h : gy_step (gy_ex Lx xs f) Lx xs d k pc L st w (.lor) n = some o) : W p l e R s m args below meth c H locs cells slots Q (F0 m pc ls (st.map (yv S0 b ad opq))) := by
  obtain ⟨⟨hx, hb, hml, hown, hts⟩, hE, hR, hin, hfl, hS0⟩ := id CX
  obtain ⟨hL, hl, hH, hS, hc, hs⟩ := id RL
  obtain ⟨rfl, h_1⟩ := gq_ok h
  obtain ⟨x, y, r, rfl, h_2⟩ := gbL_ok h_1
  refine lv_lor (x := gg_l x) (y := gg_l y) hx hb hdg ?_
  have kk := IH _ _ _ _ _ _ _ _ _ h_2 RL
  rw [List.map_cons, show yv S0 b ad opq (1, il_or x y) = .long (gg_l x ||| gg_l y) from congrArg Value.long (gl_of _)] at kk
  exact kk

theorem gs_lxor (IH : gy_Wk l S0 b Lx xs D cA ad opq p e R s m args below meth c Q k d nL cb sb o f) (CX : gy_CX l S0 b Lx xs D cA ad opq p R s m args meth c k d nL cb sb o) (RL : gy_Rl S0 b Lx xs D cA ad opq s nL cb sb L w H locs cells slots ls) (hdg : decode (gg_bt k) pc = .ok (.lxor, n)) (h : gy_step (gy_ex Lx xs f) Lx xs d k pc L st w (.lxor) n = some o) : W p l e R s m args below meth c H locs cells slots Q (F0 m pc ls (st.map (yv S0 b ad opq))) := by
  obtain ⟨⟨hx, hb, hml, hown, hts⟩, hE, hR, hin, hfl, hS0⟩ := id CX
  obtain ⟨hL, hl, hH, hS, hc, hs⟩ := id RL
  obtain ⟨rfl, h_1⟩ := gq_ok h
  obtain ⟨x, y, r, rfl, h_2⟩ := gbL_ok h_1
  refine lv_lxor (x := gg_l x) (y := gg_l y) hx hb hdg ?_
  have kk := IH _ _ _ _ _ _ _ _ _ h_2 RL
  rw [List.map_cons, show yv S0 b ad opq (1, il_xor x y) = .long (gg_l x ^^^ gg_l y) from congrArg Value.long (gl_of _)] at kk
  exact kk

theorem gs_lneg (IH : gy_Wk l S0 b Lx xs D cA ad opq p e R s m args below meth c Q k d nL cb sb o f) (CX : gy_CX l S0 b Lx xs D cA ad opq p R s m args meth c k d nL cb sb o) (RL : gy_Rl S0 b Lx xs D cA ad opq s nL cb sb L w H locs cells slots ls) (hdg : decode (gg_bt k) pc = .ok (.lneg, n)) (h : gy_step (gy_ex Lx xs f) Lx xs d k pc L st w (.lneg) n = some o) : W p l e R s m args below meth c H locs cells slots Q (F0 m pc ls (st.map (yv S0 b ad opq))) := by
  obtain ⟨⟨hx, hb, hml, hown, hts⟩, hE, hR, hin, hfl, hS0⟩ := id CX
  obtain ⟨hL, hl, hH, hS, hc, hs⟩ := id RL
  obtain ⟨rfl, h_1⟩ := gq_ok h
  obtain ⟨x, r, rfl, h_2⟩ := gpL_ok h_1
  refine lv_lneg (x := gg_l x) hx hb hdg ?_
  have kk := IH _ _ _ _ _ _ _ _ _ h_2 RL
  rw [List.map_cons, show yv S0 b ad opq (1, il_neg x) = .long (-gg_l x) from congrArg Value.long (gl_of _)] at kk
  exact kk

theorem gs_lshl (IH : gy_Wk l S0 b Lx xs D cA ad opq p e R s m args below meth c Q k d nL cb sb o f) (CX : gy_CX l S0 b Lx xs D cA ad opq p R s m args meth c k d nL cb sb o) (RL : gy_Rl S0 b Lx xs D cA ad opq s nL cb sb L w H locs cells slots ls) (hdg : decode (gg_bt k) pc = .ok (.lshl, n)) (h : gy_step (gy_ex Lx xs f) Lx xs d k pc L st w (.lshl) n = some o) : W p l e R s m args below meth c H locs cells slots Q (F0 m pc ls (st.map (yv S0 b ad opq))) := by
  obtain ⟨⟨hx, hb, hml, hown, hts⟩, hE, hR, hin, hfl, hS0⟩ := id CX
  obtain ⟨hL, hl, hH, hS, hc, hs⟩ := id RL
  obtain ⟨rfl, h_1⟩ := gq_ok h
  obtain ⟨x, y, r, rfl, h_2⟩ := gsL_ok h_1
  refine lv_lshl (x := gg_l x) (y := gg_i y) hx hb hdg rfl ?_
  have kk := IH _ _ _ _ _ _ _ _ _ h_2 RL
  rw [List.map_cons, show yv S0 b ad opq (1, il_shl x y) = .long (gg_l x <<< ((gg_i y).toInt64 &&& 63)) from congrArg Value.long (gl_of _)] at kk
  exact kk

theorem gs_lshr (IH : gy_Wk l S0 b Lx xs D cA ad opq p e R s m args below meth c Q k d nL cb sb o f) (CX : gy_CX l S0 b Lx xs D cA ad opq p R s m args meth c k d nL cb sb o) (RL : gy_Rl S0 b Lx xs D cA ad opq s nL cb sb L w H locs cells slots ls) (hdg : decode (gg_bt k) pc = .ok (.lshr, n)) (h : gy_step (gy_ex Lx xs f) Lx xs d k pc L st w (.lshr) n = some o) : W p l e R s m args below meth c H locs cells slots Q (F0 m pc ls (st.map (yv S0 b ad opq))) := by
  obtain ⟨⟨hx, hb, hml, hown, hts⟩, hE, hR, hin, hfl, hS0⟩ := id CX
  obtain ⟨hL, hl, hH, hS, hc, hs⟩ := id RL
  obtain ⟨rfl, h_1⟩ := gq_ok h
  obtain ⟨x, y, r, rfl, h_2⟩ := gsL_ok h_1
  refine lv_lshr (x := gg_l x) (y := gg_i y) hx hb hdg rfl ?_
  have kk := IH _ _ _ _ _ _ _ _ _ h_2 RL
  rw [List.map_cons, show yv S0 b ad opq (1, il_shr x y) = .long (gg_l x >>> ((gg_i y).toInt64 &&& 63)) from congrArg Value.long (gl_of _)] at kk
  exact kk

theorem gs_lushr (IH : gy_Wk l S0 b Lx xs D cA ad opq p e R s m args below meth c Q k d nL cb sb o f) (CX : gy_CX l S0 b Lx xs D cA ad opq p R s m args meth c k d nL cb sb o) (RL : gy_Rl S0 b Lx xs D cA ad opq s nL cb sb L w H locs cells slots ls) (hdg : decode (gg_bt k) pc = .ok (.lushr, n)) (h : gy_step (gy_ex Lx xs f) Lx xs d k pc L st w (.lushr) n = some o) : W p l e R s m args below meth c H locs cells slots Q (F0 m pc ls (st.map (yv S0 b ad opq))) := by
  obtain ⟨⟨hx, hb, hml, hown, hts⟩, hE, hR, hin, hfl, hS0⟩ := id CX
  obtain ⟨hL, hl, hH, hS, hc, hs⟩ := id RL
  obtain ⟨rfl, h_1⟩ := gq_ok h
  obtain ⟨x, y, r, rfl, h_2⟩ := gsL_ok h_1
  refine lv_lushr (x := gg_l x) (y := gg_i y) hx hb hdg rfl ?_
  have kk := IH _ _ _ _ _ _ _ _ _ h_2 RL
  rw [List.map_cons, show yv S0 b ad opq (1, il_ushr x y) = .long (((gg_l x).toUInt64 >>> ((gg_i y).toInt64.toUInt64 &&& Int64.toUInt64 63)).toInt64) from congrArg Value.long (gl_of _)] at kk
  exact kk

theorem gl_cmp (x y : Int) : gg_i (il_cmp x y) = lg_cmp (gg_l x) (gg_l y) := by
  unfold il_cmp lg_cmp
  by_cases h1 : gg_l x < gg_l y
  · have h2 : ¬ gg_l x > gg_l y := fun z => by
      have a1 := Int64.lt_iff_toInt_lt.mp h1
      have a2 := Int64.lt_iff_toInt_lt.mp z
      omega
    have h3 : ¬ gg_l x = gg_l y := fun z => by
      have a1 := Int64.lt_iff_toInt_lt.mp h1
      rw [z] at a1
      omega
    rw [if_pos h1, if_neg h2, if_neg h3]
    rfl
  · by_cases h2 : gg_l x = gg_l y
    · rw [if_neg h1, if_pos h2, if_neg (fun z => by rw [h2] at z; exact absurd (Int64.lt_iff_toInt_lt.mp z) (by omega)), if_pos h2]
      rfl
    · have h3 : gg_l x > gg_l y := by
        refine Int64.lt_iff_toInt_lt.mpr ?_
        have a1 : ¬ (gg_l x).toInt < (gg_l y).toInt := fun z => h1 (Int64.lt_iff_toInt_lt.mpr z)
        have a2 : (gg_l x).toInt ≠ (gg_l y).toInt := fun z => h2 (Int64.toInt_inj.mp z)
        omega
      rw [if_neg h1, if_neg h2, if_pos h3]
      rfl
theorem gs_lcmp (IH : gy_Wk l S0 b Lx xs D cA ad opq p e R s m args below meth c Q k d nL cb sb o f) (CX : gy_CX l S0 b Lx xs D cA ad opq p R s m args meth c k d nL cb sb o) (RL : gy_Rl S0 b Lx xs D cA ad opq s nL cb sb L w H locs cells slots ls) (hdg : decode (gg_bt k) pc = .ok (.lcmp, n)) (h : gy_step (gy_ex Lx xs f) Lx xs d k pc L st w (.lcmp) n = some o) : W p l e R s m args below meth c H locs cells slots Q (F0 m pc ls (st.map (yv S0 b ad opq))) := by
  obtain ⟨⟨hx, hb, hml, hown, hts⟩, hE, hR, hin, hfl, hS0⟩ := id CX
  obtain ⟨hL, hl, hH, hS, hc, hs⟩ := id RL
  obtain ⟨rfl, h_1⟩ := gq_ok h
  obtain ⟨y, r1, rfl, h_2⟩ := gpL_ok h_1
  obtain ⟨x, r, rfl, h_3⟩ := gpL_ok h_2
  refine W.lcmp (x := gg_l x) (y := gg_l y) hx hb hdg ?_
  have kk := IH _ _ _ _ _ _ _ _ _ h_3 RL
  rw [List.map_cons, show yv S0 b ad opq (0, il_cmp x y) = .int (lg_cmp (gg_l x) (gg_l y)) from congrArg Value.int (gl_cmp x y)] at kk
  exact kk

theorem gs_dup (IH : gy_Wk l S0 b Lx xs D cA ad opq p e R s m args below meth c Q k d nL cb sb o f) (CX : gy_CX l S0 b Lx xs D cA ad opq p R s m args meth c k d nL cb sb o) (RL : gy_Rl S0 b Lx xs D cA ad opq s nL cb sb L w H locs cells slots ls) (hdg : decode (gg_bt k) pc = .ok (.dup, n)) (h : gy_step (gy_ex Lx xs f) Lx xs d k pc L st w (.dup) n = some o) : W p l e R s m args below meth c H locs cells slots Q (F0 m pc ls (st.map (yv S0 b ad opq))) := by
  obtain ⟨⟨hx, hb, hml, hown, hts⟩, hE, hR, hin, hfl, hS0⟩ := id CX
  obtain ⟨hL, hl, hH, hS, hc, hs⟩ := id RL
  obtain ⟨rfl, h_1⟩ := gq_ok h
  match st, h_1 with
  | v :: r, h_1 =>
    obtain ⟨hv, h_2⟩ := gif_ok h_1
    have hcat : (yv S0 b ad opq v).category = 1 := by rw [yv_cat hE.2.2.2.2.2.2.1]; unfold gg_cat; rw [if_neg hv]
    exact lv_dup hx hb hdg hcat (IH _ _ _ _ _ _ _ _ _ h_2 RL)

theorem gs_pop (IH : gy_Wk l S0 b Lx xs D cA ad opq p e R s m args below meth c Q k d nL cb sb o f) (CX : gy_CX l S0 b Lx xs D cA ad opq p R s m args meth c k d nL cb sb o) (RL : gy_Rl S0 b Lx xs D cA ad opq s nL cb sb L w H locs cells slots ls) (hdg : decode (gg_bt k) pc = .ok (.pop, n)) (h : gy_step (gy_ex Lx xs f) Lx xs d k pc L st w (.pop) n = some o) : W p l e R s m args below meth c H locs cells slots Q (F0 m pc ls (st.map (yv S0 b ad opq))) := by
  obtain ⟨⟨hx, hb, hml, hown, hts⟩, hE, hR, hin, hfl, hS0⟩ := id CX
  obtain ⟨hL, hl, hH, hS, hc, hs⟩ := id RL
  obtain ⟨rfl, h_1⟩ := gq_ok h
  match st, h_1 with
  | v :: r, h_1 =>
    obtain ⟨hv, h_2⟩ := gif_ok h_1
    have hcat : (yv S0 b ad opq v).category = 1 := by rw [yv_cat hE.2.2.2.2.2.2.1]; unfold gg_cat; rw [if_neg hv]
    exact lv_pop hx hb hdg hcat (IH _ _ _ _ _ _ _ _ _ h_2 RL)

theorem gs_dup2 (IH : gy_Wk l S0 b Lx xs D cA ad opq p e R s m args below meth c Q k d nL cb sb o f) (CX : gy_CX l S0 b Lx xs D cA ad opq p R s m args meth c k d nL cb sb o) (RL : gy_Rl S0 b Lx xs D cA ad opq s nL cb sb L w H locs cells slots ls) (hdg : decode (gg_bt k) pc = .ok (.dup2, n)) (h : gy_step (gy_ex Lx xs f) Lx xs d k pc L st w (.dup2) n = some o) : W p l e R s m args below meth c H locs cells slots Q (F0 m pc ls (st.map (yv S0 b ad opq))) := by
  obtain ⟨⟨hx, hb, hml, hown, hts⟩, hE, hR, hin, hfl, hS0⟩ := id CX
  obtain ⟨hL, hl, hH, hS, hc, hs⟩ := id RL
  obtain ⟨rfl, h_1⟩ := gq_ok h
  match st, h_1 with
  | v :: u :: r, h_1 =>
    by_cases hv : v.1 = 1
    · have h2 : gy_ex Lx xs f d k (pc + 1) L (v :: v :: u :: r) w = some o := by
        have h3 : (if v.1 = 1 then gy_ex Lx xs f d k (pc + 1) L (v :: v :: u :: r) w else if u.1 = 1 then none else gy_ex Lx xs f d k (pc + 1) L (v :: u :: v :: u :: r) w) = some o := h_1
        rwa [if_pos hv] at h3
      have hcat : (yv S0 b ad opq v).category = 2 := by rw [yv_cat hE.2.2.2.2.2.2.1]; unfold gg_cat; rw [if_pos hv]
      exact lv_dup2_2 hx hb hdg hcat (IH _ _ _ _ _ _ _ _ _ h2 RL)
    · have h3 : (if v.1 = 1 then gy_ex Lx xs f d k (pc + 1) L (v :: v :: u :: r) w else if u.1 = 1 then none else gy_ex Lx xs f d k (pc + 1) L (v :: u :: v :: u :: r) w) = some o := h_1
      rw [if_neg hv] at h3
      split at h3
      · cases h3
      rename_i hu
      have hcat : (yv S0 b ad opq v).category = 1 := by rw [yv_cat hE.2.2.2.2.2.2.1]; unfold gg_cat; rw [if_neg hv]
      have hcau : (yv S0 b ad opq u).category = 1 := by rw [yv_cat hE.2.2.2.2.2.2.1]; unfold gg_cat; rw [if_neg hu]
      exact lv_dup2_11 hx hb hdg hcat hcau (IH _ _ _ _ _ _ _ _ _ h3 RL)

theorem gs_goto (IH : gy_Wk l S0 b Lx xs D cA ad opq p e R s m args below meth c Q k d nL cb sb o f) (CX : gy_CX l S0 b Lx xs D cA ad opq p R s m args meth c k d nL cb sb o) (RL : gy_Rl S0 b Lx xs D cA ad opq s nL cb sb L w H locs cells slots ls) {off : Int} (hdg : decode (gg_bt k) pc = .ok (.goto off, n)) (h : gy_step (gy_ex Lx xs f) Lx xs d k pc L st w (.goto off) n = some o) : W p l e R s m args below meth c H locs cells slots Q (F0 m pc ls (st.map (yv S0 b ad opq))) := by
  obtain ⟨⟨hx, hb, hml, hown, hts⟩, hE, hR, hin, hfl, hS0⟩ := id CX
  obtain ⟨hL, hl, hH, hS, hc, hs⟩ := id RL
  obtain ⟨rfl, h_1⟩ := gq_ok h
  obtain ⟨t, ht, h_2⟩ := gtgt_ok h_1
  exact lv_goto hx hb hdg ht (IH _ _ _ _ _ _ _ _ _ h_2 RL)

theorem gs_ifCond (IH : gy_Wk l S0 b Lx xs D cA ad opq p e R s m args below meth c Q k d nL cb sb o f) (CX : gy_CX l S0 b Lx xs D cA ad opq p R s m args meth c k d nL cb sb o) (RL : gy_Rl S0 b Lx xs D cA ad opq s nL cb sb L w H locs cells slots ls) {q : ClassFile.Cond} {off : Int} (hoff : ∃ t : Nat, (pc : Int) + off = (t : Int)) (hdg : decode (gg_bt k) pc = .ok (.ifCond q off, n)) (h : gy_step (gy_ex Lx xs f) Lx xs d k pc L st w (.ifCond q off) n = some o) : W p l e R s m args below meth c H locs cells slots Q (F0 m pc ls (st.map (yv S0 b ad opq))) := by
  obtain ⟨⟨hx, hb, hml, hown, hts⟩, hE, hR, hin, hfl, hS0⟩ := id CX
  obtain ⟨hL, hl, hH, hS, hc, hs⟩ := id RL
  obtain ⟨rfl, h_1⟩ := gq_ok h
  obtain ⟨x, r, rfl, h_2⟩ := gpI_ok h_1
  have key : (gg_cond q x 0 = true → ∃ t : Nat, (pc : Int) + off = (t : Int) ∧ gy_ex Lx xs f d k t L r w = some o) ∧ (gg_cond q x 0 = false → gy_ex Lx xs f d k (pc + 3) L r w = some o) := by
    have h2 : (if gg_cond q x 0 = true then gg_tgt pc off fun t => gy_ex Lx xs f d k t L r w else gy_ex Lx xs f d k (pc + 3) L r w) = some o := h_2
    constructor
    · intro hq
      rw [if_pos hq] at h2
      exact gtgt_ok h2
    · intro hq
      rw [if_neg (by rw [hq]; exact Bool.false_ne_true)] at h2
      exact h2
  have htg : ∃ t : Nat, (pc : Int) + off = (t : Int) := hoff
  obtain ⟨t, ht⟩ := htg
  have kt : gg_cond q x 0 = true → W p l e R s m args below meth c H locs cells slots Q (F0 m t ls (r.map (yv S0 b ad opq))) := fun hq => by
    obtain ⟨t', ht', h3⟩ := key.1 hq
    have : t' = t := by omega
    subst this
    exact IH _ _ _ _ _ _ _ _ _ h3 RL
  have kf : gg_cond q x 0 = false → W p l e R s m args below meth c H locs cells slots Q (F0 m (pc + 3) ls (r.map (yv S0 b ad opq))) := fun hq => IH _ _ _ _ _ _ _ _ _ (key.2 hq) RL
  cases q
  · exact lv_if_eq (x := gg_i x) hx hb hdg ht (fun hq => kt (by simpa [gg_cond, ic_eq, ic_lt, show gg_i 0 = (0 : Int32) from rfl] using hq)) (fun hq => kf (by simpa [gg_cond, ic_eq, ic_lt, show gg_i 0 = (0 : Int32) from rfl] using hq))
  · exact lv_if_ne (x := gg_i x) hx hb hdg ht (fun hq => kt (by simpa [gg_cond, ic_eq, ic_lt, show gg_i 0 = (0 : Int32) from rfl] using hq)) (fun hq => kf (by simpa [gg_cond, ic_eq, ic_lt, show gg_i 0 = (0 : Int32) from rfl] using hq))
  · exact lv_if_lt (x := gg_i x) hx hb hdg ht (fun hq => kt (by simpa [gg_cond, ic_eq, ic_lt, show gg_i 0 = (0 : Int32) from rfl] using hq)) (fun hq => kf (by simpa [gg_cond, ic_eq, ic_lt, show gg_i 0 = (0 : Int32) from rfl] using hq))
  · exact lv_if_ge (x := gg_i x) hx hb hdg ht (fun hq => kt (by simpa [gg_cond, ic_eq, ic_lt, show gg_i 0 = (0 : Int32) from rfl] using hq)) (fun hq => kf (by simpa [gg_cond, ic_eq, ic_lt, show gg_i 0 = (0 : Int32) from rfl] using hq))
  · exact lv_if_gt (x := gg_i x) hx hb hdg ht (fun hq => kt (by simpa [gg_cond, ic_eq, ic_lt, show gg_i 0 = (0 : Int32) from rfl] using hq)) (fun hq => kf (by simpa [gg_cond, ic_eq, ic_lt, show gg_i 0 = (0 : Int32) from rfl] using hq))
  · exact lv_if_le (x := gg_i x) hx hb hdg ht (fun hq => kt (by simpa [gg_cond, ic_eq, ic_lt, show gg_i 0 = (0 : Int32) from rfl] using hq)) (fun hq => kf (by simpa [gg_cond, ic_eq, ic_lt, show gg_i 0 = (0 : Int32) from rfl] using hq))

theorem gs_if_icmp (IH : gy_Wk l S0 b Lx xs D cA ad opq p e R s m args below meth c Q k d nL cb sb o f) (CX : gy_CX l S0 b Lx xs D cA ad opq p R s m args meth c k d nL cb sb o) (RL : gy_Rl S0 b Lx xs D cA ad opq s nL cb sb L w H locs cells slots ls) {q : ClassFile.Cond} {off : Int} (hoff : ∃ t : Nat, (pc : Int) + off = (t : Int)) (hdg : decode (gg_bt k) pc = .ok (.if_icmp q off, n)) (h : gy_step (gy_ex Lx xs f) Lx xs d k pc L st w (.if_icmp q off) n = some o) : W p l e R s m args below meth c H locs cells slots Q (F0 m pc ls (st.map (yv S0 b ad opq))) := by
  obtain ⟨⟨hx, hb, hml, hown, hts⟩, hE, hR, hin, hfl, hS0⟩ := id CX
  obtain ⟨hL, hl, hH, hS, hc, hs⟩ := id RL
  obtain ⟨rfl, h_1⟩ := gq_ok h
  obtain ⟨y, r1, rfl, h_2⟩ := gpI_ok h_1
  obtain ⟨x, r, rfl, h_3⟩ := gpI_ok h_2
  have key : (gg_cond q x y = true → ∃ t : Nat, (pc : Int) + off = (t : Int) ∧ gy_ex Lx xs f d k t L r w = some o) ∧ (gg_cond q x y = false → gy_ex Lx xs f d k (pc + 3) L r w = some o) := by
    have h2 : (if gg_cond q x y = true then gg_tgt pc off fun t => gy_ex Lx xs f d k t L r w else gy_ex Lx xs f d k (pc + 3) L r w) = some o := h_3
    constructor
    · intro hq
      rw [if_pos hq] at h2
      exact gtgt_ok h2
    · intro hq
      rw [if_neg (by rw [hq]; exact Bool.false_ne_true)] at h2
      exact h2
  have htg : ∃ t : Nat, (pc : Int) + off = (t : Int) := hoff
  obtain ⟨t, ht⟩ := htg
  have kt : gg_cond q x y = true → W p l e R s m args below meth c H locs cells slots Q (F0 m t ls (r.map (yv S0 b ad opq))) := fun hq => by
    obtain ⟨t', ht', h3⟩ := key.1 hq
    have : t' = t := by omega
    subst this
    exact IH _ _ _ _ _ _ _ _ _ h3 RL
  have kf : gg_cond q x y = false → W p l e R s m args below meth c H locs cells slots Q (F0 m (pc + 3) ls (r.map (yv S0 b ad opq))) := fun hq => IH _ _ _ _ _ _ _ _ _ (key.2 hq) RL
  cases q
  · exact lv_icmp_eq (x := gg_i x) (y := gg_i y) hx hb hdg ht (fun hq => kt (by simpa [gg_cond, ic_eq, ic_lt] using hq)) (fun hq => kf (by simpa [gg_cond, ic_eq, ic_lt] using hq))
  · exact lv_icmp_ne (x := gg_i x) (y := gg_i y) hx hb hdg ht (fun hq => kt (by simpa [gg_cond, ic_eq, ic_lt] using hq)) (fun hq => kf (by simpa [gg_cond, ic_eq, ic_lt] using hq))
  · exact lv_icmp_lt (x := gg_i x) (y := gg_i y) hx hb hdg ht (fun hq => kt (by simpa [gg_cond, ic_eq, ic_lt] using hq)) (fun hq => kf (by simpa [gg_cond, ic_eq, ic_lt] using hq))
  · exact lv_icmp_ge (x := gg_i x) (y := gg_i y) hx hb hdg ht (fun hq => kt (by simpa [gg_cond, ic_eq, ic_lt] using hq)) (fun hq => kf (by simpa [gg_cond, ic_eq, ic_lt] using hq))
  · exact lv_icmp_gt (x := gg_i x) (y := gg_i y) hx hb hdg ht (fun hq => kt (by simpa [gg_cond, ic_eq, ic_lt] using hq)) (fun hq => kf (by simpa [gg_cond, ic_eq, ic_lt] using hq))
  · exact lv_icmp_le (x := gg_i x) (y := gg_i y) hx hb hdg ht (fun hq => kt (by simpa [gg_cond, ic_eq, ic_lt] using hq)) (fun hq => kf (by simpa [gg_cond, ic_eq, ic_lt] using hq))

theorem gs_tableswitch (IH : gy_Wk l S0 b Lx xs D cA ad opq p e R s m args below meth c Q k d nL cb sb o f) (CX : gy_CX l S0 b Lx xs D cA ad opq p R s m args meth c k d nL cb sb o) (RL : gy_Rl S0 b Lx xs D cA ad opq s nL cb sb L w H locs cells slots ls) {df lo hi : Int} {offs : Array Int} (hdg : decode (gg_bt k) pc = .ok (.tableswitch df lo hi offs, n)) (h : gy_step (gy_ex Lx xs f) Lx xs d k pc L st w (.tableswitch df lo hi offs) n = some o) : W p l e R s m args below meth c H locs cells slots Q (F0 m pc ls (st.map (yv S0 b ad opq))) := by
  obtain ⟨⟨hx, hb, hml, hown, hts⟩, hE, hR, hin, hfl, hS0⟩ := id CX
  obtain ⟨hL, hl, hH, hS, hc, hs⟩ := id RL
  obtain ⟨x, r, rfl, h_1⟩ := gpI_ok h
  split at h_1
  · rename_i hq
    obtain ⟨t, ht, h_2⟩ := gtgt_ok h_1
    exact lv_tableOut (x := gg_i x) hx hb hdg hq ht (IH _ _ _ _ _ _ _ _ _ h_2 RL)
  · rename_i hq
    split at h_1
    · rename_i off ho
      obtain ⟨t, ht, h_3⟩ := gtgt_ok h_1
      exact lv_tableIn (x := gg_i x) hx hb hdg (fun z => hq (Or.inl z)) (fun z => hq (Or.inr z)) ho ht (IH _ _ _ _ _ _ _ _ _ h_3 RL)
    · cases h_1

theorem gs_ldc_w (IH : gy_Wk l S0 b Lx xs D cA ad opq p e R s m args below meth c Q k d nL cb sb o f) (CX : gy_CX l S0 b Lx xs D cA ad opq p R s m args meth c k d nL cb sb o) (RL : gy_Rl S0 b Lx xs D cA ad opq s nL cb sb L w H locs cells slots ls) {ix : Nat} (hdg : decode (gg_bt k) pc = .ok (.ldc_w ix, n)) (h : gy_step (gy_ex Lx xs f) Lx xs d k pc L st w (.ldc_w ix) n = some o) : W p l e R s m args below meth c H locs cells slots Q (F0 m pc ls (st.map (yv S0 b ad opq))) := by
  obtain ⟨⟨hx, hb, hml, hown, hts⟩, hE, hR, hin, hfl, hS0⟩ := id CX
  obtain ⟨hL, hl, hH, hS, hc, hs⟩ := id RL
  obtain ⟨rfl, h_1⟩ := gq_ok h
  cases hk : gg_lk (gg_mt k).1 ix with
  | none => rw [hk] at h_1; cases h_1
  | some v =>
    rw [hk] at h_1
    exact lv_ldcw (v := gg_i v) hx hb hown (hts _ (gg_lk_ok hk)) hdg (IH _ _ _ _ _ _ _ _ _ h_1 RL)

theorem gs_ldc2_w (IH : gy_Wk l S0 b Lx xs D cA ad opq p e R s m args below meth c Q k d nL cb sb o f) (CX : gy_CX l S0 b Lx xs D cA ad opq p R s m args meth c k d nL cb sb o) (RL : gy_Rl S0 b Lx xs D cA ad opq s nL cb sb L w H locs cells slots ls) {ix : Nat} (hdg : decode (gg_bt k) pc = .ok (.ldc2_w ix, n)) (h : gy_step (gy_ex Lx xs f) Lx xs d k pc L st w (.ldc2_w ix) n = some o) : W p l e R s m args below meth c H locs cells slots Q (F0 m pc ls (st.map (yv S0 b ad opq))) := by
  obtain ⟨⟨hx, hb, hml, hown, hts⟩, hE, hR, hin, hfl, hS0⟩ := id CX
  obtain ⟨hL, hl, hH, hS, hc, hs⟩ := id RL
  obtain ⟨rfl, h_1⟩ := gq_ok h
  cases hk : gg_ll (gg_mt k).1 ix with
  | none => rw [hk] at h_1; cases h_1
  | some v =>
    rw [hk] at h_1
    exact lv_ldc2 (v := gg_l v) hx hb hown (hts _ (gg_ll_ok hk)) hdg (IH _ _ _ _ _ _ _ _ _ h_1 RL)

theorem gs_astore_n (IH : gy_Wk l S0 b Lx xs D cA ad opq p e R s m args below meth c Q k d nL cb sb o f) (CX : gy_CX l S0 b Lx xs D cA ad opq p R s m args meth c k d nL cb sb o) (RL : gy_Rl S0 b Lx xs D cA ad opq s nL cb sb L w H locs cells slots ls) {j : Fin 4} (hdg : decode (gg_bt k) pc = .ok (.astore_n j, n)) (h : gy_step (gy_ex Lx xs f) Lx xs d k pc L st w (.astore_n j) n = some o) : W p l e R s m args below meth c H locs cells slots Q (F0 m pc ls (st.map (yv S0 b ad opq))) := by
  obtain ⟨⟨hx, hb, hml, hown, hts⟩, hE, hR, hin, hfl, hS0⟩ := id CX
  obtain ⟨hL, hl, hH, hS, hc, hs⟩ := id RL
  obtain ⟨rfl, h_1⟩ := gq_ok h
  obtain ⟨v, r, rfl, hv, h_2⟩ := gypA_ok h_1
  obtain ⟨hj, h_3⟩ := gif_ok h_2
  have hv3 : v.1 ≠ 3 := by have := gy_ra_ok hv; omega
  have fin : ∀ ls', lv_has ls' nL ((j.1, yv S0 b ad opq v) :: (gg_lo (yv S0 b ad opq) 0 L).filter (fun q => !(q.1 == j.1) && !(q.1 + 1 == j.1 && q.2.category == 2))) → W p l e R s m args below meth c H locs cells slots Q (F0 m (pc + 1) ls' (r.map (yv S0 b ad opq))) := fun ls' hl' =>
    IH _ _ _ _ _ _ _ _ _ h_3 ⟨(gg_s1_len _ _ _).trans hL, gg_has_s1 (x := v) (yv_cat2 hE.2.2.2.2.2.2.1) hj hl', hH, hS, hc, hs⟩
  rcases yv_refs (S0 := S0) (b := b) (ad := ad) hE.2.2.2.2.2.2.2.2.2.2.1 hv with e1 | ⟨t, e1⟩
  · rw [List.map_cons, e1]
    exact lv_astore_nN hx hb hdg rfl hl (by omega) rfl (by rw [← e1]; exact fin)
  · rw [List.map_cons, e1]
    exact lv_astore_n hx hb hdg rfl hl (by omega) rfl (by rw [← e1]; exact fin)
theorem gs_aload_n (IH : gy_Wk l S0 b Lx xs D cA ad opq p e R s m args below meth c Q k d nL cb sb o f) (CX : gy_CX l S0 b Lx xs D cA ad opq p R s m args meth c k d nL cb sb o) (RL : gy_Rl S0 b Lx xs D cA ad opq s nL cb sb L w H locs cells slots ls) {j : Fin 4} (hdg : decode (gg_bt k) pc = .ok (.aload_n j, n)) (h : gy_step (gy_ex Lx xs f) Lx xs d k pc L st w (.aload_n j) n = some o) : W p l e R s m args below meth c H locs cells slots Q (F0 m pc ls (st.map (yv S0 b ad opq))) := by
  obtain ⟨⟨hx, hb, hml, hown, hts⟩, hE, hR, hin, hfl, hS0⟩ := id CX
  obtain ⟨hL, hl, hH, hS, hc, hs⟩ := id RL
  obtain ⟨rfl, h_1⟩ := gq_ok h
  obtain ⟨v, hi, hv, h2⟩ := gyldA_ok h_1
  have kk := IH _ _ _ _ _ _ _ _ _ h2 RL
  have hat := gg_has_at hl hi (by have := gy_ra_ok hv; omega)
  rw [List.map_cons] at kk
  rcases yv_refs (S0 := S0) (b := b) (ad := ad) hE.2.2.2.2.2.2.2.2.2.2.1 hv with e1 | ⟨t, e1⟩
  · rw [e1] at kk hat
    exact lv_aload_nN hx hb hdg rfl hat kk
  · rw [e1] at kk hat
    exact lv_aload_n hx hb hdg rfl hat kk
theorem gs_astore (IH : gy_Wk l S0 b Lx xs D cA ad opq p e R s m args below meth c Q k d nL cb sb o f) (CX : gy_CX l S0 b Lx xs D cA ad opq p R s m args meth c k d nL cb sb o) (RL : gy_Rl S0 b Lx xs D cA ad opq s nL cb sb L w H locs cells slots ls) {j : Nat} (hdg : decode (gg_bt k) pc = .ok (.astore j, n)) (h : gy_step (gy_ex Lx xs f) Lx xs d k pc L st w (.astore j) n = some o) : W p l e R s m args below meth c H locs cells slots Q (F0 m pc ls (st.map (yv S0 b ad opq))) := by
  obtain ⟨⟨hx, hb, hml, hown, hts⟩, hE, hR, hin, hfl, hS0⟩ := id CX
  obtain ⟨hL, hl, hH, hS, hc, hs⟩ := id RL
  obtain ⟨rfl, h_1⟩ := gq_ok h
  obtain ⟨v, r, rfl, hv, h_2⟩ := gypA_ok h_1
  obtain ⟨hj, h_3⟩ := gif_ok h_2
  have hv3 : v.1 ≠ 3 := by have := gy_ra_ok hv; omega
  have fin : ∀ ls', lv_has ls' nL ((j, yv S0 b ad opq v) :: (gg_lo (yv S0 b ad opq) 0 L).filter (fun q => !(q.1 == j) && !(q.1 + 1 == j && q.2.category == 2))) → W p l e R s m args below meth c H locs cells slots Q (F0 m (pc + 2) ls' (r.map (yv S0 b ad opq))) := fun ls' hl' =>
    IH _ _ _ _ _ _ _ _ _ h_3 ⟨(gg_s1_len _ _ _).trans hL, gg_has_s1 (x := v) (yv_cat2 hE.2.2.2.2.2.2.1) hj hl', hH, hS, hc, hs⟩
  rcases yv_refs (S0 := S0) (b := b) (ad := ad) hE.2.2.2.2.2.2.2.2.2.2.1 hv with e1 | ⟨t, e1⟩
  · rw [List.map_cons, e1]
    exact lv_astoreN hx hb hdg hl (by omega) rfl (by rw [← e1]; exact fin)
  · rw [List.map_cons, e1]
    exact lv_astore hx hb hdg hl (by omega) rfl (by rw [← e1]; exact fin)
theorem gs_aload (IH : gy_Wk l S0 b Lx xs D cA ad opq p e R s m args below meth c Q k d nL cb sb o f) (CX : gy_CX l S0 b Lx xs D cA ad opq p R s m args meth c k d nL cb sb o) (RL : gy_Rl S0 b Lx xs D cA ad opq s nL cb sb L w H locs cells slots ls) {j : Nat} (hdg : decode (gg_bt k) pc = .ok (.aload j, n)) (h : gy_step (gy_ex Lx xs f) Lx xs d k pc L st w (.aload j) n = some o) : W p l e R s m args below meth c H locs cells slots Q (F0 m pc ls (st.map (yv S0 b ad opq))) := by
  obtain ⟨⟨hx, hb, hml, hown, hts⟩, hE, hR, hin, hfl, hS0⟩ := id CX
  obtain ⟨hL, hl, hH, hS, hc, hs⟩ := id RL
  obtain ⟨rfl, h_1⟩ := gq_ok h
  obtain ⟨v, hi, hv, h2⟩ := gyldA_ok h_1
  have kk := IH _ _ _ _ _ _ _ _ _ h2 RL
  have hat := gg_has_at hl hi (by have := gy_ra_ok hv; omega)
  rw [List.map_cons] at kk
  rcases yv_refs (S0 := S0) (b := b) (ad := ad) hE.2.2.2.2.2.2.2.2.2.2.1 hv with e1 | ⟨t, e1⟩
  · rw [e1] at kk hat
    exact lv_aloadN hx hb hdg hat kk
  · rw [e1] at kk hat
    exact lv_aload hx hb hdg hat kk
theorem gs_aconst_null (IH : gy_Wk l S0 b Lx xs D cA ad opq p e R s m args below meth c Q k d nL cb sb o f) (CX : gy_CX l S0 b Lx xs D cA ad opq p R s m args meth c k d nL cb sb o) (RL : gy_Rl S0 b Lx xs D cA ad opq s nL cb sb L w H locs cells slots ls)  (hdg : decode (gg_bt k) pc = .ok (.aconst_null, n)) (h : gy_step (gy_ex Lx xs f) Lx xs d k pc L st w (.aconst_null) n = some o) : W p l e R s m args below meth c H locs cells slots Q (F0 m pc ls (st.map (yv S0 b ad opq))) := by
  obtain ⟨⟨hx, hb, hml, hown, hts⟩, hE, hR, hin, hfl, hS0⟩ := id CX
  obtain ⟨hL, hl, hH, hS, hc, hs⟩ := id RL
  obtain ⟨rfl, h_1⟩ := gq_ok h
  exact lv_null hx hb hdg (IH _ _ _ _ _ _ _ _ _ h_1 RL)
theorem gs_dup_x1 (IH : gy_Wk l S0 b Lx xs D cA ad opq p e R s m args below meth c Q k d nL cb sb o f) (CX : gy_CX l S0 b Lx xs D cA ad opq p R s m args meth c k d nL cb sb o) (RL : gy_Rl S0 b Lx xs D cA ad opq s nL cb sb L w H locs cells slots ls)  (hdg : decode (gg_bt k) pc = .ok (.dup_x1, n)) (h : gy_step (gy_ex Lx xs f) Lx xs d k pc L st w (.dup_x1) n = some o) : W p l e R s m args below meth c H locs cells slots Q (F0 m pc ls (st.map (yv S0 b ad opq))) := by
  obtain ⟨⟨hx, hb, hml, hown, hts⟩, hE, hR, hin, hfl, hS0⟩ := id CX
  obtain ⟨hL, hl, hH, hS, hc, hs⟩ := id RL
  obtain ⟨rfl, h_1⟩ := gq_ok h
  split at h_1
  · rename_i v u r
    obtain ⟨⟨h1, h2⟩, h3⟩ := gif_ok h_1
    have kk := IH _ _ _ _ _ _ _ _ _ h3 RL
    refine lv_dup_x1 hx hb hdg ?_ ?_ kk
    · rw [yv_cat hE.2.2.2.2.2.2.1]; unfold gg_cat; rw [if_neg h1]
    · rw [yv_cat hE.2.2.2.2.2.2.1]; unfold gg_cat; rw [if_neg h2]
  · cases h_1
theorem gs_if_acmp (IH : gy_Wk l S0 b Lx xs D cA ad opq p e R s m args below meth c Q k d nL cb sb o f) (CX : gy_CX l S0 b Lx xs D cA ad opq p R s m args meth c k d nL cb sb o) (RL : gy_Rl S0 b Lx xs D cA ad opq s nL cb sb L w H locs cells slots ls) {cd : ClassFile.ACond} {off : Int} (htg : ∃ t : Nat, (pc : Int) + off = (t : Int)) (hdg : decode (gg_bt k) pc = .ok (.if_acmp cd off, n)) (h : gy_step (gy_ex Lx xs f) Lx xs d k pc L st w (.if_acmp cd off) n = some o) : W p l e R s m args below meth c H locs cells slots Q (F0 m pc ls (st.map (yv S0 b ad opq))) := by
  obtain ⟨⟨hx, hb, hml, hown, hts⟩, hE, hR, hin, hfl, hS0⟩ := id CX
  obtain ⟨hL, hl, hH, hS, hc, hs⟩ := id RL
  obtain ⟨rfl, h_1⟩ := gq_ok h
  split at h_1
  · rename_i y z r
    obtain ⟨⟨h1, h2⟩, h3⟩ := gif_ok h_1
    subst h1
    have hz : yv S0 b ad opq (7, y) = va_rf (some (ad 7 y)) := by
      show (if y = 0 then opq else .ref (ad 7 y) : Value) = _
      rw [if_neg (by omega)]
      rfl
    rw [List.map_cons, List.map_cons, hz]
    obtain ⟨t, ht⟩ := htg
    cases cd
    case eq =>
      obtain ⟨t2, ht2, h4⟩ := gtgt_ok h3
      exact lv_acmp_eq hx hb hdg ht2 (fun _ => IH _ _ _ _ _ _ _ _ _ h4 RL) (fun q => absurd rfl q)
    case ne => exact lv_acmp_ne hx hb hdg ht (fun q => absurd rfl q) (fun _ => IH _ _ _ _ _ _ _ _ _ h3 RL)
  · cases h_1
theorem gs_ifnonnull (IH : gy_Wk l S0 b Lx xs D cA ad opq p e R s m args below meth c Q k d nL cb sb o f) (CX : gy_CX l S0 b Lx xs D cA ad opq p R s m args meth c k d nL cb sb o) (RL : gy_Rl S0 b Lx xs D cA ad opq s nL cb sb L w H locs cells slots ls) {off : Int} (hdg : decode (gg_bt k) pc = .ok (.ifnonnull off, n)) (h : gy_step (gy_ex Lx xs f) Lx xs d k pc L st w (.ifnonnull off) n = some o) : W p l e R s m args below meth c H locs cells slots Q (F0 m pc ls (st.map (yv S0 b ad opq))) := by
  obtain ⟨⟨hx, hb, hml, hown, hts⟩, hE, hR, hin, hfl, hS0⟩ := id CX
  obtain ⟨hL, hl, hH, hS, hc, hs⟩ := id RL
  obtain ⟨rfl, h_1⟩ := gq_ok h
  split at h_1
  · obtain ⟨t2, ht2, h4⟩ := gtgt_ok h_1
    exact lv_ifnonnull hx hb hdg ht2 (IH _ _ _ _ _ _ _ _ _ h4 RL)
  · cases h_1
theorem gs_ldc (IH : gy_Wk l S0 b Lx xs D cA ad opq p e R s m args below meth c Q k d nL cb sb o f) (CX : gy_CX l S0 b Lx xs D cA ad opq p R s m args meth c k d nL cb sb o) (RL : gy_Rl S0 b Lx xs D cA ad opq s nL cb sb L w H locs cells slots ls) {ix : Nat} (hdg : decode (gg_bt k) pc = .ok (.ldc ix, n)) (h : gy_step (gy_ex Lx xs f) Lx xs d k pc L st w (.ldc ix) n = some o) : W p l e R s m args below meth c H locs cells slots Q (F0 m pc ls (st.map (yv S0 b ad opq))) := by
  obtain ⟨⟨hx, hb, hml, hown, hts⟩, hE, hR, hin, hfl, hS0⟩ := id CX
  obtain ⟨hL, hl, hH, hS, hc, hs⟩ := id RL
  obtain ⟨rfl, h_1⟩ := gq_ok h
  cases hk : gg_lk (gg_mt k).1 ix with
  | some v =>
    rw [hk] at h_1
    exact lv_ldc (v := gg_i v) hx hb hown (hts _ (gg_lk_ok hk)) hdg (IH _ _ _ _ _ _ _ _ _ h_1 RL)
  | none =>
    rw [hk] at h_1
    have h2 : (match gg_ls (gg_mt k).1 ix with
      | some i => gy_ex Lx xs f d k (pc + 2) L ((4, Int.ofNat i) :: st) w
      | none => if (gg_mt k).1 = 19 ∧ ix = 110 then gy_ex Lx xs f d k (pc + 2) L ((7, 5) :: st) w else none) = some o := h_1
    cases hk2 : gg_ls (gg_mt k).1 ix with
    | none =>
      rw [hk2] at h2
      obtain ⟨⟨h3, rfl⟩, h4⟩ := gif_ok h2
      rw [h3] at hown
      exact va_ldcM hx hb hown (hts _ gw_c110) hE.2.2.2.2.2.2.2.2.2.1.2.2.2.2.2.2.2.1 hdg (IH _ _ _ _ _ _ _ _ _ h4 RL)
    | some i =>
      rw [hk2] at h2
      obtain ⟨pos, hp⟩ := gg_ls_ok hk2
      have hv : vk_R (gg_c (gg_mt k).1) ix (gg_str i) (ad 4 i) s := hE.2.2.2.2.2.2.2.2.1 ((gg_mt k).1, ix, i, pos) hp
      exact va_ldcS hx hb hown hv hdg (IH _ _ _ _ _ _ _ _ _ h2 RL)
end GS
