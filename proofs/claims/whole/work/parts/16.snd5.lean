/-! the machine follows the interpreter: Math.min, Math.max, System.arraycopy, Object() -/
section GS5
variable {l : Launch} {S0 b Lx : Nat} {xs : Nat → Int32} {D : va_G} {cA : Nat → ClassId} {adK adV : Nat → Nat} {opq : Value} {p : Program} {e : Env} {R : Room} {s : State} {m : MethodId} {args : Array Value} {below : List Frame} {meth : Method} {c : Code} {Q : State → Prop} {k d nL cb sb : Nat} {o : gg_O} {f : Nat}
variable {pc n : Nat} {L st : List gg_V} {w w' : gg_W} {H H' : Heap} {locs : List Loc} {cells slots : Nat} {ls : Array Slot}
theorem gs_min (IH : gg_Wk l S0 b Lx xs D cA adK adV opq p e R s m args below meth c Q k d nL cb sb o f) (CX : gg_CX l S0 b Lx xs D cA adK adV opq p R s m args meth c k d nL cb sb o) (RL : gg_Rl S0 b Lx xs D cA adK adV opq s nL cb sb L w H locs cells slots ls) {ix : Nat} {x y : Int} {r : List gg_V} (hlk : Cond.methodLink (gg_c (gg_mt k).1) ix Lib.Math.min.name ∈ gg_gw) (hdg : decode (gg_bt k) pc = .ok (.invokestatic ix, 3)) (hr : (r.map gg_cat).sum ≤ 8) (h : gg_ex Lx xs f d k (pc + 3) L ((0, if gg_i x ≤ gg_i y then x else y) :: r) w = some o) : W p l e R s m args below meth c H locs cells slots Q (F0 m pc ls (.int (gg_i y) :: .int (gg_i x) :: r.map (gv S0 b adK adV opq))) := by
  obtain ⟨⟨hx, hb, hml, hown, hts⟩, hE, hR, hin, hfl, hS0⟩ := id CX
  obtain ⟨hL, hl, hH, hS, hc, hs⟩ := id RL
  have hmn := gg_ex_mn _ _ _ _ _ _ _ _ _ _ h
  have hmn1 : w.2.2.2.1 ≤ o.2.2.2.2.1 := hmn.1
  have hmn2 : w.2.2.2.2 ≤ o.2.2.2.2.2 := hmn.2
  have kk := IH _ _ _ _ _ _ _ _ _ h RL
  rw [List.map_cons, show gv S0 b adK adV opq (0, if gg_i x ≤ gg_i y then x else y) = .int (if gg_i y < gg_i x then gg_i y else gg_i x) from by
    show Value.int (gg_i (if gg_i x ≤ gg_i y then x else y)) = _
    congr 1
    by_cases hq : gg_i x ≤ gg_i y
    · rw [if_pos hq, if_neg (fun z => absurd (Int32.lt_iff_toInt_lt.mp z) (Int.not_lt.mpr (Int32.le_iff_toInt_le.mp hq)))]
    · rw [if_neg hq, if_pos (Int32.lt_iff_toInt_lt.mpr (Int.not_le.mp fun z => hq (Int32.le_iff_toInt_le.mpr z)))]] at kk
  exact va_mmin hx hb (by rw [hml]; exact hl.1.symm) hown (hts _ hlk) (hts _ gw_min1) (hts _ gw_math) (hts _ gw_min2) (by omega) (by rw [gv_cats hE.2.2.2.2.2.2.1]; omega) (by omega) (by omega) hdg kk

theorem gs_max (IH : gg_Wk l S0 b Lx xs D cA adK adV opq p e R s m args below meth c Q k d nL cb sb o f) (CX : gg_CX l S0 b Lx xs D cA adK adV opq p R s m args meth c k d nL cb sb o) (RL : gg_Rl S0 b Lx xs D cA adK adV opq s nL cb sb L w H locs cells slots ls) {ix : Nat} {x y : Int} {r : List gg_V} (hlk : Cond.methodLink (gg_c (gg_mt k).1) ix Lib.Math.max.name ∈ gg_gw) (hdg : decode (gg_bt k) pc = .ok (.invokestatic ix, 3)) (hr : (r.map gg_cat).sum ≤ 8) (h : gg_ex Lx xs f d k (pc + 3) L ((0, if gg_i x ≤ gg_i y then y else x) :: r) w = some o) : W p l e R s m args below meth c H locs cells slots Q (F0 m pc ls (.int (gg_i y) :: .int (gg_i x) :: r.map (gv S0 b adK adV opq))) := by
  obtain ⟨⟨hx, hb, hml, hown, hts⟩, hE, hR, hin, hfl, hS0⟩ := id CX
  obtain ⟨hL, hl, hH, hS, hc, hs⟩ := id RL
  have hmn := gg_ex_mn _ _ _ _ _ _ _ _ _ _ h
  have hmn1 : w.2.2.2.1 ≤ o.2.2.2.2.1 := hmn.1
  have hmn2 : w.2.2.2.2 ≤ o.2.2.2.2.2 := hmn.2
  have kk := IH _ _ _ _ _ _ _ _ _ h RL
  rw [List.map_cons, show gv S0 b adK adV opq (0, if gg_i x ≤ gg_i y then y else x) = .int (if gg_i x < gg_i y then gg_i y else gg_i x) from by
    show Value.int (gg_i (if gg_i x ≤ gg_i y then y else x)) = _
    congr 1
    by_cases hq : gg_i x < gg_i y
    · rw [if_pos hq, if_pos (Int32.le_iff_toInt_le.mpr (Int.le_of_lt (Int32.lt_iff_toInt_lt.mp hq)))]
    · rw [if_neg hq]
      by_cases hq2 : gg_i x ≤ gg_i y
      · rw [if_pos hq2]
        exact Int32.le_antisymm (Int32.le_iff_toInt_le.mpr (Int.not_lt.mp fun z => hq (Int32.lt_iff_toInt_lt.mpr z))) hq2
      · rw [if_neg hq2]] at kk
  exact va_mmax hx hb (by rw [hml]; exact hl.1.symm) hown (hts _ hlk) (hts _ gw_max1) (hts _ gw_math) (hts _ gw_max2) (by omega) (by rw [gv_cats hE.2.2.2.2.2.2.1]; omega) (by omega) (by omega) hdg kk

theorem gs_objinit (IH : gg_Wk l S0 b Lx xs D cA adK adV opq p e R s m args below meth c Q k d nL cb sb o f) (CX : gg_CX l S0 b Lx xs D cA adK adV opq p R s m args meth c k d nL cb sb o) (RL : gg_Rl S0 b Lx xs D cA adK adV opq s nL cb sb L w H locs cells slots ls) {ix x : Nat} {r : List gg_V} (hlk : Cond.methodLink (gg_c (gg_mt k).1) ix Lib.objectInit ∈ gg_gw) (hdg : decode (gg_bt k) pc = .ok (.invokespecial ix, 3)) (hr : (r.map gg_cat).sum ≤ 8) (h : gg_ex Lx xs f d k (pc + 3) L r w = some o) : W p l e R s m args below meth c H locs cells slots Q (F0 m pc ls (gv S0 b adK adV opq (2, Int.ofNat x) :: r.map (gv S0 b adK adV opq))) := by
  obtain ⟨⟨hx, hb, hml, hown, hts⟩, hE, hR, hin, hfl, hS0⟩ := id CX
  obtain ⟨hL, hl, hH, hS, hc, hs⟩ := id RL
  have kk := IH _ _ _ _ _ _ _ _ _ h RL
  obtain ⟨a, ha⟩ : ∃ a, gg_rf S0 b (Int.ofNat x) = .ref a := by cases x <;> exact ⟨_, rfl⟩
  rw [show gv S0 b adK adV opq (2, Int.ofNat x) = .ref a from ha]
  refine W.objInit hx hb hown (hts _ hlk) (hts _ gw_oi) (hts _ gw_oc) rfl (by rw [hml]; exact hl.1) rfl hdg (by omega) ?_ kk
  rw [gv_cats hE.2.2.2.2.2.2.1]
  show 2 * 0 + _ + 12 ≤ _
  omega

theorem gk_toInt {z : Int32} (hz : ¬ z < 0) : z.toInt = (z.toNatClampNeg : Int) := by
  have h0 : (0 : Int) ≤ z.toInt := by
    have := Int32.le_iff_toInt_le.mp (Int32.not_lt.mp hz)
    simpa using this
  show z.toInt = ((z.toInt.toNat : Nat) : Int)
  omega
theorem gs_copy (IH : gg_Wk l S0 b Lx xs D cA adK adV opq p e R s m args below meth c Q k d nL cb sb o f) (CX : gg_CX l S0 b Lx xs D cA adK adV opq p R s m args meth c k d nL cb sb o) (RL : gg_Rl S0 b Lx xs D cA adK adV opq s nL cb sb L w H locs cells slots ls) {ix : Nat} (hlk : Cond.methodLink (gg_c (gg_mt k).1) ix arraycopyName ∈ gg_gw) (hdg : decode (gg_bt k) pc = .ok (.invokestatic ix, 3)) (h : gg_copy st w (fun st w => gg_ex Lx xs f d k (pc + 3) L st w) = some o) : W p l e R s m args below meth c H locs cells slots Q (F0 m pc ls (st.map (gv S0 b adK adV opq))) := by
  obtain ⟨⟨hx, hb, hml, hown, hts⟩, hE, hR, hin, hfl, hS0⟩ := id CX
  obtain ⟨hL, hl, hH, hS, hc, hs⟩ := id RL
  obtain ⟨n0, dp, sp, a, bb, r, rfl, ⟨h1, h2, h3, h4, h5, h6, h7, h8, h9, h10, h11, h12, h13⟩, hf⟩ := gcopy_ok h
  have hA := gg_H_at hH h1 h2
  have hB := gg_H_at hH h3 h4
  rw [gg_ce_num h5 (Or.inl rfl)] at hA
  rw [gg_ce_num h6 (Or.inl rfl)] at hB
  simp only [List.map_cons]
  rw [show gv S0 b adK adV opq (2, Int.ofNat a) = .ref (S0 + (a - 1)) from gg_rf_pos h1, show gv S0 b adK adV opq (2, Int.ofNat bb) = .ref (S0 + (bb - 1)) from gg_rf_pos h3]
  intro T hT X
  obtain ⟨-, k0, hk0, cm0, hkk0⟩ := (hE.1.2 0 _ rfl).1 (gg_sh a).2.1 (fun j => .int (gg_i (w.2.1 a j)))
  obtain ⟨-, k1, hk1, cm1, hkk1⟩ := (hE.1.2 0 _ rfl).1 (gg_sh bb).2.1 (fun j => .int (gg_i (w.2.1 bb j)))
  obtain ⟨vm', X', step⟩ := X.arraycopy hx hown (hts _ hlk) (hts _ gw_ac2) (hts _ gw_ac1) (hts _ gw_sys) (src := S0 + (a - 1)) (dst := S0 + (bb - 1)) (cs := vp_cell (cA 1) ((gg_sh a).2.1, .inl fun j => gg_i (w.2.1 a j))) (cd := vp_cell (cA 1) ((gg_sh bb).2.1, .inl fun j => gg_i (w.2.1 bb j))) (srcPos := gg_i sp) (destPos := gg_i dp) (n := gg_i n0) (by rw [hT]; exact hA) (by rw [hT]; exact hB)
    (fun _ z => by cases z) (fun _ z => by cases z) (fun z => by cases z) (fun z => by cases z) hk0 hk1 hkk0 hkk1 rfl h7 h8 h9
    (by rw [gk_toInt h7, gk_toInt h9]; show ¬ _ > ((arrV (cA 1) (gg_sh a).2.1 (fun j => .int (gg_i (w.2.1 a j)))).slots.size : Int); rw [arrV_size]; unfold gg_k at h10; omega)
    (by rw [gk_toInt h8, gk_toInt h9]; show ¬ _ > ((arrV (cA 1) (gg_sh bb).2.1 (fun j => .int (gg_i (w.2.1 bb j)))).slots.size : Int); rw [arrV_size]; unfold gg_k at h11; omega)
    (fun vm₁ _ i hi => by
      have e : (vp_cell (cA 1) ((gg_sh a).2.1, .inl fun j => gg_i (w.2.1 a j))).slots.getD ((gg_i sp).toNatClampNeg + i) .null = .int (gg_i (w.2.1 a ((gg_i sp).toNatClampNeg + i))) := by
        show (arrV (cA 1) (gg_sh a).2.1 (fun j => .int (gg_i (w.2.1 a j)))).slots.getD _ _ = _
        rw [Array.getD_eq_getD_getElem?, arrV_read _ _ (by unfold gg_k at h10; omega)]
        rfl
      rw [e]
      exact ⟨rfl, trivial⟩)
    (g := F0 m pc ls (.int (gg_i n0) :: .int (gg_i dp) :: .ref (S0 + (bb - 1)) :: .int (gg_i sp) :: .ref (S0 + (a - 1)) :: r.map (gv S0 b adK adV opq))) rfl (by rw [hml]; exact hl.1) (rest := r.map (gv S0 b adK adV opq)) rfl (by rw [hb]; exact hdg) (by omega) (by rw [gv_cats hE.2.2.2.2.2.2.1]; show 2 * 0 + _ + (5 + 2 + 11) ≤ _; omega)
  have e1 : copied (vp_cell (cA 1) ((gg_sh a).2.1, .inl fun j => gg_i (w.2.1 a j))) (vp_cell (cA 1) ((gg_sh bb).2.1, .inl fun j => gg_i (w.2.1 bb j))) (gg_i sp) (gg_i dp) (gg_i n0) = vp_cell (cA 1) ((gg_sh bb).2.1, .inl (va_cpy (fun j => gg_i (w.2.1 a j)) (fun j => gg_i (w.2.1 bb j)) (gg_k sp) (gg_k dp) (gg_k n0))) := va_copied (n0 := (gg_sh a).2.1) (n1 := (gg_sh bb).2.1) (sp := (gg_i sp).toNatClampNeg) (dp := (gg_i dp).toNatClampNeg) (n := (gg_i n0).toNatClampNeg) (fun z => Value.int z) (cA 1) (cA 1) (fun j => gg_i (w.2.1 a j)) (fun j => gg_i (w.2.1 bb j)) h10
  rw [e1] at X' step
  have hlB : S0 + (bb - 1) < H.size := (Array.getElem?_eq_some_iff.mp hB).1
  generalize hnew : vp_cell (cA 1) ((gg_sh bb).2.1, .inl (va_cpy (fun j => gg_i (w.2.1 a j)) (fun j => gg_i (w.2.1 bb j)) (gg_k sp) (gg_k dp) (gg_k n0))) = nc at X' step
  have hheap : ((T.setVm vm').setCell (S0 + (bb - 1)) nc).heap = H.setIfInBounds (S0 + (bb - 1)) nc := by rw [← hT]; rfl
  have oq : ∀ q : Nat, q ≠ S0 + (bb - 1) → (H.setIfInBounds (S0 + (bb - 1)) nc)[q]? = H[q]? := fun q hq => by simp [Array.getElem?_setIfInBounds, Ne.symm hq]
  obtain ⟨t, a1, b1⟩ := IH _ _ _ _ _ _ _ _ _ hf ⟨hL, hl, gg_H_set (H' := H.setIfInBounds (S0 + (bb - 1)) nc) hH h3 h4 rfl (fun o ho => ⟨rfl, by funext j; show gg_cpy w.2.1 a (gg_k sp) bb (gg_k dp) (gg_k n0) o j = _; unfold gg_cpy; rw [if_neg (fun z => ho z.1)]⟩) (by
        rw [gg_ce_num h6 (Or.inl rfl)]
        show (H.setIfInBounds (S0 + (bb - 1)) nc)[S0 + (bb - 1)]? = some (vp_cell _ _)
        rw [← hnew]
        simp only [Array.getElem?_setIfInBounds, if_true, hlB]
        congr 2
        congr 1
        congr 1
        funext j
        show va_cpy _ _ _ _ _ j = gg_i (gg_cpy w.2.1 a (gg_k sp) bb (gg_k dp) (gg_k n0) bb j)
        unfold va_cpy gg_cpy
        by_cases hq : gg_k dp ≤ j ∧ j < gg_k dp + gg_k n0
        · rw [if_pos hq, if_pos ⟨rfl, hq⟩]
        · rw [if_neg hq, if_neg (fun z => hq z.2)]) (by simp) oq, ⟨by simp; exact hS.1, fun q g1 g2 => by
        rw [oq q (fun z => g2 (by rw [z]; exact Nat.le_add_right _ _))]
        exact hS.2.1 q g1 g2, fun q hq => by
        rcases List.mem_append.mp hq with h9 | h9
        · exact hS.2.2 q h9
        · obtain ⟨z, -, hz⟩ := List.mem_map.mp h9
          rw [← hz]
          exact Nat.le_add_right _ _⟩, hc, hs⟩ _ hheap X'
  exact ⟨t, step t a1, b1⟩

end GS5
