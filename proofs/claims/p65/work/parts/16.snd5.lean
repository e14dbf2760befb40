/-! the machine follows the interpreter: Math.min, Math.max, System.arraycopy, Object(), clone, getClass, checkcast -/
section GS5
variable {l : Launch} {S0 b Lx : Nat} {xs : Nat → Int32} {D : va_G} {cA : Nat → ClassId} {ad : Nat → Int → Nat} {opq : Value} {p : Program} {e : Env} {R : Room} {s : State} {m : MethodId} {args : Array Value} {below : List Frame} {meth : Method} {c : Code} {Q : State → Prop} {k d nL cb sb : Nat} {o : gy_O} {f : Nat}
variable {pc n : Nat} {L st : List gg_V} {w w' : gy_W} {H H' : Heap} {locs : List Loc} {cells slots : Nat} {ls : Array Slot}
theorem gs_min (IH : gy_Wk l S0 b Lx xs D cA ad opq p e R s m args below meth c Q k d nL cb sb o f) (CX : gy_CX l S0 b Lx xs D cA ad opq p R s m args meth c k d nL cb sb o) (RL : gy_Rl S0 b Lx xs D cA ad opq s nL cb sb L w H locs cells slots ls) {ix : Nat} {x y : Int} {r : List gg_V} (hlk : Cond.methodLink (gg_c (gg_mt k).1) ix Lib.Math.min.name ∈ gg_gw) (hdg : decode (gg_bt k) pc = .ok (.invokestatic ix, 3)) (hr : (r.map gg_cat).sum ≤ 8) (h : gy_ex Lx xs f d k (pc + 3) L ((0, if gg_i x ≤ gg_i y then x else y) :: r) w = some o) : W p l e R s m args below meth c H locs cells slots Q (F0 m pc ls (.int (gg_i y) :: .int (gg_i x) :: r.map (yv S0 b ad opq))) := by
  obtain ⟨⟨hx, hb, hml, hown, hts⟩, hE, hR, hin, hfl, hS0⟩ := id CX
  obtain ⟨hL, hl, hH, hS, hc, hs⟩ := id RL
  have hmn := gy_ex_mn _ _ _ _ _ _ _ _ _ _ h
  have hmn1 : w.2.2.1 ≤ o.2.2.2.1 := hmn.1
  have hmn2 : w.2.2.2 ≤ o.2.2.2.2 := hmn.2
  have kk := IH _ _ _ _ _ _ _ _ _ h RL
  rw [List.map_cons, show yv S0 b ad opq (0, if gg_i x ≤ gg_i y then x else y) = .int (if gg_i y < gg_i x then gg_i y else gg_i x) from by
    show Value.int (gg_i (if gg_i x ≤ gg_i y then x else y)) = _
    congr 1
    by_cases hq : gg_i x ≤ gg_i y
    · rw [if_pos hq, if_neg (fun z => absurd (Int32.lt_iff_toInt_lt.mp z) (Int.not_lt.mpr (Int32.le_iff_toInt_le.mp hq)))]
    · rw [if_neg hq, if_pos (Int32.lt_iff_toInt_lt.mpr (Int.not_le.mp fun z => hq (Int32.le_iff_toInt_le.mpr z)))]] at kk
  exact va_mmin hx hb (by rw [hml]; exact hl.1.symm) hown (hts _ hlk) (hts _ gw_min1) (hts _ gw_math) (hts _ gw_min2) (by omega) (by rw [yv_cats hE.2.2.2.2.2.2.1]; omega) (by omega) (by omega) hdg kk

theorem gs_max (IH : gy_Wk l S0 b Lx xs D cA ad opq p e R s m args below meth c Q k d nL cb sb o f) (CX : gy_CX l S0 b Lx xs D cA ad opq p R s m args meth c k d nL cb sb o) (RL : gy_Rl S0 b Lx xs D cA ad opq s nL cb sb L w H locs cells slots ls) {ix : Nat} {x y : Int} {r : List gg_V} (hlk : Cond.methodLink (gg_c (gg_mt k).1) ix Lib.Math.max.name ∈ gg_gw) (hdg : decode (gg_bt k) pc = .ok (.invokestatic ix, 3)) (hr : (r.map gg_cat).sum ≤ 8) (h : gy_ex Lx xs f d k (pc + 3) L ((0, if gg_i x ≤ gg_i y then y else x) :: r) w = some o) : W p l e R s m args below meth c H locs cells slots Q (F0 m pc ls (.int (gg_i y) :: .int (gg_i x) :: r.map (yv S0 b ad opq))) := by
  obtain ⟨⟨hx, hb, hml, hown, hts⟩, hE, hR, hin, hfl, hS0⟩ := id CX
  obtain ⟨hL, hl, hH, hS, hc, hs⟩ := id RL
  have hmn := gy_ex_mn _ _ _ _ _ _ _ _ _ _ h
  have hmn1 : w.2.2.1 ≤ o.2.2.2.1 := hmn.1
  have hmn2 : w.2.2.2 ≤ o.2.2.2.2 := hmn.2
  have kk := IH _ _ _ _ _ _ _ _ _ h RL
  rw [List.map_cons, show yv S0 b ad opq (0, if gg_i x ≤ gg_i y then y else x) = .int (if gg_i x < gg_i y then gg_i y else gg_i x) from by
    show Value.int (gg_i (if gg_i x ≤ gg_i y then y else x)) = _
    congr 1
    by_cases hq : gg_i x < gg_i y
    · rw [if_pos hq, if_pos (Int32.le_iff_toInt_le.mpr (Int.le_of_lt (Int32.lt_iff_toInt_lt.mp hq)))]
    · rw [if_neg hq]
      by_cases hq2 : gg_i x ≤ gg_i y
      · rw [if_pos hq2]
        exact Int32.le_antisymm (Int32.le_iff_toInt_le.mpr (Int.not_lt.mp fun z => hq (Int32.lt_iff_toInt_lt.mpr z))) hq2
      · rw [if_neg hq2]] at kk
  exact va_mmax hx hb (by rw [hml]; exact hl.1.symm) hown (hts _ hlk) (hts _ gw_max1) (hts _ gw_math) (hts _ gw_max2) (by omega) (by rw [yv_cats hE.2.2.2.2.2.2.1]; omega) (by omega) (by omega) hdg kk

theorem gs_objinit (IH : gy_Wk l S0 b Lx xs D cA ad opq p e R s m args below meth c Q k d nL cb sb o f) (CX : gy_CX l S0 b Lx xs D cA ad opq p R s m args meth c k d nL cb sb o) (RL : gy_Rl S0 b Lx xs D cA ad opq s nL cb sb L w H locs cells slots ls) {ix x : Nat} {r : List gg_V} (hlk : Cond.methodLink (gg_c (gg_mt k).1) ix Lib.objectInit ∈ gg_gw) (hdg : decode (gg_bt k) pc = .ok (.invokespecial ix, 3)) (hr : (r.map gg_cat).sum ≤ 8) (h : gy_ex Lx xs f d k (pc + 3) L r w = some o) : W p l e R s m args below meth c H locs cells slots Q (F0 m pc ls (yv S0 b ad opq (2, Int.ofNat x) :: r.map (yv S0 b ad opq))) := by
  obtain ⟨⟨hx, hb, hml, hown, hts⟩, hE, hR, hin, hfl, hS0⟩ := id CX
  obtain ⟨hL, hl, hH, hS, hc, hs⟩ := id RL
  have kk := IH _ _ _ _ _ _ _ _ _ h RL
  obtain ⟨a, ha⟩ : ∃ a, gg_rf S0 b (Int.ofNat x) = .ref a := by cases x <;> exact ⟨_, rfl⟩
  rw [show yv S0 b ad opq (2, Int.ofNat x) = .ref a from ha]
  refine W.objInit hx hb hown (hts _ hlk) (hts _ gw_oi) (hts _ gw_oc) rfl (by rw [hml]; exact hl.1) rfl hdg (by omega) ?_ kk
  rw [yv_cats hE.2.2.2.2.2.2.1]
  show 2 * 0 + _ + 12 ≤ _
  omega

theorem gk_toInt {z : Int32} (hz : ¬ z < 0) : z.toInt = (z.toNatClampNeg : Int) := by
  have h0 : (0 : Int) ≤ z.toInt := by
    have := Int32.le_iff_toInt_le.mp (Int32.not_lt.mp hz)
    simpa using this
  show z.toInt = ((z.toInt.toNat : Nat) : Int)
  omega
theorem gs_copyG (IH : gy_Wk l S0 b Lx xs D cA ad opq p e R s m args below meth c Q k d nL cb sb o f) (CX : gy_CX l S0 b Lx xs D cA ad opq p R s m args meth c k d nL cb sb o) (RL : gy_Rl S0 b Lx xs D cA ad opq s nL cb sb L w H locs cells slots ls) {ix : Nat} (hlk : Cond.methodLink (gg_c (gg_mt k).1) ix arraycopyName ∈ gg_gw) (hdg : decode (gg_bt k) pc = .ok (.invokestatic ix, 3)) {cI : Nat} {ty : FieldType} {t0 : Nat} (ht0 : (gg_ty cA)[t0]? = some (cA cI, ty)) {src : Nat} {cs : Cell} (hcs : H[src]? = some cs) (hv1 : ∀ q, cs.vm ≠ .statics q) (hv2 : cs.vm ≠ .unknown) (hks : ∃ (ks : Class) (cm : ClassId), s.vm.classes[cs.cls]? = some ks ∧ ks.kind = .array cm ty)
    {na nb : Nat} {F G : Nat → Value} (hF : ∀ j, j < na → cs.slots[j]? = some (F j)) (hna : na ≤ cs.slots.size) {bb : Nat} (h9 : (w.1 bb).1 ≠ 9) (hB : H[S0 + (bb - 1)]? = some (arrV (cA cI) nb G)) {m' : gy_M} {n0 dp sp : Int} {r : List gg_V} (h7 : ¬ gg_i sp < 0) (h8 : ¬ gg_i dp < 0) (h10 : ¬ gg_i n0 < 0) (h11 : gg_k sp + gg_k n0 ≤ na) (h12 : gg_k dp + gg_k n0 ≤ nb) (h13 : (r.map gg_cat).sum ≤ 8)
    (hel : ∀ (T : State) (vm₁ : Vm), T.heap = H → s.vm.Alike vm₁ → ∀ comp : ClassId, (∃ kA : Class, s.vm.classes[cA cI]? = some kA ∧ kA.kind = .array comp ty) → ∀ i : Nat, i < gg_k n0 → fits ty (F (gg_k sp + i)) = true ∧ (T.setVm vm₁).takes comp (F (gg_k sp + i)))
    (hm : ∀ o, o ≠ bb → m' o = w.2.1 o) (hat : ∀ H1 : Heap, H1[S0 + (bb - 1)]? = some (arrV (cA cI) nb (va_cpy F G (gg_k sp) (gg_k dp) (gg_k n0))) → va_at D gg_cl (S0 + (bb - 1), gy_ce S0 b ad opq cA (w.1, m', w.2.2) bb) H1)
    (h : gy_ex Lx xs f d k (pc + 3) L r (w.1, m', w.2.2) = some o) : W p l e R s m args below meth c H locs cells slots Q (F0 m pc ls (.int (gg_i n0) :: .int (gg_i dp) :: .ref (S0 + (bb - 1)) :: .int (gg_i sp) :: .ref src :: r.map (yv S0 b ad opq))) := by
  obtain ⟨⟨hx, hb, hml, hown, hts⟩, hE, hR, hin, hfl, hS0⟩ := id CX
  obtain ⟨hL, hl, hH, hS, hc, hs⟩ := id RL
  obtain ⟨ks, cm, hk0, hkk0⟩ := hks
  obtain ⟨-, k1, hk1, cm1, hkk1⟩ := (hE.1.2 t0 _ ht0).1 nb G
  intro T hT X
  obtain ⟨vm', X', step⟩ := X.arraycopy hx hown (hts _ hlk) (hts _ gw_ac2) (hts _ gw_ac1) (hts _ gw_sys) (src := src) (dst := S0 + (bb - 1)) (cs := cs) (cd := arrV (cA cI) nb G) (srcPos := gg_i sp) (destPos := gg_i dp) (n := gg_i n0) (by rw [hT]; exact hcs) (by rw [hT]; exact hB)
    hv1 (fun _ z => by cases z) hv2 (fun z => by cases z) hk0 hk1 hkk0 hkk1 (by simp) h7 h8 h10
    (by rw [gk_toInt h7, gk_toInt h10]; unfold gg_k at h11; omega)
    (by rw [gk_toInt h8, gk_toInt h10, arrV_size]; unfold gg_k at h12; omega)
    (fun vm₁ hal i hi => by
      have e : cs.slots.getD ((gg_i sp).toNatClampNeg + i) .null = F (gg_k sp + i) := by
        rw [Array.getD_eq_getD_getElem?, hF _ (by unfold gg_k at h11; omega)]
        rfl
      rw [e]
      exact hel T vm₁ hT hal _ ⟨k1, hk1, hkk1⟩ i hi)
    (g := F0 m pc ls (.int (gg_i n0) :: .int (gg_i dp) :: .ref (S0 + (bb - 1)) :: .int (gg_i sp) :: .ref src :: r.map (yv S0 b ad opq))) rfl (by rw [hml]; exact hl.1) (rest := r.map (yv S0 b ad opq)) rfl (by rw [hb]; exact hdg) (by omega) (by rw [yv_cats hE.2.2.2.2.2.2.1]; show 2 * 0 + _ + (5 + 2 + 11) ≤ _; omega)
  have e1 : copied cs (arrV (cA cI) nb G) (gg_i sp) (gg_i dp) (gg_i n0) = arrV (cA cI) nb (va_cpy F G (gg_k sp) (gg_k dp) (gg_k n0)) := va_copiedX (n0 := na) (n1 := nb) (sp := (gg_i sp).toNatClampNeg) (dp := (gg_i dp).toNatClampNeg) (n := (gg_i n0).toNatClampNeg) (fun z => z) cs (cA cI) F G hF h11
  rw [e1] at X' step
  have hlB : S0 + (bb - 1) < H.size := (Array.getElem?_eq_some_iff.mp hB).1
  generalize hnew : arrV (cA cI) nb (va_cpy F G (gg_k sp) (gg_k dp) (gg_k n0)) = nc at X' step hat
  have hheap : ((T.setVm vm').setCell (S0 + (bb - 1)) nc).heap = H.setIfInBounds (S0 + (bb - 1)) nc := by rw [← hT]; rfl
  have oq : ∀ q : Nat, q ≠ S0 + (bb - 1) → (H.setIfInBounds (S0 + (bb - 1)) nc)[q]? = H[q]? := fun q hq => by simp [Array.getElem?_setIfInBounds, Ne.symm hq]
  obtain ⟨t, a1, b1⟩ := IH _ _ _ _ _ _ _ _ _ h ⟨hL, hl, gy_H_set (H' := H.setIfInBounds (S0 + (bb - 1)) nc) hH h9 ⟨rfl, rfl⟩ hm (hat _ (by simp only [Array.getElem?_setIfInBounds, if_true, hlB])) (by simp) oq, ⟨by simp; exact hS.1, fun q g1 g2 => by
        rw [oq q (fun z => g2 (by rw [z]; exact Nat.le_add_right _ _))]
        exact hS.2.1 q g1 g2, fun q hq => by
        rcases List.mem_append.mp hq with h9 | h9
        · exact hS.2.2 q h9
        · obtain ⟨z, -, hz⟩ := List.mem_map.mp h9
          rw [← hz]
          exact Nat.le_add_right _ _⟩, hc, hs⟩ _ hheap X'
  exact ⟨t, step t a1, b1⟩
theorem gg_bytes : ∀ s : Nat, s < 7 → ∀ j, j < (gg_tx s).length → fits .byte (.int (gg_i ((gg_tx s).getD j 0))) = true := by decide +kernel
theorem gs_copy (IH : gy_Wk l S0 b Lx xs D cA ad opq p e R s m args below meth c Q k d nL cb sb o f) (CX : gy_CX l S0 b Lx xs D cA ad opq p R s m args meth c k d nL cb sb o) (RL : gy_Rl S0 b Lx xs D cA ad opq s nL cb sb L w H locs cells slots ls) {ix : Nat} (hlk : Cond.methodLink (gg_c (gg_mt k).1) ix arraycopyName ∈ gg_gw) (hdg : decode (gg_bt k) pc = .ok (.invokestatic ix, 3)) (h : gy_copy st w (fun st w => gy_ex Lx xs f d k (pc + 3) L st w) = some o) : W p l e R s m args below meth c H locs cells slots Q (F0 m pc ls (st.map (yv S0 b ad opq))) := by
  obtain ⟨⟨hx, hb, hml, hown, hts⟩, hE, hR, hin, hfl, hS0⟩ := id CX
  obtain ⟨hL, hl, hH, hS, hc, hs⟩ := id RL
  obtain ⟨n0, dp, sp, bb, r, hcase⟩ := gycopy_ok h
  rcases hcase with ⟨a, rfl, ⟨hkind, h7, h8, h10, h11, h12, h13⟩, hf⟩ | ⟨s2, rfl, ⟨h3, hs2, h7, h8, h10, h11, h12, h13⟩, hf⟩
  · have hba : (w.1 a).1 ≠ 9 ∧ (w.1 bb).1 ≠ 9 := by omega
    obtain ⟨a1, -, hA⟩ := hH.1 a hba.1
    obtain ⟨b1, -, hB⟩ := hH.1 bb hba.2
    simp only [List.map_cons]
    rw [show yv S0 b ad opq (2, Int.ofNat a) = .ref (S0 + (a - 1)) from gg_rf_pos a1, show yv S0 b ad opq (2, Int.ofNat bb) = .ref (S0 + (bb - 1)) from gg_rf_pos b1]
    have hm : ∀ o, o ≠ bb → gy_cpy w.2.1 a (gg_k sp) bb (gg_k dp) (gg_k n0) o = w.2.1 o := fun o ho => by
      funext j
      unfold gy_cpy
      rw [if_neg (fun z => ho z.1)]
    have hnum : ∀ (kd t0 : Nat) (ty : FieldType), (kd = 1 ∨ kd = 2 ∨ kd = 3) → (w.1 a).1 = kd → (w.1 bb).1 = kd → (gg_ty cA)[t0]? = some (cA kd, ty) → refKind ty = false → (∀ i, i < gg_k n0 → fits ty (.int (gg_i (w.2.1 a (gg_k sp + i)).2)) = true) → W p l e R s m args below meth c H locs cells slots Q (F0 m pc ls (.int (gg_i n0) :: .int (gg_i dp) :: .ref (S0 + (bb - 1)) :: .int (gg_i sp) :: .ref (S0 + (a - 1)) :: r.map (yv S0 b ad opq))) := by
      intro kd t0 ty hkd h3 h4 ht0 hpr hft
      rw [gy_ce_num h3 hkd] at hA
      rw [gy_ce_num h4 hkd] at hB
      have hA2 : H[S0 + (a - 1)]? = some (arrV (cA kd) (w.1 a).2.1 (fun j => .int (gg_i (w.2.1 a j).2))) := hA
      obtain ⟨-, k0, hk0, cm0, hkk0⟩ := (hE.1.2 t0 _ ht0).1 (w.1 a).2.1 (fun j => .int (gg_i (w.2.1 a j).2))
      refine gs_copyG IH CX RL hlk hdg ht0 hA2 (fun _ z => by cases z) (fun z => by cases z) ⟨k0, cm0, hk0, hkk0⟩ (na := (w.1 a).2.1) (nb := (w.1 bb).2.1) (F := fun j => .int (gg_i (w.2.1 a j).2)) (G := fun j => .int (gg_i (w.2.1 bb j).2)) (fun j hj => arrV_read _ _ hj) (by rw [arrV_size]; exact Nat.le_refl _) hba.2 hB h7 h8 h10 h11 h12 h13 (fun T vm₁ _ _ comp _ i hi => ⟨hft i hi, trivial⟩) hm (fun H1 e1 => ?_) hf
      rw [gy_ce_num (w := (w.1, gy_cpy w.2.1 a (gg_k sp) bb (gg_k dp) (gg_k n0), w.2.2)) h4 hkd]
      show H1[_]? = some (vp_cell _ _)
      rw [e1, vp_cell_i]
      congr 2
      funext j
      show va_cpy _ _ _ _ _ j = Value.int (gg_i (gy_cpy w.2.1 a (gg_k sp) bb (gg_k dp) (gg_k n0) bb j).2)
      unfold va_cpy gy_cpy
      by_cases hq : gg_k dp ≤ j ∧ j < gg_k dp + gg_k n0
      · rw [if_pos hq, if_pos ⟨rfl, hq⟩]
      · rw [if_neg hq, if_neg (fun z => hq z.2)]
    rcases hkind with ⟨h3, h4⟩ | ⟨h3, h4, h5⟩ | ⟨h3, h4, h5, h6, h14⟩
    · exact hnum 1 0 .int (Or.inl rfl) h3 h4 rfl rfl (fun i hi => rfl)
    · refine hnum 3 2 .byte (Or.inr (Or.inr rfl)) h3 h4 rfl rfl (fun i hi => ?_)
      have e1 : gg_i (w.2.1 a (gg_k sp + i)).2 = (gg_i (w.2.1 a (gg_k sp + i)).2).toInt8.toInt32 := by
        have h2 : gg_i (io_i2b (w.2.1 a (gg_k sp + i)).2) = (gg_i (w.2.1 a (gg_k sp + i)).2).toInt8.toInt32 := gi_of _
        rw [h5 i hi] at h2
        exact h2
      rw [e1]
      exact pk_fb _
    · rw [gy_ce_ref h3] at hA
      rw [gy_ce_ref h4, h6] at hB
      have hA2 : H[S0 + (a - 1)]? = some (arrV (cA 29) (w.1 a).2.1 (fun j => va_rf (yo S0 b ad (w.2.1 a j)))) := by rw [h5] at hA; exact hA
      have ht0 : (gg_ty cA)[7]? = some (cA 29, .object "java/lang/Object") := rfl
      obtain ⟨-, k0, hk0, cm0, hkk0⟩ := (hE.1.2 7 _ ht0).1 (w.1 a).2.1 (fun j => va_rf (yo S0 b ad (w.2.1 a j)))
      refine gs_copyG IH CX RL hlk hdg ht0 hA2 (fun _ z => by cases z) (fun z => by cases z) ⟨k0, cm0, hk0, hkk0⟩ (na := (w.1 a).2.1) (nb := (w.1 bb).2.1) (F := fun j => va_rf (yo S0 b ad (w.2.1 a j))) (G := fun j => va_rf (yo S0 b ad (w.2.1 bb j))) (fun j hj => arrV_read _ _ hj) (by rw [arrV_size]; exact Nat.le_refl _) hba.2 hB h7 h8 h10 h11 h12 h13 (fun T vm₁ hT hal comp hcomp i hi => ?_) hm (fun H1 e1 => ?_) hf
      · obtain ⟨hrr, C, t1, ht1, hC24, hel⟩ := gy_el_ok (h14 i hi) hE hH hS
        cases hC24 rfl
        rcases hel with ⟨hn, -⟩ | ⟨q, cellV, hq, g1, g2, ⟨kC, hkC⟩, hasg⟩
        · show fits _ (va_rf (yo S0 b ad (w.2.1 a (gg_k sp + i)))) = true ∧ (T.setVm vm₁).takes comp (va_rf (yo S0 b ad (w.2.1 a (gg_k sp + i))))
          rw [hn]
          exact ⟨rfl, trivial⟩
        · show fits _ (va_rf (yo S0 b ad (w.2.1 a (gg_k sp + i)))) = true ∧ (T.setVm vm₁).takes comp (va_rf (yo S0 b ad (w.2.1 a (gg_k sp + i))))
          rw [hq]
          refine ⟨rfl, ?_⟩
          obtain ⟨kA, hkA, hkk⟩ := hcomp
          obtain ⟨kA2, comp2, k1, k2, k3, -⟩ := (hE.1.2 7 _ ht0).2
          cases hkA.symm.trans k1
          cases hkk.symm.trans k2
          obtain ⟨kE, hkE, -⟩ := Vm.findClass_spec k3
          obtain ⟨kC', hkC', -⟩ := hal.2.2 _ _ hkC
          obtain ⟨kE', hkE', -⟩ := hal.2.2 _ _ hkE
          refine ⟨cellV, (show T.heap[q]? = some cellV by rw [hT]; exact g1), (fun z hz => by rw [hz] at g2; cases g2), ⟨kC', hkC'⟩, ⟨kE', hkE'⟩, ?_⟩
          show vm₁.assignable _ _ = true
          rw [hal.assignable]
          exact hasg _ k3
      · rw [gy_ce_ref (w := (w.1, gy_cpy w.2.1 a (gg_k sp) bb (gg_k dp) (gg_k n0), w.2.2)) h4]
        show H1[_]? = some (vp_cell (cA (5 + (w.1 bb).2.2)) _)
        rw [h6, e1, vp_cell_q]
        congr 2
        funext j
        show va_cpy _ _ _ _ _ j = va_rf (yo S0 b ad (gy_cpy w.2.1 a (gg_k sp) bb (gg_k dp) (gg_k n0) bb j))
        unfold va_cpy gy_cpy
        by_cases hq : gg_k dp ≤ j ∧ j < gg_k dp + gg_k n0
        · rw [if_pos hq, if_pos ⟨rfl, hq⟩]
        · rw [if_neg hq, if_neg (fun z => hq z.2)]
  · obtain ⟨b1, -, hB⟩ := hH.1 bb (by omega)
    simp only [List.map_cons]
    rw [show yv S0 b ad opq (2, Int.ofNat bb) = .ref (S0 + (bb - 1)) from gg_rf_pos b1]
    rw [gy_ce_num h3 (Or.inr (Or.inr rfl))] at hB
    obtain ⟨cell, c1, c2, c3, c4, c5, c6, c7⟩ := (hE.2.2.2.2.2.2.2.1 s2 hs2).2.2.2
    obtain ⟨c20, k0, hk0, cm0, hkk0⟩ := c2
    refine gs_copyG IH CX RL hlk hdg (t0 := 2) (cI := 3) rfl (src := ad 8 s2) (cs := cell) (by rw [hS.2.1 _ (Array.getElem?_eq_some_iff.mp c1).1 c7]; exact c1) c20 c3 ⟨k0, cm0, hk0, hkk0⟩ (na := (gg_tx s2).length) (nb := (w.1 bb).2.1) (F := fun j => .int (gg_i ((gg_tx s2).getD j 0))) (G := fun j => .int (gg_i (w.2.1 bb j).2)) c6 c4 (by omega) hB h7 h8 h10 h11 h12 h13 (fun T vm₁ _ _ comp _ i hi => ⟨gg_bytes s2 hs2 _ (by omega), trivial⟩) (fun o ho => by
        funext j
        exact if_neg (fun z => ho z.1)) (fun H1 e1 => ?_) hf
    rw [gy_ce_num (w := (w.1, (fun o j => if o = bb ∧ gg_k dp ≤ j ∧ j < gg_k dp + gg_k n0 then (0, (gg_tx s2).getD (gg_k sp + (j - gg_k dp)) 0) else w.2.1 o j : gy_M), w.2.2)) h3 (Or.inr (Or.inr rfl))]
    show H1[_]? = some (vp_cell _ _)
    rw [e1, vp_cell_i]
    congr 2
    funext j
    show va_cpy _ _ _ _ _ j = Value.int (gg_i (if bb = bb ∧ gg_k dp ≤ j ∧ j < gg_k dp + gg_k n0 then ((0 : Nat), (gg_tx s2).getD (gg_k sp + (j - gg_k dp)) 0) else w.2.1 bb j).2)
    unfold va_cpy
    by_cases hq : gg_k dp ≤ j ∧ j < gg_k dp + gg_k n0
    · rw [if_pos hq, if_pos ⟨rfl, hq⟩]
    · rw [if_neg hq, if_neg (fun z => hq z.2)]
theorem gs_checkcast (IH : gy_Wk l S0 b Lx xs D cA ad opq p e R s m args below meth c Q k d nL cb sb o f) (CX : gy_CX l S0 b Lx xs D cA ad opq p R s m args meth c k d nL cb sb o) (RL : gy_Rl S0 b Lx xs D cA ad opq s nL cb sb L w H locs cells slots ls) {ix : Nat} (hdg : decode (gg_bt k) pc = .ok (.checkcast ix, n)) (h : gy_step (gy_ex Lx xs f) Lx xs d k pc L st w (.checkcast ix) n = some o) : W p l e R s m args below meth c H locs cells slots Q (F0 m pc ls (st.map (yv S0 b ad opq))) := by
  obtain ⟨⟨hx, hb, hml, hown, hts⟩, hE, hR, hin, hfl, hS0⟩ := id CX
  obtain ⟨hL, hl, hH, hS, hc, hs⟩ := id RL
  obtain ⟨rfl, h_1⟩ := gq_ok h
  split at h_1
  · rename_i v r
    cases hc0 : gg_lc (gg_mt k).1 ix with
    | none => rw [hc0] at h_1; cases h_1
    | some ci =>
      rw [hc0] at h_1
      obtain ⟨h1, hf⟩ := gif_ok h_1
      have hlk := hts _ (gg_lc_ok hc0)
      have kk := IH _ _ _ _ _ _ _ _ _ hf RL
      unfold gy_cst at h1
      split at h1
      · rename_i a
        simp only [Bool.or_eq_true, decide_eq_true_eq] at h1
        rcases h1 with (⟨h3, hob⟩ | ⟨rfl, h3⟩) | ⟨rfl, h3⟩
        · obtain ⟨a1, -, hat⟩ := hH.1 a (by rw [h3]; exact (by decide : (0 : Nat) ≠ 9))
          rw [gy_ce_obj h3] at hat
          obtain ⟨r0, q0, cell, q1, q2, q3, q4⟩ := hat
          have hcl := (hE.1.1 ci _ (gg_cl_at hob)).2
          rw [(gg_cf hob).1] at hcl
          rw [gy_cn_own hob] at hlk
          rw [List.map_cons, show yv S0 b ad opq (2, Int.ofNat a) = .ref (S0 + (a - 1)) from gg_rf_pos a1] at kk ⊢
          exact va_castE hx hb hown hlk ⟨cell, q1, by rw [q3]; rfl, by rw [q2]; exact hcl.1⟩ hdg kk
        · obtain ⟨a1, -, hat⟩ := hH.1 a (by rw [h3]; decide)
          rw [gy_ce_num h3 (Or.inr (Or.inr rfl))] at hat
          rw [List.map_cons, show yv S0 b ad opq (2, Int.ofNat a) = .ref (S0 + (a - 1)) from gg_rf_pos a1] at kk ⊢
          exact va_castA hx hb hown hlk (gy_one hat) 0 rfl (va_nm_byte (hE.1.2 2 _ rfl).2) hdg kk
        · obtain ⟨a1, -, hat⟩ := hH.1 a (by rw [h3]; decide)
          rw [gy_ce_num h3 (Or.inl rfl)] at hat
          rw [List.map_cons, show yv S0 b ad opq (2, Int.ofNat a) = .ref (S0 + (a - 1)) from gg_rf_pos a1] at kk ⊢
          exact va_castA hx hb hown hlk (gy_one hat) 0 rfl (va_nm_int (hE.1.2 0 _ rfl).2) hdg kk
      · rename_i x
        obtain ⟨rfl, h2, h3⟩ := of_decide_eq_true h1
        have e1 : (((x + 128).toNat : Nat) : Int) - 128 = x := by omega
        obtain ⟨cell, b1, b2, b3, b4⟩ := hE.2.2.2.2.2.2.2.2.2.2.2.2.2.2.2.2.2.1 (x + 128).toNat (by omega)
        dsimp only at b1 b4
        rw [e1] at b1 b4
        have b1' : H[ad 6 x]? = some cell := by rw [hS.2.1 _ (Array.getElem?_eq_some_iff.mp b1).1 b4]; exact b1
        exact va_castE hx hb hown hlk ⟨cell, b1', b2, b3⟩ hdg kk
      · cases h1
  · cases h_1
theorem gs_getclass (IH : gy_Wk l S0 b Lx xs D cA ad opq p e R s m args below meth c Q k d nL cb sb o f) (CX : gy_CX l S0 b Lx xs D cA ad opq p R s m args meth c k d nL cb sb o) (RL : gy_Rl S0 b Lx xs D cA ad opq s nL cb sb L w H locs cells slots ls) {ix a : Nat} {r : List gg_V} (hlk : Cond.methodLink (gg_c (gg_mt k).1) ix (gy_bn 1006) ∈ gg_gw) (hdg : decode (gg_bt k) pc = .ok (.invokevirtual ix, 3)) (h5 : (w.1 a).1 = 5) (h6 : (w.1 a).2.2 = 24) (h13 : (r.map gg_cat).sum ≤ 8) (hf : gy_ex Lx xs f d k (pc + 3) L ((7, 5) :: r) w = some o) : W p l e R s m args below meth c H locs cells slots Q (F0 m pc ls ((((2, Int.ofNat a) :: r : List gg_V)).map (yv S0 b ad opq))) := by
  obtain ⟨⟨hx, hb, hml, hown, hts⟩, hE, hR, hin, hfl, hS0⟩ := id CX
  obtain ⟨hL, hl, hH, hS, hc, hs⟩ := id RL
  obtain ⟨a1, -, hat⟩ := hH.1 a (by omega)
  rw [gy_ce_ref h5, h6] at hat
  have kk := IH _ _ _ _ _ _ _ _ _ hf RL
  rw [List.map_cons, show yv S0 b ad opq (2, Int.ofNat a) = .ref (S0 + (a - 1)) from gg_rf_pos a1]
  have hN := hE.2.2.2.2.2.2.2.2.2.1
  exact va_getC hx hb (by rw [hml]; exact hl.1.symm ▸ rfl) hown (hts _ hlk) (va_Dc.use hN.2.2.2.2.2.2.1) (hts _ gw_gc3) (hts _ gw_gc2) (hts _ gw_gc1) hN.2.2.2.2.2.2.2.1 ⟨_, hat, rfl, va_nmO (hE.1.2 7 _ rfl).2 (by decide +kernel)⟩ (by omega) (by rw [yv_cats hE.2.2.2.2.2.2.1]; omega) hdg kk
theorem gycln_ok {kd : Nat} {fk : List gg_V → gy_W → Option gy_O} (h : gy_cln kd st w fk = some o) : ∃ (a : Nat) (r : List gg_V), st = (2, Int.ofNat a) :: r ∧ ((w.1 a).1 = kd ∧ (r.map gg_cat).sum ≤ 8 ∧ (kd = 3 → ∀ j, j < (w.1 a).2.1 → io_i2b (w.2.1 a j).2 = (w.2.1 a j).2)) ∧
    fk ((2, ((w.2.2.1 + 1 : Nat) : Int)) :: r) (gy_mk w (kd, (w.1 a).2.1, 0) (w.2.1 a) (w.1 a).2.1) = some o := by
  unfold gy_cln at h
  split at h
  · rename_i a r
    obtain ⟨h1, h2⟩ := gif_ok h
    exact ⟨a, r, rfl, h1, h2⟩
  · cases h
theorem gs_clone (IH : gy_Wk l S0 b Lx xs D cA ad opq p e R s m args below meth c Q k d nL cb sb o f) (CX : gy_CX l S0 b Lx xs D cA ad opq p R s m args meth c k d nL cb sb o) (RL : gy_Rl S0 b Lx xs D cA ad opq s nL cb sb L w H locs cells slots ls) {ix kd t0 : Nat} {an : String} {ty : FieldType} (hlk : Cond.methodLink (gg_c (gg_mt k).1) ix ⟨an, "clone", "()Ljava/lang/Object;"⟩ ∈ gg_gw) (hsame : Cond.sameMethod an "java/lang/Object" "clone" "()Ljava/lang/Object;" ∈ gg_gw) (hsel : Cond.selects an ⟨an, "clone", "()Ljava/lang/Object;"⟩ ⟨"java/lang/Object", "clone", "()Ljava/lang/Object;"⟩ ∈ gg_gw) (hcas : (an, "java/lang/Cloneable") ∈ gg_xs) (hkd : kd = 1 ∨ kd = 3) (ht0 : (gg_ty cA)[t0]? = some (cA kd, ty)) (hnm : va_RA s (cA kd) ty → s.vm.findClass an = some (cA kd)) (hft : ∀ x : Int, (kd = 3 → io_i2b x = x) → fits ty (.int (gg_i x)) = true) (hdg : decode (gg_bt k) pc = .ok (.invokevirtual ix, 3)) (h_1 : gy_cln kd st w (fun st w => gy_ex Lx xs f d k (pc + 3) L st w) = some o) : W p l e R s m args below meth c H locs cells slots Q (F0 m pc ls (st.map (yv S0 b ad opq))) := by
  obtain ⟨⟨hx, hb, hml, hown, hts⟩, hE, hR, hin, hfl, hS0⟩ := id CX
  obtain ⟨hL, hl, hH, hS, hc, hs⟩ := id RL
  obtain ⟨a, r, rfl, ⟨h5, h13, h14⟩, hf⟩ := gycln_ok h_1
  have hkd2 : kd = 1 ∨ kd = 2 ∨ kd = 3 := by omega
  obtain ⟨a1, -, hat⟩ := hH.1 a (by omega)
  rw [gy_ce_num h5 hkd2] at hat
  have hmn := gy_ex_mn _ _ _ _ _ _ _ _ _ _ hf
  have hmn1 : w.2.2.1 + 1 ≤ o.2.2.2.1 := hmn.1
  have hmn2 : w.2.2.2 + (w.1 a).2.1 ≤ o.2.2.2.2 := hmn.2
  have hsz0 : H.size = S0 + w.2.2.1 := hH.2
  have hat2 : H[S0 + (a - 1)]? = some (arrV (cA kd) (w.1 a).2.1 (fun j => .int (gg_i (w.2.1 a j).2))) := hat
  have hnm2 := hnm (hE.1.2 t0 _ ht0).2
  obtain ⟨c0, t1, f1, f2, f3⟩ := Cond.castable_spec (va_Nw.use (A := args) rfl (hE.2.2.2.2.2.2.2.2.2.1.2.1 _ hcas))
  cases hnm2.symm.trans f1
  rw [List.map_cons, show yv S0 b ad opq (2, Int.ofNat a) = .ref (S0 + (a - 1)) from gg_rf_pos a1]
  intro T hT X
  have hcellT : T.heap[S0 + (a - 1)]? = some (arrV (cA kd) (w.1 a).2.1 (fun j => .int (gg_i (w.2.1 a j).2))) := by rw [hT]; exact hat2
  obtain ⟨-, kA, hkA, comp, hkind⟩ := State.isArrayOf_alike X.warmed.alike ((hE.1.2 t0 _ ht0).1 0 (fun _ => .null))
  obtain ⟨-, kS, hkS, compS, hkindS⟩ := (hE.1.2 t0 _ ht0).1 0 (fun _ => .null)
  have hkS' : s.vm.classes[cA kd]? = some kS := hkS
  obtain ⟨vm', X', st2⟩ := X.cloneArray hx hown (hts _ hlk) (hts _ hsame) (hts _ gw_cl1) (hts _ gw_cl2) (hts _ hsel) (a := S0 + (a - 1)) hcellT (fun q z => by cases z) (fun z => by cases z) hnm2 f2 f3
    (fun i v hv => by
      have hk' : T.vm.classes[cA kd]? = some kA := hkA
      have h6 : fits ty v = true := by
        by_cases hi : i < (w.1 a).2.1
        · rw [arrV_read _ _ hi] at hv
          cases hv
          exact hft _ (fun z => h14 z i hi)
        · rw [Array.getElem?_eq_none (by rw [arrV_size]; omega)] at hv
          cases hv
      show T.fitsSlot (cA kd) _ i v = true
      simpa [State.fitsSlot, State.slotType?, hk', hkind] using h6)
    (g := F0 m pc ls (.ref (S0 + (a - 1)) :: r.map (yv S0 b ad opq))) rfl (by rw [hml]; exact hl.1) rfl (by rw [hb]; exact hdg) (by omega) (by rw [yv_cats hE.2.2.2.2.2.2.1]; show 2 * 0 + _ + 14 ≤ _; omega) (by omega) (by rw [arrV_size]; omega) (hloader := Vm.clonesLoader_of_array hkS' hkindS)
  rw [arrV_size] at X'
  obtain ⟨t, b1, b2⟩ := IH _ _ _ _ _ locs (cells + 1) (slots + (w.1 a).2.1) ls hf ⟨hL, hl, gy_H_mk (H' := H.push (arrV (cA kd) (w.1 a).2.1 (fun j => .int (gg_i (w.2.1 a j).2)))) hH (by
      rw [gy_ce_num (kd := kd) (by show (gy_sup w.1 (w.2.2.1 + 1) (kd, (w.1 a).2.1, 0) (w.2.2.1 + 1)).1 = kd; rw [gy_sup_at]) hkd2]
      show _ = some (vp_cell _ _)
      rw [← hsz0, Array.getElem?_push_size, vp_cell_i]
      show some (arrV (cA kd) (w.1 a).2.1 (fun j => .int (gg_i (w.2.1 a j).2))) = some (arrV (cA kd) (gy_sup w.1 (w.2.2.1 + 1) (kd, (w.1 a).2.1, 0) (w.2.2.1 + 1)).2.1 (fun j => .int (gg_i (gy_row w.2.1 (w.2.2.1 + 1) (w.2.1 a) (w.2.2.1 + 1) j).2)))
      rw [gy_sup_at]
      congr 2
      funext j
      rw [gy_row_at]) (by simp) (fun q hq => by rw [Array.getElem?_push, if_neg (Nat.ne_of_lt hq)]), ⟨Nat.le_trans hS.1 (by simp), fun q g1 g2 => by
      rw [Array.getElem?_push, if_neg (Nat.ne_of_lt (Nat.lt_of_lt_of_le g1 hS.1))]
      exact hS.2.1 q g1 g2, hS.2.2⟩, by show cells + 1 + cb = w.2.2.1 + 1; omega, by show slots + (w.1 a).2.1 + sb = w.2.2.2 + (w.1 a).2.1; omega⟩
    ((T.setVm vm').pushCell (arrV (cA kd) (w.1 a).2.1 (fun j => .int (gg_i (w.2.1 a j).2)))) (by rw [← hT]; rfl) X'
  refine ⟨t, st2 t ?_, b2⟩
  rw [List.map_cons, show yv S0 b ad opq (2, ((w.2.2.1 + 1 : Nat) : Int)) = .ref (S0 + w.2.2.1) from rfl, ← hsz0] at b1
  rw [show T.heap.size = H.size by rw [hT]]
  exact b1
end GS5
