/-! the start: what stays as it was -/
theorem gt_in {pos : Nat} {w : Cond} (h : decide ((gg_tb (gg_spl 0 pos gg_bnd).1)[(gg_spl 0 pos gg_bnd).2]? = some w) = true) : w ∈ lw_tbl := gg_tb_in (List.mem_of_getElem? (of_decide_eq_true h))
theorem gt_in2 {args : Array Value} {s : State} {pos : Nat} {w : Cond} (hts : ∀ w ∈ lw_tbl, w.before args s = true) (h : decide ((gg_tb (gg_spl 0 pos gg_bnd).1)[(gg_spl 0 pos gg_bnd).2]? = some w) = true) : w.before args s = true := hts w (gt_in h)
section GST
variable {s : State} {args : Array Value}
theorem gst_gw (hts : ∀ w ∈ lw_tbl, w.before args s = true) : ∀ w ∈ gg_gw, w.before args s = true := by
  intro w hw
  rcases List.mem_append.mp (List.mem_filter.mp hw).1 with h | h
  · exact hts w h
  · have h0 : (Cond.selects "java/lang/StringBuilder" ⟨"java/lang/AbstractStringBuilder", "isLatin1", "()Z"⟩ ⟨"java/lang/AbstractStringBuilder", "isLatin1", "()Z"⟩).before args s = true := gt_in2 (pos := 712) hts (by decide +kernel)
    obtain ⟨y, hy, rfl⟩ := List.mem_map.mp h
    simp only [List.mem_cons, List.not_mem_nil, or_false] at hy
    rcases hy with rfl | rfl | rfl | rfl
    · exact gy_selpriv (gy_asb_ok (y := 404) (by unfold gy_asb; decide)).2.1 h0 (gt_in2 (pos := 681) hts (by decide +kernel)) (gt_in2 (pos := 682) hts (by decide +kernel))
    · exact gy_selpriv (gy_asb_ok (y := 406) (by unfold gy_asb; decide)).2.1 h0 (gt_in2 (pos := 736) hts (by decide +kernel)) (gt_in2 (pos := 737) hts (by decide +kernel))
    · exact gy_selpriv (gy_asb_ok (y := 409) (by unfold gy_asb; decide)).2.1 h0 (gt_in2 (pos := 685) hts (by decide +kernel)) (gt_in2 (pos := 686) hts (by decide +kernel))
    · exact gy_selpriv (gy_asb_ok (y := 410) (by unfold gy_asb; decide)).2.1 h0 (gt_in2 (pos := 732) hts (by decide +kernel)) (gt_in2 (pos := 733) hts (by decide +kernel))
theorem gst_K (hts : ∀ w ∈ lw_tbl, w.before args s = true) : ∃ (D : va_G) (cA : Nat → ClassId), va_K D gg_cl (gg_ty cA) s := by
  have hgw := gst_gw hts
  have h : ∀ c : Nat, ∃ q : ClassId × (Nat → Nat), gy_ob c = true → u_Kn s (gg_cln c).1 (gg_cln c).2.1 (gg_cln c).2.2 q.1 q.2 := by
    intro c
    by_cases hc : gy_ob c = true
    · obtain ⟨g1, g2, g3, g4, g5, g6, g7, g8⟩ := gg_cf hc
      obtain ⟨cC, iS, h⟩ := u_known hgw g5 (hgw (.instantiable (gg_cln c).1 (gg_cln c).2.2) (by rw [g1]; exact g4))
      exact ⟨(cC, iS), fun _ => h⟩
    · exact ⟨(default, fun _ => 0), fun h => absurd h hc⟩
  have h2 : ∀ c : Nat, ∃ q : ClassId × (Nat → Nat), c < 18 → u_Kn s (gg_cln c).1 (gg_cln c).2.1 (gg_cln c).2.2 q.1 q.2 := by
    intro c
    by_cases hc : gy_ob c = true
    · obtain ⟨q, hq⟩ := h c
      exact ⟨q, fun _ => hq hc⟩
    · by_cases hc18 : c < 18
      · obtain ⟨q, hq⟩ := h 0
        refine ⟨q, fun _ => ?_⟩
        have e : gg_cln c = gg_cln 0 := by
          have h3 : c = 8 ∨ c = 10 ∨ c = 11 ∨ c = 12 ∨ c = 13 := by
            apply Classical.byContradiction
            intro hn
            exact hc (by unfold gy_ob; simp [hc18, hn])
          rcases h3 with rfl | rfl | rfl | rfl | rfl <;> rfl
        rw [e]
        exact hq rfl
      · exact ⟨(default, fun _ => 0), fun h => absurd h hc18⟩
  obtain ⟨c1, k1, q1, a1, b1, d1⟩ := Cond.arrayClass_spec (hgw _ gw_ai)
  obtain ⟨c2, k2, q2, a2, b2, d2⟩ := Cond.arrayClass_spec (hgw _ gw_az)
  obtain ⟨c3, k3, q3, a3, b3, d3⟩ := Cond.arrayClass_spec (hgw _ gw_ab)
  obtain ⟨c4, k4, q4, a4, b4, d4⟩ := Cond.arrayClass_spec (hgw _ gw_aj)
  obtain ⟨q5, c5, k5, e5, -, b5, d5, a5⟩ := Cond.arrayOver_spec (gt_in2 (pos := 144) (w := .arrayOver (.object RX0)) hts (by decide +kernel))
  obtain ⟨q7, c7, k7, e7, -, b7, d7, a7⟩ := Cond.arrayOver_spec (gt_in2 (pos := 223) (w := .arrayOver (.object RX2)) hts (by decide +kernel))
  obtain ⟨q19, c19, k19, e19, -, b19, d19, a19⟩ := Cond.arrayOver_spec (gt_in2 (pos := 1406) (w := .arrayOver (.object RX14)) hts (by decide +kernel))
  obtain ⟨q29, c29, k29, e29, -, b29, d29, a29⟩ := Cond.arrayOver_spec (gt_in2 (pos := 887) (w := .arrayOver (.object "java/lang/Object")) hts (by decide +kernel))
  obtain ⟨q30, c30, k30, e30, b30, d30, a30⟩ := Cond.arrayOver_specA (gt_in2 (pos := 1278) (w := .arrayOver (.array .int)) hts (by decide +kernel))
  refine ⟨(fun c => (Classical.choose (h2 c)).1, fun c => (Classical.choose (h2 c)).2), fun k => if k = 1 then c1 else if k = 2 then c2 else if k = 3 then c3 else if k = 4 then c4 else if k = 5 then c5 else if k = 7 then c7 else if k = 19 then c19 else if k = 29 then c29 else c30, ?_, ?_⟩
  · intro c q hq
    have hc : c < 18 := (List.getElem?_eq_some_iff.mp hq).1
    have hq2 : q = gg_cln c := by
      unfold gg_cln
      rw [List.getD_eq_getElem?_getD, hq]
      rfl
    subst hq2
    exact Classical.choose_spec (h2 c) hc
  · intro k q hq
    match k, hq with
    | 0, hq => cases hq; exact ⟨fun n z => ⟨fun k h => (by cases h), k1, b1, q1, d1⟩, a1⟩
    | 1, hq => cases hq; exact ⟨fun n z => ⟨fun k h => (by cases h), k2, b2, q2, d2⟩, a2⟩
    | 2, hq => cases hq; exact ⟨fun n z => ⟨fun k h => (by cases h), k3, b3, q3, d3⟩, a3⟩
    | 3, hq => cases hq; exact ⟨fun n z => ⟨fun k h => (by cases h), k4, b4, q4, d4⟩, a4⟩
    | 4, hq => cases hq; exact ⟨fun n z => ⟨fun k h => (by cases h), k5, b5, q5, d5⟩, k5, q5, b5, d5, e5, a5⟩
    | 5, hq => cases hq; exact ⟨fun n z => ⟨fun k h => (by cases h), k7, b7, q7, d7⟩, k7, q7, b7, d7, e7, a7⟩
    | 6, hq => cases hq; exact ⟨fun n z => ⟨fun k h => (by cases h), k19, b19, q19, d19⟩, k19, q19, b19, d19, e19, a19⟩
    | 7, hq => cases hq; exact ⟨fun n z => ⟨fun k h => (by cases h), k29, b29, q29, d29⟩, k29, q29, b29, d29, e29, a29⟩
    | 8, hq => cases hq; exact ⟨fun n z => ⟨fun k h => (by cases h), k30, b30, q30, d30⟩, a30⟩
    | k + 9, hq => cases hq
theorem gst_N (hts : ∀ w ∈ lw_tbl, w.before args s = true) (hs : ∀ c ∈ flatC (Jvm.Cond.and given_1 narrow_1), c.before args s = true) {ad : Nat → Int → Nat} (hmi : va_Mi "[Ljava/lang/Object;" (ad 7 5) s) : gy_N ad s := by
  refine ⟨⟨fun e he => ?_, va_Nw.of rfl (gt_in2 (pos := 486) hts (by decide +kernel))⟩, fun C hC => ?_, fun x hx => ?_, ⟨va_Nc.of (hs _ (by decide +kernel)), va_Nc.of (hs _ (by decide +kernel))⟩, fun C hC => ?_, (show (Cond.arrayOver (.array .int)).before args s = true from gt_in2 (pos := 1278) (w := .arrayOver (.array .int)) hts (by decide +kernel)), va_Dc.of (gt_in2 (pos := 1436) hts (by decide +kernel)), hmi, fun e he => ?_⟩
  · have h0 : gg_nls = [(6, 36, 37, 1), (5, 11, 30, 1), (6, 50, 52, 1), (8, 29, 361, 2)] := by decide +kernel
    rw [h0] at he
    simp only [List.mem_cons, List.not_mem_nil, or_false] at he
    rcases he with rfl | rfl | rfl | rfl
    · exact va_Nw.of rfl (gt_in2 (pos := 159) hts (by decide +kernel))
    · exact va_Nw.of rfl (gt_in2 (pos := 201) hts (by decide +kernel))
    · exact va_Nw.of rfl (gt_in2 (pos := 250) hts (by decide +kernel))
    · exact va_Nw.of rfl (gt_in2 (pos := 466) hts (by decide +kernel))
  · simp only [gg_xs, List.mem_cons, List.not_mem_nil, or_false] at hC
    rcases hC with rfl | rfl | rfl | rfl | rfl | rfl | rfl
    · exact va_Nw.of rfl (gt_in2 (pos := 312) hts (by decide +kernel))
    · exact va_Nw.of rfl (gt_in2 (pos := 1018) hts (by decide +kernel))
    · exact va_Nw.of rfl (gt_in2 (pos := 705) hts (by decide +kernel))
    · exact va_Nw.of rfl (gt_in2 (pos := 1112) hts (by decide +kernel))
    · exact va_Nw.of rfl (gt_in2 (pos := 1431) hts (by decide +kernel))
    · exact va_Nw.of rfl (gt_in2 (pos := 1419) hts (by decide +kernel))
    · exact va_Nw.of rfl (gt_in2 (pos := 1420) hts (by decide +kernel))
  · simp only [gg_dcl, List.mem_cons, List.not_mem_nil, or_false] at hx
    rcases hx with rfl | rfl | rfl
    · exact va_Nw.of rfl (gt_in2 (pos := 313) hts (by decide +kernel))
    · exact va_Nw.of rfl (gt_in2 (pos := 315) hts (by decide +kernel))
    · exact va_Nw.of rfl (gt_in2 (pos := 317) hts (by decide +kernel))
  · simp only [gy_aos, List.mem_cons, List.not_mem_nil, or_false] at hC
    rcases hC with rfl | rfl | rfl | rfl
    · exact va_AO.of (gt_in2 (pos := 144) hts (by decide +kernel))
    · exact va_AO.of (gt_in2 (pos := 223) hts (by decide +kernel))
    · exact va_AO.of (gt_in2 (pos := 1406) hts (by decide +kernel))
    · exact va_AO.of (gt_in2 (pos := 887) hts (by decide +kernel))
  · simp only [gy_if, List.mem_cons, List.not_mem_nil, or_false] at he
    rcases he with rfl | rfl | rfl
    · exact va_Fw.of (A := args) (gt_in2 (pos := 978) hts (by decide +kernel)) (gt_in2 (pos := 977) hts (by decide +kernel)) (gt_in2 (pos := 983) hts (by decide +kernel)) (gt_in2 (pos := 981) hts (by decide +kernel)) (gt_in2 (pos := 979) hts (by decide +kernel))
    · exact va_Fw.of (A := args) (gt_in2 (pos := 988) hts (by decide +kernel)) (gt_in2 (pos := 987) hts (by decide +kernel)) (gt_in2 (pos := 992) hts (by decide +kernel)) (gt_in2 (pos := 990) hts (by decide +kernel)) (gt_in2 (pos := 979) hts (by decide +kernel))
    · exact va_Fw.of (A := args) (gt_in2 (pos := 1102) hts (by decide +kernel)) (gt_in2 (pos := 1101) hts (by decide +kernel)) (gt_in2 (pos := 1107) hts (by decide +kernel)) (gt_in2 (pos := 1105) hts (by decide +kernel)) (gt_in2 (pos := 1103) hts (by decide +kernel))
def gst_tm (i : Nat) : Term := .string (["GainGraphs$Reader", "GainGraphs$Reader", "GainGraphs$Reader", "GainGraphsLaw", "GainGraphsLaw", "GainGraphsLaw", "GainGraphsLaw"].getD i "") ([48, 69, 77, 43, 61, 63, 92].getD i 0)
def gst_by : List (List Int32) := gg_txs.map (List.map gg_i)
theorem gst_by_at (i j : Nat) : (gst_by.getD i []).getD j 0 = gg_i ((gg_tx i).getD j 0) := by
  have h1 : gst_by.getD i [] = (gg_tx i).map gg_i := by
    unfold gst_by gg_tx
    rw [List.getD_eq_getElem?_getD, List.getElem?_map, List.getD_eq_getElem?_getD]
    cases gg_txs[i]? <;> rfl
  rw [h1, List.getD_eq_getElem?_getD, List.getElem?_map, List.getD_eq_getElem?_getD]
  cases (gg_tx i)[j]? <;> rfl
theorem gst_len : ∀ i : Nat, i < 7 → ([5, 3, 4, 6, 5, 7, 6] : List Nat).getD i 0 = (gg_tx i).length := by decide +kernel
theorem gst_txt {adK adV : Nat → Nat} {ad : Nat → Int → Nat} (h4 : ∀ i : Nat, ad 4 i = adK i) (h8 : ∀ i : Nat, ad 8 i = adV i) {A : Nat → Prop} (hS : vk_S 7 [5, 3, 4, 6, 5, 7, 6] gst_by adK adV A s s.heap) (i : Nat) (hi : i < 7) : gg_text ad A i s s.heap := by
  obtain ⟨t1, t2, t3, t4⟩ := hS.1 i hi
  unfold gg_text
  rw [h4, h8]
  refine ⟨t1, t2, t3, ?_⟩
  rw [gst_len i hi] at t4
  have hf : (fun j => Value.int ((gst_by.getD i []).getD j 0)) = fun j => Value.int (gg_i ((gg_tx i).getD j 0)) := funext fun j => by rw [gst_by_at]
  rw [hf] at t4
  exact t4
theorem gst_S (hs : ∀ c ∈ flatC (Jvm.Cond.and given_1 narrow_1), c.before args s = true) {A : Nat → Prop} (hA : ∀ a : Nat, a < s.heap.size → ¬ A a) :
    ∃ adK adV : Nat → Nat, vk_S 7 [5, 3, 4, 6, 5, 7, 6] gst_by adK adV A s s.heap ∧ ∀ i : Nat, i < 7 → (gst_tm i).eval args s none [] s = some (.ref (adK i)) := by
  have q1 : ∀ i : Nat, i < 7 → (.exactly (gst_tm i) "java/lang/String") ∈ flatC (Jvm.Cond.and given_1 narrow_1) := by decide +kernel
  have q2 : ∀ i : Nat, i < 7 → (.eq (.field (gst_tm i) "java/lang/String" "coder" "B") (.int 0)) ∈ flatC (Jvm.Cond.and given_1 narrow_1) := by decide +kernel
  have q3 : ∀ i : Nat, i < 7 → (.arrayOf (.field (gst_tm i) "java/lang/String" "value" "[B") .byte) ∈ flatC (Jvm.Cond.and given_1 narrow_1) := by decide +kernel
  have q4 : ∀ i : Nat, i < 7 → (.eq (.length (.field (gst_tm i) "java/lang/String" "value" "[B")) (.int (Int32.ofNat (([5, 3, 4, 6, 5, 7, 6] : List Nat).getD i 0)))) ∈ flatC (Jvm.Cond.and given_1 narrow_1) := by decide +kernel
  have q5 : ∀ i : Nat, i < 7 → ∀ j : Nat, j < ([5, 3, 4, 6, 5, 7, 6] : List Nat).getD i 0 → (.eq (.elem (.field (gst_tm i) "java/lang/String" "value" "[B") (.int (Int32.ofNat j))) (.int ((gst_by.getD i []).getD j 0))) ∈ flatC (Jvm.Cond.and given_1 narrow_1) := by decide +kernel
  have q6 : ∀ i : Nat, i < 7 → ∀ j : Nat, j < i → (.not (.eq (gst_tm j) (gst_tm i))) ∈ flatC (Jvm.Cond.and given_1 narrow_1) := by decide +kernel
  refine vk_Sof (tm := gst_tm) (fun i hi => ?_) (fun i hi => hs _ (q1 i hi)) (fun i hi => hs _ (q2 i hi)) (fun i hi => hs _ (q3 i hi)) (fun i hi => hs _ (q4 i hi)) (fun i hi j hj => hs _ (q5 i hi j hj)) (fun i j hi hj hne => ?_) hA
  · revert i
    decide
  · rcases Nat.lt_or_gt_of_ne hne with h | h
    · exact Or.inl (hs _ (q6 j hj i h))
    · exact Or.inr (hs _ (q6 i hi j h))
set_option maxRecDepth 100000 in
theorem gst_d2l : ((flatC (Jvm.Cond.and given_1 narrow_1)).drop 18).take 100 = (List.range 100).map fun j => .eq (.elem (.static "java/lang/Integer" "DigitOnes" "[B") (.int (Int32.ofNat j))) (.int (gg_i (gy_dg 2 j))) := by decide +kernel
theorem gst_d2 (j : Nat) (hj : j < 100) : (.eq (.elem (.static "java/lang/Integer" "DigitOnes" "[B") (.int (Int32.ofNat j))) (.int (gg_i (gy_dg 2 j)))) ∈ flatC (Jvm.Cond.and given_1 narrow_1) := by
  have h : (.eq (.elem (.static "java/lang/Integer" "DigitOnes" "[B") (.int (Int32.ofNat j))) (.int (gg_i (gy_dg 2 j)))) ∈ ((flatC (Jvm.Cond.and given_1 narrow_1)).drop 18).take 100 := by
    rw [gst_d2l]
    exact List.mem_map.mpr ⟨j, List.mem_range.mpr hj, rfl⟩
  exact List.mem_of_mem_drop (List.mem_of_mem_take h)
set_option maxRecDepth 100000 in
theorem gst_d3l : ((flatC (Jvm.Cond.and given_1 narrow_1)).drop 121).take 100 = (List.range 100).map fun j => .eq (.elem (.static "java/lang/Integer" "DigitTens" "[B") (.int (Int32.ofNat j))) (.int (gg_i (gy_dg 3 j))) := by decide +kernel
theorem gst_d3 (j : Nat) (hj : j < 100) : (.eq (.elem (.static "java/lang/Integer" "DigitTens" "[B") (.int (Int32.ofNat j))) (.int (gg_i (gy_dg 3 j)))) ∈ flatC (Jvm.Cond.and given_1 narrow_1) := by
  have h : (.eq (.elem (.static "java/lang/Integer" "DigitTens" "[B") (.int (Int32.ofNat j))) (.int (gg_i (gy_dg 3 j)))) ∈ ((flatC (Jvm.Cond.and given_1 narrow_1)).drop 121).take 100 := by
    rw [gst_d3l]
    exact List.mem_map.mpr ⟨j, List.mem_range.mpr hj, rfl⟩
  exact List.mem_of_mem_drop (List.mem_of_mem_take h)
set_option maxHeartbeats 8000000 in
/-- what stays as it was, at the law's entry -/
theorem gst_E (hts : ∀ w ∈ lw_tbl, w.before args s = true) (hgv : (Jvm.Cond.and given_1 narrow_1).before args s = true) {b Lx : Nat} {xs : Nat → Int32} (hX : va_X b Lx xs s s.heap) (hbl : b < s.heap.size) :
    ∃ (D : va_G) (cA : Nat → ClassId) (ad : Nat → Int → Nat) (opq : Value), gy_E s.heap.size b Lx xs D cA ad opq s s.heap := by
  have hs := flat_of_before _ hgv
  have hgw := gst_gw hts
  have hA : ∀ a : Nat, a < s.heap.size → ¬ gg_A s.heap.size a := fun a h1 h2 => by
    unfold gg_A at h2
    omega
  obtain ⟨D, cA, hK⟩ := gst_K hts
  obtain ⟨adK, adV, hS, htm⟩ := gst_S hs hA
  obtain ⟨mi, hmi⟩ := va_Mi.of (hs (.isRef (.mirror "[Ljava/lang/Object;")) (by decide +kernel))
  have hini : ∀ (C : String) (pos : Nat), decide ((gg_tb (gg_spl 0 pos gg_bnd).1)[(gg_spl 0 pos gg_bnd).2]? = some (Cond.initialized C)) = true → (Cond.initialized C).before args s = true := fun C pos h => gt_in2 hts h
  have hlen : ∀ (tm : Term) (n : Nat), (.eq (.length tm) (.int (Int32.ofNat n))) ∈ flatC (Jvm.Cond.and given_1 narrow_1) → (Term.length tm).eval args s none [] s = some (.int (Int32.ofNat n)) := fun tm n h => va_eqv (hs _ h) rfl
  obtain ⟨t1, ht1, hT1⟩ := va_Tof (tm := .static "java/util/ArrayList" "DEFAULTCAPACITY_EMPTY_ELEMENTDATA" "[Ljava/lang/Object;") (ty := .object "java/lang/Object") (N := 0) (f := fun _ => .null) (A := gg_A s.heap.size) (by decide) (hs _ (by decide +kernel)) (hlen _ _ (by decide +kernel)) (fun j hj => absurd hj (Nat.not_lt_zero j)) hA
  obtain ⟨t2, ht2, hT2⟩ := va_Tof (tm := .static "java/lang/Integer" "DigitOnes" "[B") (ty := .byte) (N := 100) (f := fun j => .int (gg_i (gy_dg 2 j))) (A := gg_A s.heap.size) (by decide) (hs _ (by decide +kernel)) (hlen _ _ (by decide +kernel)) (fun j hj => va_eqv (hs _ (gst_d2 j hj)) rfl) hA
  obtain ⟨t3, ht3, hT3⟩ := va_Tof (tm := .static "java/lang/Integer" "DigitTens" "[B") (ty := .byte) (N := 100) (f := fun j => .int (gg_i (gy_dg 3 j))) (A := gg_A s.heap.size) (by decide) (hs _ (by decide +kernel)) (hlen _ _ (by decide +kernel)) (fun j hj => va_eqv (hs _ (gst_d3 j hj)) rfl) hA
  obtain ⟨adC, hC, hCe⟩ := vb_Cof (st := .static "java/lang/Integer$IntegerCache" "cache" "[Ljava/lang/Integer;") (A := gg_A s.heap.size) (by decide +kernel) (hlen _ _ (by decide +kernel)) (hs _ (by decide +kernel)) hA
  obtain ⟨t4, ht4, hT4⟩ := va_Tof (tm := .static "java/lang/Integer$IntegerCache" "cache" "[Ljava/lang/Integer;") (ty := .object "java/lang/Integer") (N := 256) (f := fun j => .ref (adC j)) (A := gg_A s.heap.size) (by decide) (hs _ (by decide +kernel)) (hlen _ _ (by decide +kernel)) (fun j hj => hCe j hj) hA
  obtain ⟨opq, ho1, ho2⟩ := Cond.isRef_spec (hs (.isRef (.static "jdk/internal/util/Preconditions" "SIOOBE_FORMATTER" "Ljava/util/function/BiFunction;")) (by decide +kernel))
  have ho : opq = .null ∨ ∃ t : Nat, opq = .ref t := by
    cases opq <;> first | exact Or.inl rfl | exact Or.inr ⟨_, rfl⟩ | cases ho2
  obtain ⟨ad, h4, h6, h8, h71, h72, h73, h74, h75⟩ : ∃ ad : Nat → Int → Nat, (∀ i : Nat, ad 4 i = adK i) ∧ (∀ k : Nat, ad 6 ((k : Int) - 128) = adC k) ∧ (∀ i : Nat, ad 8 i = adV i) ∧ ad 7 1 = t1 ∧ ad 7 2 = t2 ∧ ad 7 3 = t3 ∧ ad 7 4 = t4 ∧ ad 7 5 = mi := by
    refine ⟨fun t z => if t = 4 then adK z.toNat else if t = 6 then adC (z + 128).toNat else if t = 8 then adV z.toNat else if z = 1 then t1 else if z = 2 then t2 else if z = 3 then t3 else if z = 4 then t4 else mi, fun i => rfl, fun k => ?_, fun i => rfl, rfl, rfl, rfl, rfl, rfl⟩
    show adC ((k : Int) - 128 + 128).toNat = adC k
    congr 1
    omega
  refine ⟨D, cA, ad, opq, hK, ⟨vx_Zqof (gt_in2 (pos := 337) hts (by decide +kernel)) (hini _ 46 (by decide +kernel)) (hs _ (by decide +kernel)) hA, vx_Zqof (gt_in2 (pos := 339) hts (by decide +kernel)) (hini _ 46 (by decide +kernel)) (hs _ (by decide +kernel)) hA⟩, hX, hbl,
    va_Zof (gt_in2 (pos := 544) hts (by decide +kernel)) (hini _ 54 (by decide +kernel)) (va_eqi (hs _ (by decide +kernel))) hA, va_Zof (gt_in2 (pos := 560) hts (by decide +kernel)) (hini _ 45 (by decide +kernel)) ho1 hA, by rcases ho with rfl | ⟨t, rfl⟩ <;> rfl, fun i hi => ?_, fun e he => ?_, gst_N hts hs (by rw [h75]; exact hmi), ho, ?_⟩
  · exact gst_txt h4 h8 hS i hi
  · have h0 : gg_lss = [(3, 48, 0, 620), (3, 69, 1, 645), (3, 77, 2, 654), (8, 43, 3, 667), (8, 61, 4, 841), (8, 63, 5, 842), (8, 92, 6, 892)] := rfl
    rw [h0] at he
    simp only [List.mem_cons, List.not_mem_nil, or_false] at he
    rcases he with rfl | rfl | rfl | rfl | rfl | rfl | rfl
    · exact vk_R.of (gt_in2 (pos := 620) hts (by decide +kernel)) (by rw [h4]; exact htm 0 (by decide))
    · exact vk_R.of (gt_in2 (pos := 645) hts (by decide +kernel)) (by rw [h4]; exact htm 1 (by decide))
    · exact vk_R.of (gt_in2 (pos := 654) hts (by decide +kernel)) (by rw [h4]; exact htm 2 (by decide))
    · exact vk_R.of (gt_in2 (pos := 667) hts (by decide +kernel)) (by rw [h4]; exact htm 3 (by decide))
    · exact vk_R.of (gt_in2 (pos := 841) hts (by decide +kernel)) (by rw [h4]; exact htm 4 (by decide))
    · exact vk_R.of (gt_in2 (pos := 842) hts (by decide +kernel)) (by rw [h4]; exact htm 5 (by decide))
    · exact vk_R.of (gt_in2 (pos := 892) hts (by decide +kernel)) (by rw [h4]; exact htm 6 (by decide))
  · unfold gy_F
    rw [h71, h72, h73, h74]
    have e6 : (fun k : Nat => ad 6 ((k : Int) - 128)) = adC := funext h6
    have e7 : (fun j : Nat => Value.ref (ad 6 ((j : Int) - 128))) = fun j => Value.ref (adC j) := funext fun j => by rw [h6]
    rw [e6, e7]
    exact ⟨⟨va_Zof (gt_in2 (pos := 483) hts (by decide +kernel)) (hini _ 36 (by decide +kernel)) ht1 hA, hT1⟩, ⟨va_Zof (gt_in2 (pos := 786) hts (by decide +kernel)) (hini _ 38 (by decide +kernel)) ht2 hA, hT2⟩, ⟨va_Zof (gt_in2 (pos := 788) hts (by decide +kernel)) (hini _ 38 (by decide +kernel)) ht3 hA, hT3⟩, va_Zof (gt_in2 (pos := 897) hts (by decide +kernel)) (hini _ 39 (by decide +kernel)) (va_eqi (hs _ (by decide +kernel))) hA, ⟨va_Zof (gt_in2 (pos := 899) hts (by decide +kernel)) (hini _ 39 (by decide +kernel)) ht4 hA, hT4, hC⟩⟩
end GST
