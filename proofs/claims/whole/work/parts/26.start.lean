/-! the start: what stays as it was -/
theorem gt_in {pos : Nat} {w : Cond} (h : decide ((gg_tb (gg_spl 0 pos gg_bnd).1)[(gg_spl 0 pos gg_bnd).2]? = some w) = true) : w ∈ lw_tbl := gg_tb_in (List.mem_of_getElem? (of_decide_eq_true h))
theorem gt_in2 {args : Array Value} {s : State} {pos : Nat} {w : Cond} (hts : ∀ w ∈ lw_tbl, w.before args s = true) (h : decide ((gg_tb (gg_spl 0 pos gg_bnd).1)[(gg_spl 0 pos gg_bnd).2]? = some w) = true) : w.before args s = true := hts w (gt_in h)
section GST
variable {s : State} {args : Array Value}
theorem gst_K (hts : ∀ w ∈ lw_tbl, w.before args s = true) : ∃ (D : va_G) (cA : Nat → ClassId), va_K D gg_cl (gg_ty cA) s := by
  have hgw : ∀ w ∈ gg_gw, w.before args s = true := fun w hw => hts w (List.mem_filter.mp hw).1
  have h : ∀ c : Nat, ∃ q : ClassId × (Nat → Nat), c < 8 → u_Kn s (gg_cln c).1 (gg_cln c).2.1 (gg_cln c).2.2 q.1 q.2 := by
    intro c
    by_cases hc : c < 8
    · obtain ⟨g1, g2, g3, g4, g5, g6, g7, g8⟩ := gg_cf hc
      obtain ⟨cC, iS, h⟩ := u_known hgw g5 (hgw (.instantiable (gg_cln c).1 (gg_cln c).2.2) (by rw [g1]; exact g4))
      exact ⟨(cC, iS), fun _ => h⟩
    · exact ⟨(default, fun _ => 0), fun h => absurd h hc⟩
  obtain ⟨c1, k1, q1, a1, b1, d1⟩ := Cond.arrayClass_spec (hgw _ gw_ai)
  obtain ⟨c2, k2, q2, a2, b2, d2⟩ := Cond.arrayClass_spec (hgw _ gw_az)
  obtain ⟨c3, k3, q3, a3, b3, d3⟩ := Cond.arrayClass_spec (hgw _ gw_ab)
  obtain ⟨c4, k4, q4, a4, b4, d4⟩ := Cond.arrayClass_spec (hgw _ gw_aj)
  obtain ⟨q5, c5, k5, e5, -, b5, d5, a5⟩ := Cond.arrayOver_spec (gt_in2 (pos := 194) (w := .arrayOver (.object RX0)) hts (by decide +kernel))
  obtain ⟨q7, c7, k7, e7, -, b7, d7, a7⟩ := Cond.arrayOver_spec (gt_in2 (pos := 276) (w := .arrayOver (.object RX2)) hts (by decide +kernel))
  refine ⟨(fun c => (Classical.choose (h c)).1, fun c => (Classical.choose (h c)).2), fun k => match k with | 1 => c1 | 2 => c2 | 3 => c3 | 4 => c4 | 5 => c5 | _ => c7, ?_, ?_⟩
  · intro c q hq
    have hc : c < 8 := (List.getElem?_eq_some_iff.mp hq).1
    have hq2 : q = gg_cln c := Option.some.inj (hq.symm.trans (gg_cl_at hc))
    subst hq2
    exact Classical.choose_spec (h c) hc
  · intro k q hq
    match k, hq with
    | 0, hq => cases hq; exact ⟨fun n z => ⟨fun k h => (by cases h), k1, b1, q1, d1⟩, a1⟩
    | 1, hq => cases hq; exact ⟨fun n z => ⟨fun k h => (by cases h), k2, b2, q2, d2⟩, a2⟩
    | 2, hq => cases hq; exact ⟨fun n z => ⟨fun k h => (by cases h), k3, b3, q3, d3⟩, a3⟩
    | 3, hq => cases hq; exact ⟨fun n z => ⟨fun k h => (by cases h), k4, b4, q4, d4⟩, a4⟩
    | 4, hq => cases hq; exact ⟨fun n z => ⟨fun k h => (by cases h), k5, b5, q5, d5⟩, k5, q5, b5, d5, e5, a5⟩
    | 5, hq => cases hq; exact ⟨fun n z => ⟨fun k h => (by cases h), k7, b7, q7, d7⟩, k7, q7, b7, d7, e7, a7⟩
    | k + 6, hq => cases hq
theorem gst_N (hts : ∀ w ∈ lw_tbl, w.before args s = true) (hs : ∀ c ∈ flatC (Jvm.Cond.and given_1 narrow_1), c.before args s = true) : gg_N s := by
  refine ⟨fun e he => ?_, fun C hC => ?_, fun x hx => ?_, ⟨va_Nc.of (hs _ (by decide +kernel)), va_Nc.of (hs _ (by decide +kernel))⟩, va_AO.of (gt_in2 (pos := 194) (w := .arrayOver (.object RX0)) hts (by decide +kernel)), va_AO.of (gt_in2 (pos := 276) (w := .arrayOver (.object RX2)) hts (by decide +kernel))⟩
  · have h0 : gg_nls = [(6, 36, 37), (5, 11, 30), (6, 50, 52)] := by decide +kernel
    rw [h0] at he
    simp only [List.mem_cons, List.not_mem_nil, or_false] at he
    rcases he with rfl | rfl | rfl
    · exact va_Nw.of rfl (gt_in2 (pos := 209) hts (by decide +kernel))
    · exact va_Nw.of rfl (gt_in2 (pos := 251) hts (by decide +kernel))
    · exact va_Nw.of rfl (gt_in2 (pos := 304) hts (by decide +kernel))
  · simp only [gg_xs, List.mem_cons, List.not_mem_nil, or_false] at hC
    rcases hC with rfl | rfl
    · exact va_Nw.of rfl (gt_in2 (pos := 713) hts (by decide +kernel))
    · exact va_Nw.of rfl (gt_in2 (pos := 787) hts (by decide +kernel))
  · simp only [gg_dcl, List.mem_cons, List.not_mem_nil, or_false] at hx
    rcases hx with rfl | rfl | rfl
    · exact va_Nw.of rfl (gt_in2 (pos := 714) hts (by decide +kernel))
    · exact va_Nw.of rfl (gt_in2 (pos := 716) hts (by decide +kernel))
    · exact va_Nw.of rfl (gt_in2 (pos := 718) hts (by decide +kernel))
def gst_ix : List Nat := [48, 69, 77]
def gst_tm (i : Nat) : Term := .string "GainGraphs$Reader" (gst_ix.getD i 0)
def gst_by : List (List Int32) := gg_txs.map (List.map gg_i)
theorem gst_by_at (i j : Nat) : (gst_by.getD i []).getD j 0 = gg_i ((gg_tx i).getD j 0) := by
  have h1 : gst_by.getD i [] = (gg_tx i).map gg_i := by
    unfold gst_by gg_tx
    rw [List.getD_eq_getElem?_getD, List.getElem?_map, List.getD_eq_getElem?_getD]
    cases gg_txs[i]? <;> rfl
  rw [h1, List.getD_eq_getElem?_getD, List.getElem?_map, List.getD_eq_getElem?_getD]
  cases (gg_tx i)[j]? <;> rfl
theorem gst_len : ∀ i : Nat, i < 3 → ([5, 3, 4] : List Nat).getD i 0 = (gg_tx i).length := by decide +kernel
theorem gst_txt {adK adV : Nat → Nat} {A : Nat → Prop} (hS : vk_S 3 [5, 3, 4] gst_by adK adV A s s.heap) (i : Nat) (hi : i < 3) : gg_text adK adV A i s s.heap := by
  obtain ⟨t1, t2, t3, t4⟩ := hS.1 i hi
  refine ⟨t1, t2, t3, ?_⟩
  rw [gst_len i hi] at t4
  have hf : (fun j => Value.int ((gst_by.getD i []).getD j 0)) = fun j => Value.int (gg_i ((gg_tx i).getD j 0)) := funext fun j => by rw [gst_by_at]
  rw [hf] at t4
  exact t4
theorem gst_S (hs : ∀ c ∈ flatC (Jvm.Cond.and given_1 narrow_1), c.before args s = true) {A : Nat → Prop} (hA : ∀ a : Nat, a < s.heap.size → ¬ A a) :
    ∃ adK adV : Nat → Nat, vk_S 3 [5, 3, 4] gst_by adK adV A s s.heap ∧ ∀ i : Nat, i < 3 → (gst_tm i).eval args s none [] s = some (.ref (adK i)) := by
  refine vk_Sof (tm := gst_tm) (fun i hi => ?_) (fun i hi => ?_) (fun i hi => ?_) (fun i hi => ?_) (fun i hi => ?_) (fun i hi j hj => ?_) (fun i j hi hj hne => ?_) hA
  · match i, hi with
    | 0, _ => decide
    | 1, _ => decide
    | 2, _ => decide
  · match i, hi with
    | 0, _ => exact hs _ (by decide +kernel)
    | 1, _ => exact hs _ (by decide +kernel)
    | 2, _ => exact hs _ (by decide +kernel)
  · match i, hi with
    | 0, _ => exact hs _ (by decide +kernel)
    | 1, _ => exact hs _ (by decide +kernel)
    | 2, _ => exact hs _ (by decide +kernel)
  · match i, hi with
    | 0, _ => exact hs _ (by decide +kernel)
    | 1, _ => exact hs _ (by decide +kernel)
    | 2, _ => exact hs _ (by decide +kernel)
  · match i, hi with
    | 0, _ => exact hs _ (by decide +kernel)
    | 1, _ => exact hs _ (by decide +kernel)
    | 2, _ => exact hs _ (by decide +kernel)
  · match i, hi, hj with
    | 0, _, hj =>
      have hj2 : j < 5 := hj
      match j, hj2 with
      | 0, _ => exact hs _ (by decide +kernel)
      | 1, _ => exact hs _ (by decide +kernel)
      | 2, _ => exact hs _ (by decide +kernel)
      | 3, _ => exact hs _ (by decide +kernel)
      | 4, _ => exact hs _ (by decide +kernel)
    | 1, _, hj =>
      have hj2 : j < 3 := hj
      match j, hj2 with
      | 0, _ => exact hs _ (by decide +kernel)
      | 1, _ => exact hs _ (by decide +kernel)
      | 2, _ => exact hs _ (by decide +kernel)
    | 2, _, hj =>
      have hj2 : j < 4 := hj
      match j, hj2 with
      | 0, _ => exact hs _ (by decide +kernel)
      | 1, _ => exact hs _ (by decide +kernel)
      | 2, _ => exact hs _ (by decide +kernel)
      | 3, _ => exact hs _ (by decide +kernel)
  · match i, hi, j, hj with
    | 0, _, 1, _ => exact Or.inl (hs _ (by decide +kernel))
    | 0, _, 2, _ => exact Or.inl (hs _ (by decide +kernel))
    | 1, _, 2, _ => exact Or.inl (hs _ (by decide +kernel))
    | 1, _, 0, _ => exact Or.inr (hs _ (by decide +kernel))
    | 2, _, 0, _ => exact Or.inr (hs _ (by decide +kernel))
    | 2, _, 1, _ => exact Or.inr (hs _ (by decide +kernel))
    | 0, _, 0, _ => exact absurd rfl hne
    | 1, _, 1, _ => exact absurd rfl hne
    | 2, _, 2, _ => exact absurd rfl hne
set_option maxHeartbeats 8000000 in
/-- what stays as it was, at the law's entry -/
theorem gst_E (hts : ∀ w ∈ lw_tbl, w.before args s = true) (hgv : (Jvm.Cond.and given_1 narrow_1).before args s = true) {b Lx : Nat} {xs : Nat → Int32} (hX : va_X b Lx xs s s.heap) (hbl : b < s.heap.size) :
    ∃ (D : va_G) (cA adK adV : Nat → Nat) (opq : Value), gg_E s.heap.size b Lx xs D cA adK adV opq s s.heap := by
  have hs := flat_of_before _ hgv
  have hgw : ∀ w ∈ gg_gw, w.before args s = true := fun w hw => hts w (List.mem_filter.mp hw).1
  have hA : ∀ a : Nat, a < s.heap.size → ¬ gg_A s.heap.size a := fun a h1 h2 => by
    unfold gg_A at h2
    omega
  obtain ⟨D, cA, hK⟩ := gst_K hts
  obtain ⟨adK, adV, hS, htm⟩ := gst_S hs hA
  have hini : ∀ (C : String) (pos : Nat), decide ((gg_tb (gg_spl 0 pos gg_bnd).1)[(gg_spl 0 pos gg_bnd).2]? = some (Cond.initialized C)) = true → (Cond.initialized C).before args s = true := fun C pos h => gt_in2 hts h
  obtain ⟨opq, ho1, ho2⟩ := Cond.isRef_spec (hs (.isRef (.static "jdk/internal/util/Preconditions" "SIOOBE_FORMATTER" "Ljava/util/function/BiFunction;")) (by decide +kernel))
  have ho : opq = .null ∨ ∃ t : Nat, opq = .ref t := by
    cases opq <;> first | exact Or.inl rfl | exact Or.inr ⟨_, rfl⟩ | cases ho2
  refine ⟨D, cA, adK, adV, opq, hK, ⟨vx_Zqof (gt_in2 (pos := 738) hts (by decide +kernel)) (hini _ 97 (by decide +kernel)) (hs _ (by decide +kernel)) hA, vx_Zqof (gt_in2 (pos := 740) hts (by decide +kernel)) (hini _ 97 (by decide +kernel)) (hs _ (by decide +kernel)) hA⟩, hX, hbl,
    va_Zof (gt_in2 (pos := 395) hts (by decide +kernel)) (hini _ 90 (by decide +kernel)) (va_eqi (hs _ (by decide +kernel))) hA, va_Zof (gt_in2 (pos := 411) hts (by decide +kernel)) (hini _ 92 (by decide +kernel)) ho1 hA, by rcases ho with rfl | ⟨t, rfl⟩ <;> rfl, fun i hi => ?_, fun e he => ?_, gst_N hts hs, ho⟩
  · exact gst_txt hS i hi
  · have h0 : gg_lss = [(3, 48, 0, 381), (3, 69, 1, 454), (3, 77, 2, 463), (7, 132, 0, 1392), (7, 141, 1, 1419), (7, 146, 2, 1424)] := rfl
    rw [h0] at he
    simp only [List.mem_cons, List.not_mem_nil, or_false] at he
    rcases he with rfl | rfl | rfl | rfl | rfl | rfl
    · exact vk_R.of (gt_in2 (pos := 381) hts (by decide +kernel)) (htm 0 (by decide))
    · exact vk_R.of (gt_in2 (pos := 454) hts (by decide +kernel)) (htm 1 (by decide))
    · exact vk_R.of (gt_in2 (pos := 463) hts (by decide +kernel)) (htm 2 (by decide))
    · exact vk_R.of (gt_in2 (pos := 1392) hts (by decide +kernel)) (va_eqR (hs _ (by decide +kernel)) (htm 0 (by decide)))
    · exact vk_R.of (gt_in2 (pos := 1419) hts (by decide +kernel)) (va_eqR (hs _ (by decide +kernel)) (htm 1 (by decide)))
    · exact vk_R.of (gt_in2 (pos := 1424) hts (by decide +kernel)) (va_eqR (hs _ (by decide +kernel)) (htm 2 (by decide)))
end GST
