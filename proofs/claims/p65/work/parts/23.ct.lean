/-! EVERY METHOD OF OURS ENDS AS THE INTERPRETER SAYS -/
def gg_ckt (k : Nat) : Bool := (gg_dts.getD k []).all fun e => match e.2.1 with
  | .new ix => match gg_thr k e.1 (.new ix) with
    | some E => decide ((gg_mt k).1 = 6 ∧ gg_hd k = [] ∧ (E = 2 ∨ E = 3) ∧ ix = (if E = 2 then 111 else 338) ∧ gg_dt k (e.1 + 3) = some (.dup, 1) ∧ gg_dt k (e.1 + 4) = some (.invokespecial (if E = 2 then 113 else 340), 3) ∧ gg_dt k (e.1 + 7) = some (.athrow, 1))
    | none => true
  | _ => true
set_option maxRecDepth 100000 in
theorem gg_ckt_all : (List.range 421).all gg_ckt = true := by decide +kernel
theorem gg_ckt_ok {k pc ix E : Nat} (hd : gg_dt k pc = some (.new ix, 3)) (ht : gg_thr k pc (.new ix) = some E) : (gg_mt k).1 = 6 ∧ gg_hd k = [] ∧ (E = 2 ∨ E = 3) ∧ ix = (if E = 2 then 111 else 338) ∧ gg_dt k (pc + 3) = some (.dup, 1) ∧ gg_dt k (pc + 4) = some (.invokespecial (if E = 2 then 113 else 340), 3) ∧ gg_dt k (pc + 7) = some (.athrow, 1) := by
  have hk : k < 421 := by
    apply Nat.lt_of_not_le
    intro hle
    unfold gg_dt at hd
    rw [List.getD_eq_getElem?_getD, List.getElem?_eq_none (by have : gg_dts.length = 421 := by decide +kernel
                                                              omega)] at hd
    cases hd
  obtain ⟨r, -, hr, hin⟩ := gg_dt_in hd
  have h1 := List.all_eq_true.mp gg_ckt_all k (List.mem_range.mpr hk)
  unfold gg_ckt at h1
  rw [← hr] at h1
  have h2 := List.all_eq_true.mp h1 _ hin
  dsimp only at h2
  rw [ht] at h2
  exact of_decide_eq_true h2
def gg_slots : List Nat → Nat
  | [] => 0
  | t :: r => (if t = 1 then 2 else 1) + gg_slots r
theorem gg_cks_all : (List.range 421).all (fun y => decide (gg_slots (gg_mt y).2.2.2.1 ≤ (gg_mt y).2.2.1)) = true := by decide +kernel
theorem gg_args_len : ∀ (vs : List gg_V), (gg_args vs).length = gg_slots (vs.map gy_tg)
  | [] => rfl
  | v :: r => by
    have ih := gg_args_len r
    have ht : gy_tg v = 1 ↔ v.1 = 1 := by
      unfold gy_tg
      split
      · omega
      · exact Iff.rfl
    show (if v.1 = 1 then v :: (3, 0) :: gg_args r else v :: gg_args r).length = (if gy_tg v = 1 then 2 else 1) + gg_slots (r.map gy_tg)
    by_cases h : v.1 = 1
    · rw [if_pos h, if_pos (ht.mpr h), List.length_cons, List.length_cons, ih]; omega
    · rw [if_neg h, if_neg (fun z => h (ht.mp z)), List.length_cons, ih]; omega
theorem gg_sl_len {f : gg_V → Value} (hc : ∀ v, (f v).category = gg_cat v) : ∀ (vs : List gg_V), (lg_sl (vs.map f)).length = (gg_args vs).length
  | [] => rfl
  | v :: r => by
    have ih := gg_sl_len hc r
    have hcv := hc v
    unfold gg_cat at hcv
    show (lg_sl (f v :: r.map f)).length = (if v.1 = 1 then v :: (3, 0) :: gg_args r else v :: gg_args r).length
    rw [show lg_sl (f v :: r.map f) = (if (f v).category = 2 then [Slot.val (f v), Slot.second] else [Slot.val (f v)]) ++ lg_sl (r.map f) from rfl, List.length_append, ih]
    by_cases h : v.1 = 1
    · rw [if_pos h] at hcv ⊢
      rw [if_pos hcv]
      simp only [List.length_cons, List.length_nil]
      omega
    · rw [if_neg h] at hcv ⊢
      rw [if_neg (by omega)]
      simp only [List.length_cons, List.length_nil]
      omega
/-- what is known of the locals at the entry -/
theorem gg_en_mem {f : gg_V → Value} (hc : ∀ v, (f v).category = gg_cat v) (z : Nat) : ∀ (vs : List gg_V) (i : Nat) (q : Nat × Value), q ∈ gg_lo f i (gg_args vs ++ List.replicate z (3, 0)) → q ∈ lv_args i (vs.map f)
  | [], i, q, h => by
    have key : ∀ (z i : Nat), q ∉ gg_lo f i (List.replicate z (3, 0)) := by
      intro z
      induction z with
      | zero => intro i h; cases h
      | succ z ih =>
        intro i h
        rw [List.replicate_succ] at h
        exact ih (i + 1) (by simpa [gg_lo] using h)
    exact absurd h (key z i)
  | v :: r, i, q, h => by
    have hcv := hc v
    unfold gg_cat at hcv
    have h2 : q ∈ gg_lo f i ((if v.1 = 1 then v :: (3, 0) :: gg_args r else v :: gg_args r) ++ List.replicate z (3, 0)) := h
    show q ∈ (i, f v) :: lv_args (if (f v).category = 2 then i + 2 else i + 1) (r.map f)
    by_cases h1 : v.1 = 1
    · rw [if_pos h1] at hcv h2
      rw [if_pos hcv]
      have h3 : q ∈ gg_lo f i (v :: (3, 0) :: (gg_args r ++ List.replicate z (3, 0))) := h2
      have h4 : q ∈ (i, f v) :: gg_lo f (i + 2) (gg_args r ++ List.replicate z (3, 0)) := by
        have e1 : gg_lo f i (v :: (3, 0) :: (gg_args r ++ List.replicate z (3, 0))) = (i, f v) :: gg_lo f (i + 2) (gg_args r ++ List.replicate z (3, 0)) := by
          show (if v.1 = 3 then _ else (i, f v) :: (if (3 : Nat) = 3 then gg_lo f (i + 1 + 1) (gg_args r ++ List.replicate z (3, 0)) else _)) = _
          rw [if_neg (by omega), if_pos rfl]
        rw [e1] at h3
        exact h3
      rcases List.mem_cons.mp h4 with rfl | h4
      · exact List.mem_cons_self
      · exact List.mem_cons_of_mem _ (gg_en_mem hc z r (i + 2) q h4)
    · rw [if_neg h1] at hcv h2
      rw [if_neg (by omega)]
      have h3 : q ∈ gg_lo f i (v :: (gg_args r ++ List.replicate z (3, 0))) := h2
      by_cases h5 : v.1 = 3
      · have h4 : q ∈ gg_lo f (i + 1) (gg_args r ++ List.replicate z (3, 0)) := by
          have e1 : gg_lo f i (v :: (gg_args r ++ List.replicate z (3, 0))) = gg_lo f (i + 1) (gg_args r ++ List.replicate z (3, 0)) := by
            show (if v.1 = 3 then _ else _) = _
            rw [if_pos h5]
          rw [e1] at h3
          exact h3
        exact List.mem_cons_of_mem _ (gg_en_mem hc z r (i + 1) q h4)
      · have h4 : q ∈ (i, f v) :: gg_lo f (i + 1) (gg_args r ++ List.replicate z (3, 0)) := by
          have e1 : gg_lo f i (v :: (gg_args r ++ List.replicate z (3, 0))) = (i, f v) :: gg_lo f (i + 1) (gg_args r ++ List.replicate z (3, 0)) := by
            show (if v.1 = 3 then _ else _) = _
            rw [if_neg h5]
          rw [e1] at h3
          exact h3
        rcases List.mem_cons.mp h4 with rfl | h4
        · exact List.mem_cons_self
        · exact List.mem_cons_of_mem _ (gg_en_mem hc z r (i + 1) q h4)
