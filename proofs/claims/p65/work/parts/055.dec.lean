/-! the table of decoded instructions is the bytes' -/
theorem gg_prs_ok : ∀ q ∈ gg_prs, gg_po q := by
  intro q h
  unfold gg_prs at h
  simp only [List.mem_append] at h
  rcases h with h | h | h | h | h | h | h | h | h | h
  · exact gg_oc0 q h
  · exact gg_oc1 q h
  · exact gg_oc2 q h
  · exact gg_oc3 q h
  · exact gg_oc4 q h
  · exact gg_oc5 q h
  · exact gg_oc6 q h
  · exact gg_oc7 q h
  · exact gg_oc8 q h
  · exact gg_oc9 q h
set_option maxRecDepth 100000 in
theorem gg_prs_1 : gg_prs.map Prod.fst = gg_dts := rfl
set_option maxRecDepth 100000 in
theorem gg_prs_2 : gg_prs.map Prod.snd = gg_bts := rfl
theorem gg_fd_in0 {pc : Nat} {x : Instr × Nat} : ∀ {r : List (Nat × Instr × Nat)}, gg_fd pc r = some x → (pc, x) ∈ r
  | e :: r, h => by
    unfold gg_fd at h
    split at h
    · rename_i he
      cases h
      rw [← he]
      exact List.mem_cons_self
    · exact List.mem_cons_of_mem _ (gg_fd_in0 h)
def gg_Dec : Prop := ∀ k pc i n, gg_dt k pc = some (i, n) → decode (gg_bt k) pc = .ok (i, n)
theorem gg_dec : gg_Dec := by
  intro k pc i n h
  unfold gg_dt at h
  have h1 := gg_fd_in0 h
  rw [← gg_prs_1, List.getD_eq_getElem?_getD, List.getElem?_map] at h1
  cases hq : gg_prs[k]? with
  | none => rw [hq] at h1; cases h1
  | some q =>
    rw [hq] at h1
    have h2 : (pc, i, n) ∈ q.1 := h1
    have h3 := gg_prs_ok q (List.mem_of_getElem? hq) _ h2
    have h4 : gg_bt k = q.2 := by
      unfold gg_bt
      rw [← gg_prs_2, List.getD_eq_getElem?_getD, List.getElem?_map, hq]
      rfl
    rw [h4]
    exact h3
