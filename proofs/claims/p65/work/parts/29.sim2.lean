/-! a run of the static interpreter is a run of the moving one: step by step -/
section GVW
variable {α : Type} {o : α} {P : Prop}
theorem gpR_w {st : List gg_V} {f : Nat → List gg_V → Option α} (H : ∀ a r, f a r = some o → P) (h : gg_pR st f = some o) : P := by
  obtain ⟨a, r, -, h1⟩ := gpR_ok h
  exact H _ _ h1
theorem gldA_w {L : List gg_V} {i : Nat} {f : gg_V → Option α} (H : ∀ x, f x = some o → P) (h : gg_ldA L i f = some o) : P := by
  unfold gg_ldA at h
  split at h
  · exact H _ (gif_ok h).2
  · cases h
end GVW
section GVX
variable {o : gg_O} {P : Prop} {w : gg_W} {st : List gg_V}
theorem gget_w {ow ix : Nat} {f : List gg_V → Option gg_O} (H : ∀ s, f s = some o → P) (h : gg_get ow ix st w f = some o) : P := by
  unfold gg_get at h
  split at h
  · split at h
    · exact H _ (gif_ok h).2
    · cases h
  · exact gif_w (gite_w (H _) (gite_w (H _) (fun h => by cases h))) h
  · cases h
theorem gput_w {ow kd ix : Nat} {f : List gg_V → gg_W → Option gg_O} (H : ∀ s w', w'.2.2 = w.2.2 → f s w' = some o → P) (h : gg_put ow kd ix st w f = some o) : P := by
  unfold gg_put at h
  split at h
  · split at h
    · refine gif_w (gite_w (fun z => ?_) (gite_w (fun z => ?_) (gite_w (fun z => ?_) (fun h => by cases h)))) h <;> exact H _ _ (by rfl) z
    · cases h
  · cases h
theorem gald_w {N : Nat} {xs : Nat → Int32} {kd t : Nat} {f : List gg_V → Option gg_O} (H : ∀ s, f s = some o → P) (h : gg_ald N xs kd t st w f = some o) : P := by
  unfold gg_ald at h
  refine gpI_w (fun i r h1 => ?_) h
  split at h1
  · exact gite_w (gif_w (H _)) (gif_w (H _)) h1
  · exact gif_w (H _) h1
  · cases h1
theorem gast_w {kd t : Nat} {f : List gg_V → gg_W → Option gg_O} (H : ∀ s w', w'.2.2 = w.2.2 → f s w' = some o → P) (h : gg_ast kd t st w f = some o) : P := by
  unfold gg_ast at h
  split at h
  · refine gif_w (fun z => ?_) h
    exact H _ _ (by rfl) z
  · cases h
theorem gaas_w {f : List gg_V → gg_W → Option gg_O} (H : ∀ s w', w'.2.2 = w.2.2 → f s w' = some o → P) (h : gg_aas st w f = some o) : P := by
  unfold gg_aas at h
  split at h
  · refine gif_w (fun z => ?_) h
    exact H _ _ (by rfl) z
  · cases h
theorem gcopy_w {f : List gg_V → gg_W → Option gg_O} (H : ∀ s w', w'.2.2 = w.2.2 → f s w' = some o → P) (h : gg_copy st w f = some o) : P := by
  unfold gg_copy at h
  split at h
  · refine gif_w (fun z => ?_) h
    exact H _ _ (by rfl) z
  · cases h
theorem gnew_no {c : Nat} (hn : w.2.2.1 = 142) {f : gg_V → gg_W → Option gg_O} (h : gg_new c w f = some o) : P := by
  unfold gg_new at h
  obtain ⟨⟨-, h2, -⟩, -⟩ := gif_ok h
  rw [hn, ge_sh_end (Nat.le_refl _)] at h2
  cases h2
theorem gnewa_no {kd c : Nat} (hn : w.2.2.1 = 142) (hk : kd ≠ 9) {f : List gg_V → gg_W → Option gg_O} (h : gg_newa kd c st w f = some o) : P := by
  unfold gg_newa at h
  refine gpI_w (fun i r h1 => ?_) h
  obtain ⟨⟨-, h2, -⟩, -⟩ := gif_ok h1
  rw [hn, ge_sh_end (Nat.le_refl _)] at h2
  exact absurd (congrArg Prod.fst h2).symm hk
end GVX
theorem gakd_ne (t : ArrayType) : gg_akd t ≠ 0 ∧ gg_akd t ≠ 9 := by cases t <;> exact ⟨by decide, by decide⟩
theorem ggcall_ok {ex : gg_X} {d k pc y : Nat} {L st : List gg_V} {w : gg_W} {x : gg_O} (h : gg_call ex d k pc L st w y = some x) : ∃ (c kd ml : Nat) (tg : List Nat) (rk d' : Nat) (o1 : gg_O), gg_mt y = (c, kd, ml, tg, rk) ∧ d = d' + 1 ∧
    ((st.take tg.length).reverse.map gg_tg = tg ∧ tg.length ≤ st.length ∧ ((st.drop tg.length).map gg_cat).sum ≤ 8 ∧ (kd = 1 ∨ gg_rcv (st.take tg.length).reverse c w.2.2.1 = true)) ∧ ex d' y 0 (gg_en ml (st.take tg.length).reverse) [] w = some o1 ∧ gg_aft ex d k pc L (st.drop tg.length) (some o1) = some x := by
  unfold gg_call at h
  split at h
  rename_i c kd ml tg rk hm
  obtain ⟨h1, h2⟩ := gif_ok h
  cases d with
  | zero => cases h2
  | succ d' =>
    cases ho : ex d' y 0 (gg_en ml (st.take tg.length).reverse) [] w with
    | none =>
      have h3 : gg_aft ex (d' + 1) k pc L (st.drop tg.length) (ex d' y 0 (gg_en ml (st.take tg.length).reverse) [] w) = some x := h2
      rw [ho] at h3
      cases h3
    | some o1 =>
      have h3 : gg_aft ex (d' + 1) k pc L (st.drop tg.length) (ex d' y 0 (gg_en ml (st.take tg.length).reverse) [] w) = some x := h2
      rw [ho] at h3
      exact ⟨c, kd, ml, tg, rk, d', o1, hm, rfl, h1, ho, h3⟩
def gg_nx (ex : gg_X) : Prop := ∀ (d k pc : Nat) (L st : List gg_V) (w : gg_W) (o : gg_O), w.2.2.1 = 142 → ex d k pc L st w = some o → o.2.2.2.1 = 142
theorem gaft_nx {ex : gg_X} (H : gg_nx ex) {d k pc : Nat} {L r : List gg_V} {o1 o : gg_O} (hk : o1.2.2.2.1 = 142) (h : gg_aft ex d k pc L r (some o1) = some o) : o.2.2.2.1 = 142 := by
  obtain ⟨⟨t, v⟩, w'⟩ := o1
  match t, h with
  | 0, h => exact H _ _ _ _ _ _ _ hk h
  | 1, h => exact H _ _ _ _ _ _ _ hk h
  | t + 2, h =>
    have h3 : (if gg_hd k = [] then some ((t + 2, ((3 : Nat), (0 : Int))), w') else match gg_hdl (gg_hd k) pc (t + 2) with
      | none => none
      | some hh => match gg_hst k hh with
        | none => none
        | some (j, mm) => if j < L.length then ex d k (hh + mm) (gg_s1 L j (3, 0)) [] w' else none) = some o := h
    refine gite_w (fun h4 => ?_) (fun h4 => ?_) h3
    · cases h4; exact hk
    · split at h4
      · cases h4
      · split at h4
        · cases h4
        · exact gif_w (H _ _ _ _ _ _ _ hk) h4
theorem gcall_nx {ex : gg_X} (H : gg_nx ex) {d k pc y : Nat} {L st : List gg_V} {w : gg_W} {o : gg_O} (hk : w.2.2.1 = 142) (h : gg_call ex d k pc L st w y = some o) : o.2.2.2.1 = 142 := by
  obtain ⟨c, kd, ml, tg, rk, d', o1, hm, hd, h1, hex, haf⟩ := ggcall_ok h
  exact gaft_nx H (H _ _ _ _ _ _ _ hk hex) haf
set_option maxHeartbeats 1000000 in
theorem gg_step_nx {ex : gg_X} (H : gg_nx ex) {N : Nat} {xs : Nat → Int32} {d k pc n : Nat} {L st : List gg_V} {w : gg_W} (hk : w.2.2.1 = 142) {i : Instr} {o : gg_O} (h : gg_step ex N xs d k pc L st w i n = some o) : o.2.2.2.1 = 142 := by
  cases i
  case iconst v => exact gq_w (H _ _ _ _ _ _ _ hk) h
  case bipush v => exact gq_w (H _ _ _ _ _ _ _ hk) h
  case sipush v => exact gq_w (H _ _ _ _ _ _ _ hk) h
  case lconst v => exact gq_w (H _ _ _ _ _ _ _ hk) h
  case iload_n v => exact gq_w (gld_w fun _ => H _ _ _ _ _ _ _ hk) h
  case iload v => exact gq_w (gld_w fun _ => H _ _ _ _ _ _ _ hk) h
  case lload_n v => exact gq_w (gld_w fun _ => H _ _ _ _ _ _ _ hk) h
  case lload v => exact gq_w (gld_w fun _ => H _ _ _ _ _ _ _ hk) h
  case aload_n v => exact gq_w (gldA_w fun _ => H _ _ _ _ _ _ _ hk) h
  case aload v => exact gq_w (gldA_w fun _ => H _ _ _ _ _ _ _ hk) h
  case istore_n v => exact gq_w (gpI_w fun _ _ => gif_w (H _ _ _ _ _ _ _ hk)) h
  case istore v => exact gq_w (gpI_w fun _ _ => gif_w (H _ _ _ _ _ _ _ hk)) h
  case lstore_n v => exact gq_w (gpL_w fun _ _ => gif_w (H _ _ _ _ _ _ _ hk)) h
  case lstore v => exact gq_w (gpL_w fun _ _ => gif_w (H _ _ _ _ _ _ _ hk)) h
  case astore_n v => exact gq_w (gpR_w fun _ _ => gif_w (H _ _ _ _ _ _ _ hk)) h
  case astore v => exact gq_w (gpR_w fun _ _ => gif_w (H _ _ _ _ _ _ _ hk)) h
  case iinc v u => exact gq_w (gld_w fun _ => gif_w (H _ _ _ _ _ _ _ hk)) h
  case iadd => exact gq_w (gbI_w fun _ => H _ _ _ _ _ _ _ hk) h
  case isub => exact gq_w (gbI_w fun _ => H _ _ _ _ _ _ _ hk) h
  case imul => exact gq_w (gbI_w fun _ => H _ _ _ _ _ _ _ hk) h
  case iand => exact gq_w (gbI_w fun _ => H _ _ _ _ _ _ _ hk) h
  case ior => exact gq_w (gbI_w fun _ => H _ _ _ _ _ _ _ hk) h
  case ixor => exact gq_w (gbI_w fun _ => H _ _ _ _ _ _ _ hk) h
  case ishl => exact gq_w (gbI_w fun _ => H _ _ _ _ _ _ _ hk) h
  case ishr => exact gq_w (gbI_w fun _ => H _ _ _ _ _ _ _ hk) h
  case iushr => exact gq_w (gbI_w fun _ => H _ _ _ _ _ _ _ hk) h
  case ineg => exact gq_w (guI_w fun _ => H _ _ _ _ _ _ _ hk) h
  case i2b => exact gq_w (guI_w fun _ => H _ _ _ _ _ _ _ hk) h
  case i2c => exact gq_w (guI_w fun _ => H _ _ _ _ _ _ _ hk) h
  case i2l => exact gq_w (gpI_w fun _ _ => H _ _ _ _ _ _ _ hk) h
  case l2i => exact gq_w (gpL_w fun _ _ => H _ _ _ _ _ _ _ hk) h
  case ladd => exact gq_w (gbL_w fun _ => H _ _ _ _ _ _ _ hk) h
  case lsub => exact gq_w (gbL_w fun _ => H _ _ _ _ _ _ _ hk) h
  case lmul => exact gq_w (gbL_w fun _ => H _ _ _ _ _ _ _ hk) h
  case land => exact gq_w (gbL_w fun _ => H _ _ _ _ _ _ _ hk) h
  case lor => exact gq_w (gbL_w fun _ => H _ _ _ _ _ _ _ hk) h
  case lxor => exact gq_w (gbL_w fun _ => H _ _ _ _ _ _ _ hk) h
  case lshl => exact gq_w (gsL_w fun _ => H _ _ _ _ _ _ _ hk) h
  case lshr => exact gq_w (gsL_w fun _ => H _ _ _ _ _ _ _ hk) h
  case lushr => exact gq_w (gsL_w fun _ => H _ _ _ _ _ _ _ hk) h
  case lneg => exact gq_w (gpL_w fun _ _ => H _ _ _ _ _ _ _ hk) h
  case lcmp => exact gq_w (gpL_w fun _ _ => gpL_w fun _ _ => H _ _ _ _ _ _ _ hk) h
  case idiv => exact gq_w (gpI_w fun _ _ => gpI_w fun _ _ => gite_w (fun h => by cases h) (H _ _ _ _ _ _ _ hk)) h
  case irem => exact gq_w (gpI_w fun _ _ => gpI_w fun _ _ => gite_w (fun h => by cases h) (H _ _ _ _ _ _ _ hk)) h
  case dup =>
    refine gq_w (fun h => ?_) h
    split at h
    · exact gif_w (H _ _ _ _ _ _ _ hk) h
    · cases h
  case pop =>
    refine gq_w (fun h => ?_) h
    split at h
    · exact gif_w (H _ _ _ _ _ _ _ hk) h
    · cases h
  case dup2 =>
    refine gq_w (fun h => ?_) h
    split at h
    · exact gite_w (H _ _ _ _ _ _ _ hk) (gite_w (fun h => by cases h) (H _ _ _ _ _ _ _ hk)) h
    · cases h
  case goto v => exact gq_w (gtgt_w fun _ => H _ _ _ _ _ _ _ hk) h
  case ifCond c v => exact gq_w (gpI_w fun _ _ => gite_w (gtgt_w fun _ => H _ _ _ _ _ _ _ hk) (H _ _ _ _ _ _ _ hk)) h
  case if_icmp c v => exact gq_w (gpI_w fun _ _ => gpI_w fun _ _ => gite_w (gtgt_w fun _ => H _ _ _ _ _ _ _ hk) (H _ _ _ _ _ _ _ hk)) h
  case tableswitch a b c v =>
    refine gpI_w (fun _ _ => gite_w (gtgt_w fun _ => H _ _ _ _ _ _ _ hk) (fun h => ?_)) h
    split at h
    · exact gtgt_w (fun _ => H _ _ _ _ _ _ _ hk) h
    · cases h
  case ldc v =>
    refine gq_w (fun h => ?_) h
    split at h
    · exact H _ _ _ _ _ _ _ hk h
    · split at h
      · exact H _ _ _ _ _ _ _ hk h
      · cases h
  case ldc_w v =>
    refine gq_w (fun h => ?_) h
    split at h
    · exact H _ _ _ _ _ _ _ hk h
    · cases h
  case ldc2_w v =>
    refine gq_w (fun h => ?_) h
    split at h
    · exact H _ _ _ _ _ _ _ hk h
    · cases h
  case getstatic v => exact gq_w (gite_w (H _ _ _ _ _ _ _ hk) (gite_w (H _ _ _ _ _ _ _ hk) (fun h => by cases h))) h
  case getfield v => exact gq_w (gget_w fun _ => H _ _ _ _ _ _ _ hk) h
  case putfield v => exact gq_w (gput_w (fun _ _ e => H _ _ _ _ _ _ _ (by rw [e]; exact hk))) h
  case iaload => exact gq_w (gald_w fun _ => H _ _ _ _ _ _ _ hk) h
  case laload => exact gq_w (gald_w fun _ => H _ _ _ _ _ _ _ hk) h
  case aaload => exact gq_w (gald_w fun _ => H _ _ _ _ _ _ _ hk) h
  case baload =>
    refine gq_w (fun h => ?_) h
    split at h
    · exact gite_w (gald_w fun _ => H _ _ _ _ _ _ _ hk) (gald_w fun _ => H _ _ _ _ _ _ _ hk) h
    · exact gald_w (fun _ => H _ _ _ _ _ _ _ hk) h
  case iastore => exact gq_w (gast_w (fun _ _ e => H _ _ _ _ _ _ _ (by rw [e]; exact hk))) h
  case lastore => exact gq_w (gast_w (fun _ _ e => H _ _ _ _ _ _ _ (by rw [e]; exact hk))) h
  case bastore =>
    refine gq_w (fun h => ?_) h
    split at h
    · exact gite_w (gast_w (fun _ _ e => H _ _ _ _ _ _ _ (by rw [e]; exact hk))) (gast_w (fun _ _ e => H _ _ _ _ _ _ _ (by rw [e]; exact hk))) h
    · cases h
  case aastore => exact gq_w (gaas_w (fun _ _ e => H _ _ _ _ _ _ _ (by rw [e]; exact hk))) h
  case arraylength =>
    refine gq_w (fun h => ?_) h
    split at h
    · obtain ⟨h1, h2⟩ := gif_ok h
      split at h2
      · exact H _ _ _ _ _ _ _ hk h2
      · cases h2
    · exact gif_w (H _ _ _ _ _ _ _ hk) h
    · cases h
  case newarray t => exact gq_w (gnewa_no hk (gakd_ne t).2) h
  case anewarray t =>
    refine gq_w (fun h => ?_) h
    split at h
    · exact gnewa_no hk (by decide) h
    · cases h
  case new ix =>
    refine gq_w (fun h => ?_) h
    split at h
    · obtain ⟨-, h2⟩ := gif_ok h
      cases h2
      exact hk
    · split at h
      · exact gnew_no hk h
      · cases h
  case invokespecial ix =>
    refine gq_w (fun h => ?_) h
    split at h
    · exact gite_w (gpR_w fun _ _ => gif_w (H _ _ _ _ _ _ _ hk)) (gif_w (gcall_nx H hk)) h
    · cases h
  case invokevirtual ix =>
    refine gq_w (fun h => ?_) h
    split at h
    · exact gif_w (gcall_nx H hk) h
    · cases h
  case invokestatic ix =>
    refine gq_w (fun h => ?_) h
    split at h
    · exact gite_w (gpI_w fun _ _ => gpI_w fun _ _ => gif_w (H _ _ _ _ _ _ _ hk)) (gite_w (gpI_w fun _ _ => gpI_w fun _ _ => gif_w (H _ _ _ _ _ _ _ hk)) (gite_w (gcopy_w (fun _ _ e => H _ _ _ _ _ _ _ (by rw [e]; exact hk))) (gif_w (gcall_nx H hk)))) h
    · cases h
  case ireturn =>
    refine gq_w (fun h => ?_) h
    split at h
    · obtain ⟨-, h2⟩ := gif_ok h
      cases h2
      exact hk
    · cases h
  case lreturn =>
    refine gq_w (fun h => ?_) h
    split at h
    · obtain ⟨-, h2⟩ := gif_ok h
      cases h2
      exact hk
    · cases h
  case areturn =>
    refine gq_w (fun h => ?_) h
    split at h
    · obtain ⟨-, h2⟩ := gif_ok h
      cases h2
      exact hk
    · cases h
  case return_ =>
    refine gq_w (fun h => ?_) h
    split at h
    · obtain ⟨-, h2⟩ := gif_ok h
      cases h2
      exact hk
    · cases h
  all_goals (exact absurd h (by intro z; cases z))
theorem gg_ex_nx (N : Nat) (xs : Nat → Int32) (f : Nat) : gg_nx (gg_ex N xs f) := by
  induction f with
  | zero => intro d k pc L st w o hk h; cases h
  | succ f ih =>
    intro d k pc L st w o hk h
    have h2 : (match gg_dt k pc with
      | some (i, n) => gg_step (gg_ex N xs f) N xs d k pc L st w i n
      | none => none) = some o := h
    split at h2
    · exact gg_step_nx ih hk h2
    · cases h2
/-- ex runs as ex' does, ex' in the world that the static one lies over -/
def gg_sm (u : gy_W) (ex : gg_X) (ex' : gy_X) : Prop := ∀ (d k pc : Nat) (L st : List gg_V) (w : gg_W) (o : gg_O), k ≠ 287 ∧ gmU u w → ex d k pc L st w = some o → ex' d k pc L st (ge u w) = some (gE u o) ∧ gmU u o.2
theorem ge_tgs_all : gg_mts.all (fun m => m.2.2.2.1.all fun t => decide (t ≤ 2)) = true := by decide +kernel
theorem ge_tgs {y ci kd ml rk : Nat} {tg : List Nat} (hm : gg_mt y = (ci, kd, ml, tg, rk)) : ∀ t ∈ tg, t ≤ 2 := by
  intro t ht
  unfold gg_mt at hm
  rw [List.getD_eq_getElem?_getD] at hm
  cases hq : gg_mts[y]? with
  | none => rw [hq] at hm; cases hm; cases ht
  | some m =>
    rw [hq] at hm
    cases hm
    have h1 := List.all_eq_true.mp ge_tgs_all _ (List.mem_of_getElem? hq)
    exact of_decide_eq_true (List.all_eq_true.mp h1 t ht)
theorem ge_tg_eq : ∀ {vs : List gg_V} {tg : List Nat}, vs.map gg_tg = tg → (∀ t ∈ tg, t ≤ 2) → vs.map gy_tg = tg
  | [], tg, h, _ => by cases h; rfl
  | v :: r, tg, h, ht => by
    subst h
    have h1 : gg_tg v ≤ 2 := ht _ (List.mem_map_of_mem List.mem_cons_self)
    have h2 : gy_tg v = gg_tg v := by
      unfold gg_tg at h1
      unfold gy_tg gg_tg
      by_cases h3 : v.1 = 4 ∨ v.1 = 7 ∨ v.1 = 8
      · rw [if_pos h3, if_pos (by omega)]
      · rw [if_neg h3] at h1 ⊢
        rw [if_neg (by omega)]
    rw [List.map_cons, List.map_cons, h2, ge_tg_eq rfl (fun t h4 => ht t (List.mem_cons_of_mem _ h4))]
theorem gaft_s {u : gy_W} {ex : gg_X} {ex' : gy_X} (H : gg_sm u ex ex') {d k pc : Nat} {L r : List gg_V} {o1 o : gg_O} (hk : k ≠ 287 ∧ gmU u o1.2) (h : gg_aft ex d k pc L r (some o1) = some o) : gy_aft ex' d k pc 3 L r (some (gE u o1)) = some (gE u o) ∧ gmU u o.2 := by
  obtain ⟨⟨t, v⟩, w'⟩ := o1
  match t, h with
  | 0, h => exact H _ _ _ _ _ _ _ hk h
  | 1, h => exact H _ _ _ _ _ _ _ hk h
  | t + 2, h =>
    have h3 : (if gg_hd k = [] then some ((t + 2, ((3 : Nat), (0 : Int))), w') else match gg_hdl (gg_hd k) pc (t + 2) with
      | none => none
      | some hh => match gg_hst k hh with
        | none => none
        | some (j, mm) => if j < L.length then ex d k (hh + mm) (gg_s1 L j (3, 0)) [] w' else none) = some o := h
    show (if gg_hd k = [] then some ((t + 2, ((3 : Nat), (0 : Int))), ge u w') else match gg_hdl (gg_hd k) pc (t + 2) with
      | none => none
      | some hh => match gg_hst k hh with
        | none => none
        | some (j, mm) => if j < L.length then ex' d k (hh + mm) (gg_s1 L j (3, 0)) [] (ge u w') else none) = some (gE u o) ∧ gmU u o.2
    by_cases h0 : gg_hd k = []
    · rw [if_pos h0] at h3 ⊢
      cases h3
      exact ⟨rfl, hk.2⟩
    · rw [if_neg h0] at h3 ⊢
      split at h3
      · cases h3
      · split at h3
        · cases h3
        · obtain ⟨h4, h5⟩ := gif_ok h3
          rw [if_pos h4]
          exact H _ _ _ _ _ _ _ hk h5
theorem gcall_s {u : gy_W} {ex : gg_X} {ex' : gy_X} (H : gg_sm u ex ex') {d k pc y vk : Nat} {L st : List gg_V} {w : gg_W} {o : gg_O} (hk : k ≠ 287 ∧ gmU u w) (hy : y ≠ 287) (hvk : (gg_mt y).2.1 = 1 ∧ vk = 1 ∨ (gg_mt y).2.1 = 2 ∧ vk = 2 ∨ (gg_mt y).2.1 = 0 ∧ vk = 0) (h : gg_call ex d k pc L st w y = some o) : gy_call ex' vk d k pc 3 L st (ge u w) y = some (gE u o) ∧ gmU u o.2 := by
  obtain ⟨c, kd, ml, tg, rk, d', o1, hm, hd, ⟨h1, h2, h3, h4⟩, hex, haf⟩ := ggcall_ok h
  subst hd
  obtain ⟨h5, h6⟩ := H _ _ _ _ _ _ _ ⟨hy, hk.2⟩ hex
  rw [hm] at hvk
  have h7 : kd = 1 ∧ vk = 1 ∨ kd = 2 ∧ vk = 2 ∨ kd = 0 ∧ vk = 0 := hvk
  unfold gy_call
  rw [hm]
  show (if _ then gy_aft ex' (d' + 1) k pc 3 L (st.drop tg.length) (ex' d' y 0 (gg_en ml (st.take tg.length).reverse) [] (ge u w)) else none) = some (gE u o) ∧ gmU u o.2
  rw [if_pos ⟨ge_tg_eq h1 (ge_tgs hm), h2, h3, by omega⟩, h5]
  exact gaft_s H ⟨hk.1, h6⟩ haf
/-- the receiver of a call -/
theorem grcv_s {u : gy_W} {w : gg_W} {vs : List gg_V} {c : Nat} (h : gg_rcv vs c w.2.2.1 = true) : gy_cl (vs.headD (3, 0)) (ge u w) = some c ∧ (c = 9 ∨ c < 7) := by
  unfold gg_rcv at h
  split at h
  · rename_i o r
    obtain ⟨h1, h2, h3⟩ := of_decide_eq_true h
    have h4 := ge_c7 h3
    refine ⟨?_, Or.inr h4⟩
    show (if ((ge u w).1 o).1 = 0 ∧ ((ge u w).1 o).2.1 = 0 ∧ gy_ob ((ge u w).1 o).2.2 = true then some ((ge u w).1 o).2.2 else none) = some c
    rw [ge_sh ⟨h1, h2⟩, h3]
    exact if_pos ⟨rfl, rfl, ge_ob h4⟩
  · rename_i i r
    obtain ⟨rfl, h2⟩ := of_decide_eq_true h
    exact ⟨if_pos (by omega), Or.inl rfl⟩
  · cases h
theorem grcv_ir {w : gg_W} {vs : List gg_V} {c : Nat} (h : gg_rcv vs c w.2.2.1 = true) (hc : c ≠ 9) : gy_ir (vs.headD (3, 0)) = true := by
  unfold gg_rcv at h
  split at h
  · rfl
  · obtain ⟨rfl, h2⟩ := of_decide_eq_true h
    exact absurd rfl hc
  · cases h
set_option maxHeartbeats 1000000 in
theorem gg_step_s {u : gy_W} {ex : gg_X} {ex' : gy_X} (H0 : gg_sm u ex ex') {N : Nat} {xs xs0 : Nat → Int32} {d k pc n : Nat} {L st : List gg_V} {w : gg_W} (hk : k ≠ 287 ∧ gmU u w) {i : Instr} {o : gg_O} (h : gg_step ex 0 xs0 d k pc L st w i n = some o) : gy_step ex' N xs d k pc L st (ge u w) i n = some (gE u o) := by
  have H : ∀ (d k pc : Nat) (L st : List gg_V) (w : gg_W) (o : gg_O), k ≠ 287 ∧ gmU u w → ex d k pc L st w = some o → ex' d k pc L st (ge u w) = some (gE u o) := fun d k pc L st w o hk h => (H0 d k pc L st w o hk h).1
  cases i
  case iconst v => exact gq_s (H _ _ _ _ _ _ _ hk) h
  case bipush v => exact gq_s (H _ _ _ _ _ _ _ hk) h
  case sipush v => exact gq_s (H _ _ _ _ _ _ _ hk) h
  case lconst v => exact gq_s (H _ _ _ _ _ _ _ hk) h
  case iload_n v => exact gq_s (gld_s fun _ => H _ _ _ _ _ _ _ hk) h
  case iload v => exact gq_s (gld_s fun _ => H _ _ _ _ _ _ _ hk) h
  case lload_n v => exact gq_s (gld_s fun _ => H _ _ _ _ _ _ _ hk) h
  case lload v => exact gq_s (gld_s fun _ => H _ _ _ _ _ _ _ hk) h
  case aload_n v => exact gq_s (gldA_s fun _ => H _ _ _ _ _ _ _ hk) h
  case aload v => exact gq_s (gldA_s fun _ => H _ _ _ _ _ _ _ hk) h
  case istore_n v => exact gq_s (gpI_s fun _ _ => gif_s (H _ _ _ _ _ _ _ hk)) h
  case istore v => exact gq_s (gpI_s fun _ _ => gif_s (H _ _ _ _ _ _ _ hk)) h
  case lstore_n v => exact gq_s (gpL_s fun _ _ => gif_s (H _ _ _ _ _ _ _ hk)) h
  case lstore v => exact gq_s (gpL_s fun _ _ => gif_s (H _ _ _ _ _ _ _ hk)) h
  case astore_n v => exact gq_s (gpR_s fun _ _ => gif_s (H _ _ _ _ _ _ _ hk)) h
  case astore v => exact gq_s (gpR_s fun _ _ => gif_s (H _ _ _ _ _ _ _ hk)) h
  case iinc v u => exact gq_s (gld_s fun _ => gif_s (H _ _ _ _ _ _ _ hk)) h
  case iadd => exact gq_s (gbI_s fun _ => H _ _ _ _ _ _ _ hk) h
  case isub => exact gq_s (gbI_s fun _ => H _ _ _ _ _ _ _ hk) h
  case imul => exact gq_s (gbI_s fun _ => H _ _ _ _ _ _ _ hk) h
  case iand => exact gq_s (gbI_s fun _ => H _ _ _ _ _ _ _ hk) h
  case ior => exact gq_s (gbI_s fun _ => H _ _ _ _ _ _ _ hk) h
  case ixor => exact gq_s (gbI_s fun _ => H _ _ _ _ _ _ _ hk) h
  case ishl => exact gq_s (gbI_s fun _ => H _ _ _ _ _ _ _ hk) h
  case ishr => exact gq_s (gbI_s fun _ => H _ _ _ _ _ _ _ hk) h
  case iushr => exact gq_s (gbI_s fun _ => H _ _ _ _ _ _ _ hk) h
  case ineg => exact gq_s (guI_s fun _ => H _ _ _ _ _ _ _ hk) h
  case i2b => exact gq_s (guI_s fun _ => H _ _ _ _ _ _ _ hk) h
  case i2c => exact gq_s (guI_s fun _ => H _ _ _ _ _ _ _ hk) h
  case i2l => exact gq_s (gpI_s fun _ _ => H _ _ _ _ _ _ _ hk) h
  case l2i => exact gq_s (gpL_s fun _ _ => H _ _ _ _ _ _ _ hk) h
  case ladd => exact gq_s (gbL_s fun _ => H _ _ _ _ _ _ _ hk) h
  case lsub => exact gq_s (gbL_s fun _ => H _ _ _ _ _ _ _ hk) h
  case lmul => exact gq_s (gbL_s fun _ => H _ _ _ _ _ _ _ hk) h
  case land => exact gq_s (gbL_s fun _ => H _ _ _ _ _ _ _ hk) h
  case lor => exact gq_s (gbL_s fun _ => H _ _ _ _ _ _ _ hk) h
  case lxor => exact gq_s (gbL_s fun _ => H _ _ _ _ _ _ _ hk) h
  case lshl => exact gq_s (gsL_s fun _ => H _ _ _ _ _ _ _ hk) h
  case lshr => exact gq_s (gsL_s fun _ => H _ _ _ _ _ _ _ hk) h
  case lushr => exact gq_s (gsL_s fun _ => H _ _ _ _ _ _ _ hk) h
  case lneg => exact gq_s (gpL_s fun _ _ => H _ _ _ _ _ _ _ hk) h
  case lcmp => exact gq_s (gpL_s fun _ _ => gpL_s fun _ _ => H _ _ _ _ _ _ _ hk) h
  case idiv => exact gq_s (gpI_s fun _ _ => gpI_s fun _ _ => gite_s gno_s (H _ _ _ _ _ _ _ hk)) h
  case irem => exact gq_s (gpI_s fun _ _ => gpI_s fun _ _ => gite_s gno_s (H _ _ _ _ _ _ _ hk)) h
  case dup =>
    refine gq_s (fun h => ?_) h
    split at h
    · exact gif_s (H _ _ _ _ _ _ _ hk) h
    · cases h
  case pop =>
    refine gq_s (fun h => ?_) h
    split at h
    · exact gif_s (H _ _ _ _ _ _ _ hk) h
    · cases h
  case dup2 =>
    refine gq_s (fun h => ?_) h
    split at h
    · exact gite_s (H _ _ _ _ _ _ _ hk) (gite_s gno_s (H _ _ _ _ _ _ _ hk)) h
    · cases h
  case goto v => exact gq_s (gtgt_s fun _ => H _ _ _ _ _ _ _ hk) h
  case ifCond c v => exact gq_s (gpI_s fun _ _ => gite_s (gtgt_s fun _ => H _ _ _ _ _ _ _ hk) (H _ _ _ _ _ _ _ hk)) h
  case if_icmp c v => exact gq_s (gpI_s fun _ _ => gpI_s fun _ _ => gite_s (gtgt_s fun _ => H _ _ _ _ _ _ _ hk) (H _ _ _ _ _ _ _ hk)) h
  case tableswitch a b c v =>
    refine gpI_s (fun _ _ => gite_s (gtgt_s fun _ => H _ _ _ _ _ _ _ hk) (fun h => ?_)) h
    split at h
    · exact gtgt_s (fun _ => H _ _ _ _ _ _ _ hk) h
    · cases h
  case ldc v =>
    refine gq_s (fun h => ?_) h
    split at h
    · exact H _ _ _ _ _ _ _ hk h
    · split at h
      · exact H _ _ _ _ _ _ _ hk h
      · cases h
  case ldc_w v =>
    refine gq_s (fun h => ?_) h
    split at h
    · exact H _ _ _ _ _ _ _ hk h
    · cases h
  case ldc2_w v =>
    refine gq_s (fun h => ?_) h
    split at h
    · exact H _ _ _ _ _ _ _ hk h
    · cases h
  case getstatic v =>
    refine gq_s (fun h => ?_) h
    split at h
    · rename_i h1
      rw [h1.1, h1.2]
      exact H _ _ _ _ _ _ _ hk h
    · obtain ⟨h1, h2⟩ := gif_ok h
      rw [h1.1, h1.2]
      exact H _ _ _ _ _ _ _ hk h2
  case getfield v => exact gq_s (gget_s fun _ => H _ _ _ _ _ _ _ hk) h
  case putfield v => exact gq_s (gput_s (fun _ _ e => H _ _ _ _ _ _ _ ⟨hk.1, by unfold gmU; rw [e]; exact hk.2⟩)) h
  case iaload => exact gq_s (gald_s (by decide) (Or.inr ⟨Or.inl rfl, rfl⟩) fun _ => H _ _ _ _ _ _ _ hk) h
  case laload => exact gq_s (gald_s (by decide) (Or.inl ⟨rfl, rfl⟩) fun _ => H _ _ _ _ _ _ _ hk) h
  case aaload => exact gq_s (gaal_s fun _ => H _ _ _ _ _ _ _ hk) h
  case baload =>
    refine gq_s (fun h => ?_) h
    have key : ∀ (st' : List gg_V), st = st' → gg_ald 0 xs0 2 0 st w (fun st => ex d k (pc + 1) L st w) = some o ∨ gg_ald 0 xs0 3 0 st w (fun st => ex d k (pc + 1) L st w) = some o := by
      intro st' _
      split at h
      · split at h
        · exact Or.inl h
        · exact Or.inr h
      · exact Or.inr h
    have hA : ∀ st', gg_ald 0 xs0 2 0 st' w (fun st => ex d k (pc + 1) L st w) = some o → gy_ald N xs 2 0 st' (ge u w) (fun st => ex' d k (pc + 1) L st (ge u w)) = some (gE u o) := fun st' g => gald_s (by decide) (Or.inr ⟨Or.inr (Or.inl rfl), rfl⟩) (fun _ => H _ _ _ _ _ _ _ hk) g
    have hB : ∀ st', gg_ald 0 xs0 3 0 st' w (fun st => ex d k (pc + 1) L st w) = some o → gy_ald N xs 3 0 st' (ge u w) (fun st => ex' d k (pc + 1) L st (ge u w)) = some (gE u o) := fun st' g => gald_s (by decide) (Or.inr ⟨Or.inr (Or.inr rfl), rfl⟩) (fun _ => H _ _ _ _ _ _ _ hk) g
    rcases key st rfl with h1 | h1
    · have h0 := h1
      unfold gg_ald at h0
      obtain ⟨i, r, rfl, h2⟩ := gpI_ok h0
      split at h2
      · rename_i a r' x0
        split at h2
        · obtain ⟨h3, -⟩ := gif_ok h2
          exact absurd h3.1 (by decide)
        · rename_i ha
          obtain ⟨⟨h3, h4, -⟩, -⟩ := gif_ok h2
          show (if ((ge u w).1 a).1 = 2 then gy_ald N xs 2 0 _ (ge u w) _ else gy_ald N xs 3 0 _ (ge u w) _) = _
          rw [ge_sh ⟨by omega, h3⟩, if_pos h4]
          exact hA _ h1
      · obtain ⟨h3, -⟩ := gif_ok h2
        exact absurd h3.1 (by decide)
      · cases h2
    · have h0 := h1
      unfold gg_ald at h0
      obtain ⟨i, r, rfl, h2⟩ := gpI_ok h0
      split at h2
      · rename_i a r' x0
        split at h2
        · obtain ⟨h3, -⟩ := gif_ok h2
          exact absurd h3.1 (by decide)
        · rename_i ha
          obtain ⟨⟨h3, h4, -⟩, -⟩ := gif_ok h2
          show (if ((ge u w).1 a).1 = 2 then gy_ald N xs 2 0 _ (ge u w) _ else gy_ald N xs 3 0 _ (ge u w) _) = _
          rw [ge_sh ⟨by omega, h3⟩, if_neg (by omega)]
          exact hB _ h1
      · exact hB _ h1
      · cases h2
  case iastore => exact gq_s (gast_s (Or.inr ⟨Or.inl rfl, rfl⟩) (fun _ _ e => H _ _ _ _ _ _ _ ⟨hk.1, by unfold gmU; rw [e]; exact hk.2⟩)) h
  case lastore => exact gq_s (gast_s (Or.inl ⟨rfl, rfl⟩) (fun _ _ e => H _ _ _ _ _ _ _ ⟨hk.1, by unfold gmU; rw [e]; exact hk.2⟩)) h
  case bastore =>
    refine gq_s (fun h => ?_) h
    split at h
    · rename_i v i a r x0
      have key : ∀ kd, gg_ast kd 0 (v :: i :: (2, Int.ofNat a) :: r) w (fun st w => ex d k (pc + 1) L st w) = some o → 1 ≤ a ∧ a < w.2.2.1 ∧ (gg_sh a).1 = kd := by
        intro kd h2
        unfold gg_ast at h2
        split at h2
        · rename_i heq
          cases heq
          obtain ⟨⟨h3, h4, -, h5, -⟩, -⟩ := gif_ok h2
          exact ⟨h3, h4, h5⟩
        · cases h2
      show (if ((ge u w).1 a).1 = 2 then gy_ast 2 0 _ (ge u w) _ else gy_ast 3 0 _ (ge u w) _) = _
      split at h
      · obtain ⟨k1, k2, k3⟩ := key 2 h
        rw [ge_sh ⟨k1, k2⟩, if_pos k3]
        exact gast_s (Or.inr ⟨Or.inr (Or.inl rfl), rfl⟩) (fun _ _ e => H _ _ _ _ _ _ _ ⟨hk.1, by unfold gmU; rw [e]; exact hk.2⟩) h
      · obtain ⟨k1, k2, k3⟩ := key 3 h
        rw [ge_sh ⟨k1, k2⟩, if_neg (by omega)]
        exact gast_s (Or.inr ⟨Or.inr (Or.inr rfl), rfl⟩) (fun _ _ e => H _ _ _ _ _ _ _ ⟨hk.1, by unfold gmU; rw [e]; exact hk.2⟩) h
    · cases h
  case aastore => exact gq_s (gaas_s (fun _ _ e => H _ _ _ _ _ _ _ ⟨hk.1, by unfold gmU; rw [e]; exact hk.2⟩)) h
  case arraylength =>
    refine gq_s (fun h => ?_) h
    split at h
    · rename_i a r x0
      obtain ⟨⟨h1, h2⟩, h3⟩ := gif_ok h
      have ha : a ≠ 0 := fun z => hk.1 (h2 z)
      unfold gg_len at h3
      rw [if_neg ha] at h3
      show (if a = 0 then _ else if 1 ≤ ((ge u w).1 a).1 ∧ ((ge u w).1 a).1 ≤ 5 ∧ (((ge u w).1 a).1 = 5 → gy_ec ((ge u w).1 a).2.2 = true) then ex' d k (pc + 1) L ((0, (((ge u w).1 a).2.1 : Int)) :: r) (ge u w) else none) = _
      rw [if_neg ha, ge_sh ⟨by omega, h1⟩]
      rcases ge_shs a with z | ⟨c', z, -⟩ | ⟨kd, n, z, z1, z2⟩ | ⟨n, c, z, z1⟩
      · generalize gg_sh a = s at h3 z
        obtain ⟨x, y, q⟩ := s
        dsimp only at z
        subst z
        cases h3
      · rw [z] at h3; cases h3
      · rw [z] at h3 ⊢
        have h6 : kd = 1 ∨ kd = 2 ∨ kd = 3 ∨ kd = 4 := by omega
        rw [if_pos ⟨z1, by omega, fun q => by have : kd = 5 := q; omega⟩]
        rcases h6 with rfl | rfl | rfl | rfl <;> exact H _ _ _ _ _ _ _ hk h3
      · rw [z] at h3 ⊢
        rw [if_pos ⟨(by decide : 1 ≤ 5), (by decide : 5 ≤ 5), fun _ => by rcases z1 with rfl | rfl <;> rfl⟩]
        exact H _ _ _ _ _ _ _ hk h3
    · rename_i s2 r x0
      obtain ⟨h1, h2⟩ := gif_ok h
      exact (if_pos (by omega : s2 < 7)).trans (H _ _ _ _ _ _ _ hk h2)
    · cases h
  case newarray t => exact gq_s (gnewa_s hk.2 (gakd_ne t) fun _ _ hU => H _ _ _ _ _ _ _ ⟨hk.1, hU⟩) h
  case anewarray t =>
    refine gq_s (fun h => ?_) h
    split at h
    · exact gnewa_s hk.2 ⟨by decide, by decide⟩ (fun _ _ hU => H _ _ _ _ _ _ _ ⟨hk.1, hU⟩) h
    · cases h
  case new ix =>
    refine gq_s (fun h => ?_) h
    split at h
    · obtain ⟨h1, h2⟩ := gif_ok h
      cases h2
      rw [if_pos h1]
      rfl
    · split at h
      · exact gnew_s hk.2 (fun _ _ hU => H _ _ _ _ _ _ _ ⟨hk.1, hU⟩) h
      · cases h
  case invokespecial ix =>
    refine gq_s (fun h => ?_) h
    split at h
    · rename_i y ns hlm
      by_cases hy : y = 1003
      · rw [if_pos hy] at h ⊢
        obtain ⟨a, r, rfl, h1⟩ := gpR_ok h
        obtain ⟨h2, h3⟩ := gif_ok h1
        exact (if_pos h2).trans (H _ _ _ _ _ _ _ hk h3)
      · rw [if_neg hy] at h ⊢
        obtain ⟨⟨h1, h10⟩, h2⟩ := gif_ok h
        obtain ⟨ci, kd, ml, tg, rk, d', o1, hm, -, ⟨-, -, -, h4⟩, -, -⟩ := ggcall_ok h2
        have hkd : kd = 2 := by rw [hm] at h1; exact h1
        have h5 := h4.resolve_left (by omega)
        have h6 := grcv_ir h5 (by rw [hm] at h10; exact h10)
        have h8 : gy_ir (gy_rc st (gg_mt y).2.2.2.1.length) = true := by rw [hm]; exact h6
        rw [if_pos ⟨h1, h8⟩]
        exact (gcall_s H0 hk (fun z => by rw [z] at h1; exact absurd h1 (by decide +kernel)) (Or.inr (Or.inl ⟨h1, rfl⟩)) h2).1
    · cases h
  case invokevirtual ix =>
    refine gq_s (fun h => ?_) h
    split at h
    · rename_i y ns hlm
      obtain ⟨h1, h2⟩ := gif_ok h
      obtain ⟨ci, kd, ml, tg, rk, d', o1, hm, -, ⟨-, -, -, h4⟩, -, -⟩ := ggcall_ok h2
      have hkd : kd = 0 := by rw [hm] at h1; exact h1
      have h5 := h4.resolve_left (by omega)
      obtain ⟨h6, -⟩ := grcv_s (u := u) h5
      have hlt := gy_lt1000 h1 (by decide)
      have h8 : gy_cl (gy_rc st (gg_mt y).2.2.2.1.length) (ge u w) = some ci := by rw [hm]; exact h6
      have h9 : gy_sel ci y = some y := by unfold gy_sel; rw [hm, if_pos rfl]
      rw [if_neg (by omega), if_neg (by omega), if_neg (by omega), h8]
      show (match gy_sel ci y with
        | some y' => gy_call ex' 0 d k pc 3 L st (ge u w) y'
        | none => none) = _
      rw [h9]
      exact (gcall_s H0 hk (fun z => by rw [z] at h1; exact absurd h1 (by decide +kernel)) (Or.inr (Or.inr ⟨h1, rfl⟩)) h2).1
    · cases h
  case invokestatic ix =>
    refine gq_s (fun h => ?_) h
    split at h
    · rename_i y ns hlm
      by_cases c0 : y = 1000
      · rw [if_pos c0] at h ⊢
        exact gpI_s (fun _ _ => gpI_s fun _ _ => gif_s (H _ _ _ _ _ _ _ hk)) h
      · rw [if_neg c0] at h ⊢
        by_cases c1 : y = 1001
        · rw [if_pos c1] at h ⊢
          exact gpI_s (fun _ _ => gpI_s fun _ _ => gif_s (H _ _ _ _ _ _ _ hk)) h
        · rw [if_neg c1] at h ⊢
          by_cases c2 : y = 1002
          · rw [if_pos c2] at h ⊢
            exact gcopy_s (fun _ _ e => H _ _ _ _ _ _ _ ⟨hk.1, by unfold gmU; rw [e]; exact hk.2⟩) h
          · rw [if_neg c2] at h ⊢
            obtain ⟨h1, h2⟩ := gif_ok h
            rw [if_pos h1]
            exact (gcall_s H0 hk ((gg_lm_ok hlm).2 (gy_lt1000 h1 (by decide))).1.2.1 (Or.inl ⟨h1, rfl⟩) h2).1
    · cases h
  case ireturn =>
    refine gq_s (fun h => ?_) h
    split at h
    · obtain ⟨h1, h2⟩ := gif_ok h
      cases h2
      exact if_pos h1
    · cases h
  case lreturn =>
    refine gq_s (fun h => ?_) h
    split at h
    · obtain ⟨h1, h2⟩ := gif_ok h
      cases h2
      exact if_pos h1
    · cases h
  case areturn =>
    refine gq_s (fun h => ?_) h
    split at h
    · obtain ⟨h1, h2⟩ := gif_ok h
      cases h2
      exact if_pos ⟨rfl, h1⟩
    · cases h
  case return_ =>
    refine gq_s (fun h => ?_) h
    split at h
    · obtain ⟨h1, h2⟩ := gif_ok h
      cases h2
      exact if_pos h1
    · cases h
  all_goals (exact absurd h (by intro z; cases z))
theorem gg_ex_s (u : gy_W) (N : Nat) (xs xs0 : Nat → Int32) (f : Nat) : gg_sm u (gg_ex 0 xs0 f) (gy_ex N xs f) := by
  induction f with
  | zero => intro d k pc L st w o hk h; cases h
  | succ f ih =>
    intro d k pc L st w o hk h
    have h2 : (match gg_dt k pc with
      | some (i, n) => gg_step (gg_ex 0 xs0 f) 0 xs0 d k pc L st w i n
      | none => none) = some o := h
    have h9 : gmU u o.2 := by
      rcases hk.2 with z | z
      · exact Or.inl z
      · exact Or.inr (gg_ex_nx 0 xs0 (f + 1) d k pc L st w o z h)
    refine ⟨?_, h9⟩
    show (match gg_dt k pc with
      | some (i, n) => gy_step (gy_ex N xs f) N xs d k pc L st (ge u w) i n
      | none => none) = some (gE u o)
    split at h2
    · exact gg_step_s ih hk h2
    · cases h2
