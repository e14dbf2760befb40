/-! the moving interpreter: more fuel, the same end; what it comes to -/
section GYS
variable {α β : Type} {o : α} {o' : β}
theorem gypA_s {st : List gg_V} {f : gg_V → List gg_V → Option α} {g : gg_V → List gg_V → Option β} (H : ∀ a r, f a r = some o → g a r = some o') (h : gy_pA st f = some o) : gy_pA st g = some o' := by
  obtain ⟨v, r, rfl, hv, h1⟩ := gypA_ok h
  unfold gy_pA
  exact (if_pos hv).trans (H _ _ h1)
theorem gyldA_s {L : List gg_V} {i : Nat} {f : gg_V → Option α} {g : gg_V → Option β} (H : ∀ x, f x = some o → g x = some o') (h : gy_ldA L i f = some o) : gy_ldA L i g = some o' := by
  obtain ⟨v, hv, h2, h1⟩ := gyldA_ok h
  unfold gy_ldA
  rw [hv]
  exact (if_pos h2).trans (H _ h1)
end GYS
section GYT
variable {w : gy_W} {o : gy_O} {st : List gg_V}
theorem gyget_s {ow ix : Nat} {f g : List gg_V → Option gy_O} (H : ∀ s, f s = some o → g s = some o) (h : gy_get ow ix st w f = some o) : gy_get ow ix st w g = some o := by
  unfold gy_get at h ⊢
  split at h
  · split at h
    · exact gif_s (H _) h
    · split at h
      · exact gif_s (H _) h
      · cases h
  · exact gif_s (gite_s (H _) (gite_s (H _) gno_s)) h
  · exact gif_s (H _) h
  · cases h
theorem gyput_s {ow kd ix : Nat} {f g : List gg_V → gy_W → Option gy_O} (H : ∀ s w', f s w' = some o → g s w' = some o) (h : gy_put ow kd ix st w f = some o) : gy_put ow kd ix st w g = some o := by
  unfold gy_put at h ⊢
  split at h
  · split at h
    · exact gif_s (H _ _) h
    · split at h
      · exact gif_s (H _ _) h
      · cases h
  · cases h
theorem gyald_s {N : Nat} {xs : Nat → Int32} {kd t : Nat} {f g : List gg_V → Option gy_O} (H : ∀ s, f s = some o → g s = some o) (h : gy_ald N xs kd t st w f = some o) : gy_ald N xs kd t st w g = some o := by
  unfold gy_ald at h ⊢
  refine gpI_s (fun i r h1 => ?_) h
  split at h1
  · exact gite_s (gif_s (H _)) (gif_s (H _)) h1
  · exact gif_s (H _) h1
  · exact gif_s (H _) h1
  · cases h1
theorem gyaal_s {f g : List gg_V → Option gy_O} (H : ∀ s, f s = some o → g s = some o) (h : gy_aal st w f = some o) : gy_aal st w g = some o := by
  unfold gy_aal at h ⊢
  refine gpI_s (fun i r h1 => ?_) h
  split at h1
  · exact gif_s (H _) h1
  · exact gif_s (H _) h1
  · cases h1
theorem gyast_s {kd t : Nat} {f g : List gg_V → gy_W → Option gy_O} (H : ∀ s w', f s w' = some o → g s w' = some o) (h : gy_ast kd t st w f = some o) : gy_ast kd t st w g = some o := by
  unfold gy_ast at h ⊢
  split at h
  · exact gif_s (H _ _) h
  · cases h
theorem gyaas_s {f g : List gg_V → gy_W → Option gy_O} (H : ∀ s w', f s w' = some o → g s w' = some o) (h : gy_aas st w f = some o) : gy_aas st w g = some o := by
  unfold gy_aas at h ⊢
  split at h
  · exact gif_s (H _ _) h
  · cases h
theorem gycopy_s {f g : List gg_V → gy_W → Option gy_O} (H : ∀ s w', f s w' = some o → g s w' = some o) (h : gy_copy st w f = some o) : gy_copy st w g = some o := by
  unfold gy_copy at h ⊢
  split at h
  · exact gif_s (H _ _) h
  · exact gif_s (H _ _) h
  · cases h
theorem gynew_s {c : Nat} {f g : gg_V → gy_W → Option gy_O} (H : ∀ v w', f v w' = some o → g v w' = some o) (h : gy_new c w f = some o) : gy_new c w g = some o := gif_s (H _ _) h
theorem gynewa_s {kd c : Nat} {f g : List gg_V → gy_W → Option gy_O} (H : ∀ v w', f v w' = some o → g v w' = some o) (h : gy_newa kd c st w f = some o) : gy_newa kd c st w g = some o := gpI_s (fun _ _ => gif_s (H _ _)) h
theorem gymna_s {f g : List gg_V → gy_W → Option gy_O} (H : ∀ v w', f v w' = some o → g v w' = some o) (h : gy_mna st w f = some o) : gy_mna st w g = some o := gpI_s (fun _ _ => gpI_s (fun _ _ => gif_s (H _ _))) h
theorem gycln_s {kd : Nat} {f g : List gg_V → gy_W → Option gy_O} (H : ∀ v w', f v w' = some o → g v w' = some o) (h : gy_cln kd st w f = some o) : gy_cln kd st w g = some o := by
  unfold gy_cln at h ⊢
  split at h
  · exact gif_s (H _ _) h
  · cases h
end GYT
def gy_fm (ex ex' : gy_X) : Prop := ∀ (d k pc : Nat) (L st : List gg_V) (w : gy_W) (o : gy_O), ex d k pc L st w = some o → ex' d k pc L st w = some o
theorem gyaft_s {ex ex' : gy_X} (IH : gy_fm ex ex') {d k pc n : Nat} {L r : List gg_V} {o1 x : gy_O} (h : gy_aft ex d k pc n L r (some o1) = some x) : gy_aft ex' d k pc n L r (some o1) = some x := by
  obtain ⟨⟨t, v⟩, w'⟩ := o1
  match t, h with
  | 0, h => exact IH _ _ _ _ _ _ _ h
  | 1, h => exact IH _ _ _ _ _ _ _ h
  | t + 2, h =>
    have h3 : (if gg_hd k = [] then some ((t + 2, ((3 : Nat), (0 : Int))), w') else match gg_hdl (gg_hd k) pc (t + 2) with
      | none => none
      | some hh => match gg_hst k hh with
        | none => none
        | some (j, mm) => if j < L.length then ex d k (hh + mm) (gg_s1 L j (3, 0)) [] w' else none) = some x := h
    show (if gg_hd k = [] then some ((t + 2, ((3 : Nat), (0 : Int))), w') else match gg_hdl (gg_hd k) pc (t + 2) with
      | none => none
      | some hh => match gg_hst k hh with
        | none => none
        | some (j, mm) => if j < L.length then ex' d k (hh + mm) (gg_s1 L j (3, 0)) [] w' else none) = some x
    refine gite_s id (fun h4 => ?_) h3
    split at h4
    · cases h4
    · split at h4
      · cases h4
      · exact gif_s (IH _ _ _ _ _ _ _) h4
theorem gycall_s {ex ex' : gy_X} (IH : gy_fm ex ex') {vk d k pc n y : Nat} {L st : List gg_V} {w : gy_W} {x : gy_O} (h : gy_call ex vk d k pc n L st w y = some x) : gy_call ex' vk d k pc n L st w y = some x := by
  obtain ⟨c, kd, ml, tg, rk, d', o1, hm, hd, h1, hex, haf⟩ := gycall_ok h
  subst hd
  unfold gy_call
  rw [hm]
  show (if _ then gy_aft ex' (d' + 1) k pc n L (st.drop tg.length) (ex' d' y 0 (gg_en ml (st.take tg.length).reverse) [] w) else none) = some x
  rw [if_pos h1, IH _ _ _ _ _ _ _ hex]
  exact gyaft_s IH haf
set_option maxHeartbeats 1000000 in
theorem gy_step_fm {ex ex' : gy_X} (IH : gy_fm ex ex') {N : Nat} {xs : Nat → Int32} {d k pc n : Nat} {L st : List gg_V} {w : gy_W} {i : Instr} {o : gy_O} (h : gy_step ex N xs d k pc L st w i n = some o) : gy_step ex' N xs d k pc L st w i n = some o := by
  cases i
  case iconst v =>
    exact gq_s (IH _ _ _ _ _ _ _) h
  case bipush v =>
    exact gq_s (IH _ _ _ _ _ _ _) h
  case sipush v =>
    exact gq_s (IH _ _ _ _ _ _ _) h
  case lconst v =>
    exact gq_s (IH _ _ _ _ _ _ _) h
  case aconst_null =>
    exact gq_s (IH _ _ _ _ _ _ _) h
  case iload_n v =>
    exact gq_s (gld_s (fun _ => (IH _ _ _ _ _ _ _))) h
  case iload v =>
    exact gq_s (gld_s (fun _ => (IH _ _ _ _ _ _ _))) h
  case lload_n v =>
    exact gq_s (gld_s (fun _ => (IH _ _ _ _ _ _ _))) h
  case lload v =>
    exact gq_s (gld_s (fun _ => (IH _ _ _ _ _ _ _))) h
  case aload_n v =>
    exact gq_s (gyldA_s (fun _ => (IH _ _ _ _ _ _ _))) h
  case aload v =>
    exact gq_s (gyldA_s (fun _ => (IH _ _ _ _ _ _ _))) h
  case istore_n v =>
    exact gq_s (gpI_s fun _ _ => gif_s (IH _ _ _ _ _ _ _)) h
  case istore v =>
    exact gq_s (gpI_s fun _ _ => gif_s (IH _ _ _ _ _ _ _)) h
  case lstore_n v =>
    exact gq_s (gpL_s fun _ _ => gif_s (IH _ _ _ _ _ _ _)) h
  case lstore v =>
    exact gq_s (gpL_s fun _ _ => gif_s (IH _ _ _ _ _ _ _)) h
  case astore_n v =>
    exact gq_s (gypA_s fun _ _ => gif_s (IH _ _ _ _ _ _ _)) h
  case astore v =>
    exact gq_s (gypA_s fun _ _ => gif_s (IH _ _ _ _ _ _ _)) h
  case iinc v u =>
    exact gq_s (gld_s fun _ => gif_s (IH _ _ _ _ _ _ _)) h
  case iadd =>
    exact gq_s (gbI_s (fun _ => (IH _ _ _ _ _ _ _))) h
  case isub =>
    exact gq_s (gbI_s (fun _ => (IH _ _ _ _ _ _ _))) h
  case imul =>
    exact gq_s (gbI_s (fun _ => (IH _ _ _ _ _ _ _))) h
  case iand =>
    exact gq_s (gbI_s (fun _ => (IH _ _ _ _ _ _ _))) h
  case ior =>
    exact gq_s (gbI_s (fun _ => (IH _ _ _ _ _ _ _))) h
  case ixor =>
    exact gq_s (gbI_s (fun _ => (IH _ _ _ _ _ _ _))) h
  case ishl =>
    exact gq_s (gbI_s (fun _ => (IH _ _ _ _ _ _ _))) h
  case ishr =>
    exact gq_s (gbI_s (fun _ => (IH _ _ _ _ _ _ _))) h
  case iushr =>
    exact gq_s (gbI_s (fun _ => (IH _ _ _ _ _ _ _))) h
  case ineg =>
    exact gq_s (guI_s (fun _ => (IH _ _ _ _ _ _ _))) h
  case i2b =>
    exact gq_s (guI_s (fun _ => (IH _ _ _ _ _ _ _))) h
  case i2c =>
    exact gq_s (guI_s (fun _ => (IH _ _ _ _ _ _ _))) h
  case i2l =>
    exact gq_s (gpI_s (fun _ _ => (IH _ _ _ _ _ _ _))) h
  case l2i =>
    exact gq_s (gpL_s (fun _ _ => (IH _ _ _ _ _ _ _))) h
  case ladd =>
    exact gq_s (gbL_s (fun _ => (IH _ _ _ _ _ _ _))) h
  case lsub =>
    exact gq_s (gbL_s (fun _ => (IH _ _ _ _ _ _ _))) h
  case lmul =>
    exact gq_s (gbL_s (fun _ => (IH _ _ _ _ _ _ _))) h
  case land =>
    exact gq_s (gbL_s (fun _ => (IH _ _ _ _ _ _ _))) h
  case lor =>
    exact gq_s (gbL_s (fun _ => (IH _ _ _ _ _ _ _))) h
  case lxor =>
    exact gq_s (gbL_s (fun _ => (IH _ _ _ _ _ _ _))) h
  case lshl =>
    exact gq_s (gsL_s (fun _ => (IH _ _ _ _ _ _ _))) h
  case lshr =>
    exact gq_s (gsL_s (fun _ => (IH _ _ _ _ _ _ _))) h
  case lushr =>
    exact gq_s (gsL_s (fun _ => (IH _ _ _ _ _ _ _))) h
  case lneg =>
    exact gq_s (gpL_s (fun _ _ => (IH _ _ _ _ _ _ _))) h
  case lcmp =>
    exact gq_s (gpL_s fun _ _ => gpL_s (fun _ _ => (IH _ _ _ _ _ _ _))) h
  case idiv =>
    exact gq_s (gpI_s fun _ _ => gpI_s fun _ _ => gite_s gno_s (IH _ _ _ _ _ _ _)) h
  case irem =>
    exact gq_s (gpI_s fun _ _ => gpI_s fun _ _ => gite_s gno_s (IH _ _ _ _ _ _ _)) h
  case dup =>
    refine gq_s (fun h => ?_) h
    split at h
    · exact gif_s (IH _ _ _ _ _ _ _) h
    · cases h
  case pop =>
    refine gq_s (fun h => ?_) h
    split at h
    · exact gif_s (IH _ _ _ _ _ _ _) h
    · cases h
  case dup_x1 =>
    refine gq_s (fun h => ?_) h
    split at h
    · exact gif_s (IH _ _ _ _ _ _ _) h
    · cases h
  case dup2 =>
    refine gq_s (fun h => ?_) h
    split at h
    · exact gite_s (IH _ _ _ _ _ _ _) (gite_s gno_s (IH _ _ _ _ _ _ _)) h
    · cases h
  case goto v =>
    exact gq_s (gtgt_s (fun _ => (IH _ _ _ _ _ _ _))) h
  case ifCond c v =>
    exact gq_s (gpI_s fun _ _ => gite_s (gtgt_s (fun _ => (IH _ _ _ _ _ _ _))) (IH _ _ _ _ _ _ _)) h
  case if_icmp c v =>
    exact gq_s (gpI_s fun _ _ => gpI_s fun _ _ => gite_s (gtgt_s (fun _ => (IH _ _ _ _ _ _ _))) (IH _ _ _ _ _ _ _)) h
  case if_acmp c v =>
    refine gq_s (fun h => ?_) h
    split at h
    · refine gif_s (fun h => ?_) h
      cases c
      · exact gtgt_s (fun _ => (IH _ _ _ _ _ _ _)) h
      · exact IH _ _ _ _ _ _ _ h
    · cases h
  case ifnonnull v =>
    refine gq_s (fun h => ?_) h
    split at h
    · exact gtgt_s (fun _ => (IH _ _ _ _ _ _ _)) h
    · cases h
  case tableswitch a b c v =>
    refine gpI_s (fun _ _ => gite_s (gtgt_s (fun _ => (IH _ _ _ _ _ _ _))) (fun h => ?_)) h
    split at h
    · exact gtgt_s (fun _ => (IH _ _ _ _ _ _ _)) h
    · cases h
  case ldc v =>
    refine gq_s (fun h => ?_) h
    split at h
    · exact IH _ _ _ _ _ _ _ h
    · split at h
      · exact IH _ _ _ _ _ _ _ h
      · exact gif_s (IH _ _ _ _ _ _ _) h
  case ldc_w v =>
    refine gq_s (fun h => ?_) h
    split at h
    · exact IH _ _ _ _ _ _ _ h
    · cases h
  case ldc2_w v =>
    refine gq_s (fun h => ?_) h
    split at h
    · exact IH _ _ _ _ _ _ _ h
    · cases h
  case getstatic v =>
    refine gq_s (fun h => ?_) h
    split at h
    · exact IH _ _ _ _ _ _ _ h
    · cases h
  case checkcast v =>
    refine gq_s (fun h => ?_) h
    split at h
    · split at h
      · exact gif_s (IH _ _ _ _ _ _ _) h
      · cases h
    · cases h
  case getfield v =>
    exact gq_s (gyget_s (fun _ => (IH _ _ _ _ _ _ _))) h
  case putfield v =>
    exact gq_s (gyput_s (fun _ _ => (IH _ _ _ _ _ _ _))) h
  case iaload =>
    exact gq_s (gyald_s (fun _ => (IH _ _ _ _ _ _ _))) h
  case laload =>
    exact gq_s (gyald_s (fun _ => (IH _ _ _ _ _ _ _))) h
  case aaload =>
    exact gq_s (gyaal_s (fun _ => (IH _ _ _ _ _ _ _))) h
  case baload =>
    refine gq_s (fun h => ?_) h
    split at h
    · exact gite_s (gyald_s (fun _ => (IH _ _ _ _ _ _ _))) (gyald_s (fun _ => (IH _ _ _ _ _ _ _))) h
    · exact gyald_s (fun _ => (IH _ _ _ _ _ _ _)) h
  case iastore =>
    exact gq_s (gyast_s (fun _ _ => (IH _ _ _ _ _ _ _))) h
  case lastore =>
    exact gq_s (gyast_s (fun _ _ => (IH _ _ _ _ _ _ _))) h
  case bastore =>
    refine gq_s (fun h => ?_) h
    split at h
    · exact gite_s (gyast_s (fun _ _ => (IH _ _ _ _ _ _ _))) (gyast_s (fun _ _ => (IH _ _ _ _ _ _ _))) h
    · cases h
  case aastore =>
    exact gq_s (gyaas_s (fun _ _ => (IH _ _ _ _ _ _ _))) h
  case arraylength =>
    refine gq_s (fun h => ?_) h
    split at h
    · exact gite_s (IH _ _ _ _ _ _ _) (gif_s (IH _ _ _ _ _ _ _)) h
    · exact gif_s (IH _ _ _ _ _ _ _) h
    · exact gif_s (IH _ _ _ _ _ _ _) h
    · cases h
  case newarray t =>
    exact gq_s (gynewa_s (fun _ _ => (IH _ _ _ _ _ _ _))) h
  case anewarray t =>
    refine gq_s (fun h => ?_) h
    split at h
    · exact gynewa_s (fun _ _ => (IH _ _ _ _ _ _ _)) h
    · cases h
  case multianewarray t u =>
    exact gq_s (gif_s (gymna_s (fun _ _ => (IH _ _ _ _ _ _ _)))) h
  case new ix =>
    refine gq_s (fun h => ?_) h
    split at h
    · exact h
    · split at h
      · exact gynew_s (fun _ _ => (IH _ _ _ _ _ _ _)) h
      · cases h
  case invokespecial ix =>
    refine gq_s (fun h => ?_) h
    split at h
    · refine gite_s (fun h => ?_) (gite_s (fun h => gycall_s IH h) (gif_s (fun h => gycall_s IH h))) h
      split at h
      · exact gif_s (IH _ _ _ _ _ _ _) h
      · cases h
    · cases h
  case invokevirtual ix =>
    refine gq_s (fun h => ?_) h
    split at h
    · refine gite_s (gycln_s (fun _ _ => (IH _ _ _ _ _ _ _))) (gite_s (gycln_s (fun _ _ => (IH _ _ _ _ _ _ _))) (gite_s (fun h => ?_) (fun h => ?_))) h
      · split at h
        · exact gif_s (IH _ _ _ _ _ _ _) h
        · cases h
      · split at h
        · split at h
          · exact (fun h => gycall_s IH h) h
          · cases h
        · cases h
    · cases h
  case invokeinterface ix cn =>
    refine gq_s (fun h => ?_) h
    split at h
    · split at h
      · exact gif_s (fun h => gycall_s IH h) h
      · cases h
    · cases h
  case invokestatic ix =>
    refine gq_s (fun h => ?_) h
    split at h
    · exact gite_s (gpI_s fun _ _ => gpI_s fun _ _ => gif_s (IH _ _ _ _ _ _ _)) (gite_s (gpI_s fun _ _ => gpI_s fun _ _ => gif_s (IH _ _ _ _ _ _ _)) (gite_s (gycopy_s (fun _ _ => (IH _ _ _ _ _ _ _))) (gif_s (fun h => gycall_s IH h)))) h
    · cases h
  case ireturn =>
    exact h
  case lreturn =>
    exact h
  case areturn =>
    exact h
  case return_ =>
    exact h
  all_goals (exact absurd h (by intro z; cases z))
theorem gy_ex_fm (N : Nat) (xs : Nat → Int32) (f : Nat) : gy_fm (gy_ex N xs f) (gy_ex N xs (f + 1)) := by
  induction f with
  | zero => intro d k pc L st w o h; cases h
  | succ f ih =>
    intro d k pc L st w o h
    have h2 : (match gg_dt k pc with
      | some (i, n) => gy_step (gy_ex N xs f) N xs d k pc L st w i n
      | none => none) = some o := h
    show (match gg_dt k pc with
      | some (i, n) => gy_step (gy_ex N xs (f + 1)) N xs d k pc L st w i n
      | none => none) = some o
    split at h2
    · exact gy_step_fm ih h2
    · cases h2
theorem gy_ex_le (N : Nat) (xs : Nat → Int32) {f f' : Nat} (h : f ≤ f') : gy_fm (gy_ex N xs f) (gy_ex N xs f') := by
  induction h with
  | refl => intro d k pc L st w o h; exact h
  | step _ ih => intro d k pc L st w o h; exact gy_ex_fm N xs _ _ _ _ _ _ _ _ (ih _ _ _ _ _ _ _ h)
/-- from here the moving interpreter comes to an end of which Q holds -/
def wy (N : Nat) (xs : Nat → Int32) (d k pc : Nat) (L st : List gg_V) (w : gy_W) (Q : gy_O → Prop) : Prop := ∃ f o, gy_ex N xs f d k pc L st w = some o ∧ Q o
section WY
variable {N : Nat} {xs : Nat → Int32} {d k pc : Nat} {L st : List gg_V} {w : gy_W} {Q Q' : gy_O → Prop}
theorem wy.mono (h : wy N xs d k pc L st w Q) (hQ : ∀ o, Q o → Q' o) : wy N xs d k pc L st w Q' := by
  obtain ⟨f, o, h1, h2⟩ := h
  exact ⟨f, o, h1, hQ o h2⟩
theorem wy_of {i : Instr} {n : Nat} (hd : gg_dt k pc = some (i, n)) : wy N xs d k pc L st w Q ↔ ∃ f o, gy_step (gy_ex N xs f) N xs d k pc L st w i n = some o ∧ Q o := by
  constructor
  · rintro ⟨f, o, h, hq⟩
    cases f with
    | zero => cases h
    | succ f =>
      have h2 : (match gg_dt k pc with
        | some (i, n) => gy_step (gy_ex N xs f) N xs d k pc L st w i n
        | none => none) = some o := h
      rw [hd] at h2
      exact ⟨f, o, h2, hq⟩
  · rintro ⟨f, o, h, hq⟩
    refine ⟨f + 1, o, ?_, hq⟩
    show (match gg_dt k pc with
      | some (i, n) => gy_step (gy_ex N xs f) N xs d k pc L st w i n
      | none => none) = some o
    rw [hd]
    exact h
theorem wy_eq {i : Instr} {n pc' k' d' : Nat} {L' st' : List gg_V} {w' : gy_W} (hd : gg_dt k pc = some (i, n)) (e : ∀ f, gy_step (gy_ex N xs f) N xs d k pc L st w i n = gy_ex N xs f d' k' pc' L' st' w') : wy N xs d k pc L st w Q ↔ wy N xs d' k' pc' L' st' w' Q := by
  rw [wy_of hd]
  unfold wy
  simp only [e]
theorem wy_end {i : Instr} {n : Nat} {o : gy_O} (hd : gg_dt k pc = some (i, n)) (e : ∀ f, gy_step (gy_ex N xs f) N xs d k pc L st w i n = some o) : wy N xs d k pc L st w Q ↔ Q o := by
  rw [wy_of hd]
  constructor
  · rintro ⟨f, o', h, hq⟩
    rw [e] at h
    cases h
    exact hq
  · intro hq
    exact ⟨0, o, e 0, hq⟩
/-- a branch -/
theorem wy_br {i : Instr} {n a b : Nat} {c : Prop} [Decidable c] {L' st' : List gg_V} (hd : gg_dt k pc = some (i, n)) (e : ∀ f, gy_step (gy_ex N xs f) N xs d k pc L st w i n = if c then gy_ex N xs f d k a L' st' w else gy_ex N xs f d k b L' st' w) : wy N xs d k pc L st w Q ↔ if c then wy N xs d k a L' st' w Q else wy N xs d k b L' st' w Q := by
  rw [wy_of hd]
  by_cases hc : c
  · simp only [e, if_pos hc]
    rfl
  · simp only [e, if_neg hc]
    rfl
/-- two runs from one place come to one end -/
theorem wy_det {o : gy_O} (h : wy N xs d k pc L st w (fun x => x = o)) : wy N xs d k pc L st w Q ↔ Q o := by
  obtain ⟨f1, o1, h1, rfl⟩ := h
  constructor
  · rintro ⟨f2, o2, h2, hq⟩
    have e1 := gy_ex_le N xs (Nat.le_max_left f1 f2) _ _ _ _ _ _ _ h1
    have e2 := gy_ex_le N xs (Nat.le_max_right f1 f2) _ _ _ _ _ _ _ h2
    rw [e1] at e2
    cases e2
    exact hq
  · intro hq
    exact ⟨f1, o1, h1, hq⟩
/-- behind a call -/
def wz (N : Nat) (xs : Nat → Int32) (d k pc n : Nat) (L r : List gg_V) (Q : gy_O → Prop) (o1 : gy_O) : Prop := ∃ f o, gy_aft (gy_ex N xs f) d k pc n L r (some o1) = some o ∧ Q o
theorem wz_0 {n : Nat} {v : gg_V} {r : List gg_V} {w' : gy_W} : wz N xs d k pc n L r Q ((0, v), w') ↔ wy N xs d k (pc + n) L r w' Q := Iff.rfl
theorem wz_1 {n : Nat} {v : gg_V} {r : List gg_V} {w' : gy_W} : wz N xs d k pc n L r Q ((1, v), w') ↔ wy N xs d k (pc + n) L (v :: r) w' Q := Iff.rfl
theorem wz_x {n : Nat} {v : gg_V} {r : List gg_V} {w' : gy_W} {t : Nat} (hk : gg_hd k = []) : wz N xs d k pc n L r Q ((t + 2, v), w') ↔ Q ((t + 2, (3, 0)), w') := by
  unfold wz
  have e : ∀ f, gy_aft (gy_ex N xs f) d k pc n L r (some ((t + 2, v), w')) = some ((t + 2, (3, 0)), w') := by
    intro f
    show (if gg_hd k = [] then some ((t + 2, ((3 : Nat), (0 : Int))), w') else _) = _
    rw [if_pos hk]
  simp only [e]
  constructor
  · rintro ⟨f, o, h, hq⟩
    cases h
    exact hq
  · intro hq
    exact ⟨0, _, rfl, hq⟩
theorem wy_call {i : Instr} {n vk y ci kd ml rk : Nat} {tg : List Nat} (hd : gg_dt k pc = some (i, n)) (e : ∀ f, gy_step (gy_ex N xs f) N xs (d + 1) k pc L st w i n = gy_call (gy_ex N xs f) vk (d + 1) k pc n L st w y) (hm : gg_mt y = (ci, kd, ml, tg, rk))
    (hc : (st.take tg.length).reverse.map gy_tg = tg ∧ tg.length ≤ st.length ∧ ((st.drop tg.length).map gg_cat).sum ≤ 8 ∧ (kd = 1 ∧ vk = 1 ∨ kd = 2 ∧ vk = 2 ∨ kd = 0 ∧ (vk = 0 ∨ vk = 3 ∨ vk = 4))) {vs r L' : List gg_V} (hv : (st.take tg.length).reverse = vs) (hr : st.drop tg.length = r) (hL : gg_en ml vs = L') :
    wy N xs (d + 1) k pc L st w Q ↔ wy N xs d y 0 L' [] w (wz N xs (d + 1) k pc n L r Q) := by
  subst hv; subst hr; subst hL
  have e2 : ∀ f, gy_call (gy_ex N xs f) vk (d + 1) k pc n L st w y = gy_aft (gy_ex N xs f) (d + 1) k pc n L (st.drop tg.length) (gy_ex N xs f d y 0 (gg_en ml (st.take tg.length).reverse) [] w) := by
    intro f
    unfold gy_call
    rw [hm]
    exact if_pos hc
  rw [wy_of hd]
  simp only [e, e2]
  constructor
  · rintro ⟨f, o, h, hq⟩
    cases ho : gy_ex N xs f d y 0 (gg_en ml (st.take tg.length).reverse) [] w with
    | none => rw [ho] at h; cases h
    | some o1 =>
      rw [ho] at h
      exact ⟨f, o1, ho, f, o, h, hq⟩
  · rintro ⟨f1, o1, h1, f2, o, h2, hq⟩
    refine ⟨max f1 f2, o, ?_, hq⟩
    rw [gy_ex_le N xs (Nat.le_max_left f1 f2) _ _ _ _ _ _ _ h1]
    exact gyaft_s (gy_ex_le N xs (Nat.le_max_right f1 f2)) h2
end WY
