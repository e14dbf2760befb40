/-! methods but the law don't see the script: what they come to without it they come to with any -/
theorem gin_no {i : Int} (h : gg_in i 0 = true) : False := by
  have h2 := gin_ok h
  exact h2 (Or.inr (Nat.zero_le _))
theorem gald_t {N : Nat} {xs xs0 : Nat → Int32} {kd t : Nat} {st : List gg_V} {w : gg_W} {f g : List gg_V → Option gg_O} {o : gg_O} (H : ∀ s, f s = some o → g s = some o) (h : gg_ald 0 xs0 kd t st w f = some o) : gg_ald N xs kd t st w g = some o := by
  unfold gg_ald at h ⊢
  refine gpI_m (fun i r h1 => ?_) h
  split at h1
  · split at h1
    · obtain ⟨h2, -⟩ := gif_ok h1
      exact (gin_no h2.2).elim
    · rename_i ha
      rw [if_neg ha]
      exact gif_m (H _) h1
  · exact gif_m (H _) h1
  · cases h1
theorem glen_t {N a : Nat} (h : a ≠ 0) : gg_len 0 a = gg_len N a := by
  unfold gg_len
  rw [if_neg h, if_neg h]
def gg_tm (ex ex' : gg_X) : Prop := ∀ (d k pc : Nat) (L st : List gg_V) (w : gg_W) (o : gg_O), k ≠ 287 → ex d k pc L st w = some o → ex' d k pc L st w = some o
theorem gaft_t {ex ex' : gg_X} (H : gg_tm ex ex') {d k pc : Nat} (hk : k ≠ 287) {L r : List gg_V} {o1 : gg_O} {o : gg_O} (h : gg_aft ex d k pc L r (some o1) = some o) : gg_aft ex' d k pc L r (some o1) = some o := by
  obtain ⟨⟨t, v⟩, w'⟩ := o1
  match t, h with
  | 0, h => exact H _ _ _ _ _ _ _ hk h
  | 1, h => exact H _ _ _ _ _ _ _ hk h
  | t + 2, h =>
    have h3 : (if gg_hd k = [] then some ((t + 2, ((3 : Nat), (0 : Int))), w') else match gg_hdl (gg_hd k) pc (t + 2) with
      | none => none
      | some hh => match gg_hst k hh with
        | none => none
        | some (j, mm) => if j < L.length then ex d k (hh + mm) (gg_s1 L j (3, 0)) [] w' else none) = some o := h
    show (if gg_hd k = [] then some ((t + 2, ((3 : Nat), (0 : Int))), w') else match gg_hdl (gg_hd k) pc (t + 2) with
      | none => none
      | some hh => match gg_hst k hh with
        | none => none
        | some (j, mm) => if j < L.length then ex' d k (hh + mm) (gg_s1 L j (3, 0)) [] w' else none) = some o
    refine gite_m id (fun h4 => ?_) h3
    split at h4
    · cases h4
    · split at h4
      · cases h4
      · exact gif_m (H _ _ _ _ _ _ _ hk) h4
theorem gcall_t {ex ex' : gg_X} (H : gg_tm ex ex') {d k pc y : Nat} (hk : k ≠ 287) (hy : y ≠ 287) {L st : List gg_V} {w : gg_W} {o : gg_O} (h : gg_call ex d k pc L st w y = some o) : gg_call ex' d k pc L st w y = some o := by
  obtain ⟨c, kd, ml, tg, rk, d', o1, hm, hd, h1, hex, haf⟩ := gcall_ok h
  subst hd
  unfold gg_call
  rw [hm]
  show (if _ then gg_aft ex' (d' + 1) k pc L (st.drop tg.length) (ex' d' y 0 (gg_en ml (st.take tg.length).reverse) [] w) else none) = some o
  rw [if_pos h1, H _ _ _ _ _ _ _ hy hex]
  exact gaft_t H hk haf
theorem gg_step_t {ex ex' : gg_X} (H : gg_tm ex ex') {N : Nat} {xs xs0 : Nat → Int32} {d k pc n : Nat} (hk : k ≠ 287) {L st : List gg_V} {w : gg_W} {i : Instr} {o : gg_O} (h : gg_step ex 0 xs0 d k pc L st w i n = some o) : gg_step ex' N xs d k pc L st w i n = some o := by
  cases i
  case iconst v => exact gq_m (H _ _ _ _ _ _ _ hk) h
  case bipush v => exact gq_m (H _ _ _ _ _ _ _ hk) h
  case sipush v => exact gq_m (H _ _ _ _ _ _ _ hk) h
  case lconst v => exact gq_m (H _ _ _ _ _ _ _ hk) h
  case iload_n v => exact gq_m (gld_m fun _ => H _ _ _ _ _ _ _ hk) h
  case iload v => exact gq_m (gld_m fun _ => H _ _ _ _ _ _ _ hk) h
  case lload_n v => exact gq_m (gld_m fun _ => H _ _ _ _ _ _ _ hk) h
  case lload v => exact gq_m (gld_m fun _ => H _ _ _ _ _ _ _ hk) h
  case aload_n v => exact gq_m (gldA_m fun _ => H _ _ _ _ _ _ _ hk) h
  case aload v => exact gq_m (gldA_m fun _ => H _ _ _ _ _ _ _ hk) h
  case istore_n v => exact gq_m (gpI_m fun _ _ => gif_m (H _ _ _ _ _ _ _ hk)) h
  case istore v => exact gq_m (gpI_m fun _ _ => gif_m (H _ _ _ _ _ _ _ hk)) h
  case lstore_n v => exact gq_m (gpL_m fun _ _ => gif_m (H _ _ _ _ _ _ _ hk)) h
  case lstore v => exact gq_m (gpL_m fun _ _ => gif_m (H _ _ _ _ _ _ _ hk)) h
  case astore_n v => exact gq_m (gpR_m fun _ _ => gif_m (H _ _ _ _ _ _ _ hk)) h
  case astore v => exact gq_m (gpR_m fun _ _ => gif_m (H _ _ _ _ _ _ _ hk)) h
  case iinc v u => exact gq_m (gld_m fun _ => gif_m (H _ _ _ _ _ _ _ hk)) h
  case iadd => exact gq_m (gbI_m fun _ => H _ _ _ _ _ _ _ hk) h
  case isub => exact gq_m (gbI_m fun _ => H _ _ _ _ _ _ _ hk) h
  case imul => exact gq_m (gbI_m fun _ => H _ _ _ _ _ _ _ hk) h
  case iand => exact gq_m (gbI_m fun _ => H _ _ _ _ _ _ _ hk) h
  case ior => exact gq_m (gbI_m fun _ => H _ _ _ _ _ _ _ hk) h
  case ixor => exact gq_m (gbI_m fun _ => H _ _ _ _ _ _ _ hk) h
  case ishl => exact gq_m (gbI_m fun _ => H _ _ _ _ _ _ _ hk) h
  case ishr => exact gq_m (gbI_m fun _ => H _ _ _ _ _ _ _ hk) h
  case iushr => exact gq_m (gbI_m fun _ => H _ _ _ _ _ _ _ hk) h
  case ineg => exact gq_m (guI_m fun _ => H _ _ _ _ _ _ _ hk) h
  case i2b => exact gq_m (guI_m fun _ => H _ _ _ _ _ _ _ hk) h
  case i2c => exact gq_m (guI_m fun _ => H _ _ _ _ _ _ _ hk) h
  case i2l => exact gq_m (gpI_m fun _ _ => H _ _ _ _ _ _ _ hk) h
  case l2i => exact gq_m (gpL_m fun _ _ => H _ _ _ _ _ _ _ hk) h
  case ladd => exact gq_m (gbL_m fun _ => H _ _ _ _ _ _ _ hk) h
  case lsub => exact gq_m (gbL_m fun _ => H _ _ _ _ _ _ _ hk) h
  case lmul => exact gq_m (gbL_m fun _ => H _ _ _ _ _ _ _ hk) h
  case land => exact gq_m (gbL_m fun _ => H _ _ _ _ _ _ _ hk) h
  case lor => exact gq_m (gbL_m fun _ => H _ _ _ _ _ _ _ hk) h
  case lxor => exact gq_m (gbL_m fun _ => H _ _ _ _ _ _ _ hk) h
  case lshl => exact gq_m (gsL_m fun _ => H _ _ _ _ _ _ _ hk) h
  case lshr => exact gq_m (gsL_m fun _ => H _ _ _ _ _ _ _ hk) h
  case lushr => exact gq_m (gsL_m fun _ => H _ _ _ _ _ _ _ hk) h
  case lneg => exact gq_m (gpL_m fun _ _ => H _ _ _ _ _ _ _ hk) h
  case lcmp => exact gq_m (gpL_m fun _ _ => gpL_m fun _ _ => H _ _ _ _ _ _ _ hk) h
  case idiv => exact gq_m (gpI_m fun _ _ => gpI_m fun _ _ => gite_m id (H _ _ _ _ _ _ _ hk)) h
  case irem => exact gq_m (gpI_m fun _ _ => gpI_m fun _ _ => gite_m id (H _ _ _ _ _ _ _ hk)) h
  case dup =>
    refine gq_m (fun h => ?_) h
    split at h
    · exact gif_m (H _ _ _ _ _ _ _ hk) h
    · cases h
  case pop =>
    refine gq_m (fun h => ?_) h
    split at h
    · exact gif_m (H _ _ _ _ _ _ _ hk) h
    · cases h
  case dup2 =>
    refine gq_m (fun h => ?_) h
    split at h
    · exact gite_m (H _ _ _ _ _ _ _ hk) (gite_m id (H _ _ _ _ _ _ _ hk)) h
    · cases h
  case goto v => exact gq_m (gtgt_m fun _ => H _ _ _ _ _ _ _ hk) h
  case ifCond c v => exact gq_m (gpI_m fun _ _ => gite_m (gtgt_m fun _ => H _ _ _ _ _ _ _ hk) (H _ _ _ _ _ _ _ hk)) h
  case if_icmp c v => exact gq_m (gpI_m fun _ _ => gpI_m fun _ _ => gite_m (gtgt_m fun _ => H _ _ _ _ _ _ _ hk) (H _ _ _ _ _ _ _ hk)) h
  case tableswitch a b c v =>
    refine gpI_m (fun _ _ => gite_m (gtgt_m fun _ => H _ _ _ _ _ _ _ hk) (fun h => ?_)) h
    split at h
    · exact gtgt_m (fun _ => H _ _ _ _ _ _ _ hk) h
    · cases h
  case ldc v =>
    refine gq_m (fun h => ?_) h
    split at h
    · exact H _ _ _ _ _ _ _ hk h
    · split at h
      · exact H _ _ _ _ _ _ _ hk h
      · cases h
  case ldc_w v =>
    refine gq_m (fun h => ?_) h
    split at h
    · exact H _ _ _ _ _ _ _ hk h
    · cases h
  case ldc2_w v =>
    refine gq_m (fun h => ?_) h
    split at h
    · exact H _ _ _ _ _ _ _ hk h
    · cases h
  case getstatic v => exact gq_m (gite_m (H _ _ _ _ _ _ _ hk) (gite_m (H _ _ _ _ _ _ _ hk) id)) h
  case getfield v => exact gq_m (gget_m fun _ => H _ _ _ _ _ _ _ hk) h
  case putfield v => exact gq_m (gput_m fun _ _ => H _ _ _ _ _ _ _ hk) h
  case iaload => exact gq_m (gald_t fun _ => H _ _ _ _ _ _ _ hk) h
  case laload => exact gq_m (gald_t fun _ => H _ _ _ _ _ _ _ hk) h
  case aaload => exact gq_m (gald_t fun _ => H _ _ _ _ _ _ _ hk) h
  case baload =>
    refine gq_m (fun h => ?_) h
    split at h
    · exact gite_m (gald_t fun _ => H _ _ _ _ _ _ _ hk) (gald_t fun _ => H _ _ _ _ _ _ _ hk) h
    · exact gald_t (fun _ => H _ _ _ _ _ _ _ hk) h
  case iastore => exact gq_m (gast_m fun _ _ => H _ _ _ _ _ _ _ hk) h
  case lastore => exact gq_m (gast_m fun _ _ => H _ _ _ _ _ _ _ hk) h
  case bastore =>
    refine gq_m (fun h => ?_) h
    split at h
    · exact gite_m (gast_m fun _ _ => H _ _ _ _ _ _ _ hk) (gast_m fun _ _ => H _ _ _ _ _ _ _ hk) h
    · cases h
  case aastore => exact gq_m (gaas_m fun _ _ => H _ _ _ _ _ _ _ hk) h
  case arraylength =>
    refine gq_m (fun h => ?_) h
    split at h
    · obtain ⟨h1, h2⟩ := gif_ok h
      rw [if_pos h1, ← glen_t (fun z => hk (h1.2 z))]
      split at h2
      · exact H _ _ _ _ _ _ _ hk h2
      · cases h2
    · exact gif_m (H _ _ _ _ _ _ _ hk) h
    · cases h
  case newarray t => exact gq_m (gnewa_m fun _ _ => H _ _ _ _ _ _ _ hk) h
  case anewarray t =>
    refine gq_m (fun h => ?_) h
    split at h
    · exact gnewa_m (fun _ _ => H _ _ _ _ _ _ _ hk) h
    · cases h
  case new ix =>
    refine gq_m (fun h => ?_) h
    split at h
    · exact h
    · split at h
      · exact gif_m (H _ _ _ _ _ _ _ hk) h
      · cases h
  case invokespecial ix =>
    refine gq_m (fun h => ?_) h
    split at h
    · exact gite_m (gpR_m fun _ _ => gif_m (H _ _ _ _ _ _ _ hk)) (fun h => by
        obtain ⟨h1, h2⟩ := gif_ok h
        rw [if_pos h1]
        exact gcall_t H hk (fun z => by rw [z] at h1; exact absurd h1 (by decide +kernel)) h2) h
    · cases h
  case invokevirtual ix =>
    refine gq_m (fun h => ?_) h
    split at h
    · obtain ⟨h1, h2⟩ := gif_ok h
      rw [if_pos h1]
      exact gcall_t H hk (fun z => by rw [z] at h1; exact absurd h1 (by decide +kernel)) h2
    · cases h
  case invokestatic ix =>
    refine gq_m (fun h => ?_) h
    split at h
    · rename_i y ns hlm
      by_cases c0 : y = 1000
      · rw [if_pos c0] at h ⊢
        exact gpI_m (fun _ _ => gpI_m fun _ _ => gif_m (H _ _ _ _ _ _ _ hk)) h
      · rw [if_neg c0] at h ⊢
        by_cases c1 : y = 1001
        · rw [if_pos c1] at h ⊢
          exact gpI_m (fun _ _ => gpI_m fun _ _ => gif_m (H _ _ _ _ _ _ _ hk)) h
        · rw [if_neg c1] at h ⊢
          by_cases c2 : y = 1002
          · rw [if_pos c2] at h ⊢
            exact gcopy_m (fun _ _ => H _ _ _ _ _ _ _ hk) h
          · rw [if_neg c2] at h ⊢
            obtain ⟨h1, h2⟩ := gif_ok h
            rw [if_pos h1]
            have c3 : y ≠ 1003 := fun z => by rw [z] at h1; exact absurd h1 (by decide +kernel)
            exact gcall_t H hk ((gg_lm_ok hlm).2.2.2.2 c0 c1 c2 c3).1.2 h2
    · cases h
  case ireturn => exact h
  case lreturn => exact h
  case areturn => exact h
  case return_ => exact h
  all_goals (exact absurd h (by intro z; cases z))
theorem gg_ex_t (N : Nat) (xs xs0 : Nat → Int32) (f : Nat) : gg_tm (gg_ex 0 xs0 f) (gg_ex N xs f) := by
  induction f with
  | zero => intro d k pc L st w o hk h; cases h
  | succ f ih =>
    intro d k pc L st w o hk h
    have h2 : (match gg_dt k pc with
      | some (i, n) => gg_step (gg_ex 0 xs0 f) 0 xs0 d k pc L st w i n
      | none => none) = some o := h
    show (match gg_dt k pc with
      | some (i, n) => gg_step (gg_ex N xs f) N xs d k pc L st w i n
      | none => none) = some o
    split at h2
    · exact gg_step_t ih hk h2
    · cases h2
