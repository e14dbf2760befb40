/-! more calls may stand open -/
def gg_dm (ex ex' : gg_X) : Prop := ∀ (d k pc : Nat) (L st : List gg_V) (w : gg_W) (o : gg_O), ex d k pc L st w = some o → ex' (d + 1) k pc L st w = some o
theorem gaft_d {ex ex' : gg_X} (H : gg_dm ex ex') {d k pc : Nat} {L r : List gg_V} {o1 : gg_O} {o : gg_O} (h : gg_aft ex d k pc L r (some o1) = some o) : gg_aft ex' (d + 1) k pc L r (some o1) = some o := by
  obtain ⟨⟨t, v⟩, w'⟩ := o1
  match t, h with
  | 0, h => exact H _ _ _ _ _ _ _ h
  | 1, h => exact H _ _ _ _ _ _ _ h
  | t + 2, h =>
    have h3 : (if gg_hd k = [] then some ((t + 2, ((3 : Nat), (0 : Int))), w') else match gg_hdl (gg_hd k) pc (t + 2) with
      | none => none
      | some hh => match gg_hst k hh with
        | none => none
        | some (j, mm) => if j < L.length then ex d k (hh + mm) (gg_s1 L j (3, 0)) [] w' else none) = some o := h
    show (if gg_hd k = [] then some ((t + 2, ((3 : Nat), (0 : Int))), w') else match gg_hdl (gg_hd k) pc (t + 2) with
      | none => none
      | some hh => match gg_hst k hh with
        | none => none
        | some (j, mm) => if j < L.length then ex' (d + 1) k (hh + mm) (gg_s1 L j (3, 0)) [] w' else none) = some o
    refine gite_m id (fun h4 => ?_) h3
    split at h4
    · cases h4
    · split at h4
      · cases h4
      · exact gif_m (H _ _ _ _ _ _ _) h4
theorem gcall_d {ex ex' : gg_X} (H : gg_dm ex ex') {d k pc y : Nat} {L st : List gg_V} {w : gg_W} {o : gg_O} (h : gg_call ex d k pc L st w y = some o) : gg_call ex' (d + 1) k pc L st w y = some o := by
  obtain ⟨c, kd, ml, tg, rk, d', o1, hm, hd, h1, hex, haf⟩ := gcall_ok h
  subst hd
  unfold gg_call
  rw [hm]
  show (if _ then gg_aft ex' (d' + 1 + 1) k pc L (st.drop tg.length) (ex' (d' + 1) y 0 (gg_en ml (st.take tg.length).reverse) [] w) else none) = some o
  rw [if_pos h1, H _ _ _ _ _ _ _ hex]
  exact gaft_d H haf
theorem gg_step_d {ex ex' : gg_X} (H : gg_dm ex ex') {N : Nat} {xs : Nat → Int32} {d k pc n : Nat} {L st : List gg_V} {w : gg_W} {i : Instr} {o : gg_O} (h : gg_step ex N xs d k pc L st w i n = some o) : gg_step ex' N xs (d + 1) k pc L st w i n = some o := by
  cases i
  case iconst v => exact gq_m (H _ _ _ _ _ _ _) h
  case bipush v => exact gq_m (H _ _ _ _ _ _ _) h
  case sipush v => exact gq_m (H _ _ _ _ _ _ _) h
  case lconst v => exact gq_m (H _ _ _ _ _ _ _) h
  case iload_n v => exact gq_m (gld_m fun _ => H _ _ _ _ _ _ _) h
  case iload v => exact gq_m (gld_m fun _ => H _ _ _ _ _ _ _) h
  case lload_n v => exact gq_m (gld_m fun _ => H _ _ _ _ _ _ _) h
  case lload v => exact gq_m (gld_m fun _ => H _ _ _ _ _ _ _) h
  case aload_n v => exact gq_m (gldA_m fun _ => H _ _ _ _ _ _ _) h
  case aload v => exact gq_m (gldA_m fun _ => H _ _ _ _ _ _ _) h
  case istore_n v => exact gq_m (gpI_m fun _ _ => gif_m (H _ _ _ _ _ _ _)) h
  case istore v => exact gq_m (gpI_m fun _ _ => gif_m (H _ _ _ _ _ _ _)) h
  case lstore_n v => exact gq_m (gpL_m fun _ _ => gif_m (H _ _ _ _ _ _ _)) h
  case lstore v => exact gq_m (gpL_m fun _ _ => gif_m (H _ _ _ _ _ _ _)) h
  case astore_n v => exact gq_m (gpR_m fun _ _ => gif_m (H _ _ _ _ _ _ _)) h
  case astore v => exact gq_m (gpR_m fun _ _ => gif_m (H _ _ _ _ _ _ _)) h
  case iinc v u => exact gq_m (gld_m fun _ => gif_m (H _ _ _ _ _ _ _)) h
  case iadd => exact gq_m (gbI_m fun _ => H _ _ _ _ _ _ _) h
  case isub => exact gq_m (gbI_m fun _ => H _ _ _ _ _ _ _) h
  case imul => exact gq_m (gbI_m fun _ => H _ _ _ _ _ _ _) h
  case iand => exact gq_m (gbI_m fun _ => H _ _ _ _ _ _ _) h
  case ior => exact gq_m (gbI_m fun _ => H _ _ _ _ _ _ _) h
  case ixor => exact gq_m (gbI_m fun _ => H _ _ _ _ _ _ _) h
  case ishl => exact gq_m (gbI_m fun _ => H _ _ _ _ _ _ _) h
  case ishr => exact gq_m (gbI_m fun _ => H _ _ _ _ _ _ _) h
  case iushr => exact gq_m (gbI_m fun _ => H _ _ _ _ _ _ _) h
  case ineg => exact gq_m (guI_m fun _ => H _ _ _ _ _ _ _) h
  case i2b => exact gq_m (guI_m fun _ => H _ _ _ _ _ _ _) h
  case i2c => exact gq_m (guI_m fun _ => H _ _ _ _ _ _ _) h
  case i2l => exact gq_m (gpI_m fun _ _ => H _ _ _ _ _ _ _) h
  case l2i => exact gq_m (gpL_m fun _ _ => H _ _ _ _ _ _ _) h
  case ladd => exact gq_m (gbL_m fun _ => H _ _ _ _ _ _ _) h
  case lsub => exact gq_m (gbL_m fun _ => H _ _ _ _ _ _ _) h
  case lmul => exact gq_m (gbL_m fun _ => H _ _ _ _ _ _ _) h
  case land => exact gq_m (gbL_m fun _ => H _ _ _ _ _ _ _) h
  case lor => exact gq_m (gbL_m fun _ => H _ _ _ _ _ _ _) h
  case lxor => exact gq_m (gbL_m fun _ => H _ _ _ _ _ _ _) h
  case lshl => exact gq_m (gsL_m fun _ => H _ _ _ _ _ _ _) h
  case lshr => exact gq_m (gsL_m fun _ => H _ _ _ _ _ _ _) h
  case lushr => exact gq_m (gsL_m fun _ => H _ _ _ _ _ _ _) h
  case lneg => exact gq_m (gpL_m fun _ _ => H _ _ _ _ _ _ _) h
  case lcmp => exact gq_m (gpL_m fun _ _ => gpL_m fun _ _ => H _ _ _ _ _ _ _) h
  case idiv => exact gq_m (gpI_m fun _ _ => gpI_m fun _ _ => gite_m id (H _ _ _ _ _ _ _)) h
  case irem => exact gq_m (gpI_m fun _ _ => gpI_m fun _ _ => gite_m id (H _ _ _ _ _ _ _)) h
  case dup =>
    refine gq_m (fun h => ?_) h
    split at h
    · exact gif_m (H _ _ _ _ _ _ _) h
    · cases h
  case pop =>
    refine gq_m (fun h => ?_) h
    split at h
    · exact gif_m (H _ _ _ _ _ _ _) h
    · cases h
  case dup2 =>
    refine gq_m (fun h => ?_) h
    split at h
    · exact gite_m (H _ _ _ _ _ _ _) (gite_m id (H _ _ _ _ _ _ _)) h
    · cases h
  case goto v => exact gq_m (gtgt_m fun _ => H _ _ _ _ _ _ _) h
  case ifCond c v => exact gq_m (gpI_m fun _ _ => gite_m (gtgt_m fun _ => H _ _ _ _ _ _ _) (H _ _ _ _ _ _ _)) h
  case if_icmp c v => exact gq_m (gpI_m fun _ _ => gpI_m fun _ _ => gite_m (gtgt_m fun _ => H _ _ _ _ _ _ _) (H _ _ _ _ _ _ _)) h
  case tableswitch a b c v =>
    refine gpI_m (fun _ _ => gite_m (gtgt_m fun _ => H _ _ _ _ _ _ _) (fun h => ?_)) h
    split at h
    · exact gtgt_m (fun _ => H _ _ _ _ _ _ _) h
    · cases h
  case ldc v =>
    refine gq_m (fun h => ?_) h
    split at h
    · exact H _ _ _ _ _ _ _ h
    · split at h
      · exact H _ _ _ _ _ _ _ h
      · cases h
  case ldc_w v =>
    refine gq_m (fun h => ?_) h
    split at h
    · exact H _ _ _ _ _ _ _ h
    · cases h
  case ldc2_w v =>
    refine gq_m (fun h => ?_) h
    split at h
    · exact H _ _ _ _ _ _ _ h
    · cases h
  case getstatic v => exact gq_m (gite_m (H _ _ _ _ _ _ _) (gite_m (H _ _ _ _ _ _ _) id)) h
  case getfield v => exact gq_m (gget_m fun _ => H _ _ _ _ _ _ _) h
  case putfield v => exact gq_m (gput_m fun _ _ => H _ _ _ _ _ _ _) h
  case iaload => exact gq_m (gald_m fun _ => H _ _ _ _ _ _ _) h
  case laload => exact gq_m (gald_m fun _ => H _ _ _ _ _ _ _) h
  case aaload => exact gq_m (gald_m fun _ => H _ _ _ _ _ _ _) h
  case baload =>
    refine gq_m (fun h => ?_) h
    split at h
    · exact gite_m (gald_m fun _ => H _ _ _ _ _ _ _) (gald_m fun _ => H _ _ _ _ _ _ _) h
    · exact gald_m (fun _ => H _ _ _ _ _ _ _) h
  case iastore => exact gq_m (gast_m fun _ _ => H _ _ _ _ _ _ _) h
  case lastore => exact gq_m (gast_m fun _ _ => H _ _ _ _ _ _ _) h
  case bastore =>
    refine gq_m (fun h => ?_) h
    split at h
    · exact gite_m (gast_m fun _ _ => H _ _ _ _ _ _ _) (gast_m fun _ _ => H _ _ _ _ _ _ _) h
    · cases h
  case aastore => exact gq_m (gaas_m fun _ _ => H _ _ _ _ _ _ _) h
  case arraylength =>
    refine gq_m (fun h => ?_) h
    split at h
    · refine gif_m (fun h => ?_) h
      split at h
      · exact H _ _ _ _ _ _ _ h
      · cases h
    · exact gif_m (H _ _ _ _ _ _ _) h
    · cases h
  case newarray t => exact gq_m (gnewa_m fun _ _ => H _ _ _ _ _ _ _) h
  case anewarray t =>
    refine gq_m (fun h => ?_) h
    split at h
    · exact gnewa_m (fun _ _ => H _ _ _ _ _ _ _) h
    · cases h
  case new ix =>
    refine gq_m (fun h => ?_) h
    split at h
    · exact h
    · split at h
      · exact gif_m (H _ _ _ _ _ _ _) h
      · cases h
  case invokespecial ix =>
    refine gq_m (fun h => ?_) h
    split at h
    · exact gite_m (gpR_m fun _ _ => gif_m (H _ _ _ _ _ _ _)) (gif_m (gcall_d H)) h
    · cases h
  case invokevirtual ix =>
    refine gq_m (fun h => ?_) h
    split at h
    · exact gif_m (gcall_d H) h
    · cases h
  case invokestatic ix =>
    refine gq_m (fun h => ?_) h
    split at h
    · exact gite_m (gpI_m fun _ _ => gpI_m fun _ _ => gif_m (H _ _ _ _ _ _ _)) (gite_m (gpI_m fun _ _ => gpI_m fun _ _ => gif_m (H _ _ _ _ _ _ _)) (gite_m (gcopy_m fun _ _ => H _ _ _ _ _ _ _) (gif_m (gcall_d H)))) h
    · cases h
  case ireturn => exact h
  case lreturn => exact h
  case areturn => exact h
  case return_ => exact h
  all_goals (exact absurd h (by intro z; cases z))
theorem gg_ex_d (N : Nat) (xs : Nat → Int32) (f : Nat) : gg_dm (gg_ex N xs f) (gg_ex N xs f) := by
  induction f with
  | zero => intro d k pc L st w o h; cases h
  | succ f ih =>
    intro d k pc L st w o h
    have h2 : (match gg_dt k pc with
      | some (i, n) => gg_step (gg_ex N xs f) N xs d k pc L st w i n
      | none => none) = some o := h
    show (match gg_dt k pc with
      | some (i, n) => gg_step (gg_ex N xs f) N xs (d + 1) k pc L st w i n
      | none => none) = some o
    split at h2
    · exact gg_step_d ih h2
    · cases h2
theorem wp.deep {N : Nat} {xs : Nat → Int32} {d k pc : Nat} {L st : List gg_V} {w : gg_W} {Q : gg_O → Prop} (h : wp N xs d k pc L st w Q) : wp N xs (d + 1) k pc L st w Q := by
  obtain ⟨f, o, h1, h2⟩ := h
  exact ⟨f, o, gg_ex_d N xs f _ _ _ _ _ _ _ h1, h2⟩
