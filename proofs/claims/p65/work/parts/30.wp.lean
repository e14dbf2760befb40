theorem gldA_ok {L : List gg_V} {i : Nat} {f : gg_V → Option gg_O} {o : gg_O} (h : gg_ldA L i f = some o) : ∃ v : gg_V, L[i]? = some v ∧ (v.1 = 2 ∨ v.1 = 4 ∨ v.1 = 7 ∨ v.1 = 8) ∧ f v = some o := by
  unfold gg_ldA at h
  split at h
  · rename_i v hv
    split at h
    · rename_i ht
      exact ⟨v, hv, ht, h⟩
    · cases h
  · cases h
theorem gg_up_ne {f : gg_M} {a k o : Nat} {x : Int} (h : o ≠ a) : gg_up f a k x o = f o := by
  funext j
  unfold gg_up
  rw [if_neg (fun e => h e.1)]
theorem gcall_ok {ex : gg_X} {d k pc y : Nat} {L st : List gg_V} {w : gg_W} {x : gg_O} (h : gg_call ex d k pc L st w y = some x) : ∃ (c kd ml : Nat) (tg : List Nat) (rk d' : Nat) (o1 : gg_O), gg_mt y = (c, kd, ml, tg, rk) ∧ d = d' + 1 ∧
    ((st.take tg.length).reverse.map gg_tg = tg ∧ tg.length ≤ st.length ∧ ((st.drop tg.length).map gg_cat).sum ≤ 8 ∧ (kd = 1 ∨ gg_rcv (st.take tg.length).reverse c w.2.2.1 = true)) ∧
    ex d' y 0 (gg_en ml (st.take tg.length).reverse) [] w = some o1 ∧ gg_aft ex d k pc L (st.drop tg.length) (some o1) = some x := by
  unfold gg_call at h
  split at h
  rename_i c kd ml tg rk hm
  obtain ⟨h1, h2⟩ := gif_ok h
  split at h2
  · cases h2
  · rename_i d'
    cases ho : ex d' y 0 (gg_en ml (st.take tg.length).reverse) [] w with
    | none => rw [ho] at h2; cases h2
    | some o1 => exact ⟨c, kd, ml, tg, rk, d', o1, hm, rfl, h1, ho, by rw [← ho]; exact h2⟩
/-! more fuel, the same end; what the interpreter comes to -/
theorem gq_m {n m : Nat} {x y : Option gg_O} {o : gg_O} (H : x = some o → y = some o) (h : gg_q n m x = some o) : gg_q n m y = some o := by
  unfold gg_q at h ⊢
  split at h
  · rw [if_pos (by assumption)]; exact H h
  · cases h
theorem gif_m {c : Prop} [Decidable c] {x y : Option gg_O} {o : gg_O} (H : x = some o → y = some o) (h : (if c then x else none) = some o) : (if c then y else none) = some o := by
  split at h
  · rw [if_pos (by assumption)]; exact H h
  · cases h
theorem gite_m {c : Prop} [Decidable c] {x y x' y' : Option gg_O} {o : gg_O} (H : x = some o → x' = some o) (H2 : y = some o → y' = some o) (h : (if c then x else y) = some o) : (if c then x' else y') = some o := by
  split at h
  · rw [if_pos (by assumption)]; exact H h
  · rw [if_neg (by assumption)]; exact H2 h
theorem gpI_m {st : List gg_V} {f g : Int → List gg_V → Option gg_O} {o : gg_O} (H : ∀ a r, f a r = some o → g a r = some o) (h : gg_pI st f = some o) : gg_pI st g = some o := by
  obtain ⟨a, r, rfl, h1⟩ := gpI_ok h
  exact H _ _ h1
theorem gpL_m {st : List gg_V} {f g : Int → List gg_V → Option gg_O} {o : gg_O} (H : ∀ a r, f a r = some o → g a r = some o) (h : gg_pL st f = some o) : gg_pL st g = some o := by
  obtain ⟨a, r, rfl, h1⟩ := gpL_ok h
  exact H _ _ h1
theorem gpR_m {st : List gg_V} {f g : Nat → List gg_V → Option gg_O} {o : gg_O} (H : ∀ a r, f a r = some o → g a r = some o) (h : gg_pR st f = some o) : gg_pR st g = some o := by
  obtain ⟨a, r, rfl, h1⟩ := gpR_ok h
  exact H _ _ h1
theorem gbI_m {st : List gg_V} {k : Int → Int → Int} {f g : List gg_V → Option gg_O} {o : gg_O} (H : ∀ s, f s = some o → g s = some o) (h : gg_bI st k f = some o) : gg_bI st k g = some o := gpI_m (fun _ _ => gpI_m fun _ _ => H _) h
theorem guI_m {st : List gg_V} {k : Int → Int} {f g : List gg_V → Option gg_O} {o : gg_O} (H : ∀ s, f s = some o → g s = some o) (h : gg_uI st k f = some o) : gg_uI st k g = some o := gpI_m (fun _ _ => H _) h
theorem gbL_m {st : List gg_V} {k : Int → Int → Int} {f g : List gg_V → Option gg_O} {o : gg_O} (H : ∀ s, f s = some o → g s = some o) (h : gg_bL st k f = some o) : gg_bL st k g = some o := gpL_m (fun _ _ => gpL_m fun _ _ => H _) h
theorem gsL_m {st : List gg_V} {k : Int → Int → Int} {f g : List gg_V → Option gg_O} {o : gg_O} (H : ∀ s, f s = some o → g s = some o) (h : gg_sL st k f = some o) : gg_sL st k g = some o := gpI_m (fun _ _ => gpL_m fun _ _ => H _) h
theorem gld_m {L : List gg_V} {t i : Nat} {f g : Int → Option gg_O} {o : gg_O} (H : ∀ x, f x = some o → g x = some o) (h : gg_ld L t i f = some o) : gg_ld L t i g = some o := by
  obtain ⟨x, hx, h1⟩ := gld_ok h
  unfold gg_ld
  rw [hx]
  exact (if_pos rfl).trans (H _ h1)
theorem gldA_m {L : List gg_V} {i : Nat} {f g : gg_V → Option gg_O} {o : gg_O} (H : ∀ x, f x = some o → g x = some o) (h : gg_ldA L i f = some o) : gg_ldA L i g = some o := by
  obtain ⟨v, hv, h2, h1⟩ := gldA_ok h
  unfold gg_ldA
  rw [hv]
  exact (if_pos h2).trans (H _ h1)
theorem gtgt_m {pc : Nat} {off : Int} {f g : Nat → Option gg_O} {o : gg_O} (H : ∀ t, f t = some o → g t = some o) (h : gg_tgt pc off f = some o) : gg_tgt pc off g = some o := by
  obtain ⟨t, ht, h1⟩ := gtgt_ok h
  unfold gg_tgt
  rw [ht]
  exact H _ h1
theorem gget_m {ow ix : Nat} {st : List gg_V} {w : gg_W} {f g : List gg_V → Option gg_O} {o : gg_O} (H : ∀ s, f s = some o → g s = some o) (h : gg_get ow ix st w f = some o) : gg_get ow ix st w g = some o := by
  unfold gg_get at h ⊢
  split at h
  · split at h
    · exact gif_m (H _) h
    · cases h
  · exact gif_m (gite_m (H _) (gite_m (H _) id)) h
  · cases h
theorem gput_m {ow kd ix : Nat} {st : List gg_V} {w : gg_W} {f g : List gg_V → gg_W → Option gg_O} {o : gg_O} (H : ∀ s w, f s w = some o → g s w = some o) (h : gg_put ow kd ix st w f = some o) : gg_put ow kd ix st w g = some o := by
  unfold gg_put at h ⊢
  split at h
  · split at h
    · exact gif_m (gite_m (H _ _) (gite_m (H _ _) (gite_m (H _ _) id))) h
    · cases h
  · cases h
theorem gald_m {N : Nat} {xs : Nat → Int32} {kd t : Nat} {st : List gg_V} {w : gg_W} {f g : List gg_V → Option gg_O} {o : gg_O} (H : ∀ s, f s = some o → g s = some o) (h : gg_ald N xs kd t st w f = some o) : gg_ald N xs kd t st w g = some o := by
  unfold gg_ald at h ⊢
  refine gpI_m (fun i r h1 => ?_) h
  split at h1
  · exact gite_m (gif_m (H _)) (gif_m (H _)) h1
  · exact gif_m (H _) h1
  · cases h1
theorem gast_m {kd t : Nat} {st : List gg_V} {w : gg_W} {f g : List gg_V → gg_W → Option gg_O} {o : gg_O} (H : ∀ s w, f s w = some o → g s w = some o) (h : gg_ast kd t st w f = some o) : gg_ast kd t st w g = some o := by
  unfold gg_ast at h ⊢
  split at h
  · exact gif_m (H _ _) h
  · cases h
theorem gaas_m {st : List gg_V} {w : gg_W} {f g : List gg_V → gg_W → Option gg_O} {o : gg_O} (H : ∀ s w, f s w = some o → g s w = some o) (h : gg_aas st w f = some o) : gg_aas st w g = some o := by
  unfold gg_aas at h ⊢
  split at h
  · exact gif_m (H _ _) h
  · cases h
theorem gcopy_m {st : List gg_V} {w : gg_W} {f g : List gg_V → gg_W → Option gg_O} {o : gg_O} (H : ∀ s w, f s w = some o → g s w = some o) (h : gg_copy st w f = some o) : gg_copy st w g = some o := by
  unfold gg_copy at h ⊢
  split at h
  · exact gif_m (H _ _) h
  · cases h
theorem gnewa_m {kd c : Nat} {st : List gg_V} {w : gg_W} {f g : List gg_V → gg_W → Option gg_O} {o : gg_O} (H : ∀ s w, f s w = some o → g s w = some o) (h : gg_newa kd c st w f = some o) : gg_newa kd c st w g = some o := gpI_m (fun _ _ => gif_m (H _ _)) h
def gg_fm (ex ex' : gg_X) : Prop := ∀ (d k pc : Nat) (L st : List gg_V) (w : gg_W) (o : gg_O), ex d k pc L st w = some o → ex' d k pc L st w = some o
theorem gaft_m {ex ex' : gg_X} (H : gg_fm ex ex') {d k pc : Nat} {L r : List gg_V} {o1 : gg_O} {o : gg_O} (h : gg_aft ex d k pc L r (some o1) = some o) : gg_aft ex' d k pc L r (some o1) = some o := by
  obtain ⟨⟨t, v⟩, w'⟩ := o1
  match t, h with
  | 0, h => exact H _ _ _ _ _ _ _ h
  | 1, h => exact H _ _ _ _ _ _ _ h
  | t + 2, h =>
    have h3 : (if gg_hd k = [] then some ((t + 2, ((3 : Nat), (0 : Int))), w') else match gg_hdl (gg_hd k) pc (t + 2) with
      | none => none
      | some hh => match gg_hst k hh with
        | none => none
        | some (j, mm) => if j < L.length then ex d k (hh + mm) (gg_s1 L j (3, 0)) [] w' else none) = some o := h
    show (if gg_hd k = [] then some ((t + 2, ((3 : Nat), (0 : Int))), w') else match gg_hdl (gg_hd k) pc (t + 2) with
      | none => none
      | some hh => match gg_hst k hh with
        | none => none
        | some (j, mm) => if j < L.length then ex' d k (hh + mm) (gg_s1 L j (3, 0)) [] w' else none) = some o
    refine gite_m id (fun h4 => ?_) h3
    split at h4
    · cases h4
    · split at h4
      · cases h4
      · exact gif_m (H _ _ _ _ _ _ _) h4
theorem gcall_m {ex ex' : gg_X} (H : gg_fm ex ex') {d k pc y : Nat} {L st : List gg_V} {w : gg_W} {o : gg_O} (h : gg_call ex d k pc L st w y = some o) : gg_call ex' d k pc L st w y = some o := by
  obtain ⟨c, kd, ml, tg, rk, d', o1, hm, hd, h1, hex, haf⟩ := gcall_ok h
  subst hd
  unfold gg_call
  rw [hm]
  show (if _ then gg_aft ex' (d' + 1) k pc L (st.drop tg.length) (ex' d' y 0 (gg_en ml (st.take tg.length).reverse) [] w) else none) = some o
  rw [if_pos h1, H _ _ _ _ _ _ _ hex]
  exact gaft_m H haf
theorem gg_step_fm {ex ex' : gg_X} (H : gg_fm ex ex') {N : Nat} {xs : Nat → Int32} {d k pc n : Nat} {L st : List gg_V} {w : gg_W} {i : Instr} {o : gg_O} (h : gg_step ex N xs d k pc L st w i n = some o) : gg_step ex' N xs d k pc L st w i n = some o := by
  cases i
  case iconst v => exact gq_m (H _ _ _ _ _ _ _) h
  case bipush v => exact gq_m (H _ _ _ _ _ _ _) h
  case sipush v => exact gq_m (H _ _ _ _ _ _ _) h
  case lconst v => exact gq_m (H _ _ _ _ _ _ _) h
  case iload_n v => exact gq_m (gld_m fun _ => H _ _ _ _ _ _ _) h
  case iload v => exact gq_m (gld_m fun _ => H _ _ _ _ _ _ _) h
  case lload_n v => exact gq_m (gld_m fun _ => H _ _ _ _ _ _ _) h
  case lload v => exact gq_m (gld_m fun _ => H _ _ _ _ _ _ _) h
  case aload_n v => exact gq_m (gldA_m fun _ => H _ _ _ _ _ _ _) h
  case aload v => exact gq_m (gldA_m fun _ => H _ _ _ _ _ _ _) h
  case istore_n v => exact gq_m (gpI_m fun _ _ => gif_m (H _ _ _ _ _ _ _)) h
  case istore v => exact gq_m (gpI_m fun _ _ => gif_m (H _ _ _ _ _ _ _)) h
  case lstore_n v => exact gq_m (gpL_m fun _ _ => gif_m (H _ _ _ _ _ _ _)) h
  case lstore v => exact gq_m (gpL_m fun _ _ => gif_m (H _ _ _ _ _ _ _)) h
  case astore_n v => exact gq_m (gpR_m fun _ _ => gif_m (H _ _ _ _ _ _ _)) h
  case astore v => exact gq_m (gpR_m fun _ _ => gif_m (H _ _ _ _ _ _ _)) h
  case iinc v u => exact gq_m (gld_m fun _ => gif_m (H _ _ _ _ _ _ _)) h
  case iadd => exact gq_m (gbI_m fun _ => H _ _ _ _ _ _ _) h
  case isub => exact gq_m (gbI_m fun _ => H _ _ _ _ _ _ _) h
  case imul => exact gq_m (gbI_m fun _ => H _ _ _ _ _ _ _) h
  case iand => exact gq_m (gbI_m fun _ => H _ _ _ _ _ _ _) h
  case ior => exact gq_m (gbI_m fun _ => H _ _ _ _ _ _ _) h
  case ixor => exact gq_m (gbI_m fun _ => H _ _ _ _ _ _ _) h
  case ishl => exact gq_m (gbI_m fun _ => H _ _ _ _ _ _ _) h
  case ishr => exact gq_m (gbI_m fun _ => H _ _ _ _ _ _ _) h
  case iushr => exact gq_m (gbI_m fun _ => H _ _ _ _ _ _ _) h
  case ineg => exact gq_m (guI_m fun _ => H _ _ _ _ _ _ _) h
  case i2b => exact gq_m (guI_m fun _ => H _ _ _ _ _ _ _) h
  case i2c => exact gq_m (guI_m fun _ => H _ _ _ _ _ _ _) h
  case i2l => exact gq_m (gpI_m fun _ _ => H _ _ _ _ _ _ _) h
  case l2i => exact gq_m (gpL_m fun _ _ => H _ _ _ _ _ _ _) h
  case ladd => exact gq_m (gbL_m fun _ => H _ _ _ _ _ _ _) h
  case lsub => exact gq_m (gbL_m fun _ => H _ _ _ _ _ _ _) h
  case lmul => exact gq_m (gbL_m fun _ => H _ _ _ _ _ _ _) h
  case land => exact gq_m (gbL_m fun _ => H _ _ _ _ _ _ _) h
  case lor => exact gq_m (gbL_m fun _ => H _ _ _ _ _ _ _) h
  case lxor => exact gq_m (gbL_m fun _ => H _ _ _ _ _ _ _) h
  case lshl => exact gq_m (gsL_m fun _ => H _ _ _ _ _ _ _) h
  case lshr => exact gq_m (gsL_m fun _ => H _ _ _ _ _ _ _) h
  case lushr => exact gq_m (gsL_m fun _ => H _ _ _ _ _ _ _) h
  case lneg => exact gq_m (gpL_m fun _ _ => H _ _ _ _ _ _ _) h
  case lcmp => exact gq_m (gpL_m fun _ _ => gpL_m fun _ _ => H _ _ _ _ _ _ _) h
  case idiv => exact gq_m (gpI_m fun _ _ => gpI_m fun _ _ => gite_m id (H _ _ _ _ _ _ _)) h
  case irem => exact gq_m (gpI_m fun _ _ => gpI_m fun _ _ => gite_m id (H _ _ _ _ _ _ _)) h
  case dup =>
    refine gq_m (fun h => ?_) h
    split at h
    · exact gif_m (H _ _ _ _ _ _ _) h
    · cases h
  case pop =>
    refine gq_m (fun h => ?_) h
    split at h
    · exact gif_m (H _ _ _ _ _ _ _) h
    · cases h
  case dup2 =>
    refine gq_m (fun h => ?_) h
    split at h
    · exact gite_m (H _ _ _ _ _ _ _) (gite_m id (H _ _ _ _ _ _ _)) h
    · cases h
  case goto v => exact gq_m (gtgt_m fun _ => H _ _ _ _ _ _ _) h
  case ifCond c v => exact gq_m (gpI_m fun _ _ => gite_m (gtgt_m fun _ => H _ _ _ _ _ _ _) (H _ _ _ _ _ _ _)) h
  case if_icmp c v => exact gq_m (gpI_m fun _ _ => gpI_m fun _ _ => gite_m (gtgt_m fun _ => H _ _ _ _ _ _ _) (H _ _ _ _ _ _ _)) h
  case tableswitch a b c v =>
    refine gpI_m (fun _ _ => gite_m (gtgt_m fun _ => H _ _ _ _ _ _ _) (fun h => ?_)) h
    split at h
    · exact gtgt_m (fun _ => H _ _ _ _ _ _ _) h
    · cases h
  case ldc v =>
    refine gq_m (fun h => ?_) h
    split at h
    · exact H _ _ _ _ _ _ _ h
    · split at h
      · exact H _ _ _ _ _ _ _ h
      · cases h
  case ldc_w v =>
    refine gq_m (fun h => ?_) h
    split at h
    · exact H _ _ _ _ _ _ _ h
    · cases h
  case ldc2_w v =>
    refine gq_m (fun h => ?_) h
    split at h
    · exact H _ _ _ _ _ _ _ h
    · cases h
  case getstatic v => exact gq_m (gite_m (H _ _ _ _ _ _ _) (gite_m (H _ _ _ _ _ _ _) id)) h
  case getfield v => exact gq_m (gget_m fun _ => H _ _ _ _ _ _ _) h
  case putfield v => exact gq_m (gput_m fun _ _ => H _ _ _ _ _ _ _) h
  case iaload => exact gq_m (gald_m fun _ => H _ _ _ _ _ _ _) h
  case laload => exact gq_m (gald_m fun _ => H _ _ _ _ _ _ _) h
  case aaload => exact gq_m (gald_m fun _ => H _ _ _ _ _ _ _) h
  case baload =>
    refine gq_m (fun h => ?_) h
    split at h
    · exact gite_m (gald_m fun _ => H _ _ _ _ _ _ _) (gald_m fun _ => H _ _ _ _ _ _ _) h
    · exact gald_m (fun _ => H _ _ _ _ _ _ _) h
  case iastore => exact gq_m (gast_m fun _ _ => H _ _ _ _ _ _ _) h
  case lastore => exact gq_m (gast_m fun _ _ => H _ _ _ _ _ _ _) h
  case bastore =>
    refine gq_m (fun h => ?_) h
    split at h
    · exact gite_m (gast_m fun _ _ => H _ _ _ _ _ _ _) (gast_m fun _ _ => H _ _ _ _ _ _ _) h
    · cases h
  case aastore => exact gq_m (gaas_m fun _ _ => H _ _ _ _ _ _ _) h
  case arraylength =>
    refine gq_m (fun h => ?_) h
    split at h
    · refine gif_m (fun h => ?_) h
      split at h
      · exact H _ _ _ _ _ _ _ h
      · cases h
    · exact gif_m (H _ _ _ _ _ _ _) h
    · cases h
  case newarray t => exact gq_m (gnewa_m fun _ _ => H _ _ _ _ _ _ _) h
  case anewarray t =>
    refine gq_m (fun h => ?_) h
    split at h
    · exact gnewa_m (fun _ _ => H _ _ _ _ _ _ _) h
    · cases h
  case new ix =>
    refine gq_m (fun h => ?_) h
    split at h
    · exact h
    · split at h
      · exact gif_m (H _ _ _ _ _ _ _) h
      · cases h
  case invokespecial ix =>
    refine gq_m (fun h => ?_) h
    split at h
    · exact gite_m (gpR_m fun _ _ => gif_m (H _ _ _ _ _ _ _)) (gif_m (gcall_m H)) h
    · cases h
  case invokevirtual ix =>
    refine gq_m (fun h => ?_) h
    split at h
    · exact gif_m (gcall_m H) h
    · cases h
  case invokestatic ix =>
    refine gq_m (fun h => ?_) h
    split at h
    · exact gite_m (gpI_m fun _ _ => gpI_m fun _ _ => gif_m (H _ _ _ _ _ _ _)) (gite_m (gpI_m fun _ _ => gpI_m fun _ _ => gif_m (H _ _ _ _ _ _ _)) (gite_m (gcopy_m fun _ _ => H _ _ _ _ _ _ _) (gif_m (gcall_m H)))) h
    · cases h
  case ireturn => exact h
  case lreturn => exact h
  case areturn => exact h
  case return_ => exact h
  all_goals (exact absurd h (by intro z; cases z))
theorem gg_ex_fm (N : Nat) (xs : Nat → Int32) (f : Nat) : gg_fm (gg_ex N xs f) (gg_ex N xs (f + 1)) := by
  induction f with
  | zero => intro d k pc L st w o h; cases h
  | succ f ih =>
    intro d k pc L st w o h
    have h2 : (match gg_dt k pc with
      | some (i, n) => gg_step (gg_ex N xs f) N xs d k pc L st w i n
      | none => none) = some o := h
    show (match gg_dt k pc with
      | some (i, n) => gg_step (gg_ex N xs (f + 1)) N xs d k pc L st w i n
      | none => none) = some o
    split at h2
    · exact gg_step_fm ih h2
    · cases h2
theorem gg_ex_le (N : Nat) (xs : Nat → Int32) {f f' : Nat} (h : f ≤ f') : gg_fm (gg_ex N xs f) (gg_ex N xs f') := by
  obtain ⟨j, rfl⟩ := Nat.exists_eq_add_of_le h
  induction j with
  | zero => exact fun _ _ _ _ _ _ _ h => h
  | succ j ih => exact fun _ _ _ _ _ _ _ h => gg_ex_fm N xs _ _ _ _ _ _ _ _ (ih (Nat.le_add_right _ _) _ _ _ _ _ _ _ h)
/-- THE INTERPRETER COMES TO Q -/
def wp (N : Nat) (xs : Nat → Int32) (d k pc : Nat) (L st : List gg_V) (w : gg_W) (Q : gg_O → Prop) : Prop := ∃ f o, gg_ex N xs f d k pc L st w = some o ∧ Q o
theorem wp.mono {N : Nat} {xs : Nat → Int32} {d k pc : Nat} {L st : List gg_V} {w : gg_W} {Q Q' : gg_O → Prop} (h : wp N xs d k pc L st w Q) (hQ : ∀ o, Q o → Q' o) : wp N xs d k pc L st w Q' := by
  obtain ⟨f, o, h1, h2⟩ := h
  exact ⟨f, o, h1, hQ o h2⟩
theorem wp_of {N : Nat} {xs : Nat → Int32} {d k pc : Nat} {L st : List gg_V} {w : gg_W} {Q : gg_O → Prop} {i : Instr} {n : Nat} (hd : gg_dt k pc = some (i, n)) : wp N xs d k pc L st w Q ↔ ∃ f o, gg_step (gg_ex N xs f) N xs d k pc L st w i n = some o ∧ Q o := by
  constructor
  · rintro ⟨f, o, h, hq⟩
    cases f with
    | zero => cases h
    | succ f =>
      have h2 : (match gg_dt k pc with
        | some (i, n) => gg_step (gg_ex N xs f) N xs d k pc L st w i n
        | none => none) = some o := h
      rw [hd] at h2
      exact ⟨f, o, h2, hq⟩
  · rintro ⟨f, o, h, hq⟩
    refine ⟨f + 1, o, ?_, hq⟩
    show (match gg_dt k pc with
      | some (i, n) => gg_step (gg_ex N xs f) N xs d k pc L st w i n
      | none => none) = some o
    rw [hd]
    exact h
