/-! what is made only grows -/
section EL
variable {α : Type} {o : α} {P : Prop}
theorem gq_w {n m : Nat} {x : Option α} (H : x = some o → P) (h : gg_q n m x = some o) : P := H (gq_ok h).2
theorem gif_w {c : Prop} [Decidable c] {x : Option α} (H : x = some o → P) (h : (if c then x else none) = some o) : P := H (gif_ok h).2
theorem gite_w {c : Prop} [Decidable c] {x y : Option α} (H : x = some o → P) (H2 : y = some o → P) (h : (if c then x else y) = some o) : P := by
  split at h
  · exact H h
  · exact H2 h
theorem gpI_w {st : List gg_V} {f : Int → List gg_V → Option α} (H : ∀ a r, f a r = some o → P) (h : gg_pI st f = some o) : P := by
  obtain ⟨a, r, -, h1⟩ := gpI_ok h
  exact H _ _ h1
theorem gpL_w {st : List gg_V} {f : Int → List gg_V → Option α} (H : ∀ a r, f a r = some o → P) (h : gg_pL st f = some o) : P := by
  obtain ⟨a, r, -, h1⟩ := gpL_ok h
  exact H _ _ h1
theorem gypA_w {st : List gg_V} {f : gg_V → List gg_V → Option α} (H : ∀ a r, f a r = some o → P) (h : gy_pA st f = some o) : P := by
  obtain ⟨a, r, -, -, h1⟩ := gypA_ok h
  exact H _ _ h1
theorem gbI_w {st : List gg_V} {k : Int → Int → Int} {f : List gg_V → Option α} (H : ∀ s, f s = some o → P) (h : gg_bI st k f = some o) : P := gpI_w (fun _ _ => gpI_w fun _ _ => H _) h
theorem guI_w {st : List gg_V} {k : Int → Int} {f : List gg_V → Option α} (H : ∀ s, f s = some o → P) (h : gg_uI st k f = some o) : P := gpI_w (fun _ _ => H _) h
theorem gbL_w {st : List gg_V} {k : Int → Int → Int} {f : List gg_V → Option α} (H : ∀ s, f s = some o → P) (h : gg_bL st k f = some o) : P := gpL_w (fun _ _ => gpL_w fun _ _ => H _) h
theorem gsL_w {st : List gg_V} {k : Int → Int → Int} {f : List gg_V → Option α} (H : ∀ s, f s = some o → P) (h : gg_sL st k f = some o) : P := gpI_w (fun _ _ => gpL_w fun _ _ => H _) h
theorem gld_w {L : List gg_V} {t i : Nat} {f : Int → Option α} (H : ∀ x, f x = some o → P) (h : gg_ld L t i f = some o) : P := by
  obtain ⟨x, -, h1⟩ := gld_ok h
  exact H _ h1
theorem gyldA_w {L : List gg_V} {i : Nat} {f : gg_V → Option α} (H : ∀ x, f x = some o → P) (h : gy_ldA L i f = some o) : P := by
  obtain ⟨v, -, -, h1⟩ := gyldA_ok h
  exact H _ h1
theorem gtgt_w {pc : Nat} {off : Int} {f : Nat → Option α} (H : ∀ t, f t = some o → P) (h : gg_tgt pc off f = some o) : P := by
  obtain ⟨t, -, h1⟩ := gtgt_ok h
  exact H _ h1
end EL
def gy_le (w w' : gy_W) : Prop := w.2.2.1 ≤ w'.2.2.1 ∧ w.2.2.2 ≤ w'.2.2.2
theorem gy_le.rf {w : gy_W} : gy_le w w := ⟨Nat.le_refl _, Nat.le_refl _⟩
theorem gy_le.tr {a b c : gy_W} (h : gy_le a b) (h2 : gy_le b c) : gy_le a c := ⟨Nat.le_trans h.1 h2.1, Nat.le_trans h.2 h2.2⟩
def gy_mn (ex : gy_X) : Prop := ∀ (d k pc : Nat) (L st : List gg_V) (w : gy_W) (o : gy_O), ex d k pc L st w = some o → gy_le w o.2
section EY
variable {w : gy_W} {o : gy_O} {P : Prop} {st : List gg_V}
theorem gyget_w {ow ix : Nat} {f : List gg_V → Option gy_O} (H : ∀ s, f s = some o → P) (h : gy_get ow ix st w f = some o) : P := by
  rcases gyget_ok h with ⟨_, _, _, _, _, -, -, -, h1⟩ | ⟨_, _, -, -, ⟨-, h1⟩ | ⟨-, h1⟩⟩ | ⟨_, _, -, -, h1⟩ <;> exact H _ h1
theorem gyput_w {ow kd ix : Nat} {f : List gg_V → gy_W → Option gy_O} (H : ∀ s m, f s (w.1, m, w.2.2) = some o → P) (h : gy_put ow kd ix st w f = some o) : P := by
  obtain ⟨_, _, _, _, _, _, -, -, -, h1⟩ := gyput_ok h
  exact H _ _ h1
theorem gyald_w {N : Nat} {xs : Nat → Int32} {kd t : Nat} {f : List gg_V → Option gy_O} (H : ∀ s, f s = some o → P) (h : gy_ald N xs kd t st w f = some o) : P := by
  obtain ⟨_, h1⟩ := gyald_ok h
  rcases h1 with ⟨_, -, -, h1⟩ | ⟨_, _, -, -, -, h1⟩ | ⟨_, _, -, -, h1⟩ | ⟨_, _, -, -, h1⟩ <;> exact H _ h1
theorem gyaal_w {f : List gg_V → Option gy_O} (H : ∀ s, f s = some o → P) (h : gy_aal st w f = some o) : P := by
  obtain ⟨_, h1⟩ := gyaal_ok h
  rcases h1 with ⟨_, _, -, -, h1⟩ | ⟨_, -, -, h1⟩ <;> exact H _ h1
theorem gyast_w {kd t : Nat} {f : List gg_V → gy_W → Option gy_O} (H : ∀ s m, f s (w.1, m, w.2.2) = some o → P) (h : gy_ast kd t st w f = some o) : P := by
  obtain ⟨_, _, _, _, -, -, h1⟩ := gyast_ok h
  exact H _ _ h1
theorem gyaas_w {f : List gg_V → gy_W → Option gy_O} (H : ∀ s m, f s (w.1, m, w.2.2) = some o → P) (h : gy_aas st w f = some o) : P := by
  obtain ⟨_, _, _, _, -, -, h1⟩ := gyaas_ok h
  exact H _ _ h1
theorem gycopy_ok {f : List gg_V → gy_W → Option gy_O} (h : gy_copy st w f = some o) : ∃ (n dp sp : Int) (b : Nat) (r : List gg_V),
    (∃ a : Nat, st = (0, n) :: (0, dp) :: (2, Int.ofNat b) :: (0, sp) :: (2, Int.ofNat a) :: r ∧ (((w.1 a).1 = 1 ∧ (w.1 b).1 = 1 ∨ ((w.1 a).1 = 3 ∧ (w.1 b).1 = 3 ∧ ∀ j, j < gg_k n → io_i2b (w.2.1 a (gg_k sp + j)).2 = (w.2.1 a (gg_k sp + j)).2) ∨ ((w.1 a).1 = 5 ∧ (w.1 b).1 = 5 ∧ (w.1 a).2.2 = 24 ∧ (w.1 b).2.2 = 24 ∧ ∀ j, j < gg_k n → gy_el (w.2.1 a (gg_k sp + j)) w 24 = true)) ∧
        ¬ gg_i sp < 0 ∧ ¬ gg_i dp < 0 ∧ ¬ gg_i n < 0 ∧ gg_k sp + gg_k n ≤ (w.1 a).2.1 ∧ gg_k dp + gg_k n ≤ (w.1 b).2.1 ∧ (r.map gg_cat).sum ≤ 8) ∧ f r (w.1, gy_cpy w.2.1 a (gg_k sp) b (gg_k dp) (gg_k n), w.2.2) = some o) ∨
    (∃ s : Nat, st = (0, n) :: (0, dp) :: (2, Int.ofNat b) :: (0, sp) :: (8, Int.ofNat s) :: r ∧ ((w.1 b).1 = 3 ∧ s < 7 ∧ ¬ gg_i sp < 0 ∧ ¬ gg_i dp < 0 ∧ ¬ gg_i n < 0 ∧ gg_k sp + gg_k n ≤ (gg_tx s).length ∧ gg_k dp + gg_k n ≤ (w.1 b).2.1 ∧ (r.map gg_cat).sum ≤ 8) ∧
      f r (w.1, (fun o' k' => if o' = b ∧ gg_k dp ≤ k' ∧ k' < gg_k dp + gg_k n then (0, (gg_tx s).getD (gg_k sp + (k' - gg_k dp)) 0) else w.2.1 o' k'), w.2.2) = some o) := by
  unfold gy_copy at h
  split at h
  · rename_i n dp b sp a r
    obtain ⟨h1, h2⟩ := gif_ok h
    exact ⟨n, dp, sp, b, r, Or.inl ⟨a, rfl, h1, h2⟩⟩
  · rename_i n dp b sp s r
    obtain ⟨h1, h2⟩ := gif_ok h
    exact ⟨n, dp, sp, b, r, Or.inr ⟨s, rfl, h1, h2⟩⟩
  · cases h
theorem gycopy_w {f : List gg_V → gy_W → Option gy_O} (H : ∀ s m, f s (w.1, m, w.2.2) = some o → P) (h : gy_copy st w f = some o) : P := by
  obtain ⟨_, _, _, _, _, h1⟩ := gycopy_ok h
  rcases h1 with ⟨_, -, -, h1⟩ | ⟨_, -, -, h1⟩ <;> exact H _ _ h1
theorem gynew_w {c : Nat} {f : gg_V → gy_W → Option gy_O} (H : ∀ v w', f v w' = some o → gy_le w w' → P) (h : gy_new c w f = some o) : P := H _ _ (gif_ok h).2 ⟨Nat.le_succ _, Nat.le_add_right _ _⟩
theorem gynewa_w {kd c : Nat} {f : List gg_V → gy_W → Option gy_O} (H : ∀ v w', f v w' = some o → gy_le w w' → P) (h : gy_newa kd c st w f = some o) : P := gpI_w (fun _ _ h => H _ _ (gif_ok h).2 ⟨Nat.le_succ _, Nat.le_add_right _ _⟩) h
theorem gymna_w {f : List gg_V → gy_W → Option gy_O} (H : ∀ v w', f v w' = some o → gy_le w w' → P) (h : gy_mna st w f = some o) : P := gpI_w (fun _ _ h => gpI_w (fun _ _ h => H _ _ (gif_ok h).2 ⟨by show w.2.2.1 ≤ w.2.2.1 + 1 + _; omega, by show w.2.2.2 ≤ w.2.2.2 + _ + _; omega⟩) h) h
theorem gycln_w {kd : Nat} {f : List gg_V → gy_W → Option gy_O} (H : ∀ v w', f v w' = some o → gy_le w w' → P) (h : gy_cln kd st w f = some o) : P := by
  unfold gy_cln at h
  split at h
  · exact H _ _ (gif_ok h).2 ⟨Nat.le_succ _, Nat.le_add_right _ _⟩
  · cases h
end EY
theorem gycall_ok {ex : gy_X} {vk d k pc n y : Nat} {L st : List gg_V} {w : gy_W} {x : gy_O} (h : gy_call ex vk d k pc n L st w y = some x) : ∃ (c kd ml : Nat) (tg : List Nat) (rk d' : Nat) (o1 : gy_O), gg_mt y = (c, kd, ml, tg, rk) ∧ d = d' + 1 ∧
    ((st.take tg.length).reverse.map gy_tg = tg ∧ tg.length ≤ st.length ∧ ((st.drop tg.length).map gg_cat).sum ≤ 8 ∧ (kd = 1 ∧ vk = 1 ∨ kd = 2 ∧ vk = 2 ∨ kd = 0 ∧ (vk = 0 ∨ vk = 3 ∨ vk = 4))) ∧ ex d' y 0 (gg_en ml (st.take tg.length).reverse) [] w = some o1 ∧ gy_aft ex d k pc n L (st.drop tg.length) (some o1) = some x := by
  unfold gy_call at h
  split at h
  rename_i c kd ml tg rk hm
  obtain ⟨h1, h2⟩ := gif_ok h
  cases d with
  | zero => cases h2
  | succ d' =>
    cases ho : ex d' y 0 (gg_en ml (st.take tg.length).reverse) [] w with
    | none =>
      have h3 : gy_aft ex (d' + 1) k pc n L (st.drop tg.length) (ex d' y 0 (gg_en ml (st.take tg.length).reverse) [] w) = some x := h2
      rw [ho] at h3
      cases h3
    | some o1 =>
      have h3 : gy_aft ex (d' + 1) k pc n L (st.drop tg.length) (ex d' y 0 (gg_en ml (st.take tg.length).reverse) [] w) = some x := h2
      rw [ho] at h3
      exact ⟨c, kd, ml, tg, rk, d', o1, hm, rfl, h1, ho, h3⟩
theorem gyaft_ok {ex : gy_X} {d k pc n : Nat} {L r : List gg_V} {o1 x : gy_O} (h : gy_aft ex d k pc n L r (some o1) = some x) :
    (o1.1.1 = 0 ∧ ex d k (pc + n) L r o1.2 = some x) ∨ (o1.1.1 = 1 ∧ ex d k (pc + n) L (o1.1.2 :: r) o1.2 = some x) ∨
    ((o1.1.1 ≠ 0 ∧ o1.1.1 ≠ 1) ∧ ((gg_hd k = [] ∧ x = ((o1.1.1, (3, 0)), o1.2)) ∨ ∃ (hh j m : Nat), gg_hd k ≠ [] ∧ gg_hdl (gg_hd k) pc o1.1.1 = some hh ∧ gg_hst k hh = some (j, m) ∧ j < L.length ∧ ex d k (hh + m) (gg_s1 L j (3, 0)) [] o1.2 = some x)) := by
  obtain ⟨⟨t, v⟩, w'⟩ := o1
  match t, h with
  | 0, h => exact Or.inl ⟨rfl, h⟩
  | 1, h => exact Or.inr (Or.inl ⟨rfl, h⟩)
  | t + 2, h =>
    refine Or.inr (Or.inr ⟨⟨by simp, by simp⟩, ?_⟩)
    have h3 : (if gg_hd k = [] then some ((t + 2, ((3 : Nat), (0 : Int))), w') else match gg_hdl (gg_hd k) pc (t + 2) with
      | none => none
      | some hh => match gg_hst k hh with
        | none => none
        | some (j, mm) => if j < L.length then ex d k (hh + mm) (gg_s1 L j (3, 0)) [] w' else none) = some x := h
    split at h3
    · rename_i hk
      exact Or.inl ⟨hk, (Option.some.inj h3).symm⟩
    · rename_i hk
      split at h3
      · cases h3
      · rename_i hh hl
        split at h3
        · cases h3
        · rename_i j mm hs
          obtain ⟨h4, h5⟩ := gif_ok h3
          exact Or.inr ⟨hh, j, mm, hk, hl, hs, h4, h5⟩
theorem gyaft_mn {ex : gy_X} (IH : gy_mn ex) {d k pc n : Nat} {L r : List gg_V} {o1 x : gy_O} (h : gy_aft ex d k pc n L r (some o1) = some x) : gy_le o1.2 x.2 := by
  rcases gyaft_ok h with ⟨-, h1⟩ | ⟨-, h1⟩ | ⟨-, ⟨-, rfl⟩ | ⟨_, _, _, -, -, -, -, h1⟩⟩
  · exact IH _ _ _ _ _ _ _ h1
  · exact IH _ _ _ _ _ _ _ h1
  · exact gy_le.rf
  · exact IH _ _ _ _ _ _ _ h1
theorem gycall_mn {ex : gy_X} (IH : gy_mn ex) {vk d k pc n y : Nat} {L st : List gg_V} {w : gy_W} {x : gy_O} (h : gy_call ex vk d k pc n L st w y = some x) : gy_le w x.2 := by
  obtain ⟨_, _, _, _, _, _, _, -, -, -, h1, h2⟩ := gycall_ok h
  exact (IH _ _ _ _ _ _ _ h1).tr (gyaft_mn IH h2)
theorem gy_step_mn {ex : gy_X} (IH : gy_mn ex) {N : Nat} {xs : Nat → Int32} {d k pc n : Nat} {L st : List gg_V} {w : gy_W} {i : Instr} {o : gy_O} (h : gy_step ex N xs d k pc L st w i n = some o) : gy_le w o.2 := by
  cases i
  case iconst v =>
    exact gq_w (IH _ _ _ _ _ _ _) h
  case bipush v =>
    exact gq_w (IH _ _ _ _ _ _ _) h
  case sipush v =>
    exact gq_w (IH _ _ _ _ _ _ _) h
  case lconst v =>
    exact gq_w (IH _ _ _ _ _ _ _) h
  case aconst_null =>
    exact gq_w (IH _ _ _ _ _ _ _) h
  case iload_n v =>
    exact gq_w (gld_w (fun _ => (IH _ _ _ _ _ _ _))) h
  case iload v =>
    exact gq_w (gld_w (fun _ => (IH _ _ _ _ _ _ _))) h
  case lload_n v =>
    exact gq_w (gld_w (fun _ => (IH _ _ _ _ _ _ _))) h
  case lload v =>
    exact gq_w (gld_w (fun _ => (IH _ _ _ _ _ _ _))) h
  case aload_n v =>
    exact gq_w (gyldA_w (fun _ => (IH _ _ _ _ _ _ _))) h
  case aload v =>
    exact gq_w (gyldA_w (fun _ => (IH _ _ _ _ _ _ _))) h
  case istore_n v =>
    exact gq_w (gpI_w fun _ _ => gif_w (IH _ _ _ _ _ _ _)) h
  case istore v =>
    exact gq_w (gpI_w fun _ _ => gif_w (IH _ _ _ _ _ _ _)) h
  case lstore_n v =>
    exact gq_w (gpL_w fun _ _ => gif_w (IH _ _ _ _ _ _ _)) h
  case lstore v =>
    exact gq_w (gpL_w fun _ _ => gif_w (IH _ _ _ _ _ _ _)) h
  case astore_n v =>
    exact gq_w (gypA_w fun _ _ => gif_w (IH _ _ _ _ _ _ _)) h
  case astore v =>
    exact gq_w (gypA_w fun _ _ => gif_w (IH _ _ _ _ _ _ _)) h
  case iinc v u =>
    exact gq_w (gld_w fun _ => gif_w (IH _ _ _ _ _ _ _)) h
  case iadd =>
    exact gq_w (gbI_w (fun _ => (IH _ _ _ _ _ _ _))) h
  case isub =>
    exact gq_w (gbI_w (fun _ => (IH _ _ _ _ _ _ _))) h
  case imul =>
    exact gq_w (gbI_w (fun _ => (IH _ _ _ _ _ _ _))) h
  case iand =>
    exact gq_w (gbI_w (fun _ => (IH _ _ _ _ _ _ _))) h
  case ior =>
    exact gq_w (gbI_w (fun _ => (IH _ _ _ _ _ _ _))) h
  case ixor =>
    exact gq_w (gbI_w (fun _ => (IH _ _ _ _ _ _ _))) h
  case ishl =>
    exact gq_w (gbI_w (fun _ => (IH _ _ _ _ _ _ _))) h
  case ishr =>
    exact gq_w (gbI_w (fun _ => (IH _ _ _ _ _ _ _))) h
  case iushr =>
    exact gq_w (gbI_w (fun _ => (IH _ _ _ _ _ _ _))) h
  case ineg =>
    exact gq_w (guI_w (fun _ => (IH _ _ _ _ _ _ _))) h
  case i2b =>
    exact gq_w (guI_w (fun _ => (IH _ _ _ _ _ _ _))) h
  case i2c =>
    exact gq_w (guI_w (fun _ => (IH _ _ _ _ _ _ _))) h
  case i2l =>
    exact gq_w (gpI_w (fun _ _ => (IH _ _ _ _ _ _ _))) h
  case l2i =>
    exact gq_w (gpL_w (fun _ _ => (IH _ _ _ _ _ _ _))) h
  case ladd =>
    exact gq_w (gbL_w (fun _ => (IH _ _ _ _ _ _ _))) h
  case lsub =>
    exact gq_w (gbL_w (fun _ => (IH _ _ _ _ _ _ _))) h
  case lmul =>
    exact gq_w (gbL_w (fun _ => (IH _ _ _ _ _ _ _))) h
  case land =>
    exact gq_w (gbL_w (fun _ => (IH _ _ _ _ _ _ _))) h
  case lor =>
    exact gq_w (gbL_w (fun _ => (IH _ _ _ _ _ _ _))) h
  case lxor =>
    exact gq_w (gbL_w (fun _ => (IH _ _ _ _ _ _ _))) h
  case lshl =>
    exact gq_w (gsL_w (fun _ => (IH _ _ _ _ _ _ _))) h
  case lshr =>
    exact gq_w (gsL_w (fun _ => (IH _ _ _ _ _ _ _))) h
  case lushr =>
    exact gq_w (gsL_w (fun _ => (IH _ _ _ _ _ _ _))) h
  case lneg =>
    exact gq_w (gpL_w (fun _ _ => (IH _ _ _ _ _ _ _))) h
  case lcmp =>
    exact gq_w (gpL_w fun _ _ => gpL_w (fun _ _ => (IH _ _ _ _ _ _ _))) h
  case idiv =>
    exact gq_w (gpI_w fun _ _ => gpI_w fun _ _ => gite_w (fun h => by cases h) (IH _ _ _ _ _ _ _)) h
  case irem =>
    exact gq_w (gpI_w fun _ _ => gpI_w fun _ _ => gite_w (fun h => by cases h) (IH _ _ _ _ _ _ _)) h
  case dup =>
    refine gq_w (fun h => ?_) h
    split at h
    · exact gif_w (IH _ _ _ _ _ _ _) h
    · cases h
  case pop =>
    refine gq_w (fun h => ?_) h
    split at h
    · exact gif_w (IH _ _ _ _ _ _ _) h
    · cases h
  case dup_x1 =>
    refine gq_w (fun h => ?_) h
    split at h
    · exact gif_w (IH _ _ _ _ _ _ _) h
    · cases h
  case dup2 =>
    refine gq_w (fun h => ?_) h
    split at h
    · exact gite_w (IH _ _ _ _ _ _ _) (gite_w (fun h => by cases h) (IH _ _ _ _ _ _ _)) h
    · cases h
  case goto v =>
    exact gq_w (gtgt_w (fun _ => (IH _ _ _ _ _ _ _))) h
  case ifCond c v =>
    exact gq_w (gpI_w fun _ _ => gite_w (gtgt_w (fun _ => (IH _ _ _ _ _ _ _))) (IH _ _ _ _ _ _ _)) h
  case if_icmp c v =>
    exact gq_w (gpI_w fun _ _ => gpI_w fun _ _ => gite_w (gtgt_w (fun _ => (IH _ _ _ _ _ _ _))) (IH _ _ _ _ _ _ _)) h
  case if_acmp c v =>
    refine gq_w (fun h => ?_) h
    split at h
    · refine gif_w (fun h => ?_) h
      cases c
      · exact gtgt_w (fun _ => (IH _ _ _ _ _ _ _)) h
      · exact IH _ _ _ _ _ _ _ h
    · cases h
  case ifnonnull v =>
    refine gq_w (fun h => ?_) h
    split at h
    · exact gtgt_w (fun _ => (IH _ _ _ _ _ _ _)) h
    · cases h
  case tableswitch a b c v =>
    refine gpI_w (fun _ _ => gite_w (gtgt_w (fun _ => (IH _ _ _ _ _ _ _))) (fun h => ?_)) h
    split at h
    · exact gtgt_w (fun _ => (IH _ _ _ _ _ _ _)) h
    · cases h
  case ldc v =>
    refine gq_w (fun h => ?_) h
    split at h
    · exact IH _ _ _ _ _ _ _ h
    · split at h
      · exact IH _ _ _ _ _ _ _ h
      · exact gif_w (IH _ _ _ _ _ _ _) h
  case ldc_w v =>
    refine gq_w (fun h => ?_) h
    split at h
    · exact IH _ _ _ _ _ _ _ h
    · cases h
  case ldc2_w v =>
    refine gq_w (fun h => ?_) h
    split at h
    · exact IH _ _ _ _ _ _ _ h
    · cases h
  case getstatic v =>
    refine gq_w (fun h => ?_) h
    split at h
    · exact IH _ _ _ _ _ _ _ h
    · cases h
  case checkcast v =>
    refine gq_w (fun h => ?_) h
    split at h
    · split at h
      · exact gif_w (IH _ _ _ _ _ _ _) h
      · cases h
    · cases h
  case getfield v =>
    exact gq_w (gyget_w (fun _ => (IH _ _ _ _ _ _ _))) h
  case putfield v =>
    exact gq_w (gyput_w (fun _ _ => (IH _ _ _ _ _ _ _))) h
  case iaload =>
    exact gq_w (gyald_w (fun _ => (IH _ _ _ _ _ _ _))) h
  case laload =>
    exact gq_w (gyald_w (fun _ => (IH _ _ _ _ _ _ _))) h
  case aaload =>
    exact gq_w (gyaal_w (fun _ => (IH _ _ _ _ _ _ _))) h
  case baload =>
    refine gq_w (fun h => ?_) h
    split at h
    · exact gite_w (gyald_w (fun _ => (IH _ _ _ _ _ _ _))) (gyald_w (fun _ => (IH _ _ _ _ _ _ _))) h
    · exact gyald_w (fun _ => (IH _ _ _ _ _ _ _)) h
  case iastore =>
    exact gq_w (gyast_w (fun _ _ => (IH _ _ _ _ _ _ _))) h
  case lastore =>
    exact gq_w (gyast_w (fun _ _ => (IH _ _ _ _ _ _ _))) h
  case bastore =>
    refine gq_w (fun h => ?_) h
    split at h
    · exact gite_w (gyast_w (fun _ _ => (IH _ _ _ _ _ _ _))) (gyast_w (fun _ _ => (IH _ _ _ _ _ _ _))) h
    · cases h
  case aastore =>
    exact gq_w (gyaas_w (fun _ _ => (IH _ _ _ _ _ _ _))) h
  case arraylength =>
    refine gq_w (fun h => ?_) h
    split at h
    · exact gite_w (IH _ _ _ _ _ _ _) (gif_w (IH _ _ _ _ _ _ _)) h
    · exact gif_w (IH _ _ _ _ _ _ _) h
    · exact gif_w (IH _ _ _ _ _ _ _) h
    · cases h
  case newarray t =>
    exact gq_w (gynewa_w (fun _ _ h hl => gy_le.tr hl (IH _ _ _ _ _ _ _ h))) h
  case anewarray t =>
    refine gq_w (fun h => ?_) h
    split at h
    · exact gynewa_w (fun _ _ h hl => gy_le.tr hl (IH _ _ _ _ _ _ _ h)) h
    · cases h
  case multianewarray t u =>
    exact gq_w (gif_w (gymna_w (fun _ _ h hl => gy_le.tr hl (IH _ _ _ _ _ _ _ h)))) h
  case new ix =>
    refine gq_w (fun h => ?_) h
    split at h
    · obtain ⟨-, h2⟩ := gif_ok h
      cases h2
      exact ⟨Nat.le_succ _, Nat.le_add_right _ _⟩
    · split at h
      · exact gynew_w (fun _ _ h hl => gy_le.tr hl (IH _ _ _ _ _ _ _ h)) h
      · cases h
  case invokespecial ix =>
    refine gq_w (fun h => ?_) h
    split at h
    · refine gite_w (fun h => ?_) (gite_w (fun h => gycall_mn IH h) (gif_w (fun h => gycall_mn IH h))) h
      split at h
      · exact gif_w (IH _ _ _ _ _ _ _) h
      · cases h
    · cases h
  case invokevirtual ix =>
    refine gq_w (fun h => ?_) h
    split at h
    · refine gite_w (gycln_w (fun _ _ h hl => gy_le.tr hl (IH _ _ _ _ _ _ _ h))) (gite_w (gycln_w (fun _ _ h hl => gy_le.tr hl (IH _ _ _ _ _ _ _ h))) (gite_w (fun h => ?_) (fun h => ?_))) h
      · split at h
        · exact gif_w (IH _ _ _ _ _ _ _) h
        · cases h
      · split at h
        · split at h
          · exact (fun h => gycall_mn IH h) h
          · cases h
        · cases h
    · cases h
  case invokeinterface ix cn =>
    refine gq_w (fun h => ?_) h
    split at h
    · split at h
      · exact gif_w (fun h => gycall_mn IH h) h
      · cases h
    · cases h
  case invokestatic ix =>
    refine gq_w (fun h => ?_) h
    split at h
    · exact gite_w (gpI_w fun _ _ => gpI_w fun _ _ => gif_w (IH _ _ _ _ _ _ _)) (gite_w (gpI_w fun _ _ => gpI_w fun _ _ => gif_w (IH _ _ _ _ _ _ _)) (gite_w (gycopy_w (fun _ _ => (IH _ _ _ _ _ _ _))) (gif_w (fun h => gycall_mn IH h)))) h
    · cases h
  case ireturn =>
    refine gq_w (fun h => ?_) h
    split at h
    · obtain ⟨-, h2⟩ := gif_ok h
      cases h2
      exact gy_le.rf
    · cases h
  case lreturn =>
    refine gq_w (fun h => ?_) h
    split at h
    · obtain ⟨-, h2⟩ := gif_ok h
      cases h2
      exact gy_le.rf
    · cases h
  case areturn =>
    refine gq_w (fun h => ?_) h
    split at h
    · obtain ⟨-, h2⟩ := gif_ok h
      cases h2
      exact gy_le.rf
    · cases h
  case return_ =>
    refine gq_w (fun h => ?_) h
    split at h
    · obtain ⟨-, h2⟩ := gif_ok h
      cases h2
      exact gy_le.rf
    · cases h
  all_goals (exact absurd h (by intro z; cases z))
theorem gy_ex_mn (N : Nat) (xs : Nat → Int32) (f : Nat) : gy_mn (gy_ex N xs f) := by
  induction f with
  | zero => intro d k pc L st w o h; cases h
  | succ f ih =>
    intro d k pc L st w o h
    have h2 : (match gg_dt k pc with
      | some (i, n) => gy_step (gy_ex N xs f) N xs d k pc L st w i n
      | none => none) = some o := h
    split at h2
    · exact gy_step_mn ih h2
    · cases h2
