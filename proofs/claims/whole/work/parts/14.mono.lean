/-! what is made is never unmade -/
def gg_le (w w' : gg_W) : Prop := w.2.2.2.1 ≤ w'.2.2.2.1 ∧ w.2.2.2.2 ≤ w'.2.2.2.2
theorem gg_le.rf {w : gg_W} : gg_le w w := ⟨Nat.le_refl _, Nat.le_refl _⟩
theorem gg_le.tr {a b c : gg_W} (h : gg_le a b) (h2 : gg_le b c) : gg_le a c := ⟨Nat.le_trans h.1 h2.1, Nat.le_trans h.2 h2.2⟩
def gg_mn (ex : gg_X) : Prop := ∀ (d k pc : Nat) (L st : List gg_V) (w : gg_W) (o : gg_O), ex d k pc L st w = some o → gg_le w o.2
theorem gcopy_ok {st : List gg_V} {w : gg_W} {f : List gg_V → gg_W → Option gg_O} {x : gg_O} (h : gg_copy st w f = some x) : ∃ (n dp sp : Int) (a bb : Nat) (r : List gg_V), st = (0, n) :: (0, dp) :: (2, Int.ofNat bb) :: (0, sp) :: (2, Int.ofNat a) :: r ∧
    (1 ≤ a ∧ a < w.2.2.1 ∧ 1 ≤ bb ∧ bb < w.2.2.1 ∧ (gg_sh a).1 = 1 ∧ (gg_sh bb).1 = 1 ∧ ¬ gg_i sp < 0 ∧ ¬ gg_i dp < 0 ∧ ¬ gg_i n < 0 ∧ gg_k sp + gg_k n ≤ (gg_sh a).2.1 ∧ gg_k dp + gg_k n ≤ (gg_sh bb).2.1 ∧ a ≠ bb ∧ (r.map gg_cat).sum ≤ 8) ∧ f r (w.1, gg_cpy w.2.1 a (gg_k sp) bb (gg_k dp) (gg_k n), w.2.2) = some x := by
  unfold gg_copy at h
  split at h
  · obtain ⟨h1, h2⟩ := gif_ok h
    exact ⟨_, _, _, _, _, _, rfl, h1, h2⟩
  · cases h
theorem gnew_ok {c : Nat} {w : gg_W} {f : gg_V → gg_W → Option gg_O} {x : gg_O} (h : gg_new c w f = some x) : (c < 8 ∧ gg_sh w.2.2.1 = (0, 0, c) ∧ w.2.2.2.1 + 1 = w.2.2.1) ∧ f (2, (w.2.2.1 : Int)) (gg_fill w.1 w.2.2.1 (-1), gg_fill w.2.1 w.2.2.1 0, w.2.2.1 + 1, w.2.2.2.1 + 1, w.2.2.2.2 + gg_nf c) = some x := gif_ok h
theorem gnewa_ok {kd c : Nat} {st : List gg_V} {w : gg_W} {f : List gg_V → gg_W → Option gg_O} {x : gg_O} (h : gg_newa kd c st w f = some x) : ∃ (n : Int) (r : List gg_V), st = (0, n) :: r ∧ (¬ gg_i n < 0 ∧ gg_sh w.2.2.1 = (kd, gg_k n, c) ∧ w.2.2.2.1 + 1 = w.2.2.1 ∧ gg_k n ≤ 10000) ∧ f ((2, (w.2.2.1 : Int)) :: r) (gg_fill w.1 w.2.2.1 (-1), gg_fill w.2.1 w.2.2.1 0, w.2.2.1 + 1, w.2.2.2.1 + 1, w.2.2.2.2 + gg_k n) = some x := by
  unfold gg_newa at h
  obtain ⟨n, r, rfl, h1⟩ := gpI_ok h
  obtain ⟨h2, h3⟩ := gif_ok h1
  exact ⟨n, r, rfl, h2, h3⟩
/-- a call: the callee's end, and what follows -/
theorem gcall_ok {ex : gg_X} {d k pc y : Nat} {L st : List gg_V} {w : gg_W} {x : gg_O} (h : gg_call ex d k pc L st w y = some x) : ∃ (c kd ml : Nat) (tg : List Nat) (rk d' : Nat) (o1 : gg_O), gg_mt y = (c, kd, ml, tg, rk) ∧ d = d' + 1 ∧
    ((st.take tg.length).reverse.map gg_tg = tg ∧ tg.length ≤ st.length ∧ ((st.drop tg.length).map gg_cat).sum ≤ 8 ∧ (kd = 1 ∨ gg_rcv (st.take tg.length).reverse c w.2.2.1 = true)) ∧
    ex d' y 0 (gg_en ml (st.take tg.length).reverse) [] w = some o1 ∧ gg_aft ex d k pc L (st.drop tg.length) (some o1) = some x := by
  unfold gg_call at h
  split at h
  rename_i c kd ml tg rk hm
  obtain ⟨h1, h2⟩ := gif_ok h
  split at h2
  · cases h2
  · rename_i d'
    cases ho : ex d' y 0 (gg_en ml (st.take tg.length).reverse) [] w with
    | none => rw [ho] at h2; cases h2
    | some o1 => exact ⟨c, kd, ml, tg, rk, d', o1, hm, rfl, h1, ho, by rw [← ho]; exact h2⟩
theorem gaft_ok {ex : gg_X} {d k pc : Nat} {L r : List gg_V} {o1 x : gg_O} (h : gg_aft ex d k pc L r (some o1) = some x) :
    (o1.1.1 = 0 ∧ ex d k (pc + 3) L r o1.2 = some x) ∨ (o1.1.1 = 1 ∧ ex d k (pc + 3) L (o1.1.2 :: r) o1.2 = some x) ∨
    ((o1.1.1 ≠ 0 ∧ o1.1.1 ≠ 1) ∧ ((gg_hd k = [] ∧ x = ((o1.1.1, (3, 0)), o1.2)) ∨ (∃ (hh j mm : Nat), gg_hd k ≠ [] ∧ gg_hdl (gg_hd k) pc o1.1.1 = some hh ∧ gg_hst k hh = some (j, mm) ∧ j < L.length ∧ ex d k (hh + mm) (gg_s1 L j (3, 0)) [] o1.2 = some x))) := by
  obtain ⟨⟨t, v⟩, w'⟩ := o1
  match t, h with
  | 0, h => exact Or.inl ⟨rfl, h⟩
  | 1, h => exact Or.inr (Or.inl ⟨rfl, h⟩)
  | t + 2, h =>
    refine Or.inr (Or.inr ⟨⟨by simp, by simp⟩, ?_⟩)
    have h3 : (if gg_hd k = [] then some ((t + 2, ((3 : Nat), (0 : Int))), w') else match gg_hdl (gg_hd k) pc (t + 2) with
      | none => none
      | some hh => match gg_hst k hh with
        | none => none
        | some (j, mm) => if j < L.length then ex d k (hh + mm) (gg_s1 L j (3, 0)) [] w' else none) = some x := h
    by_cases hq : gg_hd k = []
    · rw [if_pos hq] at h3
      exact Or.inl ⟨hq, (Option.some.inj h3).symm⟩
    · rw [if_neg hq] at h3
      cases hl : gg_hdl (gg_hd k) pc (t + 2) with
      | none => rw [hl] at h3; cases h3
      | some hh =>
        rw [hl] at h3
        dsimp only at h3
        cases hst : gg_hst k hh with
        | none => rw [hst] at h3; cases h3
        | some jm =>
          obtain ⟨j, mm⟩ := jm
          rw [hst] at h3
          obtain ⟨h1, h2⟩ := gif_ok h3
          exact Or.inr ⟨hh, j, mm, hq, rfl, hst, h1, h2⟩
theorem gaft_mn {ex : gg_X} (IH : gg_mn ex) {d k pc : Nat} {L r : List gg_V} {o1 x : gg_O} (h : gg_aft ex d k pc L r (some o1) = some x) : gg_le o1.2 x.2 := by
  rcases gaft_ok h with ⟨-, h⟩ | ⟨-, h⟩ | ⟨-, ⟨-, rfl⟩ | ⟨_, _, _, -, -, -, -, h⟩⟩
  · exact IH _ _ _ _ _ _ _ h
  · exact IH _ _ _ _ _ _ _ h
  · exact gg_le.rf
  · exact IH _ _ _ _ _ _ _ h
theorem gcall_mn {ex : gg_X} (IH : gg_mn ex) {d k pc y : Nat} {L st : List gg_V} {w : gg_W} {x : gg_O} (h : gg_call ex d k pc L st w y = some x) : gg_le w x.2 := by
  obtain ⟨c, kd, ml, tg, rk, d', o1, -, -, -, h1, h2⟩ := gcall_ok h
  exact (IH _ _ _ _ _ _ _ h1).tr (gaft_mn IH h2)
theorem gg_step_mn {ex : gg_X} (IH : gg_mn ex) {N : Nat} {xs : Nat → Int32} {d k pc n : Nat} {L st : List gg_V} {w : gg_W} {i : Instr} {o : gg_O} (h : gg_step ex N xs d k pc L st w i n = some o) : gg_le w o.2 := by
  cases i
  case iconst v =>
    obtain ⟨-, h1⟩ := gq_ok h
    exact IH _ _ _ _ _ _ _ h1
  case bipush v =>
    obtain ⟨-, h1⟩ := gq_ok h
    exact IH _ _ _ _ _ _ _ h1
  case sipush v =>
    obtain ⟨-, h1⟩ := gq_ok h
    exact IH _ _ _ _ _ _ _ h1
  case lconst v =>
    obtain ⟨-, h1⟩ := gq_ok h
    exact IH _ _ _ _ _ _ _ h1
  case iload_n v =>
    obtain ⟨-, h1⟩ := gq_ok h
    obtain ⟨_, -, h2⟩ := gld_ok h1
    exact IH _ _ _ _ _ _ _ h2
  case iload v =>
    obtain ⟨-, h1⟩ := gq_ok h
    obtain ⟨_, -, h2⟩ := gld_ok h1
    exact IH _ _ _ _ _ _ _ h2
  case lload_n v =>
    obtain ⟨-, h1⟩ := gq_ok h
    obtain ⟨_, -, h2⟩ := gld_ok h1
    exact IH _ _ _ _ _ _ _ h2
  case lload v =>
    obtain ⟨-, h1⟩ := gq_ok h
    obtain ⟨_, -, h2⟩ := gld_ok h1
    exact IH _ _ _ _ _ _ _ h2
  case aload_n v =>
    obtain ⟨-, h1⟩ := gq_ok h
    obtain ⟨_, -, -, h2⟩ := gldA_ok h1
    exact IH _ _ _ _ _ _ _ h2
  case aload v =>
    obtain ⟨-, h1⟩ := gq_ok h
    obtain ⟨_, -, -, h2⟩ := gldA_ok h1
    exact IH _ _ _ _ _ _ _ h2
  case istore_n v =>
    obtain ⟨-, h1⟩ := gq_ok h
    obtain ⟨_, _, -, h2⟩ := gpI_ok h1
    obtain ⟨-, h3⟩ := gif_ok h2
    exact IH _ _ _ _ _ _ _ h3
  case istore v =>
    obtain ⟨-, h1⟩ := gq_ok h
    obtain ⟨_, _, -, h2⟩ := gpI_ok h1
    obtain ⟨-, h3⟩ := gif_ok h2
    exact IH _ _ _ _ _ _ _ h3
  case lstore_n v =>
    obtain ⟨-, h1⟩ := gq_ok h
    obtain ⟨_, _, -, h2⟩ := gpL_ok h1
    obtain ⟨-, h3⟩ := gif_ok h2
    exact IH _ _ _ _ _ _ _ h3
  case lstore v =>
    obtain ⟨-, h1⟩ := gq_ok h
    obtain ⟨_, _, -, h2⟩ := gpL_ok h1
    obtain ⟨-, h3⟩ := gif_ok h2
    exact IH _ _ _ _ _ _ _ h3
  case astore_n v =>
    obtain ⟨-, h1⟩ := gq_ok h
    obtain ⟨_, _, -, h2⟩ := gpR_ok h1
    obtain ⟨-, h3⟩ := gif_ok h2
    exact IH _ _ _ _ _ _ _ h3
  case astore v =>
    obtain ⟨-, h1⟩ := gq_ok h
    obtain ⟨_, _, -, h2⟩ := gpR_ok h1
    obtain ⟨-, h3⟩ := gif_ok h2
    exact IH _ _ _ _ _ _ _ h3
  case iinc v u =>
    obtain ⟨-, h1⟩ := gq_ok h
    obtain ⟨_, -, h2⟩ := gld_ok h1
    obtain ⟨-, h3⟩ := gif_ok h2
    exact IH _ _ _ _ _ _ _ h3
  case iadd =>
    obtain ⟨-, h1⟩ := gq_ok h
    obtain ⟨_, _, _, -, h2⟩ := gbI_ok h1
    exact IH _ _ _ _ _ _ _ h2
  case isub =>
    obtain ⟨-, h1⟩ := gq_ok h
    obtain ⟨_, _, _, -, h2⟩ := gbI_ok h1
    exact IH _ _ _ _ _ _ _ h2
  case imul =>
    obtain ⟨-, h1⟩ := gq_ok h
    obtain ⟨_, _, _, -, h2⟩ := gbI_ok h1
    exact IH _ _ _ _ _ _ _ h2
  case iand =>
    obtain ⟨-, h1⟩ := gq_ok h
    obtain ⟨_, _, _, -, h2⟩ := gbI_ok h1
    exact IH _ _ _ _ _ _ _ h2
  case ior =>
    obtain ⟨-, h1⟩ := gq_ok h
    obtain ⟨_, _, _, -, h2⟩ := gbI_ok h1
    exact IH _ _ _ _ _ _ _ h2
  case ixor =>
    obtain ⟨-, h1⟩ := gq_ok h
    obtain ⟨_, _, _, -, h2⟩ := gbI_ok h1
    exact IH _ _ _ _ _ _ _ h2
  case ishl =>
    obtain ⟨-, h1⟩ := gq_ok h
    obtain ⟨_, _, _, -, h2⟩ := gbI_ok h1
    exact IH _ _ _ _ _ _ _ h2
  case ishr =>
    obtain ⟨-, h1⟩ := gq_ok h
    obtain ⟨_, _, _, -, h2⟩ := gbI_ok h1
    exact IH _ _ _ _ _ _ _ h2
  case iushr =>
    obtain ⟨-, h1⟩ := gq_ok h
    obtain ⟨_, _, _, -, h2⟩ := gbI_ok h1
    exact IH _ _ _ _ _ _ _ h2
  case ineg =>
    obtain ⟨-, h1⟩ := gq_ok h
    obtain ⟨_, _, -, h2⟩ := guI_ok h1
    exact IH _ _ _ _ _ _ _ h2
  case i2b =>
    obtain ⟨-, h1⟩ := gq_ok h
    obtain ⟨_, _, -, h2⟩ := guI_ok h1
    exact IH _ _ _ _ _ _ _ h2
  case i2c =>
    obtain ⟨-, h1⟩ := gq_ok h
    obtain ⟨_, _, -, h2⟩ := guI_ok h1
    exact IH _ _ _ _ _ _ _ h2
  case i2l =>
    obtain ⟨-, h1⟩ := gq_ok h
    obtain ⟨_, _, -, h2⟩ := gpI_ok h1
    exact IH _ _ _ _ _ _ _ h2
  case l2i =>
    obtain ⟨-, h1⟩ := gq_ok h
    obtain ⟨_, _, -, h2⟩ := gpL_ok h1
    exact IH _ _ _ _ _ _ _ h2
  case ladd =>
    obtain ⟨-, h1⟩ := gq_ok h
    obtain ⟨_, _, _, -, h2⟩ := gbL_ok h1
    exact IH _ _ _ _ _ _ _ h2
  case lsub =>
    obtain ⟨-, h1⟩ := gq_ok h
    obtain ⟨_, _, _, -, h2⟩ := gbL_ok h1
    exact IH _ _ _ _ _ _ _ h2
  case lmul =>
    obtain ⟨-, h1⟩ := gq_ok h
    obtain ⟨_, _, _, -, h2⟩ := gbL_ok h1
    exact IH _ _ _ _ _ _ _ h2
  case land =>
    obtain ⟨-, h1⟩ := gq_ok h
    obtain ⟨_, _, _, -, h2⟩ := gbL_ok h1
    exact IH _ _ _ _ _ _ _ h2
  case lor =>
    obtain ⟨-, h1⟩ := gq_ok h
    obtain ⟨_, _, _, -, h2⟩ := gbL_ok h1
    exact IH _ _ _ _ _ _ _ h2
  case lxor =>
    obtain ⟨-, h1⟩ := gq_ok h
    obtain ⟨_, _, _, -, h2⟩ := gbL_ok h1
    exact IH _ _ _ _ _ _ _ h2
  case lshl =>
    obtain ⟨-, h1⟩ := gq_ok h
    obtain ⟨_, _, _, -, h2⟩ := gsL_ok h1
    exact IH _ _ _ _ _ _ _ h2
  case lshr =>
    obtain ⟨-, h1⟩ := gq_ok h
    obtain ⟨_, _, _, -, h2⟩ := gsL_ok h1
    exact IH _ _ _ _ _ _ _ h2
  case lushr =>
    obtain ⟨-, h1⟩ := gq_ok h
    obtain ⟨_, _, _, -, h2⟩ := gsL_ok h1
    exact IH _ _ _ _ _ _ _ h2
  case lneg =>
    obtain ⟨-, h1⟩ := gq_ok h
    obtain ⟨_, _, -, h2⟩ := gpL_ok h1
    exact IH _ _ _ _ _ _ _ h2
  case lcmp =>
    obtain ⟨-, h1⟩ := gq_ok h
    obtain ⟨_, _, -, h2⟩ := gpL_ok h1
    obtain ⟨_, _, -, h3⟩ := gpL_ok h2
    exact IH _ _ _ _ _ _ _ h3
  case idiv =>
    obtain ⟨-, h1⟩ := gq_ok h
    obtain ⟨_, _, -, h2⟩ := gpI_ok h1
    obtain ⟨_, _, -, h3⟩ := gpI_ok h2
    split at h3
    · cases h3
    · exact IH _ _ _ _ _ _ _ h3
  case irem =>
    obtain ⟨-, h1⟩ := gq_ok h
    obtain ⟨_, _, -, h2⟩ := gpI_ok h1
    obtain ⟨_, _, -, h3⟩ := gpI_ok h2
    split at h3
    · cases h3
    · exact IH _ _ _ _ _ _ _ h3
  case dup =>
    obtain ⟨-, h1⟩ := gq_ok h
    split at h1
    · obtain ⟨-, h2⟩ := gif_ok h1
      exact IH _ _ _ _ _ _ _ h2
    · cases h1
  case pop =>
    obtain ⟨-, h1⟩ := gq_ok h
    split at h1
    · obtain ⟨-, h2⟩ := gif_ok h1
      exact IH _ _ _ _ _ _ _ h2
    · cases h1
  case dup2 =>
    obtain ⟨-, h1⟩ := gq_ok h
    split at h1
    · split at h1
      · exact IH _ _ _ _ _ _ _ h1
      · split at h1
        · cases h1
        · exact IH _ _ _ _ _ _ _ h1
    · cases h1
  case goto v =>
    obtain ⟨-, h1⟩ := gq_ok h
    obtain ⟨_, -, h2⟩ := gtgt_ok h1
    exact IH _ _ _ _ _ _ _ h2
  case ifCond c v =>
    obtain ⟨-, h1⟩ := gq_ok h
    obtain ⟨_, _, -, h2⟩ := gpI_ok h1
    split at h2
    · obtain ⟨_, -, h3⟩ := gtgt_ok h2
      exact IH _ _ _ _ _ _ _ h3
    · exact IH _ _ _ _ _ _ _ h2
  case if_icmp c v =>
    obtain ⟨-, h1⟩ := gq_ok h
    obtain ⟨_, _, -, h2⟩ := gpI_ok h1
    obtain ⟨_, _, -, h3⟩ := gpI_ok h2
    split at h3
    · obtain ⟨_, -, h4⟩ := gtgt_ok h3
      exact IH _ _ _ _ _ _ _ h4
    · exact IH _ _ _ _ _ _ _ h3
  case tableswitch a b c v =>
    obtain ⟨_, _, -, h2⟩ := gpI_ok h
    split at h2
    · obtain ⟨_, -, h3⟩ := gtgt_ok h2
      exact IH _ _ _ _ _ _ _ h3
    · split at h2
      · obtain ⟨_, -, h3⟩ := gtgt_ok h2
        exact IH _ _ _ _ _ _ _ h3
      · cases h2
  case ldc v =>
    obtain ⟨-, h1⟩ := gq_ok h
    split at h1
    · exact IH _ _ _ _ _ _ _ h1
    · split at h1
      · exact IH _ _ _ _ _ _ _ h1
      · cases h1
  case ldc_w v =>
    obtain ⟨-, h1⟩ := gq_ok h
    split at h1
    · exact IH _ _ _ _ _ _ _ h1
    · cases h1
  case ldc2_w v =>
    obtain ⟨-, h1⟩ := gq_ok h
    split at h1
    · exact IH _ _ _ _ _ _ _ h1
    · cases h1
  case getstatic v =>
    obtain ⟨-, h1⟩ := gq_ok h
    split at h1
    · exact IH _ _ _ _ _ _ _ h1
    · split at h1
      · exact IH _ _ _ _ _ _ _ h1
      · cases h1
  case getfield v =>
    obtain ⟨-, h1⟩ := gq_ok h
    rcases gget_ok h1 with ⟨_, _, _, _, _, -, -, -, h2⟩ | ⟨_, _, -, -, ⟨-, h2⟩ | ⟨-, h2⟩⟩
    · exact IH _ _ _ _ _ _ _ h2
    · exact IH _ _ _ _ _ _ _ h2
    · exact IH _ _ _ _ _ _ _ h2
  case putfield v =>
    obtain ⟨-, h1⟩ := gq_ok h
    obtain ⟨_, _, _, _, _, _, _, -, -, -, ⟨-, h2⟩ | ⟨-, h2⟩⟩ := gput_ok h1
    · exact ⟨(IH _ _ _ _ _ _ _ h2).1, (IH _ _ _ _ _ _ _ h2).2⟩
    · exact ⟨(IH _ _ _ _ _ _ _ h2).1, (IH _ _ _ _ _ _ _ h2).2⟩
  case iaload =>
    obtain ⟨-, h1⟩ := gq_ok h
    obtain ⟨_, ⟨_, -, -, h2⟩ | ⟨_, _, -, -, -, h2⟩ | ⟨_, _, -, -, h2⟩⟩ := gald_ok h1
    · exact IH _ _ _ _ _ _ _ h2
    · exact IH _ _ _ _ _ _ _ h2
    · exact IH _ _ _ _ _ _ _ h2
  case laload =>
    obtain ⟨-, h1⟩ := gq_ok h
    obtain ⟨_, ⟨_, -, -, h2⟩ | ⟨_, _, -, -, -, h2⟩ | ⟨_, _, -, -, h2⟩⟩ := gald_ok h1
    · exact IH _ _ _ _ _ _ _ h2
    · exact IH _ _ _ _ _ _ _ h2
    · exact IH _ _ _ _ _ _ _ h2
  case aaload =>
    obtain ⟨-, h1⟩ := gq_ok h
    obtain ⟨_, ⟨_, -, -, h2⟩ | ⟨_, _, -, -, -, h2⟩ | ⟨_, _, -, -, h2⟩⟩ := gald_ok h1
    · exact IH _ _ _ _ _ _ _ h2
    · exact IH _ _ _ _ _ _ _ h2
    · exact IH _ _ _ _ _ _ _ h2
  case baload =>
    obtain ⟨-, h1⟩ := gq_ok h
    split at h1
    · split at h1
      · obtain ⟨_, ⟨_, -, -, h2⟩ | ⟨_, _, -, -, -, h2⟩ | ⟨_, _, -, -, h2⟩⟩ := gald_ok h1
        · exact IH _ _ _ _ _ _ _ h2
        · exact IH _ _ _ _ _ _ _ h2
        · exact IH _ _ _ _ _ _ _ h2
      · obtain ⟨_, ⟨_, -, -, h2⟩ | ⟨_, _, -, -, -, h2⟩ | ⟨_, _, -, -, h2⟩⟩ := gald_ok h1
        · exact IH _ _ _ _ _ _ _ h2
        · exact IH _ _ _ _ _ _ _ h2
        · exact IH _ _ _ _ _ _ _ h2
    · obtain ⟨_, ⟨_, -, -, h2⟩ | ⟨_, _, -, -, -, h2⟩ | ⟨_, _, -, -, h2⟩⟩ := gald_ok h1
      · exact IH _ _ _ _ _ _ _ h2
      · exact IH _ _ _ _ _ _ _ h2
      · exact IH _ _ _ _ _ _ _ h2
  case iastore =>
    obtain ⟨-, h1⟩ := gq_ok h
    obtain ⟨_, _, _, _, -, -, h2⟩ := gast_ok h1
    exact ⟨(IH _ _ _ _ _ _ _ h2).1, (IH _ _ _ _ _ _ _ h2).2⟩
  case lastore =>
    obtain ⟨-, h1⟩ := gq_ok h
    obtain ⟨_, _, _, _, -, -, h2⟩ := gast_ok h1
    exact ⟨(IH _ _ _ _ _ _ _ h2).1, (IH _ _ _ _ _ _ _ h2).2⟩
  case bastore =>
    obtain ⟨-, h1⟩ := gq_ok h
    split at h1
    · split at h1
      · obtain ⟨_, _, _, _, -, -, h2⟩ := gast_ok h1
        exact ⟨(IH _ _ _ _ _ _ _ h2).1, (IH _ _ _ _ _ _ _ h2).2⟩
      · obtain ⟨_, _, _, _, -, -, h2⟩ := gast_ok h1
        exact ⟨(IH _ _ _ _ _ _ _ h2).1, (IH _ _ _ _ _ _ _ h2).2⟩
    · cases h1
  case aastore =>
    obtain ⟨-, h1⟩ := gq_ok h
    obtain ⟨_, _, _, _, -, -, h2⟩ := gaas_ok h1
    exact ⟨(IH _ _ _ _ _ _ _ h2).1, (IH _ _ _ _ _ _ _ h2).2⟩
  case arraylength =>
    obtain ⟨-, h1⟩ := gq_ok h
    split at h1
    · obtain ⟨-, h2⟩ := gif_ok h1
      split at h2
      · exact IH _ _ _ _ _ _ _ h2
      · cases h2
    · obtain ⟨-, h2⟩ := gif_ok h1
      exact IH _ _ _ _ _ _ _ h2
    · cases h1
  case newarray t =>
    obtain ⟨-, h1⟩ := gq_ok h
    obtain ⟨_, _, -, -, h2⟩ := gnewa_ok h1
    exact ⟨Nat.le_trans (Nat.le_succ _) (IH _ _ _ _ _ _ _ h2).1, Nat.le_trans (Nat.le_add_right _ _) (IH _ _ _ _ _ _ _ h2).2⟩
  case anewarray t =>
    obtain ⟨-, h1⟩ := gq_ok h
    split at h1
    · obtain ⟨_, _, -, -, h2⟩ := gnewa_ok h1
      exact ⟨Nat.le_trans (Nat.le_succ _) (IH _ _ _ _ _ _ _ h2).1, Nat.le_trans (Nat.le_add_right _ _) (IH _ _ _ _ _ _ _ h2).2⟩
    · cases h1
  case new ix =>
    obtain ⟨-, h1⟩ := gq_ok h
    split at h1
    · obtain ⟨-, h2⟩ := gif_ok h1
      cases h2
      exact ⟨Nat.le_succ _, Nat.le_add_right _ _⟩
    · split at h1
      · obtain ⟨-, h2⟩ := gnew_ok h1
        exact ⟨Nat.le_trans (Nat.le_succ _) (IH _ _ _ _ _ _ _ h2).1, Nat.le_trans (Nat.le_add_right _ _) (IH _ _ _ _ _ _ _ h2).2⟩
      · cases h1
  case invokespecial ix =>
    obtain ⟨-, h1⟩ := gq_ok h
    split at h1
    · split at h1
      · obtain ⟨_, _, -, h2⟩ := gpR_ok h1
        obtain ⟨-, h3⟩ := gif_ok h2
        exact IH _ _ _ _ _ _ _ h3
      · obtain ⟨-, h2⟩ := gif_ok h1
        exact gcall_mn IH h2
    · cases h1
  case invokevirtual ix =>
    obtain ⟨-, h1⟩ := gq_ok h
    split at h1
    · obtain ⟨-, h2⟩ := gif_ok h1
      exact gcall_mn IH h2
    · cases h1
  case invokestatic ix =>
    obtain ⟨-, h1⟩ := gq_ok h
    split at h1
    · split at h1
      · obtain ⟨_, _, -, h2⟩ := gpI_ok h1
        obtain ⟨_, _, -, h3⟩ := gpI_ok h2
        obtain ⟨-, h4⟩ := gif_ok h3
        exact IH _ _ _ _ _ _ _ h4
      · split at h1
        · obtain ⟨_, _, -, h2⟩ := gpI_ok h1
          obtain ⟨_, _, -, h3⟩ := gpI_ok h2
          obtain ⟨-, h4⟩ := gif_ok h3
          exact IH _ _ _ _ _ _ _ h4
        · split at h1
          · obtain ⟨_, _, _, _, _, _, -, -, h2⟩ := gcopy_ok h1
            exact ⟨(IH _ _ _ _ _ _ _ h2).1, (IH _ _ _ _ _ _ _ h2).2⟩
          · obtain ⟨-, h2⟩ := gif_ok h1
            exact gcall_mn IH h2
    · cases h1
  case ireturn =>
    obtain ⟨-, h1⟩ := gq_ok h
    split at h1
    · obtain ⟨-, h2⟩ := gif_ok h1
      cases h2
      exact gg_le.rf
    · cases h1
  case lreturn =>
    obtain ⟨-, h1⟩ := gq_ok h
    split at h1
    · obtain ⟨-, h2⟩ := gif_ok h1
      cases h2
      exact gg_le.rf
    · cases h1
  case areturn =>
    obtain ⟨-, h1⟩ := gq_ok h
    split at h1
    · obtain ⟨-, h2⟩ := gif_ok h1
      cases h2
      exact gg_le.rf
    · cases h1
  case return_ =>
    obtain ⟨-, h1⟩ := gq_ok h
    split at h1
    · obtain ⟨-, h2⟩ := gif_ok h1
      cases h2
      exact gg_le.rf
    · cases h1
  all_goals (exact absurd h (by intro z; cases z))
theorem gg_ex_mn (N : Nat) (xs : Nat → Int32) (f : Nat) : gg_mn (gg_ex N xs f) := by
  induction f with
  | zero => intro d k pc L st w o h; cases h
  | succ f ih =>
    intro d k pc L st w o h
    have h2 : (match gg_dt k pc with
      | some (i, n) => gg_step (gg_ex N xs f) N xs d k pc L st w i n
      | none => none) = some o := h
    split at h2
    · exact gg_step_mn ih h2
    · cases h2
