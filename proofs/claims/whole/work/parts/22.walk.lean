/-! THE MACHINE FOLLOWS THE INTERPRETER -/
def gg_offok (e : Nat × Instr × Nat) : Bool := match e.2.1 with
  | .ifCond _ off => decide (0 ≤ (e.1 : Int) + off)
  | .if_icmp _ off => decide (0 ≤ (e.1 : Int) + off)
  | _ => true
set_option maxRecDepth 100000 in
theorem gg_offok_all : gg_dts.all (fun r => r.all gg_offok) = true := by decide +kernel
theorem gg_fd_in {pc : Nat} {x : Instr × Nat} : ∀ {r : List (Nat × Instr × Nat)}, gg_fd pc r = some x → (pc, x) ∈ r
  | e :: r, h => by
    unfold gg_fd at h
    split at h
    · rename_i he
      cases h
      rw [← he]
      exact List.mem_cons_self
    · exact List.mem_cons_of_mem _ (gg_fd_in h)
theorem gg_dt_in {k pc : Nat} {x : Instr × Nat} (h : gg_dt k pc = some x) : ∃ r ∈ gg_dts, r = gg_dts.getD k [] ∧ (pc, x) ∈ r := by
  unfold gg_dt at h
  have h1 := gg_fd_in h
  refine ⟨_, ?_, rfl, h1⟩
  rw [List.getD_eq_getElem?_getD] at h1 ⊢
  cases hq : gg_dts[k]? with
  | none => rw [hq] at h1; cases h1
  | some r => exact List.mem_of_getElem? hq
theorem gg_off {k pc n : Nat} {off : Int} {i : Instr} (h : gg_dt k pc = some (i, n)) (hi : (∃ q, i = .ifCond q off) ∨ (∃ q, i = .if_icmp q off)) : ∃ t : Nat, (pc : Int) + off = (t : Int) := by
  obtain ⟨r, hr, -, h2⟩ := gg_dt_in h
  have h3 := List.all_eq_true.mp (List.all_eq_true.mp gg_offok_all r hr) _ h2
  have h4 : 0 ≤ (pc : Int) + off := by
    rcases hi with ⟨q, rfl⟩ | ⟨q, rfl⟩
    · exact of_decide_eq_true h3
    · exact of_decide_eq_true h3
  exact ⟨((pc : Int) + off).toNat, by omega⟩
section GW
variable {l : Launch} {S0 b Lx : Nat} {xs : Nat → Int32} {D : va_G} {cA : Nat → ClassId} {adK adV : Nat → Nat} {opq : Value} {p : Program} {e : Env} {R : Room} {s : State} {m : MethodId} {args : Array Value} {below : List Frame} {meth : Method} {c : Code} {Q : State → Prop} {k d nL cb sb : Nat} {o : gg_O} {f : Nat}
variable {pc n : Nat} {L st : List gg_V} {w w' : gg_W} {H H' : Heap} {locs : List Loc} {cells slots : Nat} {ls : Array Slot}
/-- what is to be shown where the method throws -/
def gg_Kt (l : Launch) (S0 b Lx : Nat) (xs : Nat → Int32) (D : va_G) (cA : Nat → ClassId) (adK adV : Nat → Nat) (opq : Value) (p : Program) (e : Env) (R : Room) (s : State) (m : MethodId) (args : Array Value) (below : List Frame) (meth : Method) (c : Code) (Q : State → Prop) (k nL cb sb : Nat) (o : gg_O) : Prop :=
  ∀ (pc ix E : Nat) (L st : List gg_V) (w : gg_W) (H : Heap) (locs : List Loc) (cells slots : Nat) (ls : Array Slot), gg_dt k pc = some (.new ix, 3) → gg_thr k pc (.new ix) = some E → (st.map gg_cat).sum ≤ 8 → o = ((E, (3, 0)), (w.1, w.2.1, w.2.2.1, w.2.2.2.1 + 1, w.2.2.2.2 + 6)) →
    gg_Rl S0 b Lx xs D cA adK adV opq s nL cb sb L w H locs cells slots ls → W p l e R s m args below meth c H locs cells slots Q (F0 m pc ls (st.map (gv S0 b adK adV opq)))
/-- the four ends -/
def gg_end (k : Nat) (i : Instr) (st : List gg_V) (w : gg_W) (o : gg_O) : Prop :=
  (∃ x : Int, i = .ireturn ∧ st = [(0, x)] ∧ gg_rI (gg_mt k).2.2.2.2 x = true ∧ o = ((1, (0, x)), w)) ∨ (∃ x : Int, i = .lreturn ∧ st = [(1, x)] ∧ (gg_mt k).2.2.2.2 = 3 ∧ o = ((1, (1, x)), w)) ∨
  (∃ a : Nat, i = .areturn ∧ st = [(2, Int.ofNat a)] ∧ (gg_mt k).2.2.2.2 = 4 ∧ o = ((1, (2, Int.ofNat a)), w)) ∨ (i = .return_ ∧ st = [] ∧ (gg_mt k).2.2.2.2 = 0 ∧ o = ((0, (3, 0)), w))
/-- what is to be shown where the method ends -/
def gg_Kr (l : Launch) (S0 b Lx : Nat) (xs : Nat → Int32) (D : va_G) (cA : Nat → ClassId) (adK adV : Nat → Nat) (opq : Value) (p : Program) (e : Env) (R : Room) (s : State) (m : MethodId) (args : Array Value) (below : List Frame) (meth : Method) (c : Code) (Q : State → Prop) (k nL cb sb : Nat) (o : gg_O) : Prop :=
  ∀ (pc : Nat) (i : Instr) (L st : List gg_V) (w : gg_W) (H : Heap) (locs : List Loc) (cells slots : Nat) (ls : Array Slot), gg_dt k pc = some (i, 1) → gg_end k i st w o →
    gg_Rl S0 b Lx xs D cA adK adV opq s nL cb sb L w H locs cells slots ls → W p l e R s m args below meth c H locs cells slots Q (F0 m pc ls (st.map (gv S0 b adK adV opq)))
/-- the contracts of all methods of ours, for runs of so much fuel -/
def gg_CtF (l : Launch) (S0 b Lx : Nat) (xs : Nat → Int32) (D : va_G) (cA : Nat → ClassId) (adK adV : Nat → Nat) (opq : Value) (f : Nat) : Prop :=
  ∀ (d y : Nat) (vs : List gg_V) (w : gg_W) (o : gg_O) (ci kd ml : Nat) (tg : List Nat) (rk : Nat), y < 344 → y ≠ 287 → gg_mt y = (ci, kd, ml, tg, rk) → vs.map gg_tg = tg → gg_ex Lx xs f d y 0 (gg_en ml vs) [] w = some o → gg_Ct l S0 b Lx xs D cA adK adV opq d y vs w o
theorem gs_call (IH : gg_Wk l S0 b Lx xs D cA adK adV opq p e R s m args below meth c Q k d nL cb sb o f) (CX : gg_CX l S0 b Lx xs D cA adK adV opq p R s m args meth c k d nL cb sb o) (RL : gg_Rl S0 b Lx xs D cA adK adV opq s nL cb sb L w H locs cells slots ls)
    (KO : gg_Ko l S0 b Lx xs D cA adK adV opq p e R s m args below meth c Q k cb sb o) (hdt : ∀ k pc i n, gg_dt k pc = some (i, n) → decode (gg_bt k) pc = .ok (i, n)) (htab : gg_hd k ≠ [] → c.exceptionTable.toList = tableOf (gg_hh k)) (hCt : gg_CtF l S0 b Lx xs D cA adK adV opq f)
    {y ns ix kd : Nat} (hlm : gg_lm (gg_mt k).1 ix = some (y, ns)) (hkd : (gg_mt y).2.1 = kd) (hb4 : y ≠ 1000 ∧ y ≠ 1001 ∧ y ≠ 1002 ∧ y ≠ 1003) (hdg : decode (gg_bt k) pc = .ok (gg_ivk kd ix, 3)) (h : gg_call (gg_ex Lx xs f) d k pc L st w y = some o) : W p l e R s m args below meth c H locs cells slots Q (F0 m pc ls (st.map (gv S0 b adK adV opq))) := by
  obtain ⟨ci, kd2, ml, tg, rk, d', o1, hm, hd, ⟨h1, h2, h3, h4⟩, hex, haf⟩ := gcall_ok h
  obtain ⟨⟨hy, hyn⟩, -⟩ := (gg_lm_ok hlm).2.2.2.2 hb4.1 hb4.2.1 hb4.2.2.1 hb4.2.2.2
  have hk2 : kd2 = kd := by rw [hm] at hkd; exact hkd
  subst hk2
  have hC := hCt d' y (st.take tg.length).reverse w o1 ci kd2 ml tg rk hy hyn hm h1 hex
  have hle := gg_ex_mn _ _ _ _ _ _ _ _ _ _ hex
  have hle2 := gaft_mn (gg_ex_mn Lx xs f) haf
  obtain ⟨arr, hr⟩ := gs_run CX RL (i := _) hm hd rfl hdg hlm hb4 h1 h2 h3 h4 hC hle hle2
  exact gs_after IH CX RL KO hdt htab hle hr haf
theorem gg_walk (CX : gg_CX l S0 b Lx xs D cA adK adV opq p R s m args meth c k d nL cb sb o)
    (KO : gg_Ko l S0 b Lx xs D cA adK adV opq p e R s m args below meth c Q k cb sb o) (KT : gg_Kt l S0 b Lx xs D cA adK adV opq p e R s m args below meth c Q k nL cb sb o) (KR : gg_Kr l S0 b Lx xs D cA adK adV opq p e R s m args below meth c Q k nL cb sb o)
    (hdt : ∀ k pc i n, gg_dt k pc = some (i, n) → decode (gg_bt k) pc = .ok (i, n)) (htab : gg_hd k ≠ [] → c.exceptionTable.toList = tableOf (gg_hh k)) :
    ∀ f, (∀ f', f' < f → gg_CtF l S0 b Lx xs D cA adK adV opq f') → gg_Wk l S0 b Lx xs D cA adK adV opq p e R s m args below meth c Q k d nL cb sb o f := by
  intro f
  induction f with
  | zero =>
    intro _ pc L st w H locs cells slots ls h RL
    cases h
  | succ f ih =>
    intro hCt pc L st w H locs cells slots ls h RL
    have IH := ih fun f' hf => hCt f' (by omega)
    have hC := hCt f (Nat.lt_succ_self f)
    cases hd : gg_dt k pc with
    | none =>
      have h2 : (match gg_dt k pc with
        | some (i, n) => gg_step (gg_ex Lx xs f) Lx xs d k pc L st w i n
        | none => none) = some o := h
      rw [hd] at h2
      cases h2
    | some x =>
      obtain ⟨i, n⟩ := x
      have h2 : (match gg_dt k pc with
        | some (i, n) => gg_step (gg_ex Lx xs f) Lx xs d k pc L st w i n
        | none => none) = some o := h
      rw [hd] at h2
      have h3 : gg_step (gg_ex Lx xs f) Lx xs d k pc L st w i n = some o := h2
      have hdg := hdt k pc i n hd
      clear h h2
      cases i
      case iconst v => exact gs_iconst IH CX RL hdg h3
      case bipush v => exact gs_bipush IH CX RL hdg h3
      case sipush v => exact gs_sipush IH CX RL hdg h3
      case lconst v => exact gs_lconst IH CX RL hdg h3
      case iload_n v => exact gs_iload_n IH CX RL hdg h3
      case iload v => exact gs_iload IH CX RL hdg h3
      case lload_n v => exact gs_lload_n IH CX RL hdg h3
      case lload v => exact gs_lload IH CX RL hdg h3
      case aload_n v => exact gs_aload_n IH CX RL hdg h3
      case aload v => exact gs_aload IH CX RL hdg h3
      case istore_n v => exact gs_istore_n IH CX RL hdg h3
      case istore v => exact gs_istore IH CX RL hdg h3
      case lstore_n v => exact gs_lstore_n IH CX RL hdg h3
      case lstore v => exact gs_lstore IH CX RL hdg h3
      case astore_n v => exact gs_astore_n IH CX RL hdg h3
      case astore v => exact gs_astore IH CX RL hdg h3
      case goto v => exact gs_goto IH CX RL hdg h3
      case ldc v => exact gs_ldc IH CX RL hdg h3
      case ldc_w v => exact gs_ldc_w IH CX RL hdg h3
      case ldc2_w v => exact gs_ldc2_w IH CX RL hdg h3
      case getstatic v => exact gs_getstatic IH CX RL hdg h3
      case getfield v => exact gs_getfield IH CX RL hdg h3
      case putfield v => exact gs_putfield IH CX RL hdg h3
      case newarray v => exact gs_newarray IH CX RL hdg h3
      case anewarray v => exact gs_anewarray IH CX RL hdg h3
      case iinc v u => exact gs_iinc IH CX RL hdg h3
      case iadd => exact gs_iadd IH CX RL hdg h3
      case isub => exact gs_isub IH CX RL hdg h3
      case imul => exact gs_imul IH CX RL hdg h3
      case iand => exact gs_iand IH CX RL hdg h3
      case ior => exact gs_ior IH CX RL hdg h3
      case ixor => exact gs_ixor IH CX RL hdg h3
      case ishl => exact gs_ishl IH CX RL hdg h3
      case ishr => exact gs_ishr IH CX RL hdg h3
      case iushr => exact gs_iushr IH CX RL hdg h3
      case idiv => exact gs_idiv IH CX RL hdg h3
      case irem => exact gs_irem IH CX RL hdg h3
      case ineg => exact gs_ineg IH CX RL hdg h3
      case i2b => exact gs_i2b IH CX RL hdg h3
      case i2c => exact gs_i2c IH CX RL hdg h3
      case i2l => exact gs_i2l IH CX RL hdg h3
      case l2i => exact gs_l2i IH CX RL hdg h3
      case ladd => exact gs_ladd IH CX RL hdg h3
      case lsub => exact gs_lsub IH CX RL hdg h3
      case lmul => exact gs_lmul IH CX RL hdg h3
      case land => exact gs_land IH CX RL hdg h3
      case lor => exact gs_lor IH CX RL hdg h3
      case lxor => exact gs_lxor IH CX RL hdg h3
      case lneg => exact gs_lneg IH CX RL hdg h3
      case lshl => exact gs_lshl IH CX RL hdg h3
      case lshr => exact gs_lshr IH CX RL hdg h3
      case lushr => exact gs_lushr IH CX RL hdg h3
      case lcmp => exact gs_lcmp IH CX RL hdg h3
      case dup => exact gs_dup IH CX RL hdg h3
      case dup2 => exact gs_dup2 IH CX RL hdg h3
      case pop => exact gs_pop IH CX RL hdg h3
      case iaload => exact gs_iaload IH CX RL hdg h3
      case baload => exact gs_baload IH CX RL hdg h3
      case laload => exact gs_laload IH CX RL hdg h3
      case aaload => exact gs_aaload IH CX RL hdg h3
      case iastore => exact gs_iastore IH CX RL hdg h3
      case bastore => exact gs_bastore IH CX RL hdg h3
      case lastore => exact gs_lastore IH CX RL hdg h3
      case aastore => exact gs_aastore IH CX RL hdg h3
      case arraylength => exact gs_arraylength IH CX RL hdg h3
      case ifCond q off => exact gs_ifCond IH CX RL (gg_off hd (Or.inl ⟨q, rfl⟩)) hdg h3
      case if_icmp q off => exact gs_if_icmp IH CX RL (gg_off hd (Or.inr ⟨q, rfl⟩)) hdg h3
      case tableswitch a b2 c2 v => exact gs_tableswitch IH CX RL hdg h3
      case new ix =>
        obtain ⟨rfl, h4⟩ := gq_ok h3
        cases ht : gg_thr k pc (.new ix) with
        | none => exact gs_new IH CX RL ht hdg h3
        | some E =>
          rw [ht] at h4
          obtain ⟨h5, h6⟩ := gif_ok h4
          exact KT pc ix E L st w H locs cells slots ls hd ht h5 (Option.some.inj h6).symm RL
      case invokespecial ix =>
        obtain ⟨rfl, h4⟩ := gq_ok h3
        split at h4
        · rename_i y ns hlm
          split at h4
          · rename_i hy
            obtain ⟨x, r, rfl, h5⟩ := gpR_ok h4
            obtain ⟨h6, h7⟩ := gif_ok h5
            exact gs_objinit IH CX RL ((gg_lm_ok hlm).2.2.2.1 hy) hdg h6 h7
          · rename_i hy
            obtain ⟨h5, h6⟩ := gif_ok h4
            exact gs_call IH CX RL KO hdt htab hC hlm h5 ⟨by intro z; subst z; exact absurd h5 (by decide), by intro z; subst z; exact absurd h5 (by decide), by intro z; subst z; exact absurd h5 (by decide), hy⟩ hdg h6
        · cases h4
      case invokevirtual ix =>
        obtain ⟨rfl, h4⟩ := gq_ok h3
        split at h4
        · rename_i y ns hlm
          obtain ⟨h5, h6⟩ := gif_ok h4
          exact gs_call IH CX RL KO hdt htab hC hlm h5 ⟨by intro z; subst z; exact absurd h5 (by decide), by intro z; subst z; exact absurd h5 (by decide), by intro z; subst z; exact absurd h5 (by decide), by intro z; subst z; exact absurd h5 (by decide)⟩ hdg h6
        · cases h4
      case invokestatic ix =>
        obtain ⟨rfl, h4⟩ := gq_ok h3
        split at h4
        · rename_i y ns hlm
          split at h4
          · rename_i hy
            obtain ⟨yb, r1, rfl, h5⟩ := gpI_ok h4
            obtain ⟨xa, r, rfl, h6⟩ := gpI_ok h5
            obtain ⟨h7, h8⟩ := gif_ok h6
            exact gs_min IH CX RL ((gg_lm_ok hlm).1 hy) hdg h7 h8
          · rename_i hy0
            split at h4
            · rename_i hy
              obtain ⟨yb, r1, rfl, h5⟩ := gpI_ok h4
              obtain ⟨xa, r, rfl, h6⟩ := gpI_ok h5
              obtain ⟨h7, h8⟩ := gif_ok h6
              exact gs_max IH CX RL ((gg_lm_ok hlm).2.1 hy) hdg h7 h8
            · rename_i hy1
              split at h4
              · rename_i hy
                exact gs_copy IH CX RL ((gg_lm_ok hlm).2.2.1 hy) hdg h4
              · rename_i hy2
                obtain ⟨h5, h6⟩ := gif_ok h4
                exact gs_call IH CX RL KO hdt htab hC hlm h5 ⟨hy0, hy1, hy2, by intro z; subst z; exact absurd h5 (by decide)⟩ hdg h6
        · cases h4
      case ireturn =>
        obtain ⟨rfl, h4⟩ := gq_ok h3
        split at h4
        · rename_i x
          obtain ⟨h5, h6⟩ := gif_ok h4
          exact KR pc _ L _ w H locs cells slots ls hd (Or.inl ⟨x, rfl, rfl, h5, (Option.some.inj h6).symm⟩) RL
        · cases h4
      case lreturn =>
        obtain ⟨rfl, h4⟩ := gq_ok h3
        split at h4
        · rename_i x
          obtain ⟨h5, h6⟩ := gif_ok h4
          exact KR pc _ L _ w H locs cells slots ls hd (Or.inr (Or.inl ⟨x, rfl, rfl, h5, (Option.some.inj h6).symm⟩)) RL
        · cases h4
      case areturn =>
        obtain ⟨rfl, h4⟩ := gq_ok h3
        split at h4
        · rename_i x
          obtain ⟨h5, h6⟩ := gif_ok h4
          exact KR pc _ L _ w H locs cells slots ls hd (Or.inr (Or.inr (Or.inl ⟨x, rfl, rfl, h5, (Option.some.inj h6).symm⟩))) RL
        · cases h4
      case return_ =>
        obtain ⟨rfl, h4⟩ := gq_ok h3
        split at h4
        · obtain ⟨h5, h6⟩ := gif_ok h4
          exact KR pc _ L _ w H locs cells slots ls hd (Or.inr (Or.inr (Or.inr ⟨rfl, rfl, h5, (Option.some.inj h6).symm⟩))) RL
        · cases h4
      all_goals (exact absurd h3 (by intro z; cases z))
end GW
