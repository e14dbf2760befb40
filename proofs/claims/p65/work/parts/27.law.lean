/-! THE CLAIM OUT OF ONE WALK OF THE LAW'S BODY. Your part is whole_start (and what it stands on); all else here is the same for every law, but numbers. -/
def R_law : String := "GainGraphsLaw"
def lw_P (b : Addr) (xs : List Int32) (args : Array Value) (s : State) : Prop := args = #[.ref b] ∧ s.IntsAt b xs ∧ xs.length ≤ 260 ∧ (Jvm.Cond.and given_1 narrow_1).before args s = true
def lw_Q (_ : Array Value) (s : State) (o : Outcome) (t : State) : Prop := o = .returned (some (.int 1)) ∧ Framed s o t [] 600104 7301314
def lw_Z (below : List Frame) (a : Array Value) (s : State) : State → Prop := fun t => ∃ o, t.status = .running ∧ Ended t below o ∧ lw_Q a s o t
/-- the law's own end, with 1 on the stack, nothing written that was there before, its room as the claim has it -/
theorem lw_ret {p : Program} {l : Launch} {e : Env} {s : State} {m : MethodId} {below : List Frame} {meth : Method} {c : Code} {b : Nat} (hx : p.tables.exec = Jvm.exec) (hb : c.code = code) (hr : meth.sig.returnType = ret) (hlocks : meth.locks = false) {pc : Nat} {H : Heap} {ls : Array Slot} (hdg : decode code pc = .ok (.ireturn, 1)) : W p l e room_1 s m #[Value.ref b] below meth c H [] 600104 7301314 (lw_Z below #[Value.ref b] s) (F0 m pc ls [.int 1]) := by
  intro T hT X
  obtain ⟨fs, hret, hrun, hended, hW, hframe⟩ := X.leave (v := some (.int 1)) (hlocks := hlocks) (fun h => by rw [hr] at h; cases h)
  have hmeth' : T.vm.method? m = some meth := X.method'
  refine ⟨T.setFrames fs, ?_, .returned (some (.int 1)), hrun, hended, rfl, ⟨_, rfl⟩, hW, hframe⟩
  jvm_step X.here [X.here.top, hx, hb, hdg, hmeth', hr, ret, narrow_b1]
  (try refine ⟨rfl, ?_⟩); (try refine ⟨rfl, ?_⟩)
  first | (intro acts; rw [hret _ acts rfl rfl rfl]) | rw [hret _ _ rfl rfl rfl]
  exact Steps.refl _
/-- what holds at the law's entry: the machine, the code, the tables' words (any of lw_tbl by 'hts w (by decide +kernel)'), the script of L ints xs at the cell b, what the Statement gives of the start (any of its parts by flat_of_before) -/
def lw_At (p : Program) (s : State) (m : MethodId) (meth : Method) (c : Code) (b L : Nat) (xs : Nat → Int32) : Prop :=
  p.tables.exec = Jvm.exec ∧ c.code = code ∧ meth.sig.returnType = ret ∧ c.maxLocals = 8 ∧ s.vm.findClass R_law = some m.cls ∧ (∀ w ∈ lw_tbl, w.before #[Value.ref b] s = true) ∧ va_X b L xs s s.heap ∧ b < s.heap.size ∧ meth.locks = false ∧ (Jvm.Cond.and given_1 narrow_1).before #[Value.ref b] s = true
/-! the law's own walk, out of the interpreter's run -/
def gy_pw : gy_W := (fun _ => (9, 0, 0), fun _ _ => (0, 0), 0, 0)
/-- WHAT IS LEFT: on every script of at most 2560 ints the interpreter's run of the law answers 1, within the room -/
def gy_Pure : Prop := ∀ (L : Nat) (xs : Nat → Int32), L ≤ 260 → ∃ (f : Nat) (w : gy_W), gy_ex L xs f 40 287 0 (gg_en 8 [(2, 0)]) [] gy_pw = some ((1, (0, 1)), w) ∧ w.2.2.1 ≤ 600104 ∧ w.2.2.2 ≤ 7301314
theorem gl_start (hPure : gy_Pure) (hdt : gg_Dec) {p : Program} {e : Env} {s : State} {m : MethodId} {below : List Frame} {meth : Method} {c : Code} (l : Launch) (hflags : l.flags = flags0) {b L : Nat} {xs : Nat → Int32} (hL : L ≤ 260) (C0 : lw_At p s m meth c b L xs) : W p l e room_1 s m #[Value.ref b] below meth c s.heap [] 0 0 (lw_Z below #[Value.ref b] s) (entryFrame m ([Value.ref b] : List Value).toArray 8) := by
  obtain ⟨hx, hb, hr, hml, hown, hts, hX, hbl, hlocks, hgv⟩ := id C0
  obtain ⟨D, cA, ad, opq, hE⟩ := gst_E hts hgv hX hbl
  obtain ⟨f, w, hex, hw1, hw2⟩ := hPure L xs hL
  have hfl : l.stackTraces = false := by
    unfold Launch.stackTraces
    rw [hflags]
    decide +kernel
  have hgw : ∀ w ∈ gg_gw, w.before #[Value.ref b] s = true := gst_gw hts
  have hk0 : gg_hd 287 = [] := by decide +kernel
  have hc8 : gg_c (gg_mt 287).1 = R_law := by decide +kernel
  have hkd : (gg_mt 287).2.1 = 1 := by decide +kernel
  have hbt : gg_bt 287 = code := rfl
  have hH : gy_H s.heap.size b D cA ad opq gy_pw s.heap := ⟨fun a ha => absurd rfl ha, rfl⟩
  have CX : gy_CX l s.heap.size b L xs D cA ad opq p room_1 s m #[Value.ref b] meth c 287 40 8 0 0 ((1, (0, 1)), w) :=
    ⟨⟨hx, by rw [hbt]; exact hb, hml, by rw [hc8]; exact hown, hgw⟩, hE, ⟨by decide, by decide, hw1, hw2⟩, fun h => by rw [hkd] at h; exact absurd h (by decide), hfl, Nat.le_refl _⟩
  have KO : gy_Ko l s.heap.size b L xs D cA ad opq p e room_1 s m #[Value.ref b] below meth c (lw_Z below #[Value.ref b] s) 287 0 0 ((1, (0, 1)), w) := by
    intro pc rest ls E ce q H locs cells slots h1 h2
    rcases h2 with ⟨-, h2⟩ | ⟨-, h2⟩ <;> cases h2
  have KT : gy_Kt l s.heap.size b L xs D cA ad opq p e room_1 s m #[Value.ref b] below meth c (lw_Z below #[Value.ref b] s) 287 8 0 0 ((1, (0, 1)), w) := by
    intro pc ix E L st w1 H locs cells slots ls h1 h2 h3 h4 RL
    obtain ⟨-, -, t3, -⟩ := gg_ckt_ok h1 h2
    have h5 : (1 : Nat) = E := congrArg (fun z : gy_O => z.1.1) h4
    omega
  have KR : gy_Kr l s.heap.size b L xs D cA ad opq p e room_1 s m #[Value.ref b] below meth c (lw_Z below #[Value.ref b] s) 287 8 0 0 ((1, (0, 1)), w) := by
    intro pc i L st w1 H locs cells slots ls h1 h2 RL
    obtain ⟨hL, hl, hH1, hS, hc, hs⟩ := id RL
    rcases h2 with ⟨x, rfl, rfl, h3, h4⟩ | ⟨x, rfl, rfl, h3, h4⟩ | ⟨v, rfl, rfl, hrr, h3, h4⟩ | ⟨rfl, rfl, h3, h4⟩
    · have hx1 : (1 : Int) = x := congrArg (fun z : gy_O => z.1.2.2) h4
      have hww : w = w1 := congrArg (fun z : gy_O => z.2) h4
      subst hx1
      subst hww
      refine va_forget (fun q hq => hS.2.2 q hq) ?_
      refine W.widen (k := 600104) (n := 7301314) (by omega) (by omega) ?_
      exact lw_ret hx hb hr hlocks (hdt 287 pc _ _ h1)
    · have h5 : (0 : Nat) = 1 := congrArg (fun z : gy_O => z.1.2.1) h4
      cases h5
    · have h5 : ((0 : Nat), (1 : Int)) = v := congrArg (fun z : gy_O => z.1.2) h4
      subst h5
      cases hrr
    · have h5 : (1 : Nat) = 0 := congrArg (fun z : gy_O => z.1.1) h4
      cases h5
  have hl := lv_entry ([.ref b]) (n := 8) (Nat.le_of_ble_eq_true rfl)
  rw [lg_entry_eq]
  exact gy_walk CX KO KT KR hdt (fun h => absurd hk0 h) f (fun f' _ => gy_ctAll hfl hdt f') 0 (gg_en 8 [(2, 0)]) [] gy_pw s.heap [] 0 0 _ hex ⟨rfl, ⟨hl.1, hl.2.1, fun q hq => hl.2.2 q (gg_en_mem (f := yv s.heap.size b ad opq) (yv_cat hE.2.2.2.2.2.2.1) 7 [(2, 0)] 0 q hq)⟩, hH, va_S.rf, rfl, rfl⟩
