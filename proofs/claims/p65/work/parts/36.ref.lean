/-! the world behind the constructors; references; rules that need them -/
def gr (a : Nat) : gg_V := (2, (a : Int))
def gtx (i : Nat) : gg_V := (4, (i : Int))
def gby (i : Nat) : gg_V := (8, (i : Int))
/-- an object of ours of a class -/
def gs_o (a c : Nat) : Prop := 1 ≤ a ∧ a < 142 ∧ gg_sh a = (0, 0, c)
/-- an array of ours: its kind, its length -/
def gs_a (a kd n : Nat) : Prop := 1 ≤ a ∧ a < 142 ∧ (gg_sh a).1 = kd ∧ (gg_sh a).2.1 = n
def gs_Gb (g : Nat) : Bool := [2, 9, 18, 25, 32, 39, 46, 53, 60, 67, 128, 135].contains g
def gs_Pb (p : Nat) : Bool := [79, 87, 90, 93, 96, 99, 102, 105, 108, 111, 114, 117, 120, 123].contains p
/-- a graph; parts -/
def gs_G (g : Nat) : Prop := gs_Gb g = true
def gs_P (p : Nat) : Prop := gs_Pb p = true
theorem gs_Gall {P : Nat → Bool} (h : ∀ g ∈ [2, 9, 18, 25, 32, 39, 46, 53, 60, 67, 128, 135], P g = true) {g : Nat} (hg : gs_G g) : P g = true := h g (List.contains_iff_mem.mp hg)
theorem gs_Pall {P : Nat → Bool} (h : ∀ g ∈ [79, 87, 90, 93, 96, 99, 102, 105, 108, 111, 114, 117, 120, 123], P g = true) {g : Nat} (hg : gs_P g) : P g = true := h g (List.contains_iff_mem.mp hg)
def gs_ob (a c : Nat) : Bool := decide (1 ≤ a ∧ a < 142 ∧ gg_sh a = (0, 0, c))
def gs_ab (a kd n : Nat) : Bool := decide (1 ≤ a ∧ a < 142 ∧ (gg_sh a).1 = kd ∧ (gg_sh a).2.1 = n)
theorem gs_ob_ok {a c : Nat} (h : gs_ob a c = true) : gs_o a c := of_decide_eq_true (p := 1 ≤ a ∧ a < 142 ∧ gg_sh a = (0, 0, c)) h
theorem gs_ab_ok {a kd n : Nat} (h : gs_ab a kd n = true) : gs_a a kd n := of_decide_eq_true (p := 1 ≤ a ∧ a < 142 ∧ (gg_sh a).1 = kd ∧ (gg_sh a).2.1 = n) h
theorem gs_Go {g : Nat} (h : gs_G g) : gs_o g 0 := gs_ob_ok (gs_Gall (P := fun g => gs_ob g 0) (by decide +kernel) h)
theorem gs_Po {g : Nat} (h : gs_P g) : gs_o g 2 := gs_ob_ok (gs_Pall (P := fun g => gs_ob g 2) (by decide +kernel) h)
theorem gs_G1 {g : Nat} (h : gs_G g) : gs_a (g + 1) 1 12 := gs_ab_ok (gs_Gall (P := fun g => gs_ab (g + 1) 1 12) (by decide +kernel) h)
theorem gs_G2 {g : Nat} (h : gs_G g) : gs_a (g + 2) 1 12 := gs_ab_ok (gs_Gall (P := fun g => gs_ab (g + 2) 1 12) (by decide +kernel) h)
theorem gs_G3 {g : Nat} (h : gs_G g) : gs_a (g + 3) 1 12 := gs_ab_ok (gs_Gall (P := fun g => gs_ab (g + 3) 1 12) (by decide +kernel) h)
theorem gs_G4 {g : Nat} (h : gs_G g) : gs_a (g + 4) 1 12 := gs_ab_ok (gs_Gall (P := fun g => gs_ab (g + 4) 1 12) (by decide +kernel) h)
theorem gs_G5 {g : Nat} (h : gs_G g) : gs_a (g + 5) 1 8 := gs_ab_ok (gs_Gall (P := fun g => gs_ab (g + 5) 1 8) (by decide +kernel) h)
theorem gs_G6 {g : Nat} (h : gs_G g) : gs_a (g + 6) 1 4 := gs_ab_ok (gs_Gall (P := fun g => gs_ab (g + 6) 1 4) (by decide +kernel) h)
theorem gs_P1 {g : Nat} (h : gs_P g) : gs_a (g + 1) 1 8 := gs_ab_ok (gs_Pall (P := fun g => gs_ab (g + 1) 1 8) (by decide +kernel) h)
theorem gs_P2 {g : Nat} (h : gs_P g) : gs_a (g + 2) 1 8 := gs_ab_ok (gs_Pall (P := fun g => gs_ab (g + 2) 1 8) (by decide +kernel) h)
theorem gs_GR {g i : Nat} (h : gs_G g) (hi : i < 6) : gk_R g (5 + i) = ((g + 1 + i : Nat) : Int) := by
  have h2 : ∀ i : Fin 6, (gk_rt.contains (g, 5 + i.1, ((g + 1 + i.1 : Nat) : Int))) = true := by
    intro i
    exact gs_Gall (P := fun g => gk_rt.contains (g, 5 + i.1, ((g + 1 + i.1 : Nat) : Int))) (by revert i; decide +kernel) h
  exact gk_R_ok (h2 ⟨i, hi⟩)
theorem gs_PR {g i : Nat} (h : gs_P g) (hi : i < 2) : gk_R g i = ((g + 1 + i : Nat) : Int) := by
  have h2 : ∀ i : Fin 2, (gk_rt.contains (g, i.1, ((g + 1 + i.1 : Nat) : Int))) = true := by
    intro i
    exact gs_Pall (P := fun g => gk_rt.contains (g, i.1, ((g + 1 + i.1 : Nat) : Int))) (by revert i; decide +kernel) h
  exact gk_R_ok (h2 ⟨i, hi⟩)
theorem gs_r17 {i : Nat} (hi : i < 8) : gk_R 17 i = ((18 + 7 * i : Nat) : Int) := gk_R_ok ((by decide +kernel : ∀ i : Fin 8, gk_rt.contains (17, i.1, ((18 + 7 * i.1 : Nat) : Int)) = true) ⟨i, hi⟩)
theorem gs_r82 {i : Nat} (hi : i < 13) : gk_R 82 i = ((87 + 3 * i : Nat) : Int) := gk_R_ok ((by decide +kernel : ∀ i : Fin 13, gk_rt.contains (82, i.1, ((87 + 3 * i.1 : Nat) : Int)) = true) ⟨i, hi⟩)
theorem gs_g17 {i : Nat} (hi : i < 8) : gs_G (18 + 7 * i) := (by decide +kernel : ∀ i : Fin 8, gs_Gb (18 + 7 * i.1) = true) ⟨i, hi⟩
theorem gs_p82 {i : Nat} (hi : i < 13) : gs_P (87 + 3 * i) := (by decide +kernel : ∀ i : Fin 13, gs_Pb (87 + 3 * i.1) = true) ⟨i, hi⟩
section WS
variable {N : Nat} {xs : Nat → Int32} {d k pc : Nat} {L st : List gg_V} {R M : gg_M} {cc cs : Nat} {Q : gg_O → Prop}
theorem gk_z {a n : Int} (h0 : 0 ≤ a) (h1 : a ≤ 2147483647) : gg_k a = a.toNat := io_k_r ⟨by omega, by omega⟩
theorem wr_getI {ix ci p t a : Nat} (hd : gg_dt k pc = some (.getfield ix, 3)) (hf : gg_lf (gg_mt k).1 ix = some (ci, p, t)) (ht : t ≠ 2) (h : gs_o a ci) : wp N xs d k pc L (gr a :: st) (R, M, 142, cc, cs) Q ↔ wp N xs d k (pc + 3) L ((0, M a p) :: st) (R, M, 142, cc, cs) Q := by
  refine wp_eq hd fun f => ?_
  show gg_q 3 3 (gg_get (gg_mt k).1 ix ((2, Int.ofNat a) :: st) (R, M, 142, cc, cs) _) = _
  unfold gg_get gg_q
  rw [if_pos rfl]
  simp only [hf]
  rw [if_pos (show 1 ≤ a ∧ a < 142 ∧ gg_sh a = (0, 0, ci) from h)]
  unfold gg_rd
  rw [if_neg ht]
theorem wr_getR {ix ci p a b : Nat} (hd : gg_dt k pc = some (.getfield ix, 3)) (hf : gg_lf (gg_mt k).1 ix = some (ci, p, 2)) (h : gs_o a ci) (hR : R a p = (b : Int)) : wp N xs d k pc L (gr a :: st) (R, M, 142, cc, cs) Q ↔ wp N xs d k (pc + 3) L (gr b :: st) (R, M, 142, cc, cs) Q := by
  refine wp_eq hd fun f => ?_
  show gg_q 3 3 (gg_get (gg_mt k).1 ix ((2, Int.ofNat a) :: st) (R, M, 142, cc, cs) _) = _
  unfold gg_get gg_q
  rw [if_pos rfl]
  simp only [hf]
  rw [if_pos (show 1 ≤ a ∧ a < 142 ∧ gg_sh a = (0, 0, ci) from h)]
  unfold gg_rd
  rw [if_pos rfl]
  show gg_ex N xs f d k (pc + 3) L ((2, R a p) :: st) (R, M, 142, cc, cs) = _
  rw [hR]
  rfl
theorem wr_putI {ix ci p a : Nat} {v : Int} (hd : gg_dt k pc = some (.putfield ix, 3)) (hf : gg_lf (gg_mt k).1 ix = some (ci, p, 0)) (h : gs_o a ci) : wp N xs d k pc L ((0, v) :: gr a :: st) (R, M, 142, cc, cs) Q ↔ wp N xs d k (pc + 3) L st (R, gg_up M a p v, 142, cc, cs) Q := by
  refine wp_eq hd fun f => ?_
  show gg_q 3 3 (gg_put (gg_mt k).1 (gg_mt k).2.1 ix ((0, v) :: (2, Int.ofNat a) :: st) (R, M, 142, cc, cs) _) = _
  unfold gg_put gg_q
  rw [if_pos rfl]
  simp only [hf]
  rw [if_pos (show 1 ≤ a ∧ a < 142 ∧ gg_sh a = (0, 0, ci) from h), if_pos ⟨trivial, trivial⟩]
theorem wr_putB {ix ci p a : Nat} {v : Int} (hd : gg_dt k pc = some (.putfield ix, 3)) (hf : gg_lf (gg_mt k).1 ix = some (ci, p, 1)) (h : gs_o a ci) (hv : v = 0 ∨ v = 1) : wp N xs d k pc L ((0, v) :: gr a :: st) (R, M, 142, cc, cs) Q ↔ wp N xs d k (pc + 3) L st (R, gg_up M a p v, 142, cc, cs) Q := by
  refine wp_eq hd fun f => ?_
  show gg_q 3 3 (gg_put (gg_mt k).1 (gg_mt k).2.1 ix ((0, v) :: (2, Int.ofNat a) :: st) (R, M, 142, cc, cs) _) = _
  unfold gg_put gg_q
  rw [if_pos rfl]
  simp only [hf]
  rw [if_pos (show 1 ≤ a ∧ a < 142 ∧ gg_sh a = (0, 0, ci) from h), if_neg (by decide), if_pos ⟨trivial, trivial, hv⟩]
theorem gs_in {a kd n : Nat} {i : Int} (h : gs_a a kd n) (h0 : 0 ≤ i) (h1 : i < n) (hn : n ≤ 100000) : gg_in i (gg_sh a).2.1 = true := by
  refine io_in_r ⟨by omega, by omega⟩ h0 ?_
  rw [h.2.2.2]
  exact h1
theorem wr_iald {a n : Nat} {i : Int} (hd : gg_dt k pc = some (.iaload, 1)) (h : gs_a a 1 n) (hn : n ≤ 100000) (h0 : 0 ≤ i) (h1 : i < n) : wp N xs d k pc L ((0, i) :: gr a :: st) (R, M, 142, cc, cs) Q ↔ wp N xs d k (pc + 1) L ((0, M a i.toNat) :: st) (R, M, 142, cc, cs) Q := by
  refine wp_eq hd fun f => ?_
  show gg_q 1 1 (if a = 0 then _ else if a < 142 ∧ (gg_sh a).1 = 1 ∧ gg_in i (gg_sh a).2.1 = true then _ else none) = _
  unfold gg_q
  rw [if_pos rfl, if_neg (by have := h.1; omega), if_pos ⟨h.2.1, h.2.2.1, gs_in h h0 h1 hn⟩, gk_z (n := 0) h0 (by omega)]
  rfl
theorem wr_bald3 {a n : Nat} {i : Int} (hd : gg_dt k pc = some (.baload, 1)) (h : gs_a a 3 n) (hn : n ≤ 100000) (h0 : 0 ≤ i) (h1 : i < n) : wp N xs d k pc L ((0, i) :: gr a :: st) (R, M, 142, cc, cs) Q ↔ wp N xs d k (pc + 1) L ((0, M a i.toNat) :: st) (R, M, 142, cc, cs) Q := by
  refine wp_eq hd fun f => ?_
  show gg_q 1 1 (if (gg_sh a).1 = 2 then _ else (if a = 0 then _ else if a < 142 ∧ (gg_sh a).1 = 3 ∧ gg_in i (gg_sh a).2.1 = true then _ else none)) = _
  unfold gg_q
  rw [if_pos rfl, if_neg (by rw [h.2.2.1]; decide), if_neg (by have := h.1; omega), if_pos ⟨h.2.1, h.2.2.1, gs_in h h0 h1 hn⟩, gk_z (n := 0) h0 (by omega)]
  rfl
theorem wr_aald {a n b : Nat} {i : Int} (hd : gg_dt k pc = some (.aaload, 1)) (h : gs_a a 5 n) (hn : n ≤ 100000) (h0 : 0 ≤ i) (h1 : i < n) (hR : R a i.toNat = (b : Int)) : wp N xs d k pc L ((0, i) :: gr a :: st) (R, M, 142, cc, cs) Q ↔ wp N xs d k (pc + 1) L (gr b :: st) (R, M, 142, cc, cs) Q := by
  refine wp_eq hd fun f => ?_
  show gg_q 1 1 (if a = 0 then _ else if a < 142 ∧ (gg_sh a).1 = 5 ∧ gg_in i (gg_sh a).2.1 = true then _ else none) = _
  unfold gg_q
  rw [if_pos rfl, if_neg (by have := h.1; omega), if_pos ⟨h.2.1, h.2.2.1, gs_in h h0 h1 hn⟩, gk_z (n := 0) h0 (by omega)]
  show gg_ex N xs f d k (pc + 1) L ((2, R a i.toNat) :: st) (R, M, 142, cc, cs) = _
  rw [hR]
  rfl
theorem wr_iast {a n : Nat} {i v : Int} (hd : gg_dt k pc = some (.iastore, 1)) (h : gs_a a 1 n) (hn : n ≤ 100000) (h0 : 0 ≤ i) (h1 : i < n) : wp N xs d k pc L ((0, v) :: (0, i) :: gr a :: st) (R, M, 142, cc, cs) Q ↔ wp N xs d k (pc + 1) L st (R, gg_up M a i.toNat v, 142, cc, cs) Q := by
  refine wp_eq hd fun f => ?_
  show gg_q 1 1 (if 1 ≤ a ∧ a < 142 ∧ 0 = 0 ∧ (gg_sh a).1 = 1 ∧ gg_in i (gg_sh a).2.1 = true ∧ (1 = 2 → v = 0 ∨ v = 1) then _ else none) = _
  unfold gg_q
  rw [if_pos rfl, if_pos ⟨h.1, h.2.1, rfl, h.2.2.1, gs_in h h0 h1 hn, fun h => by cases h⟩, gk_z (n := 0) h0 (by omega), if_neg (by decide)]
theorem wr_bast3 {a n : Nat} {i v : Int} (hd : gg_dt k pc = some (.bastore, 1)) (h : gs_a a 3 n) (hn : n ≤ 100000) (h0 : 0 ≤ i) (h1 : i < n) : wp N xs d k pc L ((0, v) :: (0, i) :: gr a :: st) (R, M, 142, cc, cs) Q ↔ wp N xs d k (pc + 1) L st (R, gg_up M a i.toNat (io_i2b v), 142, cc, cs) Q := by
  refine wp_eq hd fun f => ?_
  show gg_q 1 1 (if (gg_sh a).1 = 2 then _ else (if 1 ≤ a ∧ a < 142 ∧ 0 = 0 ∧ (gg_sh a).1 = 3 ∧ gg_in i (gg_sh a).2.1 = true ∧ (3 = 2 → v = 0 ∨ v = 1) then _ else none)) = _
  unfold gg_q
  rw [if_pos rfl, if_neg (by rw [h.2.2.1]; decide), if_pos ⟨h.1, h.2.1, rfl, h.2.2.1, gs_in h h0 h1 hn, fun h => by cases h⟩, gk_z (n := 0) h0 (by omega), if_pos rfl]
/-- what a comparison says -/
def gg_cp (c : ClassFile.Cond) (a b : Int) : Prop := match c with
  | .eq => a = b
  | .ne => ¬ a = b
  | .lt => a < b
  | .ge => ¬ a < b
  | .gt => b < a
  | .le => ¬ b < a
theorem gg_cp_ok {c : ClassFile.Cond} {a b : Int} (ha : -2147483648 ≤ a) (ha2 : a ≤ 2147483647) (hb : -2147483648 ≤ b) (hb2 : b ≤ 2147483647) : gg_cond c a b = true ↔ gg_cp c a b := by
  have Ha : io_r a := ⟨ha, by omega⟩
  have Hb : io_r b := ⟨hb, by omega⟩
  cases c <;> simp [gg_cond, gg_cp, ic_eq_r, ic_lt_r, Ha, Hb]
theorem wr_if1 {c : ClassFile.Cond} {off : Int} {t : Nat} {a : Int} (hd : gg_dt k pc = some (.ifCond c off, 3)) (ht : (pc : Int) + off = Int.ofNat t) (ha : -2147483648 ≤ a) (ha2 : a ≤ 2147483647) : wp N xs d k pc L ((0, a) :: st) (R, M, 142, cc, cs) Q ↔ ((gg_cp c a 0 → wp N xs d k t L st (R, M, 142, cc, cs) Q) ∧ (¬ gg_cp c a 0 → wp N xs d k (pc + 3) L st (R, M, 142, cc, cs) Q)) := by
  have e : ∀ f, gg_step (gg_ex N xs f) N xs d k pc L ((0, a) :: st) (R, M, 142, cc, cs) (.ifCond c off) 3 = if gg_cond c a 0 = true then gg_ex N xs f d k t L st (R, M, 142, cc, cs) else gg_ex N xs f d k (pc + 3) L st (R, M, 142, cc, cs) := by
    intro f
    show gg_q 3 3 (if gg_cond c a 0 = true then gg_tgt pc off _ else _) = _
    unfold gg_q gg_tgt
    rw [if_pos rfl, ht]
  rw [wp_br hd e]
  have h := gg_cp_ok (c := c) ha ha2 (b := 0) (by decide) (by decide)
  by_cases hc : gg_cp c a 0
  · rw [if_pos (h.2 hc)]
    exact ⟨fun x => ⟨fun _ => x, fun y => absurd hc y⟩, fun x => x.1 hc⟩
  · rw [if_neg (fun x => hc (h.1 x))]
    exact ⟨fun x => ⟨fun y => absurd y hc, fun _ => x⟩, fun x => x.2 hc⟩
theorem wr_if2 {c : ClassFile.Cond} {off : Int} {t : Nat} {a b : Int} (hd : gg_dt k pc = some (.if_icmp c off, 3)) (ht : (pc : Int) + off = Int.ofNat t) (ha : -2147483648 ≤ a) (ha2 : a ≤ 2147483647) (hb : -2147483648 ≤ b) (hb2 : b ≤ 2147483647) : wp N xs d k pc L ((0, b) :: (0, a) :: st) (R, M, 142, cc, cs) Q ↔ ((gg_cp c a b → wp N xs d k t L st (R, M, 142, cc, cs) Q) ∧ (¬ gg_cp c a b → wp N xs d k (pc + 3) L st (R, M, 142, cc, cs) Q)) := by
  have e : ∀ f, gg_step (gg_ex N xs f) N xs d k pc L ((0, b) :: (0, a) :: st) (R, M, 142, cc, cs) (.if_icmp c off) 3 = if gg_cond c a b = true then gg_ex N xs f d k t L st (R, M, 142, cc, cs) else gg_ex N xs f d k (pc + 3) L st (R, M, 142, cc, cs) := by
    intro f
    show gg_q 3 3 (if gg_cond c a b = true then gg_tgt pc off _ else _) = _
    unfold gg_q gg_tgt
    rw [if_pos rfl, ht]
  rw [wp_br hd e]
  have h := gg_cp_ok (c := c) ha ha2 hb hb2
  by_cases hc : gg_cp c a b
  · rw [if_pos (h.2 hc)]
    exact ⟨fun x => ⟨fun _ => x, fun y => absurd hc y⟩, fun x => x.1 hc⟩
  · rw [if_neg (fun x => hc (h.1 x))]
    exact ⟨fun x => ⟨fun y => absurd y hc, fun _ => x⟩, fun x => x.2 hc⟩
theorem wr_rem {a b : Int} (hd : gg_dt k pc = some (.irem, 1)) (hb : 1 ≤ b) (hb2 : b ≤ 2147483647) (ha : -2147483648 ≤ a) (ha2 : a ≤ 2147483647) {w : gg_W} : wp N xs d k pc L ((0, b) :: (0, a) :: st) w Q ↔ wp N xs d k (pc + 1) L ((0, a.tmod b) :: st) w Q := by
  refine wp_eq hd fun f => ?_
  show gg_q 1 1 (if gg_i b = 0 then none else gg_ex N xs f d k (pc + 1) L ((0, io_rem a b) :: st) w) = _
  unfold gg_q
  rw [if_pos rfl, if_neg (io_i0 ⟨by omega, by omega⟩ (by omega)), io_rem_r ⟨by omega, by omega⟩ ⟨by omega, by omega⟩ (by omega)]
theorem wr_copy {ix b1 n a b : Nat} {na nb : Nat} (hd : gg_dt k pc = some (.invokestatic ix, 3)) (hf : gg_lm (gg_mt k).1 ix = some (1002, b1)) (ha : gs_a a 1 na) (hb : gs_a b 1 nb) (hn : n ≤ na) (hn2 : n ≤ nb) (hl : n ≤ 100) (hab : a ≠ b) (hst : (st.map gg_cat).sum ≤ 8) : wp N xs d k pc L ((0, (n : Int)) :: (0, 0) :: gr b :: (0, 0) :: gr a :: st) (R, M, 142, cc, cs) Q ↔ wp N xs d k (pc + 3) L st (R, gg_cpy M a 0 b 0 n, 142, cc, cs) Q := by
  refine wp_eq hd fun f => ?_
  show gg_q 3 3 (match gg_lm (gg_mt k).1 ix with
    | some (y, _) => _
    | none => none) = _
  rw [hf]
  unfold gg_q
  rw [if_pos rfl]
  show (if (1002 : Nat) = 1000 then _ else if (1002 : Nat) = 1001 then _ else if (1002 : Nat) = 1002 then gg_copy ((0, (n : Int)) :: (0, 0) :: (2, Int.ofNat b) :: (0, 0) :: (2, Int.ofNat a) :: st) (R, M, 142, cc, cs) (fun st w => gg_ex N xs f d k (pc + 3) L st w) else _) = _
  rw [if_neg (by decide), if_neg (by decide), if_pos rfl]
  have z0 : gg_k 0 = 0 := by decide +kernel
  have zn : gg_k (n : Int) = n := by rw [gk_z (n := 0) (by omega) (by omega)]; rfl
  have hz : ¬ gg_i 0 < 0 := by decide +kernel
  have hzn : ¬ gg_i (n : Int) < 0 := by
    intro h
    have h2 := Int32.lt_iff_toInt_lt.mp h
    rw [io_r_i ⟨by omega, by omega⟩] at h2
    have h3 : (0 : Int32).toInt = 0 := rfl
    omega
  show (if 1 ≤ a ∧ a < 142 ∧ 1 ≤ b ∧ b < 142 ∧ (gg_sh a).1 = 1 ∧ (gg_sh b).1 = 1 ∧ ¬ gg_i 0 < 0 ∧ ¬ gg_i 0 < 0 ∧ ¬ gg_i (n : Int) < 0 ∧ gg_k 0 + gg_k (n : Int) ≤ (gg_sh a).2.1 ∧ gg_k 0 + gg_k (n : Int) ≤ (gg_sh b).2.1 ∧ a ≠ b ∧ (st.map gg_cat).sum ≤ 8 then gg_ex N xs f d k (pc + 3) L st (R, gg_cpy M a (gg_k 0) b (gg_k 0) (gg_k (n : Int)), 142, cc, cs) else none) = _
  rw [if_pos ⟨ha.1, ha.2.1, hb.1, hb.2.1, ha.2.2.1, hb.2.2.1, hz, hz, hzn, by rw [z0, zn, ha.2.2.2]; omega, by rw [z0, zn, hb.2.2.2]; omega, hab, hst⟩, z0, zn]
theorem wr_mm {ix b1 y : Nat} {a b : Int} (hd : gg_dt k pc = some (.invokestatic ix, 3)) (hf : gg_lm (gg_mt k).1 ix = some (y, b1)) (hst : (st.map gg_cat).sum ≤ 8) (ha : -2147483648 ≤ a) (ha2 : a ≤ 2147483647) (hb : -2147483648 ≤ b) (hb2 : b ≤ 2147483647) {w : gg_W} :
    (y = 1000 → (wp N xs d k pc L ((0, b) :: (0, a) :: st) w Q ↔ wp N xs d k (pc + 3) L ((0, if a ≤ b then a else b) :: st) w Q)) ∧ (y = 1001 → (wp N xs d k pc L ((0, b) :: (0, a) :: st) w Q ↔ wp N xs d k (pc + 3) L ((0, if a ≤ b then b else a) :: st) w Q)) := by
  have hle : gg_i a ≤ gg_i b ↔ a ≤ b := by
    rw [Int32.le_iff_toInt_le, io_r_i ⟨by omega, by omega⟩, io_r_i ⟨by omega, by omega⟩]
  constructor
  · rintro rfl
    refine wp_eq hd fun f => ?_
    show gg_q 3 3 (match gg_lm (gg_mt k).1 ix with
      | some (y, _) => _
      | none => none) = _
    rw [hf]
    unfold gg_q
    rw [if_pos rfl]
    show (if (1000 : Nat) = 1000 then (if (st.map gg_cat).sum ≤ 8 then gg_ex N xs f d k (pc + 3) L ((0, if gg_i a ≤ gg_i b then a else b) :: st) w else none) else _) = _
    rw [if_pos rfl, if_pos hst]
    simp only [hle]
  · rintro rfl
    refine wp_eq hd fun f => ?_
    show gg_q 3 3 (match gg_lm (gg_mt k).1 ix with
      | some (y, _) => _
      | none => none) = _
    rw [hf]
    unfold gg_q
    rw [if_pos rfl]
    show (if (1001 : Nat) = 1000 then _ else if (1001 : Nat) = 1001 then (if (st.map gg_cat).sum ≤ 8 then gg_ex N xs f d k (pc + 3) L ((0, if gg_i a ≤ gg_i b then b else a) :: st) w else none) else _) = _
    rw [if_neg (by decide), if_pos rfl, if_pos hst]
    simp only [hle]
end WS
