/-! the law's Graph: what its objects hold; whose an object is (O) -/
/-- the law's arc a -/
def yA (w : gy_W) (a f t g x : Nat) (k : Bool) : Prop := w.1 a = (0, 0, 7) ∧ w.2.1 a 0 = (0, (f : Int)) ∧ w.2.1 a 1 = (0, (t : Int)) ∧ w.2.1 a 2 = (0, (g : Int)) ∧ w.2.1 a 3 = (0, (x : Int)) ∧ w.2.1 a 4 = (0, (k.toNat : Int))
/-- owned by g -/
def yO (w : gy_W) (O : Nat → Nat) (g x : Nat) : Prop := O x = g ∧ 141 < x ∧ x ≤ w.2.2.1
def yGx (w : gy_W) (O : Nat → Nat) (g : Nat) (G : q_G) (la ea lp ep t : Nat) (b : Nat → Nat) : Prop :=
  (w.1 g = (0, 0, 14) ∧ w.2.1 g 0 = (0, (qN G : Int)) ∧ w.2.1 g 1 = (0, (qM G : Int)) ∧ w.2.1 g 2 = (0, (qL G : Int)) ∧ w.2.1 g 3 = gr la ∧ w.2.1 g 4 = gr lp ∧ w.2.1 g 5 = gr t) ∧
  (yV w la ea (qK G) (fun a => gr (b a)) ∧ yV w lp ep (qN G) (fun v => (6, qP G v))) ∧ (w.1 t = (1, 4, 0) ∧ ∀ k, k < 4 → w.2.1 t k = (0, qO G k)) ∧
  (∀ a, a < qK G → yA w (b a) (qF G a) (qT G a) (qA G a) (qW G a) ((qS G).testBit a)) ∧ (∀ a c, a < qK G → c < qK G → b a = b c → a = c) ∧ (la ≠ lp ∧ la ≠ ep ∧ ea ≠ lp ∧ ea ≠ ep) ∧
  (yO w O g g ∧ yO w O g la ∧ yO w O g ea ∧ yO w O g lp ∧ yO w O g ep ∧ yO w O g t ∧ ∀ a, a < qK G → yO w O g (b a))
def yG (w : gy_W) (O : Nat → Nat) (g : Nat) (G : q_G) : Prop := ∃ la ea lp ep t b, yGx w O g G la ea lp ep t b
theorem yA.fr {P : Nat → Prop} {c s : Nat} {w w' : gy_W} {a f t g x : Nat} {k : Bool} (h : yA w a f t g x k) (hF : yF P c s w w') (ha : ¬ P a) (hl : a ≤ w.2.2.1) : yA w' a f t g x k := by
  unfold yA
  rw [hF.sh hl, hF.me hl ha]
  exact h
theorem yO.fr {P : Nat → Prop} {c s : Nat} {w w' : gy_W} {O O' : Nat → Nat} {g x : Nat} (h : yO w O g x) (hF : yF P c s w w') (hO : ∀ x, x ≤ w.2.2.1 → O x = g → O' x = g) : yO w' O' g x := by
  obtain ⟨h1, h2, h3⟩ := h
  have := hF.le
  exact ⟨hO x h3 h1, h2, by omega⟩
theorem yGx.fr {P : Nat → Prop} {c s : Nat} {w w' : gy_W} {O O' : Nat → Nat} {g : Nat} {G : q_G} {la ea lp ep t : Nat} {b : Nat → Nat} (h : yGx w O g G la ea lp ep t b) (hF : yF P c s w w') (hP : ∀ x, yO w O g x → ¬ P x) (hO : ∀ x, x ≤ w.2.2.1 → O x = g → O' x = g) : yGx w' O' g G la ea lp ep t b := by
  obtain ⟨⟨g0, g1, g2, g3, g4, g5, g6⟩, ⟨v1, v2⟩, ⟨t1, t2⟩, hA, hI, hD, o1, o2, o3, o4, o5, o6, o7⟩ := h
  have e0 := hF.sh o1.2.2
  have e1 := hF.me o1.2.2 (hP _ o1)
  have e2 := hF.sh o6.2.2
  have e3 := hF.me o6.2.2 (hP _ o6)
  refine ⟨⟨e0.trans g0, ?_, ?_, ?_, ?_, ?_, ?_⟩, ⟨v1.fr hF (hP _ o2) (hP _ o3), v2.fr hF (hP _ o4) (hP _ o5)⟩, ⟨e2.trans t1, fun k hk => by rw [e3]; exact t2 k hk⟩, fun a ha => (hA a ha).fr hF (hP _ (o7 a ha)) (o7 a ha).2.2, hI, hD, o1.fr hF hO, o2.fr hF hO, o3.fr hF hO, o4.fr hF hO, o5.fr hF hO, o6.fr hF hO, fun a ha => (o7 a ha).fr hF hO⟩
  all_goals (rw [e1]; assumption)
theorem yG.fr {P : Nat → Prop} {c s : Nat} {w w' : gy_W} {O O' : Nat → Nat} {g : Nat} {G : q_G} (h : yG w O g G) (hF : yF P c s w w') (hP : ∀ x, yO w O g x → ¬ P x) (hO : ∀ x, x ≤ w.2.2.1 → O x = g → O' x = g) : yG w' O' g G := by
  obtain ⟨la, ea, lp, ep, t, b, h⟩ := h
  exact ⟨la, ea, lp, ep, t, b, h.fr hF hP hO⟩
/-- nothing of it has changed -/
theorem yGx.fr0 {c s : Nat} {w w' : gy_W} {O : Nat → Nat} {g : Nat} {G : q_G} {la ea lp ep t : Nat} {b : Nat → Nat} (h : yGx w O g G la ea lp ep t b) (hF : yF (fun _ => False) c s w w') : yGx w' O g G la ea lp ep t b := h.fr hF (fun _ _ => id) fun _ _ z => z
theorem yG.fr0 {c s : Nat} {w w' : gy_W} {O : Nat → Nat} {g : Nat} {G : q_G} (h : yG w O g G) (hF : yF (fun _ => False) c s w w') : yG w' O g G := h.fr hF (fun _ _ => id) fun _ _ z => z
/-- what is new is g's -/
def yN (w : gy_W) (O : Nat → Nat) (g : Nat) : Nat → Nat := fun x => if x ≤ w.2.2.1 then O x else g
theorem yN_le {w : gy_W} {O : Nat → Nat} {g x : Nat} (h : x ≤ w.2.2.1) : yN w O g x = O x := if_pos h
theorem yN_gt {w : gy_W} {O : Nat → Nat} {g x : Nat} (h : w.2.2.1 < x) : yN w O g x = g := if_neg (by omega)
/-- another graph -/
theorem yG.fr1 {c s : Nat} {w w' : gy_W} {O : Nat → Nat} {g g2 : Nat} {G : q_G} (h : yG w O g2 G) (hF : yF (fun x => O x = g) c s w w') (hg : g2 ≠ g) : yG w' (yN w O g) g2 G := h.fr hF (fun x hx z => hg (hx.1.symm.trans z)) fun x hx z => (yN_le hx).trans z
/-- only what lies in range counts -/
theorem yGx.cg {w : gy_W} {O : Nat → Nat} {g : Nat} {G G' : q_G} {la ea lp ep t : Nat} {b : Nat → Nat} (h : yGx w O g G la ea lp ep t b) (hN : qN G' = qN G) (hM : qM G' = qM G) (hK : qK G' = qK G) (hL : qL G' = qL G)
    (hp : ∀ v, v < qN G → qP G' v = qP G v) (ho : ∀ k, k < 4 → qO G' k = qO G k) (ha : ∀ a, a < qK G → qF G' a = qF G a ∧ qT G' a = qT G a ∧ qA G' a = qA G a ∧ qW G' a = qW G a ∧ (qS G').testBit a = (qS G).testBit a) : yGx w O g G' la ea lp ep t b := by
  obtain ⟨hg, ⟨v1, v2⟩, ⟨t1, t2⟩, hA, hI, hD, hO⟩ := h
  refine ⟨?_, ⟨?_, ?_⟩, ⟨t1, fun k hk => by rw [ho k hk]; exact t2 k hk⟩, fun a hh => ?_, ?_, hD, ?_⟩
  · rw [hN, hM, hL]
    exact hg
  · rw [hK]
    exact v1
  · rw [hN]
    exact v2.cg fun j hj => by rw [hp j hj]
  · rw [hK] at hh
    obtain ⟨b1, b2, b3, b4, b5⟩ := ha a hh
    rw [b1, b2, b3, b4, b5]
    exact hA a hh
  · rw [hK]
    exact hI
  · rw [hK]
    exact hO
theorem gl_c7 {w : gy_W} {a : Nat} (h : w.1 a = (0, 0, 7)) : gy_cst 7 (gr a) w = true := by
  show (decide (w.1 a = (0, 0, 7) ∧ gy_ob 7 = true) || decide (7 = 110 ∧ (w.1 a).1 = 3) || decide (7 = 112 ∧ (w.1 a).1 = 1)) = true
  rw [h]
  rfl
theorem gl_c14 {w : gy_W} {a : Nat} (h : w.1 a = (0, 0, 14)) : gy_cst 14 (gr a) w = true := by
  show (decide (w.1 a = (0, 0, 14) ∧ gy_ob 14 = true) || decide (14 = 110 ∧ (w.1 a).1 = 3) || decide (14 = 112 ∧ (w.1 a).1 = 1)) = true
  rw [h]
  rfl
theorem gl_c12 {w : gy_W} {x : Int} (h : -128 ≤ x) (h2 : x ≤ 127) : gy_cst 12 (6, x) w = true := decide_eq_true ⟨rfl, h, h2⟩
theorem gl_l6 {w : gy_W} {x : Int} (h : -128 ≤ x) (h2 : x ≤ 127) : gy_cl (6, x) w = some 12 := if_pos ⟨h, h2⟩
section LI
variable {N : Nat} {xs : Nat → Int32} {d : Nat} {w : gy_W} {Q : gy_O → Prop}
/-- Integer.intValue -/
theorem ly_358_1 {st L : List gg_V} {x : Int} (h : -128 ≤ x) (h2 : x ≤ 127) : wy N xs d 358 1 L ((6, x) :: st) w Q ↔ wy N xs d 358 4 L ((0, x) :: st) w Q := wy_eq (show gg_dt 358 1 = some (.getfield 205, 3) by decide +kernel) fun f => if_pos ⟨rfl, rfl, h, h2⟩
theorem ly_358_4 {L : List gg_V} {x : Int} : wy N xs d 358 4 L [(0, x)] w Q ↔ Q ((1, (0, x)), w) := wl_iret (show gg_dt 358 4 = some (.ireturn, 1) by decide +kernel) rfl
theorem ly_360_21E {st L : List gg_V} {x : Int} (h : -128 ≤ x) (h2 : x ≤ 127) : wy N xs d 360 21 L ((0, x + 128) :: (7, 4) :: st) w Q ↔ wy N xs d 360 22 L ((6, x) :: st) w Q := by
  refine wy_eq (show gg_dt 360 21 = some (.aaload, 1) by decide +kernel) fun f => ?_
  show gg_q 1 1 (if (4 : Int) = 4 ∧ gg_in (x + 128) 256 = true then gy_ex N xs f d 360 22 L ((6, (gg_k (x + 128) : Int) - 128) :: st) w else none) = _
  unfold gg_q
  have e : (((x + 128).toNat : Nat) : Int) - 128 = x := by omega
  rw [if_pos rfl, if_pos ⟨rfl, io_in_r ⟨by omega, by omega⟩ (by omega) (by omega)⟩, io_k_r ⟨by omega, by omega⟩, e]
/-- Integer.valueOf -/
theorem wy_val {x : Int} (h : -128 ≤ x) (h2 : x ≤ 127) : wy N xs d 360 0 [(0, x)] [] w Q ↔ Q ((1, (6, x)), w) := by
  rw [ly_360_0, ly_360_1, ly_360_3 (by omega) (by omega) (by omega) (by omega)]
  simp only [show ¬ x < -128 by omega, not_false_eq_true, true_implies, false_implies, true_and]
  rw [ly_360_6, ly_360_7, ly_360_10 (by omega) (by omega) (by omega) (by omega)]
  simp only [show ¬ (127 : Int) < x by omega, not_false_eq_true, true_implies, false_implies, true_and]
  rw [ly_360_13, ly_360_16, ly_360_17, ly_360_20, io_add_o (by omega) (by omega), ly_360_21E h h2, ly_360_22 gl_s6]
theorem wy_int {x : Int} (h : -128 ≤ x) (h2 : x ≤ 127) : wy N xs d 358 0 [(6, x)] [] w Q ↔ Q ((1, (0, x)), w) := by
  rw [ly_358_0 gl_r6, ly_358_1 h h2, ly_358_4]
end LI
