/-! the law's start: the constructors, the first state; the law's run -/
def a_G0 : q_G := (fun r k => if r = 0 then (if k < 2 then 2 else if k = 4 then 1 else 0) else 0, fun _ => -1, fun _ => 0)
def a_0 : q_A := (a_G0, (0, fun _ => a_G0), fun _ => none, (0, fun _ => 0), (0, -1))
theorem g0_ok : q_ok a_G0 :=
  ⟨by decide, fun a h => absurd h (Nat.not_lt_zero a), fun v _ => ⟨Int.le_refl (-1), show (-1 : Int) ≤ ((2 * 1 : Nat) : Int) by decide⟩, fun v _ _ => rfl⟩
theorem a0_ok : a_ok a_0 :=
  ⟨g0_ok, Nat.zero_le _, fun j h => absurd h (Nat.not_lt_zero j), fun s G h => absurd (show (none : Option q_G) = some G from h) (by intro e; cases e), show (0 : Nat) ≤ 3 ∧ (-1 : Int) ≤ -1 ∧ (-1 : Int) ≤ 1000 ∧ ((0 : Nat) = 0 ↔ (-1 : Int) = -1) from ⟨by decide, by decide, by decide, ⟨fun _ => rfl, fun _ => rfl⟩⟩⟩
theorem m0 {a p : Nat} {x : Int} (h : gk_mt.contains (a, p, x) = true) : gk_M a p = x := gk_M_ok h
theorem i_0 : q_I gk_M a_0 := by
  refine ⟨⟨⟨m0 (x := 2) (by decide +kernel), m0 (x := 2) (by decide +kernel), m0 (x := 0) (by decide +kernel), m0 (x := 0) (by decide +kernel), m0 (x := 1) (by decide +kernel)⟩, fun a h => absurd h (Nat.not_lt_zero a), fun a h => absurd h (Nat.not_lt_zero a), fun a h => absurd h (Nat.not_lt_zero a), fun a h => absurd h (Nat.not_lt_zero a), fun v hv => ?_, fun t ht => ?_⟩, Or.inl (m0 (by decide +kernel)), ⟨0, by decide, m0 (x := 0) (by decide +kernel), m0 (x := 0) (by decide +kernel), Nat.zero_le _, fun j h => absurd h (Nat.not_lt_zero j)⟩, fun s hs => ?_, ⟨m0 (x := 0) (by decide +kernel), Nat.zero_le _, fun _ => Nat.zero_le _, fun j h => absurd h (Nat.not_lt_zero j)⟩, m0 (x := 0) (by decide +kernel), fun h => absurd rfl h⟩
  · show gk_M 7 v = -1
    exact m0 ((by decide +kernel : ∀ v : Fin 8, gk_mt.contains (7, v.1, (-1 : Int)) = true) ⟨v, hv⟩)
  · show gk_M 8 t = 0
    exact m0 ((by decide +kernel : ∀ v : Fin 4, gk_mt.contains (8, v.1, (0 : Int)) = true) ⟨t, ht⟩)
  · show gk_M 75 s = 0
    exact m0 ((by decide +kernel : ∀ v : Fin 2, gk_mt.contains (75, v.1, (0 : Int)) = true) ⟨s, hs⟩)
theorem v_0 : q_V gk_M a_0 := by
  refine ⟨⟨⟨m0 (x := 2) (by decide +kernel), m0 (x := 2) (by decide +kernel), m0 (x := 0) (by decide +kernel), m0 (x := 0) (by decide +kernel), m0 (x := 1) (by decide +kernel)⟩, fun a h => absurd h (Nat.not_lt_zero a), fun a h => absurd h (Nat.not_lt_zero a), fun a h => absurd h (Nat.not_lt_zero a), fun a h => absurd h (Nat.not_lt_zero a), fun v hv => ?_, fun t ht => ?_⟩, ⟨m0 (x := 0) (by decide +kernel), Nat.zero_le _, fun j h => absurd h (Nat.not_lt_zero j)⟩, fun s hs => ?_, ⟨m0 (x := 0) (by decide +kernel), Nat.zero_le _, fun _ => Nat.zero_le _, fun j h => absurd h (Nat.not_lt_zero j)⟩, m0 (x := 0) (by decide +kernel), m0 (x := -1) (by decide +kernel)⟩
  · show gk_M 143 (57 + v) = -1
    exact m0 ((by decide +kernel : ∀ v : Fin 8, gk_mt.contains (143, 57 + v.1, (-1 : Int)) = true) ⟨v, hv⟩)
  · show gk_M 143 (5 + t) = 0
    exact m0 ((by decide +kernel : ∀ v : Fin 4, gk_mt.contains (143, 5 + v.1, (0 : Int)) = true) ⟨t, ht⟩)
  · show gk_M 148 s = 0
    exact m0 ((by decide +kernel : ∀ v : Fin 2, gk_mt.contains (148, v.1, (0 : Int)) = true) ⟨s, hs⟩)
theorem gk_spec : ∃ (v1 v2 : gg_V) (w1 w2 : gg_W), gk_x = some ((0, v1), w1) ∧ (w1.2.2.1 = 142 ∧ w1.2.2.2.1 = 141) ∧ gk_m w1 = some ((0, v2), w2) ∧ (w2.2.2.1 = 157 ∧ w2.2.2.2.1 = 156) ∧ gk_W = gk_w3 w2 := (Classical.choose_spec gk_Wex).2
theorem gk_W_eq : gk_W = (gk_R, gk_M, 158, 157, 11153) := by
  have h0 := gk_all
  unfold gk_ok at h0
  rw [Bool.and_eq_true, Bool.and_eq_true] at h0
  exact Prod.ext rfl (Prod.ext rfl (of_decide_eq_true h0.1.1))
section WS
variable {N : Nat} {xs : Nat → Int32} {d : Nat} {L st : List gg_V} {w : gg_W} {Q : gg_O → Prop} {r m : gg_M} {cs : Nat}
theorem wp_gf {k f : Nat} {o : gg_O} (hk : k ≠ 287) (h : gf_x 0 (fun _ => 0) f d k 0 L st w = some o) (hQ : Q o) : wp N xs d k 0 L st w Q := by
  rw [gf_x_eq] at h
  exact ⟨f, o, gg_ex_t N xs _ f _ _ _ _ _ _ _ hk h, hQ⟩
theorem lp_0 : wp N xs d 287 0 L [] gg_pw Q ↔ wp N xs d 287 3 L [(2, 1)] gk_w1 Q := wp_eq (show gg_dt 287 0 = some (.new 8, 3) by decide +kernel) (fun _ => rfl)
theorem lp_3 : wp N xs d 287 3 L [(2, 1)] w Q ↔ wp N xs d 287 4 L [(2, 1), (2, 1)] w Q := wp_eq (show gg_dt 287 3 = some (.dup, 1) by decide +kernel) (fun _ => rfl)
theorem lp_4 : wp N xs (d + 1) 287 4 L [(2, 1), (2, 1)] gk_w1 Q ↔ wp N xs d 86 0 (gg_en 2 [(2, 1)]) [] gk_w1 (wa N xs (d + 1) 287 4 L [(2, 1)] Q) := wp_call (y := 86) (tg := [2]) (show gg_dt 287 4 = some (.invokespecial 163, 3) by decide +kernel) (fun _ => rfl) (show gg_mt 86 = (6, 2, 2, [2], 0) by decide +kernel) ⟨by decide, by decide, by decide, Or.inr (by decide +kernel)⟩ rfl rfl rfl
theorem lp_7 : wp N xs d 287 7 [(2, 0), (3, 0), (3, 0), (3, 0), (3, 0), (3, 0), (3, 0), (3, 0)] [(2, 1)] w Q ↔ wp N xs d 287 8 [(2, 0), (2, 1), (3, 0), (3, 0), (3, 0), (3, 0), (3, 0), (3, 0)] [] w Q := wp_eq (show gg_dt 287 7 = some (.astore_n 1, 1) by decide +kernel) (fun _ => rfl)
theorem lp_8 : wp N xs d 287 8 L [] (r, m, 142, 141, cs) Q ↔ wp N xs d 287 11 L [(2, 142)] (gk_w2 (r, m, 142, 141, cs)) Q := wp_eq (show gg_dt 287 8 = some (.new 164, 3) by decide +kernel) (fun _ => rfl)
theorem lp_11 : wp N xs d 287 11 L [(2, 142)] w Q ↔ wp N xs d 287 12 L [(2, 142), (2, 142)] w Q := wp_eq (show gg_dt 287 11 = some (.dup, 1) by decide +kernel) (fun _ => rfl)
theorem lp_12 : wp N xs (d + 1) 287 12 L [(2, 142), (2, 142)] (gk_w2 (r, m, 142, 141, cs)) Q ↔ wp N xs d 161 0 (gg_en 1 [(2, 142)]) [] (gk_w2 (r, m, 142, 141, cs)) (wa N xs (d + 1) 287 12 L [(2, 142)] Q) := wp_call (y := 161) (tg := [2]) (st := [(2, 142), (2, 142)]) (w := gk_w2 (r, m, 142, 141, cs)) (show gg_dt 287 12 = some (.invokespecial 166, 3) by decide +kernel) (fun _ => rfl) (show gg_mt 161 = (7, 2, 1, [2], 0) by decide +kernel) ⟨by decide, by decide, by decide, Or.inr (show gg_rcv [(2, 142)] 7 143 = true by decide +kernel)⟩ rfl rfl rfl
theorem lp_15 : wp N xs d 287 15 [(2, 0), (2, 1), (3, 0), (3, 0), (3, 0), (3, 0), (3, 0), (3, 0)] [(2, 142)] w Q ↔ wp N xs d 287 16 [(2, 0), (2, 1), (2, 142), (3, 0), (3, 0), (3, 0), (3, 0), (3, 0)] [] w Q := wp_eq (show gg_dt 287 15 = some (.astore_n 2, 1) by decide +kernel) (fun _ => rfl)
theorem lp_16 : wp N xs d 287 16 L [] w Q ↔ wp N xs d 287 17 L [(0, 1)] w Q := wp_eq (show gg_dt 287 16 = some (.iconst 1, 1) by decide +kernel) (fun _ => rfl)
theorem lp_17 : wp N xs d 287 17 L [(0, 1)] (r, m, 157, 156, cs) Q ↔ wp N xs d 287 19 L [(2, 157)] (gk_w3 (r, m, 157, 156, cs)) Q := wp_eq (show gg_dt 287 17 = some (.newarray .long, 2) by decide +kernel) (fun _ => rfl)
theorem lp_19 : wp N xs d 287 19 [(2, 0), (2, 1), (2, 142), (3, 0), (3, 0), (3, 0), (3, 0), (3, 0)] [(2, 157)] w Q ↔ wp N xs d 287 20 [(2, 0), (2, 1), (2, 142), (2, 157), (3, 0), (3, 0), (3, 0), (3, 0)] [] w Q := wp_eq (show gg_dt 287 19 = some (.astore_n 3, 1) by decide +kernel) (fun _ => rfl)
theorem lp_20 : wp N xs d 287 20 L [] w Q ↔ wp N xs d 287 21 L [(0, 0)] w Q := wp_eq (show gg_dt 287 20 = some (.iconst 0, 1) by decide +kernel) (fun _ => rfl)
theorem lp_21 : wp N xs d 287 21 [(2, 0), (2, 1), (2, 142), (2, 157), (3, 0), (3, 0), (3, 0), (3, 0)] [(0, 0)] w Q ↔ wp N xs d 287 23 [gr 0, gr 1, gr 142, gr 157, (0, ((0 : Nat) : Int)), (3, 0), (3, 0), (3, 0)] [] w Q := wp_eq (show gg_dt 287 21 = some (.istore 4, 2) by decide +kernel) (fun _ => rfl)
theorem lp_all (hN : N ≤ 2560) : wp N xs 40 287 0 (gg_en 8 [(2, 0)]) [] gg_pw (fun o => ∃ w, o = ((1, (0, 1)), w) ∧ w.2.2.2.1 ≤ 157 + 512 ∧ w.2.2.2.2 ≤ 11153 + 6 * 512) := by
  obtain ⟨v1, v2, ⟨r1, m1, n1, c1, s1⟩, ⟨r2, m2, n2, c2, s2⟩, h1, ⟨h2, h3⟩, h4, ⟨h5, h6⟩, h7⟩ := gk_spec
  have e1 : n1 = 142 := h2
  have e2 : c1 = 141 := h3
  have e3 : n2 = 157 := h5
  have e4 : c2 = 156 := h6
  subst e1 e2 e3 e4
  have hW := gk_W_eq
  rw [h7] at hW
  refine lp_0.mpr (lp_3.mpr (lp_4.mpr ?_))
  refine wp.deep (wp_gf (by decide) h1 ?_)
  refine wa_0.mpr (lp_7.mpr (lp_8.mpr (lp_11.mpr (lp_12.mpr ?_))))
  refine wp.deep (wp_gf (by decide) h4 ?_)
  refine wa_0.mpr (lp_15.mpr (lp_16.mpr (lp_17.mpr (lp_19.mpr (lp_20.mpr (lp_21.mpr ?_))))))
  rw [hW]
  exact wk_loop (d := 8) hN 512 0 157 11153 a_0 gk_M _ _ _ (by omega) (by omega) i_0 v_0 a0_ok
end WS
theorem gg_pure : gg_Pure := by
  intro L xs hL
  obtain ⟨f, o, h1, w, h2, h3, h4⟩ := lp_all (N := L) (xs := xs) hL
  subst h2
  exact ⟨f, w, h1, by omega, by omega⟩
