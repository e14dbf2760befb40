/-! the law's Graph: balanced, rank, closure -/
section LCL
variable {N : Nat} {xs : Nat → Int32} {d : Nat} {w : gy_W} {Q : gy_O → Prop} {O : Nat → Nat} {g : Nat} {G : q_G} {la ea lp ep t : Nat} {b : Nat → Nat} {s : Nat}
theorem yb_balanced (h : yGx w O g G la ea lp ep t b) (hG : q_ok G) (hs : s < 4096) (hQ : ∀ w', yF (fun _ => False) 85 1155 w w' → Q ((1, (0, (qev G s : Int))), w')) : wy N xs (d + 7) 362 0 [gr g, (0, (s : Int)), (3, 0), (3, 0), (3, 0)] [] w Q := by
  have hg141 := h.2.2.2.2.2.2.1.2
  have g0' := h.1.1
  rw [ly_362_0 (by first | exact gl_gr | exact gl_r6 | exact gl_r7 | assumption | rfl), ly_362_1, ly_362_2 (by first | exact gl_gr | exact gl_r6 | exact gl_r7 | assumption | rfl) (by first | exact gl_cl (by assumption) rfl | exact gl_l6 (by omega) (by omega) | exact gl_l4 (by omega))]
  refine yb_parts h hG hs fun w' po me hF hB => ?_
  obtain ⟨⟨g0, g1, g2, g3, g4, g5, g6⟩, _⟩ := id (h.fr0 hF)
  obtain ⟨k1, k2, k3, k4, k5, k6, k7, k8⟩ := hG.1
  obtain ⟨⟨b1, b2, b3, b4⟩, ⟨b5, b6, b7, b8⟩, m1, m2, m3, m4⟩ := id hB
  rw [wz_1, ly_362_5 (by first | exact gl_gr | exact gl_r6 | exact gl_r7 | assumption | rfl), ly_362_6, ly_362_7 (by first | exact gl_gr | exact gl_r6 | exact gl_r7 | assumption | rfl), ly_362_8, ly_362_9]
  refine wl_for (P := fun v => wy N xs (d + 7) 362 11 [gr g, (0, (s : Int)), gr (w.2.2.1 + 1), (0, ((qcnt (fun v => prt (qPs G s) v && pb (qPs G s) v) v : Nat) : Int)), (0, (v : Int))] [] w' Q) (qN G) (fun v hv ih => ?_) ?_
  · have e0 : io_add (v : Int) 1 = ((v + 1 : Nat) : Int) := by rw [io_add_o (by omega) (by omega)]; omega
    have e1 : ((v : Int)).toNat = v := Int.toNat_natCast v
    have hq := qcnt_le (fun v => prt (qPs G s) v && pb (qPs G s) v) v
    have hlv : pl (qPs G s) v ≤ v := (p_r_ok hG (bE G s) v).1
    have e2 : (w'.2.1 (w.2.2.1 + 2) v).2 = (pl (qPs G s) v : Int) := by rw [m1 v hv]
    have e3 : (w'.2.1 (w.2.2.1 + 4) v).2 = ((pb (qPs G s) (pl (qPs G s) v)).toNat : Int) := by rw [m3 v hv]
    rw [show qcnt (fun v => prt (qPs G s) v && pb (qPs G s) v) (v + 1) = qcnt (fun v => prt (qPs G s) v && pb (qPs G s) v) v + (prt (qPs G s) v && pb (qPs G s) v).toNat from rfl] at ih
    rw [ly_362_11, ly_362_13 (by first | exact gl_gr | exact gl_r6 | exact gl_r7 | assumption | rfl), ly_362_14 (by assumption), g1, ly_362_17 (by omega) (by omega) (by omega) (by omega)]
    simp only [show (v : Int) < (qN G : Int) by omega, not_true_eq_false, true_implies, false_implies, and_true, true_and]
    rw [ly_362_20, ly_362_21 (by first | exact gl_gr | exact gl_r6 | exact gl_r7 | assumption | rfl), ly_362_22, ly_362_23 b1 rfl (by decide) (by decide) (by decide) (by show gy_rr (w'.2.1 (w.2.2.1 + 1) 0) = true; rw [b2]; rfl), show (0 : Int).toNat = 0 from rfl, b2, ly_362_24, ly_362_26 (by omega) b5 (by omega) (by omega) (by omega), e1, e2, ly_362_27, ly_362_29 (by omega) (by omega) (by omega) (by omega)]
    unfold prt at ih ⊢
    by_cases hr : pl (qPs G s) v = v
    · have hr2 : ((pl (qPs G s) v : Nat) : Int) = (v : Int) := by omega
      rw [hr] at e3
      rw [decide_eq_true hr, Bool.true_and] at ih
      simp only [hr2, not_true_eq_false, true_implies, false_implies, and_true]
      rw [ly_362_32 (by first | exact gl_gr | exact gl_r6 | exact gl_r7 | assumption | rfl), ly_362_33, ly_362_34 b1 rfl (by decide) (by decide) (by decide) (by show gy_rr (w'.2.1 (w.2.2.1 + 1) 2) = true; rw [b4]; rfl), show (2 : Int).toNat = 2 from rfl, b4, ly_362_35, ly_362_37 (by omega) b7 (by omega) (by omega) (by omega), e1, e3, ly_362_38, ly_362_39 (by omega) (by cases pb (qPs G s) v <;> decide) (by decide) (by decide)]
      cases hb : pb (qPs G s) v
      · rw [hb] at ih
        rw [Bool.toNat_false]
        simp only [show ¬ (((0 : Nat) : Int) = 1) by omega, not_false_eq_true, true_implies, false_implies, and_true, true_and]
        unfold prt at hq
        rw [ly_362_46, ly_362_47, io_add_o (by omega) (by omega), Int.add_zero, ly_362_48 (by first | exact gl_gr | exact gl_r6 | exact gl_r7 | assumption | rfl), ly_362_49, e0, ly_362_52]
        exact ih
      · rw [hb] at ih
        rw [Bool.toNat_true]
        simp only [show ((1 : Nat) : Int) = 1 by omega, not_true_eq_false, true_implies, false_implies, and_true, true_and]
        unfold prt at hq
        rw [ly_362_42, ly_362_43, ly_362_47, io_add_o (by omega) (by omega), ly_362_48 (by first | exact gl_gr | exact gl_r6 | exact gl_r7 | assumption | rfl), ly_362_49, e0, ly_362_52]
        exact ih
    · rw [decide_eq_false hr, Bool.false_and] at ih
      have hr2 : ¬ ((pl (qPs G s) v : Nat) : Int) = (v : Int) := by omega
      simp only [hr2, not_false_eq_true, true_implies, false_implies, true_and]
      unfold prt at hq
      rw [ly_362_46, ly_362_47, io_add_o (by omega) (by omega), Int.add_zero, ly_362_48 (by first | exact gl_gr | exact gl_r6 | exact gl_r7 | assumption | rfl), ly_362_49, e0, ly_362_52]
      exact ih
  · rw [ly_362_11, ly_362_13 (by first | exact gl_gr | exact gl_r6 | exact gl_r7 | assumption | rfl), ly_362_14 (by assumption), g1, ly_362_17 (by omega) (by omega) (by omega) (by omega)]
    simp only [show ¬ ((qN G : Int) < (qN G : Int)) by omega, not_false_eq_true, true_implies, false_implies, and_true, true_and]
    rw [ly_362_55, ly_362_56]
    exact hQ w' hF
theorem yb_rank (h : yGx w O g G la ea lp ep t b) (hG : q_ok G) (hs : s < 4096) (hQ : ∀ w', yF (fun _ => False) 85 1155 w w' → Q ((1, (0, (qrk G s : Int))), w')) : wy N xs (d + 8) 373 0 [gr g, (0, (s : Int))] [] w Q := by
  have g0 := h.1.1
  have g1 := h.1.2.1
  obtain ⟨k1, k2, k3, k4, k5, k6, k7, k8⟩ := hG.1
  have hle := qev_le G s
  rw [ly_373_0 (by first | exact gl_gr | exact gl_r6 | exact gl_r7 | assumption | rfl), ly_373_1 (by assumption), g1, ly_373_4 (by first | exact gl_gr | exact gl_r6 | exact gl_r7 | assumption | rfl), ly_373_5, ly_373_6 (by first | exact gl_gr | exact gl_r6 | exact gl_r7 | assumption | rfl) (by first | exact gl_cl (by assumption) rfl | exact gl_l6 (by omega) (by omega) | exact gl_l4 (by omega))]
  refine yb_balanced h hG hs fun w' hF => ?_
  rw [wz_1, ly_373_9, io_sub_o (by omega) (by omega), ly_373_10, show (qN G : Int) - (qev G s : Int) = (qrk G s : Int) by unfold qrk; omega]
  exact hQ w' hF
theorem yz_2p {a : Nat} (h : a < 12) : 2 ^ a < 4096 := show 2 ^ a < 2 ^ 12 from Nat.pow_lt_pow_right (by decide) h
theorem yz_or2 {x y : Nat} (hx : x < 4096) (hy : y < 4096) : x ||| y < 4096 := Nat.or_lt_two_pow (n := 12) hx hy
theorem io_orn {x y : Nat} (hx : x < 4096) (hy : y < 4096) : io_or (x : Int) (y : Int) = ((x ||| y : Nat) : Int) := by
  rw [io_or_r (by omega) (by omega) (by omega) (by omega), Int.toNat_natCast, Int.toNat_natCast]
theorem yb_closure (h : yGx w O g G la ea lp ep t b) (hG : q_ok G) (hs : s < 4096) (hQ : ∀ w', yF (fun _ => False) 2040 27720 w w' → Q ((1, (0, (qclo G s : Int))), w')) : wy N xs (d + 9) 365 0 [gr g, (0, (s : Int)), (3, 0), (3, 0)] [] w Q := by
  obtain ⟨k1, k2, k3, k4, k5, k6, k7, k8⟩ := hG.1
  rw [ly_365_0, ly_365_1, ly_365_2, ly_365_3]
  refine wl_for (P := fun a => ∀ w', yF (fun _ => False) (170 * a) (2310 * a) w w' → wy N xs (d + 9) 365 4 [gr g, (0, (s : Int)), (0, ((s ||| qbits (fun a => decide (qrk G (s ||| 2 ^ a) = qrk G s)) a : Nat) : Int)), (0, (a : Int))] [] w' Q) (qK G) (fun a ha ih w' hF => ?_) (fun w' hF => ?_) w yF.rf |> fun z => by
    rw [show qbits (fun a => decide (qrk G (s ||| 2 ^ a) = qrk G s)) 0 = 0 from rfl, Nat.or_zero] at z
    exact z
  · have hg := h.fr0 hF
    obtain ⟨⟨g0, g1, g2, g3, g4, g5, g6⟩, ⟨v1, v2⟩, _⟩ := id hg
    have hla := v1.1
    have e0 : io_add (a : Int) 1 = ((a + 1 : Nat) : Int) := by rw [io_add_o (by omega) (by omega)]; omega
    have e1 : io_shl 1 (a : Int) = ((2 ^ a : Nat) : Int) := io_shl1 (by omega) (by omega)
    have h2 := yz_2p (a := a) (by omega)
    have e2 := io_orn hs h2
    have hqb : qbits (fun a => decide (qrk G (s ||| 2 ^ a) = qrk G s)) a < 4096 := Nat.lt_of_lt_of_le (qbits_lt _ a) (Nat.le_of_lt h2)
    have hso := yz_or2 hs hqb
    have e3 := io_orn hso h2
    rw [ly_365_4, ly_365_5 (by first | exact gl_gr | exact gl_r6 | exact gl_r7 | assumption | rfl), ly_365_6 (by assumption), g4, ly_365_9 (by first | exact gl_gr | exact gl_r6 | exact gl_r7 | assumption | rfl) (by first | exact gl_cl (by assumption) rfl | exact gl_l6 (by omega) (by omega) | exact gl_l4 (by omega)), wv_size v1, wz_1, ly_365_12 (by omega) (by omega) (by omega) (by omega)]
    simp only [show (a : Int) < (qK G : Int) by omega, not_true_eq_false, true_implies, false_implies, and_true, true_and]
    rw [ly_365_15 (by first | exact gl_gr | exact gl_r6 | exact gl_r7 | assumption | rfl), ly_365_16, ly_365_17, ly_365_18, ly_365_19, e1, ly_365_20, e2, ly_365_21 (by first | exact gl_gr | exact gl_r6 | exact gl_r7 | assumption | rfl) (by first | exact gl_cl (by assumption) rfl | exact gl_l6 (by omega) (by omega) | exact gl_l4 (by omega))]
    refine yb_rank hg hG (yz_or2 hs h2) fun w1 hF1 => ?_
    have hg1 := hg.fr0 hF1
    have g01 := hg1.1.1
    rw [wz_1, ly_365_24 (by first | exact gl_gr | exact gl_r6 | exact gl_r7 | assumption | rfl), ly_365_25, ly_365_26 (by first | exact gl_gr | exact gl_r6 | exact gl_r7 | assumption | rfl) (by first | exact gl_cl (by assumption) rfl | exact gl_l6 (by omega) (by omega) | exact gl_l4 (by omega))]
    refine yb_rank hg1 hG hs fun w2 hF2 => ?_
    have hr1 : qrk G (s ||| 2 ^ a) ≤ 8 := by unfold qrk; omega
    have hr2 : qrk G s ≤ 8 := by unfold qrk; omega
    have hF02 : yF (fun _ => False) (170 * (a + 1)) (2310 * (a + 1)) w w2 := ((hF.tt hF1).tt hF2).wk (fun _ _ z => z) (by omega) (by omega)
    have := ih w2 hF02
    rw [show qbits (fun a => decide (qrk G (s ||| 2 ^ a) = qrk G s)) (a + 1) = qbits (fun a => decide (qrk G (s ||| 2 ^ a) = qrk G s)) a + (if decide (qrk G (s ||| 2 ^ a) = qrk G s) = true then 2 ^ a else 0) from rfl] at this
    rw [wz_1, ly_365_29 (by omega) (by omega) (by omega) (by omega)]
    by_cases hr : qrk G (s ||| 2 ^ a) = qrk G s
    · rw [if_pos (decide_eq_true hr), ← qbits_or, ← Nat.or_assoc] at this
      simp only [show (qrk G (s ||| 2 ^ a) : Int) = (qrk G s : Int) by omega, not_true_eq_false, true_implies, false_implies, and_true, true_and]
      rw [ly_365_32, ly_365_33, ly_365_34, ly_365_35, e1, ly_365_36, e3, ly_365_37, ly_365_38, e0, ly_365_41]
      exact this
    · rw [if_neg (by simpa using hr), Nat.add_zero] at this
      simp only [show ¬ ((qrk G (s ||| 2 ^ a) : Int) = (qrk G s : Int)) by omega, not_false_eq_true, true_implies, false_implies, and_true, true_and]
      rw [ly_365_38, e0, ly_365_41]
      exact this
  · have hg := h.fr0 hF
    obtain ⟨⟨g0, g1, g2, g3, g4, g5, g6⟩, ⟨v1, v2⟩, _⟩ := id hg
    have hla := v1.1
    rw [ly_365_4, ly_365_5 (by first | exact gl_gr | exact gl_r6 | exact gl_r7 | assumption | rfl), ly_365_6 (by assumption), g4, ly_365_9 (by first | exact gl_gr | exact gl_r6 | exact gl_r7 | assumption | rfl) (by first | exact gl_cl (by assumption) rfl | exact gl_l6 (by omega) (by omega) | exact gl_l4 (by omega)), wv_size v1, wz_1, ly_365_12 (by omega) (by omega) (by omega) (by omega)]
    simp only [show ¬ ((qK G : Int) < (qK G : Int)) by omega, not_false_eq_true, true_implies, false_implies, and_true, true_and]
    rw [ly_365_44, ly_365_45]
    exact hQ w' (hF.wk (fun _ _ z => z) (by omega) (by omega))
end LCL
