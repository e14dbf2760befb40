/-! act: finish, switched, dropped, a gain, a weight, turned, contracted -/
theorem yz_any (f : Nat → Bool) (n : Nat) : (!qany f n) = decide (qfst f n = -1) := by
  induction n with
  | zero => rfl
  | succ n ih =>
    show (!(qany f n || f n)) = decide ((if qfst f n = -1 then (if f n = true then (n : Int) else -1) else qfst f n) = -1)
    cases hq : qany f n
    · rw [hq] at ih
      have h1 : qfst f n = -1 := of_decide_eq_true ih.symm
      rw [if_pos h1]
      cases hf : f n
      · rfl
      · rw [if_pos rfl, decide_eq_false (by omega)]
        rfl
    · rw [hq] at ih
      have h1 : ¬ qfst f n = -1 := of_decide_eq_false ih.symm
      rw [if_neg h1]
      exact ih
theorem qfin_f (G : q_G) (v : Nat) : qF (qfin G v) = qF G ∧ qT (qfin G v) = qT G ∧ qA (qfin G v) = qA G ∧ qW (qfin G v) = qW G ∧ qS (qfin G v) = qS G ∧ qO (qfin G v) = qO G ∧ qM (qfin G v) = qM G ∧ qK (qfin G v) = qK G ∧ qL (qfin G v) = qL G ∧ qN (qfin G v) = qN G := by
  induction v with
  | zero => exact ⟨rfl, rfl, rfl, rfl, rfl, rfl, rfl, rfl, rfl, rfl⟩
  | succ v ih =>
    unfold qfin
    split
    · exact ih
    · exact ih
theorem qhit_G {G H : q_G} (h1 : qF H = qF G) (h2 : qT H = qT G) (h3 : qA H = qA G) (h4 : qM H = qM G) (c : Nat → Int) (v : Nat) (x : Int) : qhit H c v x = qhit G c v x := by
  funext a
  unfold qhit qat qcl
  rw [h1, h2, h3, h4]
section A2
variable {N : Nat} {xs : Nat → Int32} {d : Nat} {w : gy_W} {Q : gy_O → Prop} {O : Nat → Nat} {g : Nat} {A : q_A} {la ea lp ep t : Nat} {b : Nat → Nat} {ar pl v what wv bg x k : Nat} {l12 l13 l14 : gg_V}
theorem yk_fin (h : yGx w O g (aG A) la ea lp ep t b) (hI : cI w A) (hA : a_ok A) (hT : yTo (aG A)) (hO : ∀ x, x ≤ 141 → O x = 0) (hl14 : gy_ra l14 = true)
    (hQ : ∀ w' A' is (due : Int) l12 l13 l14 l15 l16 l17, yR w O g A A' is w' → -2147483648 ≤ due → due ≤ 2147483647 → wy N xs (d + 32) 345 1149 (yLa ar pl v g what wv (qK (aG A)) bg is (0, due) (0, due) l12 l13 l14 l15 l16 l17) [] w' Q) :
    wy N xs (d + 32) 345 455 (yLa ar pl v g what wv (qK (aG A)) bg 1 (3, 0) (3, 0) l12 l13 l14 (3, 0) (3, 0) (3, 0)) [] w Q := by
  have hg141 := h.2.2.2.2.2.2.1.2
  have hG := hA.1
  have o5 := h.2.2.2.2.2.2.2.2.2.2.1
  obtain ⟨⟨k1, k2, k3, k4, k5, k6, k7, k8⟩, hk, hp, hp2⟩ := id hG
  have hml : qM (aG A) * qL (aG A) ≤ 12 * 5 := Nat.mul_le_mul k4 k8
  unfold yLa
  rw [ly_345_455, ly_345_456 (by first | exact gl_gr | exact gl_r6 | exact gl_r7 | assumption | rfl)]
  refine wl_for (P := fun u => ∀ (w' : gy_W) (l16 l17 : gg_V), yF (fun x => O x = g) 0 0 w w' → yGx w' O g (qfin (aG A) u) la ea lp ep t b → wy N xs (d + 32) 345 458 [gr 1, gr ar, gr pl, (0, (v : Int)), gr g, (0, (what : Int)), (0, (wv : Int)), (0, (qK (aG A) : Int)), gr bg, (0, ((1 : Nat) : Int)), (3, 0), (3, 0), l12, l13, l14, (0, (u : Int)), l16, l17] [] w' Q) (qN (aG A)) (fun u hu ih w' l16 l17 hF hH => ?_) (fun w' l16 l17 hF hH => ?_) w _ _ yF.rf h
  · obtain ⟨q1, q2, q3, q4, q5, q6, q7, q8, q9, q10⟩ := qfin_f (aG A) u
    have hHok := (qok_fin hG u (by omega)).1
    have e0 : io_add (u : Int) 1 = ((u + 1 : Nat) : Int) := by rw [io_add_o (by omega) (by omega)]; omega
    have g0 := hH.1.1
    have g1 : w'.2.1 g 0 = (0, (qN (aG A) : Int)) := by rw [← q10]; exact hH.1.2.1
    have hcol : qM (qfin (aG A) u) * qL (qfin (aG A) u) + 1 = qM (aG A) * qL (aG A) + 1 := by rw [q7, q9]
    rw [ly_345_458, ly_345_460 (by first | exact gl_gr | exact gl_r6 | exact gl_r7 | assumption | rfl), ly_345_462 (by assumption), g1, ly_345_465 (by omega) (by omega) (by omega) (by omega)]
    simp only [show (u : Int) < (qN (aG A) : Int) by omega, not_true_eq_false, true_implies, false_implies, and_true, true_and]
    rw [ly_345_468, ly_345_469]
    -- u stays as it is: barred everywhere, or painted before
    have exitN : ∀ (w2 : gy_W) (l16 l17 : gg_V), yF (fun x => O x = g) 0 0 w w2 → yGx w2 O g (qfin (aG A) (u + 1)) la ea lp ep t b → wy N xs (d + 32) 345 544 [gr 1, gr ar, gr pl, (0, (v : Int)), gr g, (0, (what : Int)), (0, (wv : Int)), (0, (qK (aG A) : Int)), gr bg, (0, ((1 : Nat) : Int)), (3, 0), (3, 0), l12, l13, l14, (0, (u : Int)), l16, l17] [] w2 Q := by
      intro w2 l16 l17 hF2 hG2
      rw [ly_345_544 (by first | exact gl_gr | exact gl_r6 | exact gl_r7 | assumption | rfl), e0, ly_345_547]
      exact ih w2 _ _ hF2 hG2
    have hlp := hH.2.1.2.1
    have g5 := hH.1.2.2.2.2.2.1
    have hV2 : yV w' lp ep (qN (aG A)) (fun v => (6, qP (qfin (aG A) u) v)) := q10 ▸ hH.2.1.2
    obtain ⟨p1, p2⟩ := yz_P hHok (v := u) (by omega)
    by_cases hpu : qP (qfin (aG A) u) u = -1
    · -- color by color
      have hset : qfin (aG A) (u + 1) = qsetP (qfin (aG A) u) u (qfst (fun x => !qany (qhit (aG A) (qP (qfin (aG A) u)) u (x : Int)) (qK (aG A))) (qM (aG A) * qL (aG A) + 1)) := by
        show (if qP (qfin (aG A) u) u = -1 then _ else _) = _
        rw [if_pos hpu]
      refine wl_for (P := fun c => (∀ c', c' < c → (!qany (qhit (aG A) (qP (qfin (aG A) u)) u (c' : Int)) (qK (aG A))) = false) → ∀ l17, wy N xs (d + 32) 345 471 [gr 1, gr ar, gr pl, (0, (v : Int)), gr g, (0, (what : Int)), (0, (wv : Int)), (0, (qK (aG A) : Int)), gr bg, (0, ((1 : Nat) : Int)), (3, 0), (3, 0), l12, l13, l14, (0, (u : Int)), (0, (c : Int)), l17] [] w' Q) (qM (aG A) * qL (aG A) + 1) (fun c hc ih2 hno l17 => ?_) (fun hno l17 => ?_) (fun c' hc' => absurd hc' (Nat.not_lt_zero c')) _
      · have e1 : io_add (c : Int) 1 = ((c + 1 : Nat) : Int) := by rw [io_add_o (by omega) (by omega)]; omega
        have hyb := fun Q => yy_bar (N := N) (xs := xs) (d := d + 27) (Q := Q) hH hHok (v := u) (c := c) (by omega) (by omega)
        have hrg := qfst_rg (qhit (aG A) (qP (qfin (aG A) u)) u (c : Int)) (qK (aG A))
        have hany := yz_any (qhit (aG A) (qP (qfin (aG A) u)) u (c : Int)) (qK (aG A))
        rw [qhit_G q1 q2 q3 q7, q8] at hyb
        rw [ly_345_471, ly_345_473 (by first | exact gl_gr | exact gl_r6 | exact gl_r7 | assumption | rfl), ly_345_475 (by first | exact gl_gr | exact gl_r6 | exact gl_r7 | assumption | rfl) (by first | exact gl_cl (by assumption) rfl | exact gl_l6 (by omega) (by omega) | exact gl_l4 (by omega)), yy_colors hH hHok, wz_1, hcol, ly_345_478 (by omega) (by omega) (by omega) (by omega)]
        simp only [show (c : Int) < ((qM (aG A) * qL (aG A) + 1 : Nat) : Int) by omega, not_true_eq_false, true_implies, false_implies, and_true, true_and]
        rw [ly_345_481 (by first | exact gl_gr | exact gl_r6 | exact gl_r7 | assumption | rfl), ly_345_483 (by assumption), g5, ly_345_486, ly_345_488 (by first | exact gl_gr | exact gl_r6 | exact gl_r7 | assumption | rfl) (by first | exact gl_cl (by assumption) rfl | exact gl_l6 (by omega) (by omega) | exact gl_l4 (by omega)), wv_get hV2 hu, wz_1, ly_345_491 (by first | exact gl_c7 (by assumption) | exact gl_c14 (by assumption) | exact gl_c12 (by omega) (by omega)), ly_345_494 (by first | exact gl_gr | exact gl_r6 | exact gl_r7 | assumption | rfl) (by first | exact gl_cl (by assumption) rfl | exact gl_l6 (by omega) (by omega) | exact gl_l4 (by omega)), wy_int p1 p2, wz_1, ly_345_497 (by omega) (by omega)]
        simp only [show qP (qfin (aG A) u) u < 0 by omega, not_true_eq_false, true_implies, false_implies, and_true, true_and]
        rw [ly_345_500 (by first | exact gl_gr | exact gl_r6 | exact gl_r7 | assumption | rfl), ly_345_502, ly_345_504, ly_345_506 (by first | exact gl_gr | exact gl_r6 | exact gl_r7 | assumption | rfl) (by first | exact gl_cl (by assumption) rfl | exact gl_l6 (by omega) (by omega) | exact gl_l4 (by omega)), hyb, wz_1, ly_345_509 (by omega) (by omega)]
        by_cases hb : qfst (qhit (aG A) (qP (qfin (aG A) u)) u (c : Int)) (qK (aG A)) = -1
        · rw [decide_eq_true hb] at hany
          simp only [show qfst (qhit (aG A) (qP (qfin (aG A) u)) u (c : Int)) (qK (aG A)) < 0 by omega, not_true_eq_false, true_implies, false_implies, and_true, true_and]
          rw [ly_345_515 (by first | exact gl_gr | exact gl_r6 | exact gl_r7 | assumption | rfl), ly_345_517 (by assumption), g5, ly_345_520, ly_345_522, ly_345_524, wy_val (by omega) (by omega), wz_1, ly_345_527 (by first | exact gl_gr | exact gl_r6 | exact gl_r7 | assumption | rfl) (by first | exact gl_gr | exact gl_r6 | exact gl_r7 | assumption | rfl) (by first | exact gl_cl (by assumption) rfl | exact gl_l6 (by omega) (by omega) | exact gl_l4 (by omega))]
          refine wv_set hV2 hu (yE.i (by omega) (by omega)) fun w2 hF2 hc2 hV3 => ?_
          have hfst : qfst (fun x => !qany (qhit (aG A) (qP (qfin (aG A) u)) u (x : Int)) (qK (aG A))) (qM (aG A) * qL (aG A) + 1) = (c : Int) := qfst_hit hc hany hno
          have hG2 : yGx w2 O g (qfin (aG A) (u + 1)) la ea lp ep t b := by
            rw [hset, hfst]
            refine hH.pnt hF2 (q10.symm ▸ hV3) rfl rfl rfl rfl (fun j hj => ?_) rfl fun c _ => ⟨rfl, rfl, rfl, rfl, rfl⟩
            show (6, qup (qP (qfin (aG A) u)) u (c : Int) j) = if j = u then (6, (c : Int)) else (6, qP (qfin (aG A) u) j)
            unfold qup
            split <;> rfl
          have hF02 : yF (fun x => O x = g) 0 0 w w2 := hF.tr hF2 fun x hx z => by rw [show x = ep from z]; exact o5.1
          obtain ⟨r1, r2, r3, r4, r5, r6, r7, r8, r9, r10⟩ := qfin_f (aG A) (u + 1)
          have hH1ok := (qok_fin hG (u + 1) (by omega)).1
          have g02 := hG2.1.1
          have g52 := hG2.1.2.2.2.2.2.1
          have hlp2 := hG2.2.1.2.1
          have hcol2 : qM (qfin (aG A) (u + 1)) * qL (qfin (aG A) (u + 1)) + 1 = qM (aG A) * qL (aG A) + 1 := by rw [r7, r9]
          rw [wz_1, ly_345_530 (by first | exact gl_c7 (by assumption) | exact gl_c14 (by assumption) | exact gl_c12 (by omega) (by omega)), ly_345_533 (by first | exact gl_gr | exact gl_r6 | exact gl_r7 | assumption | rfl) (by first | exact gl_cl (by assumption) rfl | exact gl_l6 (by omega) (by omega) | exact gl_l4 (by omega)), wy_int p1 p2, wz_1, ly_345_536, ly_345_538, e1, ly_345_541, ly_345_471, ly_345_473 (by first | exact gl_gr | exact gl_r6 | exact gl_r7 | assumption | rfl), ly_345_475 (by first | exact gl_gr | exact gl_r6 | exact gl_r7 | assumption | rfl) (by first | exact gl_cl (by assumption) rfl | exact gl_l6 (by omega) (by omega) | exact gl_l4 (by omega)), yy_colors hG2 hH1ok, wz_1, hcol2, ly_345_478 (by omega) (by omega) (by omega) (by omega)]
          refine ⟨fun hlt => ?_, fun hlt => exitN w2 _ _ hF02 hG2⟩
          have hV4 : yV w2 lp ep (qN (aG A)) (fun v => (6, qP (qfin (aG A) (u + 1)) v)) := r10 ▸ hG2.2.1.2
          have hpc : qP (qfin (aG A) (u + 1)) u = (c : Int) := by
            rw [hset, hfst]
            exact qup_e _ _ _
          rw [ly_345_481 (by first | exact gl_gr | exact gl_r6 | exact gl_r7 | assumption | rfl), ly_345_483 (by assumption), g52, ly_345_486, ly_345_488 (by first | exact gl_gr | exact gl_r6 | exact gl_r7 | assumption | rfl) (by first | exact gl_cl (by assumption) rfl | exact gl_l6 (by omega) (by omega) | exact gl_l4 (by omega)), wv_get hV4 hu, wz_1, hpc, ly_345_491 (by first | exact gl_c7 (by assumption) | exact gl_c14 (by assumption) | exact gl_c12 (by omega) (by omega)), ly_345_494 (by first | exact gl_gr | exact gl_r6 | exact gl_r7 | assumption | rfl) (by first | exact gl_cl (by assumption) rfl | exact gl_l6 (by omega) (by omega) | exact gl_l4 (by omega)), wy_int (by omega) (by omega), wz_1, ly_345_497 (by omega) (by omega)]
          simp only [show ¬ ((c : Int) < 0) by omega, not_false_eq_true, true_implies, false_implies, and_true, true_and]
          exact exitN w2 _ _ hF02 hG2
        · rw [decide_eq_false hb] at hany
          simp only [show ¬ (qfst (qhit (aG A) (qP (qfin (aG A) u)) u (c : Int)) (qK (aG A)) < 0) by omega, not_false_eq_true, true_implies, false_implies, and_true, true_and]
          rw [ly_345_512, ly_345_538, e1, ly_345_541]
          refine ih2 (fun c' hc' => ?_) _
          by_cases e : c' = c
          · rw [e]
            exact hany
          · exact hno c' (by omega)
      · rw [ly_345_471, ly_345_473 (by first | exact gl_gr | exact gl_r6 | exact gl_r7 | assumption | rfl), ly_345_475 (by first | exact gl_gr | exact gl_r6 | exact gl_r7 | assumption | rfl) (by first | exact gl_cl (by assumption) rfl | exact gl_l6 (by omega) (by omega) | exact gl_l4 (by omega)), yy_colors hH hHok, wz_1, hcol, ly_345_478 (by omega) (by omega) (by omega) (by omega)]
        simp only [show ¬ (((qM (aG A) * qL (aG A) + 1 : Nat) : Int) < ((qM (aG A) * qL (aG A) + 1 : Nat) : Int)) by omega, not_false_eq_true, true_implies, false_implies, and_true, true_and]
        refine exitN w' _ _ hF ?_
        rw [hset, qfst_none.2 hno]
        refine hH.cg rfl rfl rfl rfl (fun j hj => ?_) (fun _ _ => rfl) fun _ _ => ⟨rfl, rfl, rfl, rfl, rfl⟩
        show qup (qP (qfin (aG A) u)) u (-1) j = _
        by_cases e : j = u
        · rw [e, qup_e, hpu]
        · rw [qup_n e]
    · have hsame : qfin (aG A) (u + 1) = qfin (aG A) u := by
        show (if qP (qfin (aG A) u) u = -1 then _ else _) = _
        rw [if_neg hpu]
      have hge := (hHok.2.2.1 u (by omega)).1
      rw [ly_345_471, ly_345_473 (by first | exact gl_gr | exact gl_r6 | exact gl_r7 | assumption | rfl), ly_345_475 (by first | exact gl_gr | exact gl_r6 | exact gl_r7 | assumption | rfl) (by first | exact gl_cl (by assumption) rfl | exact gl_l6 (by omega) (by omega) | exact gl_l4 (by omega)), yy_colors hH hHok, wz_1, hcol, ly_345_478 (by omega) (by omega) (by omega) (by omega)]
      simp only [show (0 : Int) < ((qM (aG A) * qL (aG A) + 1 : Nat) : Int) by omega, not_true_eq_false, true_implies, false_implies, and_true, true_and]
      rw [ly_345_481 (by first | exact gl_gr | exact gl_r6 | exact gl_r7 | assumption | rfl), ly_345_483 (by assumption), g5, ly_345_486, ly_345_488 (by first | exact gl_gr | exact gl_r6 | exact gl_r7 | assumption | rfl) (by first | exact gl_cl (by assumption) rfl | exact gl_l6 (by omega) (by omega) | exact gl_l4 (by omega)), wv_get hV2 hu, wz_1, ly_345_491 (by first | exact gl_c7 (by assumption) | exact gl_c14 (by assumption) | exact gl_c12 (by omega) (by omega)), ly_345_494 (by first | exact gl_gr | exact gl_r6 | exact gl_r7 | assumption | rfl) (by first | exact gl_cl (by assumption) rfl | exact gl_l6 (by omega) (by omega) | exact gl_l4 (by omega)), wy_int p1 p2, wz_1, ly_345_497 (by omega) (by omega)]
      simp only [show ¬ (qP (qfin (aG A) u) u < 0) by omega, not_false_eq_true, true_implies, false_implies, and_true, true_and]
      exact exitN w' _ _ hF (by rw [hsame]; exact hH)
  · obtain ⟨q1, q2, q3, q4, q5, q6, q7, q8, q9, q10⟩ := qfin_f (aG A) (qN (aG A))
    have hHok := (qok_fin hG (qN (aG A)) (Nat.le_refl _)).1
    have g0 := hH.1.1
    have g1 : w'.2.1 g 0 = (0, (qN (aG A) : Int)) := by rw [← q10]; exact hH.1.2.1
    rw [ly_345_458, ly_345_460 (by first | exact gl_gr | exact gl_r6 | exact gl_r7 | assumption | rfl), ly_345_462 (by assumption), g1, ly_345_465 (by omega) (by omega) (by omega) (by omega)]
    simp only [show ¬ ((qN (aG A) : Int) < (qN (aG A) : Int)) by omega, not_false_eq_true, true_implies, false_implies, and_true, true_and]
    rw [ly_345_550 (by first | exact gl_gr | exact gl_r6 | exact gl_r7 | assumption | rfl), ly_345_552 (by first | exact gl_gr | exact gl_r6 | exact gl_r7 | assumption | rfl) (by first | exact gl_cl (by assumption) rfl | exact gl_l6 (by omega) (by omega) | exact gl_l4 (by omega))]
    refine yy_painted hH hHok fun w2 hF2 => ?_
    have hG2 := hH.fr0 hF2
    have hF02 : yF (fun x => O x = g) 1 8 w w2 := hF.tr hF2 fun _ _ z => z.elim
    have hI2 := hI.frO hF02 hO hg141.1 (by omega)
    have hs12 := hI2.s1
    rw [q10]
    have hq := qcnt_le (fun v => decide (qP (qfin (aG A) (qN (aG A))) v ≠ -1)) (qN (aG A))
    rw [wz_1, ly_345_555, ly_345_557 (by first | exact gl_gr | exact gl_r6 | exact gl_r7 | assumption | rfl), ly_345_558 (by first | exact gl_gr | exact gl_r6 | exact gl_r7 | assumption | rfl) (by first | exact gl_cl (by assumption) rfl | exact gl_l6 (by omega) (by omega) | exact gl_l4 (by omega))]
    refine cy_do (by decide) (fun M h => cq_129 h hA) hI2 rfl fun w5 hI5 hF5 hc5 => ?_
    rw [wz_1, ly_345_561, ly_345_563]
    exact hQ w5 (a_act A (qfin (aG A) (qN (aG A)))) 1 ((qcnt (fun v => decide (qP (qfin (aG A) (qN (aG A))) v ≠ -1)) (qN (aG A)) : Nat) : Int) _ _ _ _ _ _ ⟨hF02.OK hF5 (by omega) (by omega), ⟨_, _, _, _, _, _, (hG2.toN (w := w)).frK hF5⟩, hI5, Or.inl ⟨rfl, _, rfl, hHok, fun k => by rw [q6]; exact hT k⟩⟩ (by omega) (by omega)
theorem yk_switch (h : yGx w O g (aG A) la ea lp ep t b) (hI : cI w A) (hA : a_ok A) (hT : yTo (aG A)) (hO : ∀ x, x ≤ 141 → O x = 0) (hx : x < qN (aG A)) (hwv : wv ≤ 2147483647) (hl14 : gy_ra l14 = true)
    (hQ : ∀ w' A' is (due : Int) l12 l13 l14 l15 l16 l17, yR w O g A A' is w' → -2147483648 ≤ due → due ≤ 2147483647 → wy N xs (d + 32) 345 1149 (yLa ar pl v g what wv (qK (aG A)) bg is (0, due) (0, due) l12 l13 l14 l15 l16 l17) [] w' Q) :
    wy N xs (d + 32) 345 566 (yLa ar pl v g what wv (qK (aG A)) bg 1 (3, 0) (3, 0) (0, (x : Int)) l13 l14 (3, 0) (3, 0) (3, 0)) [] w Q := by
  have hg141 := h.2.2.2.2.2.2.1.2
  have hG := hA.1
  obtain ⟨⟨g0, g1, g2, g3, g4, g5, g6⟩, ⟨v1, v2⟩, ⟨t1, t2⟩, hAr, hIn, hD, o1, o2, o3, o4, o5, o6, o7⟩ := id h
  obtain ⟨⟨k1, k2, k3, k4, k5, k6, k7, k8⟩, hk, hp, hp2⟩ := id hG
  have e1 : ((wv : Int)).tdiv 8 = ((wv / 8 : Nat) : Int) := rfl
  have e2 : (((wv / 8 : Nat) : Int)).tmod (qM (aG A) : Int) = ((wv / 8 % qM (aG A) : Nat) : Int) := rfl
  have hy := ymod (x := wv / 8) k3
  have hw8 : wv / 8 ≤ wv := Nat.div_le_self _ _
  unfold yLa
  rw [ly_345_566, ly_345_568, ly_345_570 (by omega) (by omega) (by omega) (by omega), e1, ly_345_571 (by first | exact gl_gr | exact gl_r6 | exact gl_r7 | assumption | rfl), ly_345_573 (by assumption), g2, ly_345_576 (by omega) (by omega) (by omega) (by omega), e2]
  generalize wv / 8 % qM (aG A) = y at hy
  have tx : ((x : Int)).toNat = x := Int.toNat_natCast x
  have ty : ((y : Int)).toNat = y := Int.toNat_natCast y
  have ho : o_vg A (x : Int) (y : Int) = 0 := by
    unfold o_vg
    rw [if_pos ⟨by omega, by omega⟩, if_pos ⟨by omega, by omega⟩]
  rw [ly_345_577 (by first | exact gl_gr | exact gl_r6 | exact gl_r7 | assumption | rfl), ly_345_579 (by first | exact gl_gr | exact gl_r6 | exact gl_r7 | assumption | rfl), ly_345_581, ly_345_583, ly_345_585 (by first | exact gl_gr | exact gl_r6 | exact gl_r7 | assumption | rfl) (by first | exact gl_cl (by assumption) rfl | exact gl_l6 (by omega) (by omega) | exact gl_l4 (by omega))]
  refine yy_turn h hG hx hy fun w1 hF1 hG1 => ?_
  have g01 := hG1.1.1
  have g61 : w1.2.1 g 5 = gr t := hG1.1.2.2.2.2.2.2
  have t11 : w1.1 t = (1, 4, 0) := hG1.2.2.1.1
  have t21 : w1.2.1 t 0 = (0, qO (aG A) 0) := hG1.2.2.1.2 0 (by decide)
  have ht0 : t ≠ 0 := by have := o6.2.1; omega
  have hq := qcnt_le (qswc (aG A) x y) (qK (aG A))
  rw [wz_1, ly_345_588, ly_345_590 (by first | exact gl_gr | exact gl_r6 | exact gl_r7 | assumption | rfl), ly_345_592 (by assumption), g61, ly_345_595, ly_345_596, ly_345_597 (by omega) (by assumption) (by omega) (by omega) (by omega), show (0 : Int).toNat = 0 from rfl, t21, ly_345_598, ly_345_599, ly_345_600 (by assumption) (by omega) (by omega) (by omega), show (0 : Int).toNat = 0 from rfl]
  have hG2 := hG1.tot (k := 0) (by decide)
  have hF2 : yF (fun x => O x = g) 1 8 w (w1.1, gy_up w1.2.1 t 0 (0, io_add (qO (aG A) 0) 1), w1.2.2) := yF.u hF1 fun _ => o6.1
  have e9 : qO (qsw (aG A) x y) 0 = qO (aG A) 0 := rfl
  rw [e9] at hG2
  generalize ((w1.1, gy_up w1.2.1 t 0 (0, io_add (qO (aG A) 0) 1), w1.2.2) : gy_W) = w2 at hG2 hF2
  have hI2 := hI.frO hF2 hO hg141.1 (by omega)
  have hs12 := hI2.s1
  rw [ly_345_601 (by first | exact gl_gr | exact gl_r6 | exact gl_r7 | assumption | rfl), ly_345_602, ly_345_604, ly_345_606 (by first | exact gl_gr | exact gl_r6 | exact gl_r7 | assumption | rfl) (by first | exact gl_cl (by assumption) rfl | exact gl_l6 (by omega) (by omega) | exact gl_l4 (by omega))]
  refine cy_do (by decide) (fun M h => cq_141 h hA (x := (x : Int)) (y := (y : Int)) (by omega) (by omega) (by omega) (by omega)) hI2 ho fun w5 hI5 hF5 hc5 => ?_
  rw [tx, ty, sa_t ho] at hI5
  rw [wz_1, tx, ty, ly_345_609, ly_345_611]
  exact hQ w5 (a_act A (qsw (qtot (aG A) 0) x y)) 1 ((qcnt (qswc (aG A) x y) (qK (aG A)) : Nat) : Int) _ _ _ _ _ _ ⟨hF2.OK hF5 (by omega) (by omega), ⟨_, _, _, _, _, _, ((hG2.cg (G' := qsw (qtot (aG A) 0) x y) rfl rfl rfl rfl (fun _ _ => rfl) (fun _ _ => rfl) fun _ _ => ⟨rfl, rfl, rfl, rfl, rfl⟩).toN (w := w)).frK hF5⟩, hI5, Or.inl ⟨rfl, _, rfl, qok_sw (qok_tot hG 0) hx hy, fun k => (hT.tot 0) k⟩⟩ (by omega) (by omega)
theorem yk_drop (h : yGx w O g (aG A) la ea lp ep t b) (hI : cI w A) (hA : a_ok A) (hT : yTo (aG A)) (hO : ∀ x, x ≤ 141 → O x = 0) (hk : k < qK (aG A)) (hl14 : gy_ra l14 = true)
    (hQ : ∀ w' A' is (due : Int) l12 l13 l14 l15 l16 l17, yR w O g A A' is w' → -2147483648 ≤ due → due ≤ 2147483647 → wy N xs (d + 32) 345 1149 (yLa ar pl v g what wv (qK (aG A)) bg is (0, due) (0, due) l12 l13 l14 l15 l16 l17) [] w' Q) :
    wy N xs (d + 32) 345 614 (yLa ar pl v g what wv (qK (aG A)) bg 1 (3, 0) (3, 0) l12 (0, (k : Int)) l14 (3, 0) (3, 0) (3, 0)) [] w Q := by
  have hg141 := h.2.2.2.2.2.2.1.2
  have hG := hA.1
  obtain ⟨⟨g0, g1, g2, g3, g4, g5, g6⟩, ⟨v1, v2⟩, ⟨t1, t2⟩, hAr, hIn, hD, o1, o2, o3, o4, o5, o6, o7⟩ := id h
  obtain ⟨⟨k1, k2, k3, k4, k5, k6, k7, k8⟩, _⟩ := id hG
  have hla := v1.1
  have tk : ((k : Int)).toNat = k := Int.toNat_natCast k
  have ho : o_arc A (k : Int) = 0 := by
    unfold o_arc
    rw [if_pos ⟨by omega, by omega⟩]
  unfold yLa
  rw [ly_345_614 (by first | exact gl_gr | exact gl_r6 | exact gl_r7 | assumption | rfl), ly_345_616 (by assumption), g4, ly_345_619, ly_345_621 (by first | exact gl_gr | exact gl_r6 | exact gl_r7 | assumption | rfl) (by first | exact gl_cl (by assumption) rfl | exact gl_l6 (by omega) (by omega) | exact gl_l4 (by omega))]
  refine wv_rem v1 hk fun w1 hF1 hc1 hV1 => ?_
  have hG1 := h.rem hk hF1 hV1 fun j => rfl
  have a11 : w1.1 (b k) = (0, 0, 7) := (hF1.sh (o7 k hk).2.2).trans (hAr k hk).1
  have g01 := hG1.1.1
  have g61 : w1.2.1 g 5 = gr t := hG1.1.2.2.2.2.2.2
  have t11 : w1.1 t = (1, 4, 0) := hG1.2.2.1.1
  have t21 : w1.2.1 t 2 = (0, qO (aG A) 2) := hG1.2.2.1.2 2 (by decide)
  have ht0 : t ≠ 0 := by have := o6.2.1; omega
  rw [wz_1, ly_345_624 (by first | exact gl_c7 (by assumption) | exact gl_c14 (by assumption) | exact gl_c12 (by omega) (by omega)), ly_345_627 (by first | exact gl_gr | exact gl_r6 | exact gl_r7 | assumption | rfl) (by first | exact gl_gr | exact gl_r6 | exact gl_r7 | assumption | rfl), ly_345_629 (by first | exact gl_gr | exact gl_r6 | exact gl_r7 | assumption | rfl), ly_345_631 (by assumption), g61, ly_345_634, ly_345_635, ly_345_636 (by omega) (by assumption) (by omega) (by omega) (by omega), show (2 : Int).toNat = 2 from rfl, t21, ly_345_637, ly_345_638, ly_345_639 (by assumption) (by omega) (by omega) (by omega), show (2 : Int).toNat = 2 from rfl]
  have hG2 := hG1.tot (k := 2) (by decide)
  have hF1' : yF (fun x => O x = g) 0 0 w w1 := hF1.wk (fun x hx z => by
    rcases z with z | z
    · rw [z]
      exact o2.1
    · rw [z]
      exact o3.1) (Nat.le_refl _) (Nat.le_refl _)
  have hF2 : yF (fun x => O x = g) 0 0 w (w1.1, gy_up w1.2.1 t 2 (0, io_add (qO (aG A) 2) 1), w1.2.2) := yF.u hF1' fun _ => o6.1
  have e9 : qO (qdrop (aG A) k) 2 = qO (aG A) 2 := rfl
  rw [e9] at hG2
  generalize ((w1.1, gy_up w1.2.1 t 2 (0, io_add (qO (aG A) 2) 1), w1.2.2) : gy_W) = w2 at hG2 hF2
  have hI2 := hI.frO hF2 hO hg141.1 (by omega)
  have hs12 := hI2.s1
  have g02 := hG2.1.1
  have g42 := hG2.1.2.2.2.2.1
  have v12 : yV w2 la ea (qK (aG A) - 1) _ := hG2.2.1.1
  have hla2 := v12.1
  rw [ly_345_640 (by first | exact gl_gr | exact gl_r6 | exact gl_r7 | assumption | rfl), ly_345_642 (by assumption), g42, ly_345_645 (by first | exact gl_gr | exact gl_r6 | exact gl_r7 | assumption | rfl) (by first | exact gl_cl (by assumption) rfl | exact gl_l6 (by omega) (by omega) | exact gl_l4 (by omega)), wv_size v12, wz_1, ly_345_648, ly_345_650 (by first | exact gl_gr | exact gl_r6 | exact gl_r7 | assumption | rfl), ly_345_651, ly_345_653 (by first | exact gl_gr | exact gl_r6 | exact gl_r7 | assumption | rfl) (by first | exact gl_cl (by assumption) rfl | exact gl_l6 (by omega) (by omega) | exact gl_l4 (by omega))]
  refine cy_do (by decide) (fun M h => cq_137 h hA (x := (k : Int)) (by omega) (by omega)) hI2 ho fun w5 hI5 hF5 hc5 => ?_
  rw [tk, sa_t ho] at hI5
  rw [wz_1, ly_345_656, ly_345_658]
  exact hQ w5 (a_act A (qdrop (qtot (aG A) 2) k)) 1 ((qK (aG A) - 1 : Nat) : Int) _ _ _ _ _ _ ⟨hF2.OK hF5 (by omega) (by omega), ⟨_, _, _, _, _, _, ((hG2.cg (G' := qdrop (qtot (aG A) 2) k) rfl rfl rfl rfl (fun _ _ => rfl) (fun _ _ => rfl) fun _ _ => ⟨rfl, rfl, rfl, rfl, rfl⟩).toN (w := w)).frK hF5⟩, hI5, Or.inl ⟨rfl, _, rfl, qok_drop (qok_tot hG 2) hk, fun k => (hT.tot 2) k⟩⟩ (by omega) (by omega)
end A2
