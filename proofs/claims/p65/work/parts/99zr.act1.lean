/-! act: another arc; painted; clean -/
section A1
variable {N : Nat} {xs : Nat → Int32} {d : Nat} {w : gy_W} {Q : gy_O → Prop} {O : Nat → Nat} {g : Nat} {A : q_A} {la ea lp ep t : Nat} {b : Nat → Nat} {ar pl v what wv bg x : Nat} {l13 l14 : gg_V}
theorem wy_arc2 {a f tt ga wa : Nat} (h : w.1 a = (0, 0, 7)) (h4 : w.2.1 a 4 = (0, 0)) (hQ : ∀ w', yF (fun x => x = a) 0 0 w w' → w'.2.2 = w.2.2 → yA w' a f tt ga wa false → Q ((0, (3, 0)), w')) : wy N xs d 344 0 [gr a, (0, (f : Int)), (0, (tt : Int)), (0, (ga : Int)), (0, (wa : Int))] [] w Q := by
  rw [wy_arc h]
  refine hQ _ (yF.u (yF.u (yF.u (yF.u yF.rf fun _ => rfl) fun _ => rfl) fun _ => rfl) fun _ => rfl) rfl ⟨h, ?_, ?_, ?_, gy_up_at, ?_⟩
  · show gy_up _ a 3 _ a 0 = _
    rw [gy_up_k (by decide), gy_up_k (by decide), gy_up_k (by decide), gy_up_at]
  · show gy_up _ a 3 _ a 1 = _
    rw [gy_up_k (by decide), gy_up_k (by decide), gy_up_at]
  · show gy_up _ a 3 _ a 2 = _
    rw [gy_up_k (by decide), gy_up_at]
  · show gy_up _ a 3 _ a 4 = _
    rw [gy_up_k (by decide), gy_up_k (by decide), gy_up_k (by decide), gy_up_k (by decide)]
    exact h4
theorem cI.frO {c s : Nat} {w' : gy_W} (hI : cI w A) (hF : yF (fun x => O x = g) c s w w') (hO : ∀ x, x ≤ 141 → O x = 0) (hg : 141 < g) (hc : 141 ≤ w.2.2.1) : cI w' A := hI.fr hF (fun x _ h2 z => by
  have := hO x (by omega)
  have e : O x = g := z
  omega) hc
theorem yF.OK {c s : Nat} {w' w2 : gy_W} (hF : yF (fun x => O x = g) c s w w') (h2 : yF yK 0 0 w' w2) (hc : c ≤ 2200) (hs : s ≤ 30000) : yF (fun x => yK x ∨ O x = g) 2200 30000 w w2 := ((hF.wk (P' := fun x => yK x ∨ O x = g) (fun _ _ z => Or.inr z) hc hs).tr h2 fun _ _ z => Or.inl z).wk (fun _ _ z => z) (Nat.le_refl _) (Nat.le_refl _)
theorem sc_t {G' : q_G} {o : Nat} {c : Bool} (h : o = 0) (hc : c = true) : sc A o c G' = a_act A G' := by
  unfold sc
  rw [if_pos h, if_pos hc]
theorem sc_f {G' : q_G} {o : Nat} {c : Bool} (hc : c = false) : sc A o c G' = A := by
  unfold sc
  rw [hc]
  split
  · rfl
  · rfl
theorem sa_t {G' : q_G} {o : Nat} (h : o = 0) : sa A o G' = a_act A G' := if_pos h
theorem ymod {x m : Nat} (h : 1 ≤ m) : x % m < m := Nat.mod_lt _ h
theorem yk_add (h : yGx w O g (aG A) la ea lp ep t b) (hI : cI w A) (hA : a_ok A) (hT : yTo (aG A)) (hO : ∀ x, x ≤ 141 → O x = 0) (hx : x < qN (aG A)) (hwv : wv ≤ 2147483647) (hl14 : gy_ra l14 = true)
    (hQ : ∀ w' A' is (due : Int) l12 l13 l14 l15 l16 l17, yR w O g A A' is w' → -2147483648 ≤ due → due ≤ 2147483647 → wy N xs (d + 32) 345 1149 (yLa ar pl v g what wv (qK (aG A)) bg is (0, due) (0, due) l12 l13 l14 l15 l16 l17) [] w' Q) :
    wy N xs (d + 32) 345 224 (yLa ar pl v g what wv (qK (aG A)) bg 1 (3, 0) (3, 0) (0, (x : Int)) l13 l14 (3, 0) (3, 0) (3, 0)) [] w Q := by
  have hg141 := h.2.2.2.2.2.2.1.2
  have hG := hA.1
  obtain ⟨⟨g0, g1, g2, g3, g4, g5, g6⟩, ⟨v1, v2⟩, ⟨t1, t2⟩, hAr, hIn, hD, o1, o2, o3, o4, o5, o6, o7⟩ := id h
  obtain ⟨⟨k1, k2, k3, k4, k5, k6, k7, k8⟩, hk, hp, hp2⟩ := id hG
  have e1 : ((wv : Int)).tdiv 8 = ((wv / 8 : Nat) : Int) := rfl
  have e2 : (((wv / 8 : Nat) : Int)).tmod (qN (aG A) : Int) = ((wv / 8 % qN (aG A) : Nat) : Int) := rfl
  have e3 : ((wv : Int)).tdiv 64 = ((wv / 64 : Nat) : Int) := rfl
  have e4 : (((wv / 64 : Nat) : Int)).tmod (qM (aG A) : Int) = ((wv / 64 % qM (aG A) : Nat) : Int) := rfl
  have hy := ymod (x := wv / 8) k1
  have hga := ymod (x := wv / 64) k3
  have hw8 : wv / 8 ≤ wv := Nat.div_le_self _ _
  have hw64 : wv / 64 ≤ wv := Nat.div_le_self _ _
  have tx : ((x : Int)).toNat = x := Int.toNat_natCast x
  have ty : (((wv / 8 % qN (aG A) : Nat) : Int)).toNat = wv / 8 % qN (aG A) := Int.toNat_natCast _
  have tg : (((wv / 64 % qM (aG A) : Nat) : Int)).toNat = wv / 64 % qM (aG A) := Int.toNat_natCast _
  have ho : o_add A (x : Int) ((wv / 8 % qN (aG A) : Nat) : Int) ((wv / 64 % qM (aG A) : Nat) : Int) = 0 := by
    unfold o_add
    rw [if_pos ⟨⟨by omega, by omega⟩, by omega, by omega⟩, if_pos ⟨by omega, by omega⟩]
  unfold yLa
  rw [ly_345_224, ly_345_226, ly_345_228 (by omega) (by omega) (by omega) (by omega), e1, ly_345_229 (by first | exact gl_gr | exact gl_r6 | exact gl_r7 | assumption | rfl), ly_345_231 (by assumption), g1, ly_345_234 (by omega) (by omega) (by omega) (by omega), e2, ly_345_235 (by first | exact gl_gr | exact gl_r6 | exact gl_r7 | assumption | rfl), ly_345_237, ly_345_239, ly_345_241 (by omega) (by omega) (by omega) (by omega), e3, ly_345_242 (by first | exact gl_gr | exact gl_r6 | exact gl_r7 | assumption | rfl), ly_345_244 (by assumption), g2, ly_345_247 (by omega) (by omega) (by omega) (by omega), e4, ly_345_248, ly_345_250, ly_345_252, ly_345_254 (by omega) (by omega) (by omega) (by omega)]
  by_cases hK : qK (aG A) < 12
  · simp only [show (qK (aG A) : Int) < 12 by omega, not_true_eq_false, true_implies, false_implies, and_true, true_and]
    rw [ly_345_257, ly_345_258, ly_345_262 (by first | exact gl_gr | exact gl_r6 | exact gl_r7 | assumption | rfl), ly_345_264, ly_345_266 (by omega) (by omega)]
    simp only [show ¬ ((1 : Int) = 0) by omega, not_false_eq_true, true_implies, false_implies, and_true, true_and]
    rw [ly_345_269 (by first | exact gl_gr | exact gl_r6 | exact gl_r7 | assumption | rfl), ly_345_271 (by assumption), g4, ly_345_274]
    obtain ⟨w1, ew1, hF1, c1, s1, z1⟩ := mk_ex w (0, 0, 7) (fun j => gy_df (gg_ft 7 j)) (gg_nf 7)
    rw [ew1, ly_345_277 (by first | exact gl_gr | exact gl_r6 | exact gl_r7 | assumption | rfl), ly_345_278, ly_345_280, ly_345_282, ly_345_284, ly_345_285]
    refine wy_arc2 (wa := 1) s1 (z1 4) fun w2 hF2 c2 hA2 => ?_
    have hF02 : yF (fun _ => False) 1 12 w w2 := (hF1.tr hF2 fun x hx z => by
      have e : x = w.2.2.1 + 1 := z
      omega).wk (fun _ _ z => z) (by omega) (by have := nf_7; omega)
    have hV2 := v1.fr hF02 id id
    have hla2 := hV2.1
    have cc2 : w2.2.2.1 = w.2.2.1 + 1 := by rw [c2]; exact c1
    rw [wz_0, ly_345_288 (by first | exact gl_gr | exact gl_r6 | exact gl_r7 | assumption | rfl) (by first | exact gl_gr | exact gl_r6 | exact gl_r7 | assumption | rfl) (by first | exact gl_cl (by assumption) rfl | exact gl_l6 (by omega) (by omega) | exact gl_l4 (by omega))]
    refine wv_add hV2 (by omega) (yE.a (by omega) hA2.1) fun w3 ea3 hea3 hF3 hV3 => ?_
    have hle3 := hF3.le
    have hnn := hV2.ne hA2.1 (by decide) (by decide)
    have hA3 := hA2.fr hF3 (fun z => z.elim hnn.1 hnn.2) (by omega)
    have hF03 : yF (fun x => x = la ∨ x = ea) 2 27 w w3 := ((hF02.wk (fun _ _ z => z.elim) (Nat.le_refl _) (Nat.le_refl _)).tt hF3).wk (fun _ _ z => z) (by omega) (by omega)
    have hG3 := h.addA k6 hF03 (na := w.2.2.1 + 1) (by omega) (by omega) (by omega) hV3 (fun _ => rfl) hA3
    have g63 : w3.2.1 g 5 = gr t := hG3.1.2.2.2.2.2.2
    have g03 : w3.1 g = (0, 0, 14) := hG3.1.1
    have t13 : w3.1 t = (1, 4, 0) := hG3.2.2.1.1
    have t23 : w3.2.1 t 1 = (0, qO (aG A) 1) := hG3.2.2.1.2 1 (by decide)
    have ht0 : t ≠ 0 := by have := o6.2.1; omega
    have hG4 := hG3.tot (k := 1) (by decide)
    have hF4 : yF (fun x => O x = g) 2 27 w (w3.1, gy_up w3.2.1 t 1 (0, io_add (qO (aG A) 1) 1), w3.2.2) := yF.u (hF03.wk (fun x hx z => by
      rcases z with z | z
      · rw [z]
        exact o2.1
      · rw [z]
        exact o3.1) (Nat.le_refl _) (Nat.le_refl _)) fun _ => o6.1
    rw [wz_1, ly_345_291, ly_345_292 (by first | exact gl_gr | exact gl_r6 | exact gl_r7 | assumption | rfl), ly_345_294 (by assumption), g63, ly_345_297, ly_345_298, ly_345_299 (by omega) (by assumption) (by omega) (by omega) (by omega), show (1 : Int).toNat = 1 from rfl, t23, ly_345_300, ly_345_301, ly_345_302 (by assumption) (by omega) (by omega) (by omega), show (1 : Int).toNat = 1 from rfl]
    have e9 : qO (qput (aG A) x (wv / 8 % qN (aG A)) (wv / 64 % qM (aG A)) 1) 1 = qO (aG A) 1 := rfl
    rw [e9] at hG4
    generalize ((w3.1, gy_up w3.2.1 t 1 (0, io_add (qO (aG A) 1) 1), w3.2.2) : gy_W) = w4 at hG4 hF4
    have hI4 := hI.frO hF4 hO hg141.1 (by omega)
    have hs14 := hI4.s1
    have hok := qok_put (qok_tot hG 1) hx hy hga (w := 1) (by decide) hK
    rw [ly_345_303, ly_345_305 (by omega) (by omega)]
    simp only [show ¬ ((1 : Int) = 0) by omega, not_false_eq_true, true_implies, false_implies, and_true, true_and]
    rw [ly_345_308, ly_345_310, ly_345_315, ly_345_317 (by first | exact gl_gr | exact gl_r6 | exact gl_r7 | assumption | rfl), ly_345_318, ly_345_320, ly_345_322, ly_345_324 (by first | exact gl_gr | exact gl_r6 | exact gl_r7 | assumption | rfl) (by first | exact gl_cl (by assumption) rfl | exact gl_l6 (by omega) (by omega) | exact gl_l4 (by omega))]
    refine cy_do (by decide) (fun M h => cq_135 h hA (x := (x : Int)) (y := ((wv / 8 % qN (aG A) : Nat) : Int)) (z := ((wv / 64 % qM (aG A) : Nat) : Int)) (by omega) (by omega) (by omega) (by omega) (by omega) (by omega)) hI4 ho fun w5 hI5 hF5 hc5 => ?_
    rw [tx, ty, tg, sc_t ho (decide_eq_true hK)] at hI5
    rw [wz_1, if_pos hK, ly_345_327, ly_345_329]
    refine hQ w5 (a_act A (qput (qtot (aG A) 1) x (wv / 8 % qN (aG A)) (wv / 64 % qM (aG A)) 1)) 1 (qK (aG A) : Int) _ _ _ _ _ _ ⟨hF4.OK hF5 (by omega) (by omega), ⟨_, _, _, _, _, _, (hG4.cg (G' := qput (qtot (aG A) 1) x (wv / 8 % qN (aG A)) (wv / 64 % qM (aG A)) 1) rfl rfl rfl rfl (fun _ _ => rfl) (fun _ _ => rfl) fun _ _ => ⟨rfl, rfl, rfl, rfl, rfl⟩).frK hF5⟩, hI5, Or.inl ⟨rfl, _, rfl, hok, ?_⟩⟩ (by omega) (by omega)
    exact fun k => (hT.tot 1) k
  · simp only [show ¬ ((qK (aG A) : Int) < 12) by omega, not_false_eq_true, true_implies, false_implies, and_true, true_and]
    have hs14 := hI.s1
    rw [ly_345_261, ly_345_262 (by first | exact gl_gr | exact gl_r6 | exact gl_r7 | assumption | rfl), ly_345_264, ly_345_266 (by omega) (by omega)]
    simp only [show (0 : Int) = 0 by omega, not_true_eq_false, true_implies, false_implies, and_true, true_and]
    rw [ly_345_303, ly_345_305 (by omega) (by omega)]
    simp only [show (0 : Int) = 0 by omega, not_true_eq_false, true_implies, false_implies, and_true, true_and]
    rw [ly_345_313, ly_345_315, ly_345_317 (by first | exact gl_gr | exact gl_r6 | exact gl_r7 | assumption | rfl), ly_345_318, ly_345_320, ly_345_322, ly_345_324 (by first | exact gl_gr | exact gl_r6 | exact gl_r7 | assumption | rfl) (by first | exact gl_cl (by assumption) rfl | exact gl_l6 (by omega) (by omega) | exact gl_l4 (by omega))]
    refine cy_do (by decide) (fun M h => cq_135 h hA (x := (x : Int)) (y := ((wv / 8 % qN (aG A) : Nat) : Int)) (z := ((wv / 64 % qM (aG A) : Nat) : Int)) (by omega) (by omega) (by omega) (by omega) (by omega) (by omega)) hI ho fun w5 hI5 hF5 hc5 => ?_
    rw [sc_f (decide_eq_false hK)] at hI5
    rw [wz_1, if_neg hK, ly_345_327, ly_345_329]
    exact hQ w5 A 0 (-2) _ _ _ _ _ _ ⟨(yF.rf (P := fun x => O x = g)).OK hF5 (by omega) (by omega), ⟨_, _, _, _, _, _, (h.toN (w := w)).frK hF5⟩, hI5, Or.inr ⟨rfl, rfl⟩⟩ (by decide) (by decide)
/-- painted -/
theorem yk_paint (h : yGx w O g (aG A) la ea lp ep t b) (hI : cI w A) (hA : a_ok A) (hT : yTo (aG A)) (hO : ∀ x, x ≤ 141 → O x = 0) (hx : x < qN (aG A)) (hwv : wv ≤ 2147483647) (hl14 : gy_ra l14 = true)
    (hQ : ∀ w' A' is (due : Int) l12 l13 l14 l15 l16 l17, yR w O g A A' is w' → -2147483648 ≤ due → due ≤ 2147483647 → wy N xs (d + 32) 345 1149 (yLa ar pl v g what wv (qK (aG A)) bg is (0, due) (0, due) l12 l13 l14 l15 l16 l17) [] w' Q) :
    wy N xs (d + 32) 345 332 (yLa ar pl v g what wv (qK (aG A)) bg 1 (3, 0) (3, 0) (0, (x : Int)) l13 l14 (3, 0) (3, 0) (3, 0)) [] w Q := by
  have hg141 := h.2.2.2.2.2.2.1.2
  have hG := hA.1
  obtain ⟨⟨g0, g1, g2, g3, g4, g5, g6⟩, ⟨v1, v2⟩, ⟨t1, t2⟩, hAr, hIn, hD, o1, o2, o3, o4, o5, o6, o7⟩ := id h
  obtain ⟨⟨k1, k2, k3, k4, k5, k6, k7, k8⟩, hk, hp, hp2⟩ := id hG
  have hml : qM (aG A) * qL (aG A) ≤ 12 * 5 := Nat.mul_le_mul k4 k8
  have e1 : ((wv : Int)).tdiv 8 = ((wv / 8 : Nat) : Int) := rfl
  have e2 : (((wv / 8 : Nat) : Int)).tmod ((qM (aG A) * qL (aG A) + 1 : Nat) : Int) = ((wv / 8 % (qM (aG A) * qL (aG A) + 1) : Nat) : Int) := rfl
  have hy := ymod (x := wv / 8) (m := qM (aG A) * qL (aG A) + 1) (by omega)
  have hw8 : wv / 8 ≤ wv := Nat.div_le_self _ _
  have hlp := v2.1
  unfold yLa
  rw [ly_345_332, ly_345_334, ly_345_336 (by omega) (by omega) (by omega) (by omega), e1, ly_345_337 (by first | exact gl_gr | exact gl_r6 | exact gl_r7 | assumption | rfl), ly_345_339 (by first | exact gl_gr | exact gl_r6 | exact gl_r7 | assumption | rfl) (by first | exact gl_cl (by assumption) rfl | exact gl_l6 (by omega) (by omega) | exact gl_l4 (by omega)), yy_colors h hG, wz_1, ly_345_342 (by omega) (by omega) (by omega) (by omega), e2, ly_345_343 (by first | exact gl_gr | exact gl_r6 | exact gl_r7 | assumption | rfl), ly_345_345 (by first | exact gl_gr | exact gl_r6 | exact gl_r7 | assumption | rfl), ly_345_347, ly_345_349, ly_345_351 (by first | exact gl_gr | exact gl_r6 | exact gl_r7 | assumption | rfl) (by first | exact gl_cl (by assumption) rfl | exact gl_l6 (by omega) (by omega) | exact gl_l4 (by omega))]
  generalize wv / 8 % (qM (aG A) * qL (aG A) + 1) = y at hy
  have tx : ((x : Int)).toNat = x := Int.toNat_natCast x
  have ty : ((y : Int)).toNat = y := Int.toNat_natCast y
  have ho : o_vc A (x : Int) (y : Int) = 0 := by
    unfold o_vc
    rw [if_pos ⟨by omega, by omega⟩, if_pos ⟨by omega, by omega⟩]
  rw [yy_bar h hG (by omega) (by omega), wz_1]
  have hrg := qfst_rg (qhit (aG A) (qP (aG A)) x (y : Int)) (qK (aG A))
  rw [ly_345_354 (by omega) (by omega)]
  by_cases hb : qfst (qhit (aG A) (qP (aG A)) x (y : Int)) (qK (aG A)) = -1
  · rw [hb]
    simp only [show (-1 : Int) < 0 by omega, not_true_eq_false, true_implies, false_implies, and_true, true_and]
    obtain ⟨p1, p2⟩ := yz_P hG (v := x) (by omega)
    rw [ly_345_357, ly_345_358, ly_345_362 (by first | exact gl_gr | exact gl_r6 | exact gl_r7 | assumption | rfl), ly_345_364, ly_345_366 (by omega) (by omega)]
    simp only [show ¬ ((1 : Int) = 0) by omega, not_false_eq_true, true_implies, false_implies, and_true, true_and]
    rw [ly_345_369 (by first | exact gl_gr | exact gl_r6 | exact gl_r7 | assumption | rfl), ly_345_371 (by assumption), g5, ly_345_374, ly_345_376, ly_345_378, wy_val (by omega) (by omega), wz_1, ly_345_381 (by first | exact gl_gr | exact gl_r6 | exact gl_r7 | assumption | rfl) (by first | exact gl_gr | exact gl_r6 | exact gl_r7 | assumption | rfl) (by first | exact gl_cl (by assumption) rfl | exact gl_l6 (by omega) (by omega) | exact gl_l4 (by omega))]
    refine wv_set v2 hx (yE.i (by omega) (by omega)) fun w1 hF1 hc1 hV1 => ?_
    have hG1 : yGx w1 O g (qsetP (aG A) x (y : Int)) la ea lp ep t b := h.pnt hF1 hV1 rfl rfl rfl rfl (fun j hj => by
      show (6, qup (qP (aG A)) x (y : Int) j) = if j = x then (6, (y : Int)) else (6, qP (aG A) j)
      unfold qup
      split <;> rfl) rfl fun c _ => ⟨rfl, rfl, rfl, rfl, rfl⟩
    have hok := qok_setP hG hx (x := (y : Int)) (by omega) (by omega)
    have hF1' : yF (fun x => O x = g) 0 0 w w1 := hF1.wk (fun x _ z => by rw [show x = ep from z]; exact o5.1) (Nat.le_refl _) (Nat.le_refl _)
    have g01 := hG1.1.1
    rw [wz_1, ly_345_384 (by first | exact gl_c7 (by assumption) | exact gl_c14 (by assumption) | exact gl_c12 (by omega) (by omega)), ly_345_387 (by first | exact gl_gr | exact gl_r6 | exact gl_r7 | assumption | rfl) (by first | exact gl_cl (by assumption) rfl | exact gl_l6 (by omega) (by omega) | exact gl_l4 (by omega)), wy_int p1 p2, wz_1, ly_345_390, ly_345_392, ly_345_394 (by omega) (by omega)]
    simp only [show ¬ ((1 : Int) = 0) by omega, not_false_eq_true, true_implies, false_implies, and_true, true_and]
    rw [ly_345_397 (by first | exact gl_gr | exact gl_r6 | exact gl_r7 | assumption | rfl), ly_345_399 (by first | exact gl_gr | exact gl_r6 | exact gl_r7 | assumption | rfl) (by first | exact gl_cl (by assumption) rfl | exact gl_l6 (by omega) (by omega) | exact gl_l4 (by omega))]
    refine yy_painted hG1 hok fun w2 hF2 => ?_
    have hG2 := hG1.fr0 hF2
    have hF02 : yF (fun x => O x = g) 1 8 w w2 := hF1'.tr hF2 fun _ _ z => z.elim
    have hI2 := hI.frO hF02 hO hg141.1 (by omega)
    have hs12 := hI2.s1
    have hq := qcnt_le (fun u => decide (qP (qsetP (aG A) x (y : Int)) u ≠ -1)) (qN (aG A))
    rw [wz_1, ly_345_402, ly_345_407, ly_345_409 (by first | exact gl_gr | exact gl_r6 | exact gl_r7 | assumption | rfl), ly_345_410, ly_345_412, ly_345_414 (by first | exact gl_gr | exact gl_r6 | exact gl_r7 | assumption | rfl) (by first | exact gl_cl (by assumption) rfl | exact gl_l6 (by omega) (by omega) | exact gl_l4 (by omega))]
    refine cy_do (by decide) (fun M h => cq_127 h hA (x := (x : Int)) (y := (y : Int)) (by omega) (by omega) (by omega) (by omega)) hI2 ho fun w5 hI5 hF5 hc5 => ?_
    rw [tx, ty] at hI5
    rw [sc_t ho (decide_eq_true hb)] at hI5
    rw [wz_1, tx, ty, if_pos hb, ly_345_417, ly_345_419]
    exact hQ w5 (a_act A (qsetP (aG A) x (y : Int))) 1 ((qcnt (fun u => decide (qP (qsetP (aG A) x (y : Int)) u ≠ -1)) (qN (aG A)) : Nat) : Int) _ _ _ _ _ _ ⟨hF02.OK hF5 (by omega) (by omega), ⟨_, _, _, _, _, _, (hG2.toN (w := w)).frK hF5⟩, hI5, Or.inl ⟨rfl, _, rfl, hok, fun k => hT k⟩⟩ (by omega) (by omega)
  · have hs1 := hI.s1
    simp only [show ¬ (qfst (qhit (aG A) (qP (aG A)) x (y : Int)) (qK (aG A)) < 0) by omega, not_false_eq_true, true_implies, false_implies, and_true, true_and]
    rw [ly_345_361, ly_345_362 (by first | exact gl_gr | exact gl_r6 | exact gl_r7 | assumption | rfl), ly_345_364, ly_345_366 (by omega) (by omega)]
    simp only [show (0 : Int) = 0 by omega, not_true_eq_false, true_implies, false_implies, and_true, true_and]
    rw [ly_345_392, ly_345_394 (by omega) (by omega)]
    simp only [show (0 : Int) = 0 by omega, not_true_eq_false, true_implies, false_implies, and_true, true_and]
    rw [ly_345_405, ly_345_407, ly_345_409 (by first | exact gl_gr | exact gl_r6 | exact gl_r7 | assumption | rfl), ly_345_410, ly_345_412, ly_345_414 (by first | exact gl_gr | exact gl_r6 | exact gl_r7 | assumption | rfl) (by first | exact gl_cl (by assumption) rfl | exact gl_l6 (by omega) (by omega) | exact gl_l4 (by omega))]
    refine cy_do (by decide) (fun M h => cq_127 h hA (x := (x : Int)) (y := (y : Int)) (by omega) (by omega) (by omega) (by omega)) hI ho fun w5 hI5 hF5 hc5 => ?_
    rw [tx, ty] at hI5
    rw [sc_f (decide_eq_false hb)] at hI5
    rw [wz_1, tx, ty, if_neg hb, ly_345_417, ly_345_419]
    exact hQ w5 A 0 (-5) _ _ _ _ _ _ ⟨(yF.rf (P := fun x => O x = g)).OK hF5 (by omega) (by omega), ⟨_, _, _, _, _, _, (h.toN (w := w)).frK hF5⟩, hI5, Or.inr ⟨rfl, rfl⟩⟩ (by decide) (by decide)
/-- clean -/
theorem yk_clean (h : yGx w O g (aG A) la ea lp ep t b) (hI : cI w A) (hA : a_ok A) (hT : yTo (aG A)) (hO : ∀ x, x ≤ 141 → O x = 0) (hx : x < qN (aG A))
    (hQ : ∀ w' A' is (due : Int) l12 l13 l14 l15 l16 l17, yR w O g A A' is w' → -2147483648 ≤ due → due ≤ 2147483647 → wy N xs (d + 32) 345 1149 (yLa ar pl v g what wv (qK (aG A)) bg is (0, due) (0, due) l12 l13 l14 l15 l16 l17) [] w' Q) :
    wy N xs (d + 32) 345 422 (yLa ar pl v g what wv (qK (aG A)) bg 1 (3, 0) (3, 0) (0, (x : Int)) l13 l14 (3, 0) (3, 0) (3, 0)) [] w Q := by
  have hg141 := h.2.2.2.2.2.2.1.2
  have hG := hA.1
  obtain ⟨⟨g0, g1, g2, g3, g4, g5, g6⟩, ⟨v1, v2⟩, ⟨t1, t2⟩, hAr, hIn, hD, o1, o2, o3, o4, o5, o6, o7⟩ := id h
  obtain ⟨⟨k1, k2, k3, k4, k5, k6, k7, k8⟩, hk, hp, hp2⟩ := id hG
  have hlp := v2.1
  have tx : ((x : Int)).toNat = x := Int.toNat_natCast x
  have ho : o_ver A (x : Int) = 0 := by
    unfold o_ver
    rw [if_pos ⟨by omega, by omega⟩]
  obtain ⟨p1, p2⟩ := yz_P hG (v := x) (by omega)
  unfold yLa
  rw [ly_345_422 (by first | exact gl_gr | exact gl_r6 | exact gl_r7 | assumption | rfl), ly_345_424 (by assumption), g5, ly_345_427, ly_345_429, ly_345_430, wy_val (by decide) (by decide), wz_1, ly_345_433 (by first | exact gl_gr | exact gl_r6 | exact gl_r7 | assumption | rfl) (by first | exact gl_gr | exact gl_r6 | exact gl_r7 | assumption | rfl) (by first | exact gl_cl (by assumption) rfl | exact gl_l6 (by omega) (by omega) | exact gl_l4 (by omega))]
  refine wv_set v2 hx (yE.i (by decide) (by decide)) fun w1 hF1 hc1 hV1 => ?_
  have hG1 : yGx w1 O g (qsetP (aG A) x (-1)) la ea lp ep t b := h.pnt hF1 hV1 rfl rfl rfl rfl (fun j hj => by
    show (6, qup (qP (aG A)) x (-1) j) = if j = x then (6, -1) else (6, qP (aG A) j)
    unfold qup
    split <;> rfl) rfl fun c _ => ⟨rfl, rfl, rfl, rfl, rfl⟩
  have hok := qok_setP hG hx (x := -1) (by decide) (by omega)
  have hF1' : yF (fun x => O x = g) 0 0 w w1 := hF1.wk (fun x _ z => by rw [show x = ep from z]; exact o5.1) (Nat.le_refl _) (Nat.le_refl _)
  have hI1 := hI.frO hF1' hO hg141.1 (by omega)
  have hs11 := hI1.s1
  rw [wz_1, ly_345_436 (by first | exact gl_c7 (by assumption) | exact gl_c14 (by assumption) | exact gl_c12 (by omega) (by omega)), ly_345_439 (by first | exact gl_gr | exact gl_r6 | exact gl_r7 | assumption | rfl) (by first | exact gl_cl (by assumption) rfl | exact gl_l6 (by omega) (by omega) | exact gl_l4 (by omega)), wy_int p1 p2, wz_1, ly_345_442, ly_345_444 (by first | exact gl_gr | exact gl_r6 | exact gl_r7 | assumption | rfl), ly_345_445, ly_345_447 (by first | exact gl_gr | exact gl_r6 | exact gl_r7 | assumption | rfl) (by first | exact gl_cl (by assumption) rfl | exact gl_l6 (by omega) (by omega) | exact gl_l4 (by omega))]
  refine cy_do (by decide) (fun M h => cq_128 h hA (x := (x : Int)) (by omega) (by omega)) hI1 ho fun w5 hI5 hF5 hc5 => ?_
  rw [tx, sa_t ho] at hI5
  rw [wz_1, tx, ly_345_450, ly_345_452]
  exact hQ w5 (a_act A (qsetP (aG A) x (-1))) 1 (qP (aG A) x) _ _ _ _ _ _ ⟨hF1'.OK hF5 (by omega) (by omega), ⟨_, _, _, _, _, _, (hG1.toN (w := w)).frK hF5⟩, hI5, Or.inl ⟨rfl, _, rfl, hok, fun k => hT k⟩⟩ (by omega) (by omega)
end A1
