/-! act: marked, closed, a vertex, the palette -/
theorem yz_bit01 (c : Bool) : ((c.toNat : Nat) : Int) = 0 ∨ ((c.toNat : Nat) : Int) = 1 := by cases c <;> decide
/-- the first a arcs are marked as in s -/
def qmark (G : q_G) (s a : Nat) : q_G := qsetS G (qbits (fun c => if c < a then s.testBit c else (qS G).testBit c) (qK G))
theorem qmark_b {G : q_G} {s a c : Nat} (h : c < qK G) : (qS (qmark G s a)).testBit c = if c < a then s.testBit c else (qS G).testBit c := by
  show (qbits (fun c => if c < a then s.testBit c else (qS G).testBit c) (qK G)).testBit c = _
  rw [qbits_bit, decide_eq_true h, Bool.true_and]
section A4
variable {N : Nat} {xs : Nat → Int32} {d : Nat} {w : gy_W} {Q : gy_O → Prop} {O : Nat → Nat} {g : Nat} {A : q_A} {la ea lp ep t : Nat} {b : Nat → Nat} {ar pl v what wv bg x k s : Nat} {l12 l13 l14 : gg_V}
theorem yk_mk1 {G : q_G} {l0 l10 l11 : gg_V} (h : yGx w O g G la ea lp ep t b) (hG : q_ok G) (hs : s < 4096) (hl14 : gy_ra l14 = true)
    (hQ : ∀ w' l16, yF (fun x => O x = g) 0 0 w w' → yGx w' O g (qsetS G s) la ea lp ep t b → wy N xs (d + 32) 345 920 [l0, gr ar, gr pl, (0, (v : Int)), gr g, (0, (what : Int)), (0, (wv : Int)), (0, (qK G : Int)), gr bg, (0, ((1 : Nat) : Int)), l10, l11, l12, l13, l14, (0, (s : Int)), l16, (3, 0)] [] w' Q) :
    wy N xs (d + 32) 345 884 [l0, gr ar, gr pl, (0, (v : Int)), gr g, (0, (what : Int)), (0, (wv : Int)), (0, (qK G : Int)), gr bg, (0, ((1 : Nat) : Int)), l10, l11, l12, l13, l14, (0, (s : Int)), (0, 0), (3, 0)] [] w Q := by
  obtain ⟨⟨k1, k2, k3, k4, k5, k6, k7, k8⟩, hkk, _⟩ := id hG
  refine wl_for (P := fun a => ∀ (w' : gy_W), yF (fun x => O x = g) 0 0 w w' → yGx w' O g (qmark G s a) la ea lp ep t b → wy N xs (d + 32) 345 884 [l0, gr ar, gr pl, (0, (v : Int)), gr g, (0, (what : Int)), (0, (wv : Int)), (0, (qK G : Int)), gr bg, (0, ((1 : Nat) : Int)), l10, l11, l12, l13, l14, (0, (s : Int)), (0, (a : Int)), (3, 0)] [] w' Q) (qK G) (fun a ha ih w' hF hH => ?_) (fun w' hF hH => ?_) w yF.rf (h.cg rfl rfl rfl rfl (fun _ _ => rfl) (fun _ _ => rfl) fun c hc => ⟨rfl, rfl, rfl, rfl, (qmark_b hc).trans (if_neg (Nat.not_lt_zero c))⟩)
  · have e0 : io_add (a : Int) 1 = ((a + 1 : Nat) : Int) := by rw [io_add_o (by omega) (by omega)]; omega
    obtain ⟨⟨g0, g1, g2, g3, g4, g5, g6⟩, ⟨v1, v2⟩, _, hAr, _, _, _, _, _, _, _, _, o7⟩ := id hH
    have v1' : yV w' la ea (qK G) (fun a => gr (b a)) := v1
    have hla := v1'.1
    have hAa := hAr a ha
    have a1 := hAa.1
    have hb01 := yz_bit01 (s.testBit a)
    rw [ly_345_884, ly_345_886, ly_345_888 (by omega) (by omega) (by omega) (by omega)]
    simp only [show (a : Int) < (qK G : Int) by omega, not_true_eq_false, true_implies, false_implies, and_true, true_and]
    rw [ly_345_891 (by first | exact gl_gr | exact gl_r6 | exact gl_r7 | assumption | rfl), ly_345_893 (by assumption), g4, ly_345_896, ly_345_898 (by first | exact gl_gr | exact gl_r6 | exact gl_r7 | assumption | rfl) (by first | exact gl_cl (by assumption) rfl | exact gl_l6 (by omega) (by omega) | exact gl_l4 (by omega)), wv_get v1' ha, wz_1, ly_345_901 (by first | exact gl_c7 (by assumption) | exact gl_c14 (by assumption) | exact gl_c12 (by omega) (by omega)), ly_345_904, ly_345_906, ly_345_908, wy_has (by omega) (by omega), wz_1, ly_345_911 a1 hb01, ly_345_914, e0, ly_345_917]
    refine ih _ (yF.u hF fun _ => (o7 a ha).1) (hH.arc ha rfl rfl rfl rfl rfl rfl (fun c hc hca => ⟨rfl, rfl, rfl, rfl, ?_⟩) ?_)
    · have hc' : c < qK G := hc
      rw [qmark_b hc', qmark_b hc']
      by_cases h1 : c < a
      · rw [if_pos h1, if_pos (by omega)]
      · rw [if_neg h1, if_neg (by omega)]
    · rw [qmark_b ha, if_pos (Nat.lt_succ_self a)]
      exact hAa.s4
  · rw [ly_345_884, ly_345_886, ly_345_888 (by omega) (by omega) (by omega) (by omega)]
    simp only [show ¬ ((qK G : Int) < (qK G : Int)) by omega, not_false_eq_true, true_implies, false_implies, and_true, true_and]
    exact hQ w' _ hF (hH.cg rfl rfl rfl rfl (fun _ _ => rfl) (fun _ _ => rfl) fun c hc => ⟨rfl, rfl, rfl, rfl, ((qmark_b (G := G) (s := s) (a := qK G) (show c < qK G from hc)).trans (if_pos (show c < qK G from hc))).symm⟩)
theorem yk_mk2 {G : q_G} {l0 l10 l11 : gg_V} (h : yGx w O g G la ea lp ep t b) (hG : q_ok G) (hs : s < 4096) (hl14 : gy_ra l14 = true)
    (hQ : ∀ w' l16, yF (fun x => O x = g) 0 0 w w' → yGx w' O g (qsetS G s) la ea lp ep t b → wy N xs (d + 32) 345 1063 [l0, gr ar, gr pl, (0, (v : Int)), gr g, (0, (what : Int)), (0, (wv : Int)), (0, (qK G : Int)), gr bg, (0, ((1 : Nat) : Int)), l10, l11, l12, l13, l14, (0, (s : Int)), l16, (3, 0)] [] w' Q) :
    wy N xs (d + 32) 345 1027 [l0, gr ar, gr pl, (0, (v : Int)), gr g, (0, (what : Int)), (0, (wv : Int)), (0, (qK G : Int)), gr bg, (0, ((1 : Nat) : Int)), l10, l11, l12, l13, l14, (0, (s : Int)), (0, 0), (3, 0)] [] w Q := by
  obtain ⟨⟨k1, k2, k3, k4, k5, k6, k7, k8⟩, hkk, _⟩ := id hG
  refine wl_for (P := fun a => ∀ (w' : gy_W), yF (fun x => O x = g) 0 0 w w' → yGx w' O g (qmark G s a) la ea lp ep t b → wy N xs (d + 32) 345 1027 [l0, gr ar, gr pl, (0, (v : Int)), gr g, (0, (what : Int)), (0, (wv : Int)), (0, (qK G : Int)), gr bg, (0, ((1 : Nat) : Int)), l10, l11, l12, l13, l14, (0, (s : Int)), (0, (a : Int)), (3, 0)] [] w' Q) (qK G) (fun a ha ih w' hF hH => ?_) (fun w' hF hH => ?_) w yF.rf (h.cg rfl rfl rfl rfl (fun _ _ => rfl) (fun _ _ => rfl) fun c hc => ⟨rfl, rfl, rfl, rfl, (qmark_b hc).trans (if_neg (Nat.not_lt_zero c))⟩)
  · have e0 : io_add (a : Int) 1 = ((a + 1 : Nat) : Int) := by rw [io_add_o (by omega) (by omega)]; omega
    obtain ⟨⟨g0, g1, g2, g3, g4, g5, g6⟩, ⟨v1, v2⟩, _, hAr, _, _, _, _, _, _, _, _, o7⟩ := id hH
    have v1' : yV w' la ea (qK G) (fun a => gr (b a)) := v1
    have hla := v1'.1
    have hAa := hAr a ha
    have a1 := hAa.1
    have hb01 := yz_bit01 (s.testBit a)
    rw [ly_345_1027, ly_345_1029, ly_345_1031 (by omega) (by omega) (by omega) (by omega)]
    simp only [show (a : Int) < (qK G : Int) by omega, not_true_eq_false, true_implies, false_implies, and_true, true_and]
    rw [ly_345_1034 (by first | exact gl_gr | exact gl_r6 | exact gl_r7 | assumption | rfl), ly_345_1036 (by assumption), g4, ly_345_1039, ly_345_1041 (by first | exact gl_gr | exact gl_r6 | exact gl_r7 | assumption | rfl) (by first | exact gl_cl (by assumption) rfl | exact gl_l6 (by omega) (by omega) | exact gl_l4 (by omega)), wv_get v1' ha, wz_1, ly_345_1044 (by first | exact gl_c7 (by assumption) | exact gl_c14 (by assumption) | exact gl_c12 (by omega) (by omega)), ly_345_1047, ly_345_1049, ly_345_1051, wy_has (by omega) (by omega), wz_1, ly_345_1054 a1 hb01, ly_345_1057, e0, ly_345_1060]
    refine ih _ (yF.u hF fun _ => (o7 a ha).1) (hH.arc ha rfl rfl rfl rfl rfl rfl (fun c hc hca => ⟨rfl, rfl, rfl, rfl, ?_⟩) ?_)
    · have hc' : c < qK G := hc
      rw [qmark_b hc', qmark_b hc']
      by_cases h1 : c < a
      · rw [if_pos h1, if_pos (by omega)]
      · rw [if_neg h1, if_neg (by omega)]
    · rw [qmark_b ha, if_pos (Nat.lt_succ_self a)]
      exact hAa.s4
  · rw [ly_345_1027, ly_345_1029, ly_345_1031 (by omega) (by omega) (by omega) (by omega)]
    simp only [show ¬ ((qK G : Int) < (qK G : Int)) by omega, not_false_eq_true, true_implies, false_implies, and_true, true_and]
    exact hQ w' _ hF (hH.cg rfl rfl rfl rfl (fun _ _ => rfl) (fun _ _ => rfl) fun c hc => ⟨rfl, rfl, rfl, rfl, ((qmark_b (G := G) (s := s) (a := qK G) (show c < qK G from hc)).trans (if_pos (show c < qK G from hc))).symm⟩)
theorem yk_mark (h : yGx w O g (aG A) la ea lp ep t b) (hI : cI w A) (hA : a_ok A) (hT : yTo (aG A)) (hO : ∀ x, x ≤ 141 → O x = 0) (hwv : wv ≤ 2147483647) (hl14 : gy_ra l14 = true)
    (hQ : ∀ w' A' is (due : Int) l12 l13 l14 l15 l16 l17, yR w O g A A' is w' → -2147483648 ≤ due → due ≤ 2147483647 → wy N xs (d + 32) 345 1149 (yLa ar pl v g what wv (qK (aG A)) bg is (0, due) (0, due) l12 l13 l14 l15 l16 l17) [] w' Q) :
    wy N xs (d + 32) 345 865 (yLa ar pl v g what wv (qK (aG A)) bg 1 (3, 0) (3, 0) l12 l13 l14 (3, 0) (3, 0) (3, 0)) [] w Q := by
  have hg141 := h.2.2.2.2.2.2.1.2
  have hG := hA.1
  have g0 := h.1.1
  obtain ⟨⟨k1, k2, k3, k4, k5, k6, k7, k8⟩, hkk, _⟩ := id hG
  have hp2 : 2 ^ qK (aG A) ≤ 2 ^ 12 := Nat.pow_le_pow_right (by decide) k5
  have hp1 : 1 ≤ 2 ^ qK (aG A) := Nat.one_le_two_pow
  have e1 : io_shl 1 (qK (aG A) : Int) = ((2 ^ qK (aG A) : Nat) : Int) := io_shl1 (by omega) (by omega)
  have e2 : ((wv : Int)).tmod ((2 ^ qK (aG A) : Nat) : Int) = ((wv % 2 ^ qK (aG A) : Nat) : Int) := rfl
  have hs := ymod (x := wv) hp1
  unfold yLa
  rw [ly_345_865, ly_345_867, ly_345_868, ly_345_870, e1, ly_345_871 (by omega) (by omega) (by omega) (by omega), e2]
  generalize wv % 2 ^ qK (aG A) = s at hs
  have tx : ((s : Int)).toNat = s := Int.toNat_natCast s
  have ho : o_set A (s : Int) = 0 := by
    unfold o_set qU
    rw [if_pos ⟨by omega, by omega⟩]
  rw [ly_345_872 (by first | exact gl_gr | exact gl_r6 | exact gl_r7 | assumption | rfl), ly_345_874 (by first | exact gl_gr | exact gl_r6 | exact gl_r7 | assumption | rfl), ly_345_876 (by first | exact gl_gr | exact gl_r6 | exact gl_r7 | assumption | rfl) (by first | exact gl_cl (by assumption) rfl | exact gl_l6 (by omega) (by omega) | exact gl_l4 (by omega)), yy_marked h hG, wz_1, ly_345_879, ly_345_881, ly_345_882]
  refine yk_mk1 h hG (by omega) hl14 fun w1 l16 hF1 hG1 => ?_
  have hI1 := hI.frO hF1 hO hg141.1 (by omega)
  have hs11 := hI1.s1
  rw [ly_345_920 (by first | exact gl_gr | exact gl_r6 | exact gl_r7 | assumption | rfl), ly_345_921, ly_345_923 (by first | exact gl_gr | exact gl_r6 | exact gl_r7 | assumption | rfl) (by first | exact gl_cl (by assumption) rfl | exact gl_l6 (by omega) (by omega) | exact gl_l4 (by omega))]
  refine cy_do (by decide) (fun M h => cq_143 h hA (x := (s : Int)) (by omega) (by omega)) hI1 ho fun w5 hI5 hF5 hc5 => ?_
  rw [tx, sa_t ho] at hI5
  rw [wz_1, ly_345_926, ly_345_928]
  exact hQ w5 (a_act A (qsetS (aG A) s)) 1 (qS (aG A) : Int) _ _ _ _ _ _ ⟨hF1.OK hF5 (by omega) (by omega), ⟨_, _, _, _, _, _, (hG1.toN (w := w)).frK hF5⟩, hI5, Or.inl ⟨rfl, _, rfl, qok_setS hG hs, fun k => hT k⟩⟩ (by omega) (by omega)
theorem yk_closed (h : yGx w O g (aG A) la ea lp ep t b) (hI : cI w A) (hA : a_ok A) (hT : yTo (aG A)) (hO : ∀ x, x ≤ 141 → O x = 0) (hl14 : gy_ra l14 = true)
    (hQ : ∀ w' A' is (due : Int) l12 l13 l14 l15 l16 l17, yR w O g A A' is w' → -2147483648 ≤ due → due ≤ 2147483647 → wy N xs (d + 32) 345 1149 (yLa ar pl v g what wv (qK (aG A)) bg is (0, due) (0, due) l12 l13 l14 l15 l16 l17) [] w' Q) :
    wy N xs (d + 32) 345 1012 (yLa ar pl v g what wv (qK (aG A)) bg 1 (3, 0) (3, 0) l12 l13 l14 (3, 0) (3, 0) (3, 0)) [] w Q := by
  have hg141 := h.2.2.2.2.2.2.1.2
  have hG := hA.1
  have g0 := h.1.1
  obtain ⟨⟨k1, k2, k3, k4, k5, k6, k7, k8⟩, hkk, _⟩ := id hG
  have hp2 : 2 ^ qK (aG A) ≤ 2 ^ 12 := Nat.pow_le_pow_right (by decide) k5
  have hcl := qclo_lt k6
  unfold yLa
  rw [ly_345_1012 (by first | exact gl_gr | exact gl_r6 | exact gl_r7 | assumption | rfl), ly_345_1014 (by first | exact gl_gr | exact gl_r6 | exact gl_r7 | assumption | rfl), ly_345_1016 (by first | exact gl_gr | exact gl_r6 | exact gl_r7 | assumption | rfl) (by first | exact gl_cl (by assumption) rfl | exact gl_l6 (by omega) (by omega) | exact gl_l4 (by omega)), yy_marked h hG, wz_1, ly_345_1019 (by first | exact gl_gr | exact gl_r6 | exact gl_r7 | assumption | rfl) (by first | exact gl_cl (by assumption) rfl | exact gl_l6 (by omega) (by omega) | exact gl_l4 (by omega))]
  refine yb_closure h hG (by omega) fun w0 hF0 => ?_
  have h0 := h.fr0 hF0
  rw [wz_1, ly_345_1022 (by first | exact gl_gr | exact gl_r6 | exact gl_r7 | assumption | rfl), ly_345_1024, ly_345_1025]
  refine yk_mk2 h0 hG (by omega) hl14 fun w1 l16 hF1 hG1 => ?_
  have hF01 : yF (fun x => O x = g) 2040 27720 w w1 := (hF0.wk (fun _ _ z => z.elim) (Nat.le_refl _) (Nat.le_refl _)).tt hF1
  have hI1 := hI.frO hF01 hO hg141.1 (by omega)
  have hs11 := hI1.s1
  have hq := qcnt_le (qclo (aG A) (qS (aG A))).testBit 12
  rw [ly_345_1063, ly_345_1065, wy_bc (by omega), wz_1, ly_345_1068, ly_345_1070 (by first | exact gl_gr | exact gl_r6 | exact gl_r7 | assumption | rfl), ly_345_1071 (by first | exact gl_gr | exact gl_r6 | exact gl_r7 | assumption | rfl) (by first | exact gl_cl (by assumption) rfl | exact gl_l6 (by omega) (by omega) | exact gl_l4 (by omega))]
  refine cy_do (by decide) (fun M h => cq_144 h hA) hI1 rfl fun w5 hI5 hF5 hc5 => ?_
  rw [wz_1, ly_345_1074, ly_345_1076]
  exact hQ w5 (a_act A (qsetS (aG A) (qclo (aG A) (qS (aG A))))) 1 ((qcnt (qclo (aG A) (qS (aG A))).testBit 12 : Nat) : Int) _ _ _ _ _ _ ⟨hF01.OK hF5 (by omega) (by omega), ⟨_, _, _, _, _, _, (hG1.toN (w := w)).frK hF5⟩, hI5, Or.inl ⟨rfl, _, rfl, qok_setS hG hcl, fun k => hT k⟩⟩ (by omega) (by omega)
theorem yk_vert (h : yGx w O g (aG A) la ea lp ep t b) (hI : cI w A) (hA : a_ok A) (hT : yTo (aG A)) (hO : ∀ x, x ≤ 141 → O x = 0)
    (hQ : ∀ w' A' is (due : Int) l12 l13 l14 l15 l16 l17, yR w O g A A' is w' → -2147483648 ≤ due → due ≤ 2147483647 → wy N xs (d + 32) 345 1149 (yLa ar pl v g what wv (qK (aG A)) bg is (0, due) (0, due) l12 l13 l14 l15 l16 l17) [] w' Q) :
    wy N xs (d + 32) 345 938 (yLa ar pl v g what wv (qK (aG A)) bg 1 (3, 0) (3, 0) l12 l13 l14 (3, 0) (3, 0) (3, 0)) [] w Q := by
  have hg141 := h.2.2.2.2.2.2.1.2
  have hG := hA.1
  have hgt := h.gt
  obtain ⟨⟨g0, g1, g2, g3, g4, g5, g6⟩, ⟨v1, v2⟩, ⟨t1, t2⟩, hAr, hIn, hD, o1, o2, o3, o4, o5, o6, o7⟩ := id h
  obtain ⟨⟨k1, k2, k3, k4, k5, k6, k7, k8⟩, hkk, _⟩ := id hG
  unfold yLa
  rw [ly_345_938 (by first | exact gl_gr | exact gl_r6 | exact gl_r7 | assumption | rfl), ly_345_940 (by assumption), g1, ly_345_943, ly_345_945 (by omega) (by omega) (by omega) (by omega)]
  by_cases hn : qN (aG A) < 8
  · have e0 : io_add (qN (aG A) : Int) 1 = ((qN (aG A) + 1 : Nat) : Int) := by rw [io_add_o (by omega) (by omega)]; omega
    simp only [show (qN (aG A) : Int) < 8 by omega, not_true_eq_false, true_implies, false_implies, and_true, true_and]
    rw [ly_345_948, ly_345_949, ly_345_953 (by first | exact gl_gr | exact gl_r6 | exact gl_r7 | assumption | rfl), ly_345_955, ly_345_957 (by omega) (by omega)]
    simp only [show ¬ ((1 : Int) = 0) by omega, not_false_eq_true, true_implies, false_implies, and_true, true_and]
    rw [ly_345_960 (by first | exact gl_gr | exact gl_r6 | exact gl_r7 | assumption | rfl), ly_345_962 (by first | exact gl_gr | exact gl_r6 | exact gl_r7 | assumption | rfl), ly_345_963 (by assumption), g1, ly_345_966, ly_345_967, e0, ly_345_968 (by assumption)]
    obtain ⟨w1, ew1, hF1, c1, z1, zo1, s1⟩ := st_ex w g 0 (0, ((qN (aG A) + 1 : Nat) : Int))
    rw [ew1]
    have g01 : w1.1 g = (0, 0, 14) := by rw [s1]; exact g0
    have g51 : w1.2.1 g 4 = gr lp := by rw [zo1 4 (by decide)]; exact g5
    have v21 := v2.fr hF1 (Ne.symm hgt.1.2.2.1) (Ne.symm hgt.1.2.2.2.1)
    have hlp := v21.1
    have cc1 : w1.2.2.1 = w.2.2.1 := by rw [c1]
    rw [ly_345_971 (by first | exact gl_gr | exact gl_r6 | exact gl_r7 | assumption | rfl), ly_345_973 (by assumption), g51, ly_345_976, ly_345_977, wy_val (by decide) (by decide), wz_1, ly_345_980 (by first | exact gl_gr | exact gl_r6 | exact gl_r7 | assumption | rfl) (by first | exact gl_gr | exact gl_r6 | exact gl_r7 | assumption | rfl) (by first | exact gl_cl (by assumption) rfl | exact gl_l6 (by omega) (by omega) | exact gl_l4 (by omega))]
    refine wv_add v21 (by omega) (yE.i (by decide) (by decide)) fun w2 ep2 hep2 hF2 hV2 => ?_
    have hF02 : yF (fun x => (x = lp ∨ x = ep) ∨ x = g) 1 15 w w2 := ((hF1.wk (P' := fun x => (x = lp ∨ x = ep) ∨ x = g) (fun _ _ z => Or.inr z) (Nat.le_refl _) (Nat.le_refl _)).tr hF2 fun _ _ z => Or.inl z).wk (fun _ _ z => z) (by omega) (by omega)
    have mg : w2.2.1 g = w1.2.1 g := hF2.me (by omega) fun z => z.elim hgt.1.2.2.1 hgt.1.2.2.2.1
    have hG2 := h.addV hF02 (by rw [mg]; exact z1) (fun j hj => by rw [mg]; exact zo1 j (by omega)) (by omega) hV2 fun _ => rfl
    have hFO : yF (fun x => O x = g) 1 15 w w2 := hF02.wk (fun x hx z => by
      rcases z with (z | z) | z
      · rw [z]; exact o4.1
      · rw [z]; exact o5.1
      · rw [z]; exact o1.1) (Nat.le_refl _) (Nat.le_refl _)
    have hI2 := hI.frO hFO hO hg141.1 (by omega)
    have hs12 := hI2.s1
    have g02 := hG2.1.1
    have g12 : w2.2.1 g 0 = (0, ((qN (aG A) + 1 : Nat) : Int)) := hG2.1.2.1
    have e1 : io_sub ((qN (aG A) + 1 : Nat) : Int) 1 = (qN (aG A) : Int) := by rw [io_sub_o (by omega) (by omega)]; omega
    rw [wz_1, ly_345_983, ly_345_984, ly_345_986 (by omega) (by omega)]
    simp only [show ¬ ((1 : Int) = 0) by omega, not_false_eq_true, true_implies, false_implies, and_true, true_and]
    rw [ly_345_989 (by first | exact gl_gr | exact gl_r6 | exact gl_r7 | assumption | rfl), ly_345_991 (by assumption), g12, ly_345_994, ly_345_995, e1, ly_345_996, ly_345_1001, ly_345_1003 (by first | exact gl_gr | exact gl_r6 | exact gl_r7 | assumption | rfl), ly_345_1004 (by first | exact gl_gr | exact gl_r6 | exact gl_r7 | assumption | rfl) (by first | exact gl_cl (by assumption) rfl | exact gl_l6 (by omega) (by omega) | exact gl_l4 (by omega))]
    refine cy_do (by decide) (fun M h => cq_136 h hA) hI2 rfl fun w5 hI5 hF5 hc5 => ?_
    have eA : qaddVA A = a_act A (qaddV (aG A)) := if_pos hn
    have eV : qaddVV A = (qN (aG A) : Int) := if_pos hn
    rw [eA] at hI5
    rw [wz_1, eV, ly_345_1007, ly_345_1009]
    exact hQ w5 (a_act A (qaddV (aG A))) 1 (qN (aG A) : Int) _ _ _ _ _ _ ⟨hFO.OK hF5 (by omega) (by omega), ⟨_, _, _, _, _, _, hG2.frK hF5⟩, hI5, Or.inl ⟨rfl, _, rfl, qok_addV hG hn, fun k => hT k⟩⟩ (by omega) (by omega)
  · have hs1 := hI.s1
    simp only [show ¬ ((qN (aG A) : Int) < 8) by omega, not_false_eq_true, true_implies, false_implies, and_true, true_and]
    rw [ly_345_952, ly_345_953 (by first | exact gl_gr | exact gl_r6 | exact gl_r7 | assumption | rfl), ly_345_955, ly_345_957 (by omega) (by omega)]
    simp only [show (0 : Int) = 0 by omega, not_true_eq_false, true_implies, false_implies, and_true, true_and]
    rw [ly_345_984, ly_345_986 (by omega) (by omega)]
    simp only [show (0 : Int) = 0 by omega, not_true_eq_false, true_implies, false_implies, and_true, true_and]
    rw [ly_345_999, ly_345_1001, ly_345_1003 (by first | exact gl_gr | exact gl_r6 | exact gl_r7 | assumption | rfl), ly_345_1004 (by first | exact gl_gr | exact gl_r6 | exact gl_r7 | assumption | rfl) (by first | exact gl_cl (by assumption) rfl | exact gl_l6 (by omega) (by omega) | exact gl_l4 (by omega))]
    refine cy_do (by decide) (fun M h => cq_136 h hA) hI rfl fun w5 hI5 hF5 hc5 => ?_
    have eA : qaddVA A = A := if_neg hn
    have eV : qaddVV A = -2 := if_neg hn
    rw [eA] at hI5
    rw [wz_1, eV, ly_345_1007, ly_345_1009]
    exact hQ w5 A 0 (-2) _ _ _ _ _ _ ⟨(yF.rf (P := fun x => O x = g)).OK hF5 (by omega) (by omega), ⟨_, _, _, _, _, _, (h.toN (w := w)).frK hF5⟩, hI5, Or.inr ⟨rfl, rfl⟩⟩ (by decide) (by decide)
/-- the vertices before u are no longer painted, the palette is l -/
def qpalk (G : q_G) (l u : Nat) : q_G := qmk (qN G) (qM G) (qK G) (qS G) l (qF G) (qT G) (qA G) (qW G) (fun v => if v < u then -1 else qP G v) (qO G)
theorem yk_pal (h : yGx w O g (aG A) la ea lp ep t b) (hI : cI w A) (hA : a_ok A) (hT : yTo (aG A)) (hO : ∀ x, x ≤ 141 → O x = 0) (hwv : wv ≤ 2147483647) (hl14 : gy_ra l14 = true)
    (hQ : ∀ w' A' is (due : Int) l12 l13 l14 l15 l16 l17, yR w O g A A' is w' → -2147483648 ≤ due → due ≤ 2147483647 → wy N xs (d + 32) 345 1149 (yLa ar pl v g what wv (qK (aG A)) bg is (0, due) (0, due) l12 l13 l14 l15 l16 l17) [] w' Q) :
    wy N xs (d + 32) 345 1079 (yLa ar pl v g what wv (qK (aG A)) bg 1 (3, 0) (3, 0) l12 l13 l14 (3, 0) (3, 0) (3, 0)) [] w Q := by
  have hg141 := h.2.2.2.2.2.2.1.2
  have hG := hA.1
  have hgt := h.gt
  obtain ⟨⟨g0, g1, g2, g3, g4, g5, g6⟩, ⟨v1, v2⟩, ⟨t1, t2⟩, hAr, hIn, hD, o1, o2, o3, o4, o5, o6, o7⟩ := id h
  obtain ⟨⟨k1, k2, k3, k4, k5, k6, k7, k8⟩, hkk, _⟩ := id hG
  have e1 : ((wv : Int)).tmod 5 = ((wv % 5 : Nat) : Int) := rfl
  have hs := ymod (x := wv) (m := 5) (by decide)
  have e2 : io_add 1 ((wv % 5 : Nat) : Int) = ((1 + wv % 5 : Nat) : Int) := by rw [io_add_o (by omega) (by omega)]; omega
  unfold yLa
  rw [ly_345_1079 (by first | exact gl_gr | exact gl_r6 | exact gl_r7 | assumption | rfl), ly_345_1081 (by assumption), g3, ly_345_1084, ly_345_1086 (by first | exact gl_gr | exact gl_r6 | exact gl_r7 | assumption | rfl), ly_345_1088, ly_345_1089, ly_345_1091, ly_345_1092 (by omega) (by omega) (by omega) (by omega), e1, ly_345_1093, e2]
  have hl : 1 ≤ 1 + wv % 5 ∧ 1 + wv % 5 ≤ 5 := by omega
  generalize 1 + wv % 5 = l at hl
  have tx : ((l : Int)).toNat = l := Int.toNat_natCast l
  have ho : o_n 1 5 (l : Int) = 0 := by
    unfold o_n
    rw [if_pos ⟨by omega, by omega⟩]
  rw [ly_345_1094 (by assumption)]
  obtain ⟨w1, ew1, hF1, c1, z1, zo1, s1⟩ := st_ex w g 2 (0, (l : Int))
  rw [ew1, ly_345_1097, ly_345_1098 (by first | exact gl_gr | exact gl_r6 | exact gl_r7 | assumption | rfl)]
  have hG1 : yGx w1 O g (qpalk (aG A) l 0) la ea lp ep t b := h.gf (hF1.wk (fun _ _ z => Or.inl z) (Nat.le_refl _) (Nat.le_refl _)) ((zo1 0 (by decide)).trans g1) ((zo1 1 (by decide)).trans g2) z1 (fun j hj => zo1 j (by omega)) (fun k hk => by
    rw [hF1.me o6.2.2 (Ne.symm hgt.1.2.2.2.2)]
    exact t2 k hk) rfl rfl (fun v _ => rfl) fun _ _ => ⟨rfl, rfl, rfl, rfl, rfl⟩
  have hF1O : yF (fun x => O x = g) 0 0 w w1 := hF1.wk (fun x _ z => by rw [show x = g from z]; exact o1.1) (Nat.le_refl _) (Nat.le_refl _)
  refine wl_for (P := fun u => ∀ (w' : gy_W) (l16 : gg_V), yF (fun x => O x = g) 0 0 w w' → yGx w' O g (qpalk (aG A) l u) la ea lp ep t b → wy N xs (d + 32) 345 1100 [gr 1, gr ar, gr pl, (0, (v : Int)), gr g, (0, (what : Int)), (0, (wv : Int)), (0, (qK (aG A) : Int)), gr bg, (0, ((1 : Nat) : Int)), (0, (qL (aG A) : Int)), (3, 0), l12, l13, l14, (0, (u : Int)), l16, (3, 0)] [] w' Q) (qN (aG A)) (fun u hu ih w' l16 hF hH => ?_) (fun w' l16 hF hH => ?_) w1 _ hF1O hG1
  · have e0 : io_add (u : Int) 1 = ((u + 1 : Nat) : Int) := by rw [io_add_o (by omega) (by omega)]; omega
    have q0 := hH.1.1
    have q1 : w'.2.1 g 0 = (0, (qN (aG A) : Int)) := hH.1.2.1
    have q5 := hH.1.2.2.2.2.2.1
    have hV : yV w' lp ep (qN (aG A)) (fun v => (6, qP (qpalk (aG A) l u) v)) := hH.2.1.2
    have hlp := hV.1
    have hpu : qP (qpalk (aG A) l u) u = qP (aG A) u := if_neg (Nat.lt_irrefl u)
    obtain ⟨p1, p2⟩ := yz_P hG (v := u) (by omega)
    rw [ly_345_1100, ly_345_1102 (by first | exact gl_gr | exact gl_r6 | exact gl_r7 | assumption | rfl), ly_345_1104 (by assumption), q1, ly_345_1107 (by omega) (by omega) (by omega) (by omega)]
    simp only [show (u : Int) < (qN (aG A) : Int) by omega, not_true_eq_false, true_implies, false_implies, and_true, true_and]
    rw [ly_345_1110 (by first | exact gl_gr | exact gl_r6 | exact gl_r7 | assumption | rfl), ly_345_1112 (by assumption), q5, ly_345_1115, ly_345_1117, ly_345_1118, wy_val (by decide) (by decide), wz_1, ly_345_1121 (by first | exact gl_gr | exact gl_r6 | exact gl_r7 | assumption | rfl) (by first | exact gl_gr | exact gl_r6 | exact gl_r7 | assumption | rfl) (by first | exact gl_cl (by assumption) rfl | exact gl_l6 (by omega) (by omega) | exact gl_l4 (by omega))]
    refine wv_set hV hu (yE.i (by decide) (by decide)) fun w2 hF2 hc2 hV2 => ?_
    rw [hpu, wz_1, ly_345_1124 (by first | exact gl_c7 (by assumption) | exact gl_c14 (by assumption) | exact gl_c12 (by omega) (by omega)), ly_345_1127 (by first | exact gl_gr | exact gl_r6 | exact gl_r7 | assumption | rfl) (by first | exact gl_cl (by assumption) rfl | exact gl_l6 (by omega) (by omega) | exact gl_l4 (by omega)), wy_int p1 p2, wz_1, ly_345_1130, ly_345_1132 (by first | exact gl_gr | exact gl_r6 | exact gl_r7 | assumption | rfl), e0, ly_345_1135]
    refine ih w2 _ (hF.tr hF2 fun x _ z => by rw [show x = ep from z]; exact o5.1) (hH.pnt hF2 hV2 rfl rfl rfl rfl (fun j hj => ?_) rfl fun _ _ => ⟨rfl, rfl, rfl, rfl, rfl⟩)
    show (6, if j < u + 1 then -1 else qP (aG A) j) = if j = u then (6, -1) else (6, if j < u then -1 else qP (aG A) j)
    by_cases e : j = u
    · rw [if_pos e, if_pos (by omega)]
    · rw [if_neg e]
      by_cases e2 : j < u
      · rw [if_pos e2, if_pos (by omega)]
      · rw [if_neg e2, if_neg (by omega)]
  · have q0 := hH.1.1
    have q1 : w'.2.1 g 0 = (0, (qN (aG A) : Int)) := hH.1.2.1
    have q3 : w'.2.1 g 2 = (0, (l : Int)) := hH.1.2.2.2.1
    have hI2 := hI.frO hF hO hg141.1 (by omega)
    have hs12 := hI2.s1
    rw [ly_345_1100, ly_345_1102 (by first | exact gl_gr | exact gl_r6 | exact gl_r7 | assumption | rfl), ly_345_1104 (by assumption), q1, ly_345_1107 (by omega) (by omega) (by omega) (by omega)]
    simp only [show ¬ ((qN (aG A) : Int) < (qN (aG A) : Int)) by omega, not_false_eq_true, true_implies, false_implies, and_true, true_and]
    rw [ly_345_1138 (by first | exact gl_gr | exact gl_r6 | exact gl_r7 | assumption | rfl), ly_345_1139 (by first | exact gl_gr | exact gl_r6 | exact gl_r7 | assumption | rfl), ly_345_1141 (by assumption), q3, ly_345_1144 (by first | exact gl_gr | exact gl_r6 | exact gl_r7 | assumption | rfl) (by first | exact gl_cl (by assumption) rfl | exact gl_l6 (by omega) (by omega) | exact gl_l4 (by omega))]
    refine cy_do (by decide) (fun M h => cq_121 h hA (x := (l : Int)) (by omega) (by omega)) hI2 ho fun w5 hI5 hF5 hc5 => ?_
    rw [tx, sa_t ho] at hI5
    rw [wz_1, ly_345_1147]
    exact hQ w5 (a_act A (qsetL (aG A) l)) 1 (qL (aG A) : Int) _ _ _ _ _ _ ⟨hF.OK hF5 (by omega) (by omega), ⟨_, _, _, _, _, _, ((hH.cg (G' := qsetL (aG A) l) rfl rfl rfl rfl (fun j hj => (if_pos hj).symm) (fun _ _ => rfl) fun _ _ => ⟨rfl, rfl, rfl, rfl, rfl⟩).toN (w := w)).frK hF5⟩, hI5, Or.inl ⟨rfl, _, rfl, qok_setL hG hl.1 hl.2, fun k => hT k⟩⟩ (by omega) (by omega)
end A4
