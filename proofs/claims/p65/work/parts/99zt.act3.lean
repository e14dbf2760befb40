/-! act: a gain, a weight, turned, contracted, marked, a vertex, closed, the palette -/
section A3
variable {N : Nat} {xs : Nat → Int32} {d : Nat} {w : gy_W} {Q : gy_O → Prop} {O : Nat → Nat} {g : Nat} {A : q_A} {la ea lp ep t : Nat} {b : Nat → Nat} {ar pl v what wv bg x k : Nat} {l12 l13 l14 : gg_V}
theorem yk_gain (h : yGx w O g (aG A) la ea lp ep t b) (hI : cI w A) (hA : a_ok A) (hT : yTo (aG A)) (hO : ∀ x, x ≤ 141 → O x = 0) (hk : k < qK (aG A)) (hwv : wv ≤ 2147483647)
    (hQ : ∀ w' A' is (due : Int) l12 l13 l14 l15 l16 l17, yR w O g A A' is w' → -2147483648 ≤ due → due ≤ 2147483647 → wy N xs (d + 32) 345 1149 (yLa ar pl v g what wv (qK (aG A)) bg is (0, due) (0, due) l12 l13 l14 l15 l16 l17) [] w' Q) :
    wy N xs (d + 32) 345 661 (yLa ar pl v g what wv (qK (aG A)) bg 1 (3, 0) (3, 0) l12 (0, (k : Int)) (gr (b k)) (3, 0) (3, 0) (3, 0)) [] w Q := by
  have hg141 := h.2.2.2.2.2.2.1.2
  have hG := hA.1
  obtain ⟨⟨g0, g1, g2, g3, g4, g5, g6⟩, ⟨v1, v2⟩, ⟨t1, t2⟩, hAr, hIn, hD, o1, o2, o3, o4, o5, o6, o7⟩ := id h
  obtain ⟨⟨k1, k2, k3, k4, k5, k6, k7, k8⟩, hkk, _⟩ := id hG
  have hAk := hAr k hk
  obtain ⟨a1, a2, a3, a4, a5, a6⟩ := id hAk
  obtain ⟨f1, f2, f3, f4⟩ := hkk k hk
  have e1 : ((wv : Int)).tdiv 16 = ((wv / 16 : Nat) : Int) := rfl
  have e2 : (((wv / 16 : Nat) : Int)).tmod (qM (aG A) : Int) = ((wv / 16 % qM (aG A) : Nat) : Int) := rfl
  have hy := ymod (x := wv / 16) k3
  have hw8 : wv / 16 ≤ wv := Nat.div_le_self _ _
  have tk : ((k : Int)).toNat = k := Int.toNat_natCast k
  unfold yLa
  rw [ly_345_661 (by first | exact gl_gr | exact gl_r6 | exact gl_r7 | assumption | rfl), ly_345_663 (by assumption), a4, ly_345_666, ly_345_668 (by first | exact gl_gr | exact gl_r6 | exact gl_r7 | assumption | rfl), ly_345_670, ly_345_672, ly_345_674 (by omega) (by omega) (by omega) (by omega), e1, ly_345_675 (by first | exact gl_gr | exact gl_r6 | exact gl_r7 | assumption | rfl), ly_345_677 (by assumption), g2, ly_345_680 (by omega) (by omega) (by omega) (by omega), e2]
  generalize wv / 16 % qM (aG A) = y at hy
  have ty : ((y : Int)).toNat = y := Int.toNat_natCast y
  have ho : o_ag A (k : Int) (y : Int) = 0 := by
    unfold o_ag
    rw [if_pos ⟨by omega, by omega⟩, if_pos ⟨by omega, by omega⟩]
  rw [ly_345_681 (by assumption)]
  have hG1 : yGx (w.1, gy_up w.2.1 (b k) 2 (0, (y : Int)), w.2.2) O g (qsetA (aG A) k y) la ea lp ep t b := h.arc hk rfl rfl rfl rfl rfl rfl (fun c hc hck => ⟨rfl, rfl, qup_n hck, rfl, rfl⟩) (by
    rw [show qA (qsetA (aG A) k y) k = y from qup_e _ _ _]
    exact hAk.s2)
  have hF1 : yF (fun x => O x = g) 0 0 w (w.1, gy_up w.2.1 (b k) 2 (0, (y : Int)), w.2.2) := yF.u yF.rf fun _ => (o7 k hk).1
  generalize ((w.1, gy_up w.2.1 (b k) 2 (0, (y : Int)), w.2.2) : gy_W) = w1 at hG1 hF1
  have hI1 := hI.frO hF1 hO hg141.1 (by omega)
  have hs11 := hI1.s1
  have hA1 := hG1.2.2.2.1 k hk
  rw [show qA (qsetA (aG A) k y) k = y from qup_e _ _ _] at hA1
  obtain ⟨c1, c2, c3, c4, c5, c6⟩ := hA1
  rw [ly_345_684 (by first | exact gl_gr | exact gl_r6 | exact gl_r7 | assumption | rfl), ly_345_685, ly_345_687 (by first | exact gl_gr | exact gl_r6 | exact gl_r7 | assumption | rfl), ly_345_689 (by assumption), c4, ly_345_692 (by first | exact gl_gr | exact gl_r6 | exact gl_r7 | assumption | rfl) (by first | exact gl_cl (by assumption) rfl | exact gl_l6 (by omega) (by omega) | exact gl_l4 (by omega))]
  refine cy_do (by decide) (fun M h => cq_138 h hA (x := (k : Int)) (y := (y : Int)) (by omega) (by omega) (by omega) (by omega)) hI1 ho fun w5 hI5 hF5 hc5 => ?_
  rw [tk, ty, sa_t ho] at hI5
  rw [wz_1, tk, ly_345_695, ly_345_697]
  exact hQ w5 (a_act A (qsetA (aG A) k y)) 1 (qA (aG A) k : Int) _ _ _ _ _ _ ⟨hF1.OK hF5 (by omega) (by omega), ⟨_, _, _, _, _, _, (hG1.toN (w := w)).frK hF5⟩, hI5, Or.inl ⟨rfl, _, rfl, qok_setA hG hy, fun k => hT k⟩⟩ (by omega) (by omega)
theorem yk_weight (h : yGx w O g (aG A) la ea lp ep t b) (hI : cI w A) (hA : a_ok A) (hT : yTo (aG A)) (hO : ∀ x, x ≤ 141 → O x = 0) (hk : k < qK (aG A)) (hwv : wv ≤ 2147483647)
    (hQ : ∀ w' A' is (due : Int) l12 l13 l14 l15 l16 l17, yR w O g A A' is w' → -2147483648 ≤ due → due ≤ 2147483647 → wy N xs (d + 32) 345 1149 (yLa ar pl v g what wv (qK (aG A)) bg is (0, due) (0, due) l12 l13 l14 l15 l16 l17) [] w' Q) :
    wy N xs (d + 32) 345 700 (yLa ar pl v g what wv (qK (aG A)) bg 1 (3, 0) (3, 0) l12 (0, (k : Int)) (gr (b k)) (3, 0) (3, 0) (3, 0)) [] w Q := by
  have hg141 := h.2.2.2.2.2.2.1.2
  have hG := hA.1
  obtain ⟨⟨g0, g1, g2, g3, g4, g5, g6⟩, ⟨v1, v2⟩, ⟨t1, t2⟩, hAr, hIn, hD, o1, o2, o3, o4, o5, o6, o7⟩ := id h
  obtain ⟨⟨k1, k2, k3, k4, k5, k6, k7, k8⟩, hkk, _⟩ := id hG
  have hAk := hAr k hk
  obtain ⟨a1, a2, a3, a4, a5, a6⟩ := id hAk
  obtain ⟨f1, f2, f3, f4⟩ := hkk k hk
  have e1 : ((wv : Int)).tdiv 16 = ((wv / 16 : Nat) : Int) := rfl
  have e2 : (((wv / 16 : Nat) : Int)).tmod 100 = ((wv / 16 % 100 : Nat) : Int) := rfl
  have hy := ymod (x := wv / 16) (m := 100) (by decide)
  have hw8 : wv / 16 ≤ wv := Nat.div_le_self _ _
  have tk : ((k : Int)).toNat = k := Int.toNat_natCast k
  unfold yLa
  rw [ly_345_700 (by first | exact gl_gr | exact gl_r6 | exact gl_r7 | assumption | rfl), ly_345_702 (by assumption), a5, ly_345_705, ly_345_707 (by first | exact gl_gr | exact gl_r6 | exact gl_r7 | assumption | rfl), ly_345_709, ly_345_711, ly_345_713 (by omega) (by omega) (by omega) (by omega), e1, ly_345_714, ly_345_716 (by omega) (by omega) (by omega) (by omega), e2]
  generalize wv / 16 % 100 = y at hy
  have ty : ((y : Int)).toNat = y := Int.toNat_natCast y
  have ho : o_wt A (k : Int) (y : Int) = 0 := by
    unfold o_wt
    rw [if_pos ⟨by omega, by omega⟩, if_pos ⟨by omega, by omega⟩]
  rw [ly_345_717 (by assumption)]
  have hG1 : yGx (w.1, gy_up w.2.1 (b k) 3 (0, (y : Int)), w.2.2) O g (qsetW (aG A) k y) la ea lp ep t b := h.arc hk rfl rfl rfl rfl rfl rfl (fun c hc hck => ⟨rfl, rfl, rfl, qup_n hck, rfl⟩) (by
    rw [show qW (qsetW (aG A) k y) k = y from qup_e _ _ _]
    exact hAk.s3)
  have hF1 : yF (fun x => O x = g) 0 0 w (w.1, gy_up w.2.1 (b k) 3 (0, (y : Int)), w.2.2) := yF.u yF.rf fun _ => (o7 k hk).1
  generalize ((w.1, gy_up w.2.1 (b k) 3 (0, (y : Int)), w.2.2) : gy_W) = w1 at hG1 hF1
  have hI1 := hI.frO hF1 hO hg141.1 (by omega)
  have hs11 := hI1.s1
  have hA1 := hG1.2.2.2.1 k hk
  rw [show qW (qsetW (aG A) k y) k = y from qup_e _ _ _] at hA1
  obtain ⟨c1, c2, c3, c4, c5, c6⟩ := hA1
  rw [ly_345_720 (by first | exact gl_gr | exact gl_r6 | exact gl_r7 | assumption | rfl), ly_345_721, ly_345_723 (by first | exact gl_gr | exact gl_r6 | exact gl_r7 | assumption | rfl), ly_345_725 (by assumption), c5, ly_345_728 (by first | exact gl_gr | exact gl_r6 | exact gl_r7 | assumption | rfl) (by first | exact gl_cl (by assumption) rfl | exact gl_l6 (by omega) (by omega) | exact gl_l4 (by omega))]
  refine cy_do (by decide) (fun M h => cq_139 h hA (x := (k : Int)) (y := (y : Int)) (by omega) (by omega) (by omega) (by omega)) hI1 ho fun w5 hI5 hF5 hc5 => ?_
  rw [tk, ty, sa_t ho] at hI5
  rw [wz_1, tk, ly_345_731, ly_345_733]
  exact hQ w5 (a_act A (qsetW (aG A) k y)) 1 (qW (aG A) k : Int) _ _ _ _ _ _ ⟨hF1.OK hF5 (by omega) (by omega), ⟨_, _, _, _, _, _, (hG1.toN (w := w)).frK hF5⟩, hI5, Or.inl ⟨rfl, _, rfl, qok_setW hG (by omega), fun k => hT k⟩⟩ (by omega) (by omega)
theorem yk_turn (h : yGx w O g (aG A) la ea lp ep t b) (hI : cI w A) (hA : a_ok A) (hT : yTo (aG A)) (hO : ∀ x, x ≤ 141 → O x = 0) (hk : k < qK (aG A))
    (hQ : ∀ w' A' is (due : Int) l12 l13 l14 l15 l16 l17, yR w O g A A' is w' → -2147483648 ≤ due → due ≤ 2147483647 → wy N xs (d + 32) 345 1149 (yLa ar pl v g what wv (qK (aG A)) bg is (0, due) (0, due) l12 l13 l14 l15 l16 l17) [] w' Q) :
    wy N xs (d + 32) 345 736 (yLa ar pl v g what wv (qK (aG A)) bg 1 (3, 0) (3, 0) l12 (0, (k : Int)) (gr (b k)) (3, 0) (3, 0) (3, 0)) [] w Q := by
  have hg141 := h.2.2.2.2.2.2.1.2
  have hG := hA.1
  have hba := h.ba hk
  obtain ⟨⟨g0, g1, g2, g3, g4, g5, g6⟩, ⟨v1, v2⟩, ⟨t1, t2⟩, hAr, hIn, hD, o1, o2, o3, o4, o5, o6, o7⟩ := id h
  obtain ⟨⟨k1, k2, k3, k4, k5, k6, k7, k8⟩, hkk, _⟩ := id hG
  have hAk := hAr k hk
  obtain ⟨a1, a2, a3, a4, a5, a6⟩ := id hAk
  obtain ⟨f1, f2, f3, f4⟩ := hkk k hk
  have tk : ((k : Int)).toNat = k := Int.toNat_natCast k
  have ho : o_arc A (k : Int) = 0 := by
    unfold o_arc
    rw [if_pos ⟨by omega, by omega⟩]
  have e1 : io_neg (qA (aG A) k : Int) = ((0 : Nat) : Int) - (qA (aG A) k : Int) := by rw [io_neg_o (by omega) (by omega)]; omega
  have hq : qmi (qM (aG A)) 0 (qA (aG A) k) < qM (aG A) := qmi_lt (by omega) f3
  unfold yLa
  rw [ly_345_736 (by first | exact gl_gr | exact gl_r6 | exact gl_r7 | assumption | rfl), ly_345_738 (by assumption), a2, ly_345_741 (by first | exact gl_gr | exact gl_r6 | exact gl_r7 | assumption | rfl), ly_345_743 (by first | exact gl_gr | exact gl_r6 | exact gl_r7 | assumption | rfl), ly_345_745 (by first | exact gl_gr | exact gl_r6 | exact gl_r7 | assumption | rfl), ly_345_747 (by assumption), a3, ly_345_750 (by assumption)]
  obtain ⟨w1, ew1, hF1, c1, z1, zo1, s1⟩ := st_ex w (b k) 0 (0, (qT (aG A) k : Int))
  have hA1 : yA w1 (b k) (qT (aG A) k) (qT (aG A) k) (qA (aG A) k) (qW (aG A) k) ((qS (aG A)).testBit k) := by
    rw [← ew1]
    exact hAk.s0
  rw [ew1]
  obtain ⟨r1, r2, r3, r4, r5, r6⟩ := id hA1
  rw [ly_345_753 (by first | exact gl_gr | exact gl_r6 | exact gl_r7 | assumption | rfl), ly_345_755, ly_345_757 (by assumption)]
  obtain ⟨w2, ew2, hF2, c2, z2, zo2, s2⟩ := st_ex w1 (b k) 1 (0, (qF (aG A) k : Int))
  have hA2 : yA w2 (b k) (qT (aG A) k) (qF (aG A) k) (qA (aG A) k) (qW (aG A) k) ((qS (aG A)).testBit k) := by
    rw [← ew2]
    exact hA1.s1
  rw [ew2]
  obtain ⟨q1, q2, q3, q4, q5, q6⟩ := id hA2
  have hgk : g ≠ b k := Ne.symm hba.1
  have hF02 := hF1.tt hF2
  have g02 : w2.1 g = (0, 0, 14) := (hF02.sh hg141.2).trans g0
  have g22 : w2.2.1 g 1 = (0, (qM (aG A) : Int)) := by rw [hF02.me hg141.2 hgk]; exact g2
  rw [ly_345_760 (by first | exact gl_gr | exact gl_r6 | exact gl_r7 | assumption | rfl), ly_345_762 (by first | exact gl_gr | exact gl_r6 | exact gl_r7 | assumption | rfl), ly_345_764 (by first | exact gl_gr | exact gl_r6 | exact gl_r7 | assumption | rfl), ly_345_766 (by assumption), q4, ly_345_769, e1, ly_345_770 (by first | exact gl_gr | exact gl_r6 | exact gl_r7 | assumption | rfl) (by first | exact gl_cl (by assumption) rfl | exact gl_l6 (by omega) (by omega) | exact gl_l4 (by omega)), wy_rest g02 g22 k3 (by omega) (by omega) (by omega), wz_1, yz_mi k3 (by omega) f3, ly_345_773 (by assumption)]
  obtain ⟨w3, ew3, hF3, c3, z3, zo3, s3⟩ := st_ex w2 (b k) 2 (0, ((qmi (qM (aG A)) 0 (qA (aG A) k) : Nat) : Int))
  have hA3 : yA w3 (b k) (qT (aG A) k) (qF (aG A) k) (qmi (qM (aG A)) 0 (qA (aG A) k)) (qW (aG A) k) ((qS (aG A)).testBit k) := by
    rw [← ew3]
    exact hA2.s2
  rw [ew3]
  have hF03 := hF02.tt hF3
  have hG3 : yGx w3 O g (qturn (aG A) k) la ea lp ep t b := h.arcF hk hF03 rfl rfl rfl rfl rfl rfl (fun c hc hck => ⟨qup_n hck, qup_n hck, qup_n hck, rfl, rfl⟩) (by
    rw [show qF (qturn (aG A) k) k = qT (aG A) k from qup_e _ _ _, show qT (qturn (aG A) k) k = qF (aG A) k from qup_e _ _ _, show qA (qturn (aG A) k) k = qmi (qM (aG A)) 0 (qA (aG A) k) from qup_e _ _ _]
    exact hA3)
  have hFO : yF (fun x => O x = g) 0 0 w w3 := hF03.wk (fun x _ z => by rw [show x = b k from z]; exact (o7 k hk).1) (Nat.le_refl _) (Nat.le_refl _)
  have hI1 := hI.frO hFO hO hg141.1 (by omega)
  have hs11 := hI1.s1
  obtain ⟨u1, u2, u3, u4, u5, u6⟩ := id hA3
  rw [ly_345_776 (by first | exact gl_gr | exact gl_r6 | exact gl_r7 | assumption | rfl), ly_345_778 (by assumption), u4, ly_345_781, ly_345_783 (by first | exact gl_gr | exact gl_r6 | exact gl_r7 | assumption | rfl), ly_345_784, ly_345_786 (by first | exact gl_gr | exact gl_r6 | exact gl_r7 | assumption | rfl) (by first | exact gl_cl (by assumption) rfl | exact gl_l6 (by omega) (by omega) | exact gl_l4 (by omega))]
  refine cy_do (by decide) (fun M h => cq_140 h hA (x := (k : Int)) (by omega) (by omega)) hI1 ho fun w5 hI5 hF5 hc5 => ?_
  rw [tk, sa_t ho] at hI5
  rw [wz_1, tk, ly_345_789, ly_345_791]
  exact hQ w5 (a_act A (qturn (aG A) k)) 1 ((qmi (qM (aG A)) 0 (qA (aG A) k) : Nat) : Int) _ _ _ _ _ _ ⟨hFO.OK hF5 (by omega) (by omega), ⟨_, _, _, _, _, _, (hG3.toN (w := w)).frK hF5⟩, hI5, Or.inl ⟨rfl, _, rfl, qok_turn hG hk, fun k => hT k⟩⟩ (by omega) (by omega)
theorem yk_contr (h : yGx w O g (aG A) la ea lp ep t b) (hI : cI w A) (hA : a_ok A) (hT : yTo (aG A)) (hO : ∀ x, x ≤ 141 → O x = 0) (hk : k < qK (aG A))
    (hQ : ∀ w' A' is (due : Int) l12 l13 l14 l15 l16 l17, yR w O g A A' is w' → -2147483648 ≤ due → due ≤ 2147483647 → wy N xs (d + 32) 345 1149 (yLa ar pl v g what wv (qK (aG A)) bg is (0, due) (0, due) l12 l13 l14 l15 l16 l17) [] w' Q) :
    wy N xs (d + 32) 345 794 (yLa ar pl v g what wv (qK (aG A)) bg 1 (3, 0) (3, 0) l12 (0, (k : Int)) (gr (b k)) (3, 0) (3, 0) (3, 0)) [] w Q := by
  have hg141 := h.2.2.2.2.2.2.1.2
  have hG := hA.1
  obtain ⟨⟨g0, g1, g2, g3, g4, g5, g6⟩, ⟨v1, v2⟩, ⟨t1, t2⟩, hAr, hIn, hD, o1, o2, o3, o4, o5, o6, o7⟩ := id h
  obtain ⟨⟨k1, k2, k3, k4, k5, k6, k7, k8⟩, hkk, _⟩ := id hG
  have hAk := hAr k hk
  obtain ⟨a1, a2, a3, a4, a5, a6⟩ := id hAk
  obtain ⟨f1, f2, f3, f4⟩ := hkk k hk
  have tk : ((k : Int)).toNat = k := Int.toNat_natCast k
  have ho : o_arc A (k : Int) = 0 := by
    unfold o_arc
    rw [if_pos ⟨by omega, by omega⟩]
  unfold yLa
  rw [ly_345_794 (by first | exact gl_gr | exact gl_r6 | exact gl_r7 | assumption | rfl), ly_345_796 (by assumption), a2, ly_345_799 (by first | exact gl_gr | exact gl_r6 | exact gl_r7 | assumption | rfl), ly_345_801 (by assumption), a3, ly_345_804 (by omega) (by omega) (by omega) (by omega)]
  by_cases hl : qF (aG A) k = qT (aG A) k
  · have hs11 := hI.s1
    simp only [show (qF (aG A) k : Int) = (qT (aG A) k : Int) by omega, not_true_eq_false, true_implies, false_implies, and_true, true_and]
    rw [ly_345_811, ly_345_812 (by first | exact gl_gr | exact gl_r6 | exact gl_r7 | assumption | rfl), ly_345_814, ly_345_816 (by omega) (by omega)]
    simp only [show (0 : Int) = 0 by omega, not_true_eq_false, true_implies, false_implies, and_true, true_and]
    rw [ly_345_837, ly_345_839 (by omega) (by omega)]
    simp only [show (0 : Int) = 0 by omega, not_true_eq_false, true_implies, false_implies, and_true, true_and]
    rw [ly_345_850, ly_345_852, ly_345_854 (by first | exact gl_gr | exact gl_r6 | exact gl_r7 | assumption | rfl), ly_345_855, ly_345_857 (by first | exact gl_gr | exact gl_r6 | exact gl_r7 | assumption | rfl) (by first | exact gl_cl (by assumption) rfl | exact gl_l6 (by omega) (by omega) | exact gl_l4 (by omega))]
    refine cy_do (by decide) (fun M h => cq_142 h hA (x := (k : Int)) (by omega) (by omega)) hI ho fun w5 hI5 hF5 hc5 => ?_
    rw [tk, sc_f (decide_eq_false (fun z => z hl))] at hI5
    rw [wz_1, tk, if_pos hl, ly_345_860, ly_345_862]
    exact hQ w5 A 0 (-3) _ _ _ _ _ _ ⟨(yF.rf (P := fun x => O x = g)).OK hF5 (by omega) (by omega), ⟨_, _, _, _, _, _, (h.toN (w := w)).frK hF5⟩, hI5, Or.inr ⟨rfl, rfl⟩⟩ (by decide) (by decide)
  · simp only [show ¬ ((qF (aG A) k : Int) = (qT (aG A) k : Int)) by omega, not_false_eq_true, true_implies, false_implies, and_true, true_and]
    rw [ly_345_807, ly_345_808, ly_345_812 (by first | exact gl_gr | exact gl_r6 | exact gl_r7 | assumption | rfl), ly_345_814, ly_345_816 (by omega) (by omega)]
    simp only [show ¬ ((1 : Int) = 0) by omega, not_false_eq_true, true_implies, false_implies, and_true, true_and]
    rw [ly_345_819 (by first | exact gl_gr | exact gl_r6 | exact gl_r7 | assumption | rfl), ly_345_821, ly_345_823 (by first | exact gl_gr | exact gl_r6 | exact gl_r7 | assumption | rfl) (by first | exact gl_cl (by assumption) rfl | exact gl_l6 (by omega) (by omega) | exact gl_l4 (by omega))]
    refine yy_contract h hG hk hl fun w1 b1 hF1 hG1 => ?_
    have g01 := hG1.1.1
    have g61 : w1.2.1 g 5 = gr t := hG1.1.2.2.2.2.2.2
    have t11 : w1.1 t = (1, 4, 0) := hG1.2.2.1.1
    have t21 : w1.2.1 t 3 = (0, qO (aG A) 3) := hG1.2.2.1.2 3 (by decide)
    have ht0 : t ≠ 0 := by have := o6.2.1; omega
    rw [wz_0, ly_345_826 (by first | exact gl_gr | exact gl_r6 | exact gl_r7 | assumption | rfl), ly_345_828 (by assumption), g61, ly_345_831, ly_345_832, ly_345_833 (by omega) (by assumption) (by omega) (by omega) (by omega), show (3 : Int).toNat = 3 from rfl, t21, ly_345_834, ly_345_835, ly_345_836 (by assumption) (by omega) (by omega) (by omega), show (3 : Int).toNat = 3 from rfl]
    have hG2 := hG1.tot (k := 3) (by decide)
    have hF2 : yF (fun x => O x = g) 2 16 w (w1.1, gy_up w1.2.1 t 3 (0, io_add (qO (aG A) 3) 1), w1.2.2) := yF.u hF1 fun _ => o6.1
    have e9 : qO (qmrg (aG A) k) 3 = qO (aG A) 3 := rfl
    rw [e9] at hG2
    generalize ((w1.1, gy_up w1.2.1 t 3 (0, io_add (qO (aG A) 3) 1), w1.2.2) : gy_W) = w2 at hG2 hF2
    have hI2 := hI.frO hF2 hO hg141.1 (by omega)
    have hs12 := hI2.s1
    have g02 := hG2.1.1
    have g12 : w2.2.1 g 0 = (0, ((qN (aG A) - 1 : Nat) : Int)) := hG2.1.2.1
    rw [ly_345_837, ly_345_839 (by omega) (by omega)]
    simp only [show ¬ ((1 : Int) = 0) by omega, not_false_eq_true, true_implies, false_implies, and_true, true_and]
    rw [ly_345_842 (by first | exact gl_gr | exact gl_r6 | exact gl_r7 | assumption | rfl), ly_345_844 (by assumption), g12, ly_345_847, ly_345_852, ly_345_854 (by first | exact gl_gr | exact gl_r6 | exact gl_r7 | assumption | rfl), ly_345_855, ly_345_857 (by first | exact gl_gr | exact gl_r6 | exact gl_r7 | assumption | rfl) (by first | exact gl_cl (by assumption) rfl | exact gl_l6 (by omega) (by omega) | exact gl_l4 (by omega))]
    refine cy_do (by decide) (fun M h => cq_142 h hA (x := (k : Int)) (by omega) (by omega)) hI2 ho fun w5 hI5 hF5 hc5 => ?_
    rw [tk, sc_t ho (decide_eq_true hl)] at hI5
    rw [wz_1, tk, if_neg hl, ly_345_860, ly_345_862]
    exact hQ w5 (a_act A (qmrg (qtot (aG A) 3) k)) 1 ((qN (aG A) - 1 : Nat) : Int) _ _ _ _ _ _ ⟨hF2.OK hF5 (by omega) (by omega), ⟨_, _, _, _, _, _, ((hG2.cg (G' := qmrg (qtot (aG A) 3) k) rfl rfl rfl rfl (fun _ _ => rfl) (fun _ _ => rfl) fun _ _ => ⟨rfl, rfl, rfl, rfl, rfl⟩).toN (w := w)).frK hF5⟩, hI5, Or.inl ⟨rfl, _, rfl, qok_mrg (qok_tot hG 3) hk hl, fun k => (hT.tot 3) k⟩⟩ (by omega) (by omega)
end A3
