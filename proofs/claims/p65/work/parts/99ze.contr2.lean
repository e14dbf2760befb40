/-! the law's Graph: contract, the whole -/
section LC2
variable {N : Nat} {xs : Nat → Int32} {d : Nat} {w : gy_W} {Q : gy_O → Prop} {O : Nat → Nat} {g : Nat} {G : q_G} {la ea lp ep t : Nat} {b : Nat → Nat}
theorem yy_contract (h : yGx w O g G la ea lp ep t b) (hG : q_ok G) {k : Nat} (hk : k < qK G) (hne : qF G k ≠ qT G k) (hQ : ∀ w' b', yF (fun x => O x = g) 2 16 w w' → yGx w' O g (qmrg G k) la ea lp ep t b' → Q ((0, (3, 0)), w')) :
    wy N xs (d + 4) 367 0 [gr g, (0, (k : Int)), (3, 0), (3, 0), (3, 0), (3, 0), (3, 0), (3, 0), (3, 0)] [] w Q := by
  have hg141 := h.2.2.2.2.2.2.1.2.1
  obtain ⟨⟨g0, g1, g2, g3, g4, g5, g6⟩, ⟨v1, v2⟩, ⟨t1, t2⟩, hA, hI, hD, o1, o2, o3, o4, o5, o6, o7⟩ := id h
  obtain ⟨⟨k1, k2, k3, k4, k5, k6, k7, k8⟩, hk0, hp, hp2⟩ := id hG
  have hla := v1.1
  obtain ⟨a1, a2, a3, a4, a5, a6⟩ := hA k hk
  obtain ⟨f1, f2, f3, f4⟩ := hk0 k hk
  have hgt := h.gt
  have e1 : io_neg (qA G k : Int) = ((0 : Nat) : Int) - (qA G k : Int) := by rw [io_neg_o (by omega) (by omega)]; omega
  have hy : qmi (qM G) 0 (qA G k) < qM G := qmi_lt (by omega) f3
  rw [ly_367_0 (by first | exact gl_gr | exact gl_r6 | exact gl_r7 | assumption | rfl), ly_367_1 (by assumption), g4, ly_367_4, ly_367_5 (by first | exact gl_gr | exact gl_r6 | exact gl_r7 | assumption | rfl) (by first | exact gl_cl (by assumption) rfl | exact gl_l6 (by omega) (by omega) | exact gl_l4 (by omega)), wv_get v1 hk, wz_1, ly_367_8 (by first | exact gl_c7 (by assumption) | exact gl_c14 (by assumption) | exact gl_c12 (by omega) (by omega)), ly_367_11 (by first | exact gl_gr | exact gl_r6 | exact gl_r7 | assumption | rfl), ly_367_12 (by first | exact gl_gr | exact gl_r6 | exact gl_r7 | assumption | rfl), ly_367_13 (by assumption), a2, ly_367_16 (by first | exact gl_gr | exact gl_r6 | exact gl_r7 | assumption | rfl), ly_367_17 (by first | exact gl_gr | exact gl_r6 | exact gl_r7 | assumption | rfl), ly_367_18 (by assumption), a3, ly_367_21, ly_367_23 (by first | exact gl_gr | exact gl_r6 | exact gl_r7 | assumption | rfl), ly_367_24, ly_367_26 (by first | exact gl_gr | exact gl_r6 | exact gl_r7 | assumption | rfl), ly_367_27 (by first | exact gl_gr | exact gl_r6 | exact gl_r7 | assumption | rfl), ly_367_28 (by assumption), a4, ly_367_31, e1, ly_367_32 (by first | exact gl_gr | exact gl_r6 | exact gl_r7 | assumption | rfl) (by first | exact gl_cl (by assumption) rfl | exact gl_l6 (by omega) (by omega) | exact gl_l4 (by omega)), wy_rest g0 g2 k3 (by omega) (by omega) (by omega), wz_1, yz_mi k3 (by omega) f3, ly_367_35 (by first | exact gl_gr | exact gl_r6 | exact gl_r7 | assumption | rfl) (by first | exact gl_cl (by assumption) rfl | exact gl_l6 (by omega) (by omega) | exact gl_l4 (by omega))]
  refine yy_turn h hG f2 hy fun w1 hF1 hG1 => ?_
  have hok1 := qok_sw hG f2 hy
  have g41 : w1.2.1 g 3 = gr la := hG1.1.2.2.2.2.1
  have g01 : w1.1 g = (0, 0, 14) := hG1.1.1
  have hla1 : w1.1 la = (0, 0, 15) := hG1.2.1.1.1
  rw [wz_1, ly_367_38, ly_367_40 (by first | exact gl_gr | exact gl_r6 | exact gl_r7 | assumption | rfl), ly_367_41 (by assumption), g41, ly_367_44, ly_367_45 (by first | exact gl_gr | exact gl_r6 | exact gl_r7 | assumption | rfl) (by first | exact gl_cl (by assumption) rfl | exact gl_l6 (by omega) (by omega) | exact gl_l4 (by omega))]
  refine wv_rem hG1.2.1.1 hk fun w2 hF2 hc2 hV2 => ?_
  have hG2 := hG1.rem hk hF2 hV2 fun j => rfl
  have hb1 := hG1.ba hk
  have a12 : w2.1 (b k) = (0, 0, 7) := (hF2.sh (hG1.2.2.2.2.2.2.2.2.2.2.2.2 k hk).2.2).trans (hG1.2.2.2.1 k hk).1
  have g42 : w2.2.1 g 3 = gr la := hG2.1.2.2.2.2.1
  have g02 : w2.1 g = (0, 0, 14) := hG2.1.1
  have hla2 : w2.1 la = (0, 0, 15) := hG2.2.1.1.1
  have hF02 : yF (fun x => O x = g) 1 8 w w2 := hF1.tr hF2 fun x hx z => by
    rcases z with z | z
    · rw [z]
      exact o2.1
    · rw [z]
      exact o3.1
  rw [wz_1, ly_367_48 (by first | exact gl_c7 (by assumption) | exact gl_c14 (by assumption) | exact gl_c12 (by omega) (by omega)), ly_367_51 (by first | exact gl_gr | exact gl_r6 | exact gl_r7 | assumption | rfl), ly_367_53 (by first | exact gl_gr | exact gl_r6 | exact gl_r7 | assumption | rfl), ly_367_54 (by assumption), g42, ly_367_57 (by first | exact gl_gr | exact gl_r6 | exact gl_r7 | assumption | rfl) (by first | exact gl_cl (by assumption) rfl | exact gl_l6 (by omega) (by omega) | exact gl_l4 (by omega))]
  refine wv_iter hla2 hG2.2.1.1.2.2.2.2.1 hG2.2.1.1.2.2.2.1 (fun w3 hF3 hc3 hI3 => ?_) (by obtain ⟨m, hm, _⟩ := hG2.2.1.1.2.2.1; exact ⟨m, hm⟩)
  rw [wz_1, ly_367_60 (by first | exact gl_gr | exact gl_r6 | exact gl_r7 | assumption | rfl) (by first | exact gl_gr | exact gl_r6 | exact gl_r7 | assumption | rfl)]
  generalize hbb : (fun j => if j < k then b j else b (j + 1)) = b2 at hG2
  generalize hH : qdrop (qsw G (qT G k) (qmi (qM G) 0 (qA G k))) k = H at hG2
  have hHok : q_ok H := by
    rw [← hH]
    exact qok_drop hok1 hk
  have hHK : qK H = qK G - 1 := by rw [← hH]; rfl
  have hHN : qN H = qN G := by rw [← hH]; rfl
  have hG3 : yGx w3 (yN w2 O 0) g (qrenk H (qF G k) (qT G k) 0) la ea lp ep t b2 := (hG2.lo hF3).cg rfl rfl rfl rfl (fun _ _ => rfl) (fun _ _ => rfl) fun a _ => ⟨rfl, rfl, rfl, rfl, rfl⟩
  refine wl_for (P := fun j => ∀ (w' : gy_W) (l8 : gg_V), yF (fun x => O x = g) 1 8 w2 w' → yI w' (w2.2.2.1 + 1) la j → yGx w' (yN w2 O 0) g (qrenk H (qF G k) (qT G k) j) la ea lp ep t b2 → wy N xs (d + 4) 367 62 [gr g, (0, (k : Int)), gr (b k), (0, (qF G k : Int)), (0, (qT G k : Int)), (0, ((qcnt (qswc G (qT G k) (qmi (qM G) 0 (qA G k))) (qK G) : Nat) : Int)), gr (b k), gr (w2.2.2.1 + 1), l8] [] w' Q) (qK G - 1) (fun j hj ih w' l8 hF hI' hGk => ?_) (fun w' l8 hF hI' hGk => ?_) w3 (3, 0) (hF3.wk (fun _ _ z => z.elim) (Nat.le_refl _) (Nat.le_refl _)) hI3 hG3
  · have hY : yV w' la ea (qK G - 1) (fun a => gr (b2 a)) := hHK ▸ hGk.2.1.1
    have hi1 := hI'.1
    have hjH : j < qK H := by omega
    obtain ⟨r1, r2, r3, r4⟩ := hHok.2.1 j hjH
    have hea : w2.2.2.1 + 1 ≠ ea := by have := hG2.2.2.2.2.2.2.2.2.1.2.2; omega
    rw [ly_367_62 (by first | exact gl_gr | exact gl_r6 | exact gl_r7 | assumption | rfl), ly_367_64 (by first | exact gl_gr | exact gl_r6 | exact gl_r7 | assumption | rfl) (by first | exact gl_cl (by assumption) rfl | exact gl_l6 (by omega) (by omega) | exact gl_l4 (by omega)), wv_hasNext hI' hY (by omega) (by omega), if_neg (by omega), wz_1, ly_367_69 (by omega) (by omega)]
    simp only [show ¬ ((1 : Int) = 0) by omega, not_false_eq_true, true_implies, false_implies, and_true, true_and]
    rw [ly_367_72 (by first | exact gl_gr | exact gl_r6 | exact gl_r7 | assumption | rfl), ly_367_74 (by first | exact gl_gr | exact gl_r6 | exact gl_r7 | assumption | rfl) (by first | exact gl_cl (by assumption) rfl | exact gl_l6 (by omega) (by omega) | exact gl_l4 (by omega))]
    refine wv_next hI' hY hj hea fun w4 hF4 hc4 hI4 => ?_
    have hF4' : yF (fun x => O x = g) 1 8 w2 w4 := hF.tr hF4 fun x hx z => by
      have e : x = w2.2.2.1 + 1 := z
      omega
    have hG4 : yGx w4 (yN w2 O 0) g (qrenk H (qF G k) (qT G k) j) la ea lp ep t b2 := hGk.fr hF4 (fun x hx z => by
      have e : x = w2.2.2.1 + 1 := z
      have := (yO.hi hx hg141).2
      omega) fun _ _ z => z
    have hAj : yA w4 (b2 j) (qF H j) (qT H j) (qA H j) (qW H j) ((qS H).testBit j) := by
      have := hG4.2.2.2.1 j hjH
      rw [show qF (qrenk H (qF G k) (qT G k) j) j = qF H j from if_neg (Nat.lt_irrefl j), show qT (qrenk H (qF G k) (qT G k) j) j = qT H j from if_neg (Nat.lt_irrefl j)] at this
      exact this
    have a1j := hAj.1
    have hob := yO.hi (hG4.2.2.2.2.2.2.2.2.2.2.2.2 j hjH) hg141
    have hbj := hG4.ba (a := j) hjH
    have m1 : qren1 (qF G k) (qT G k) (qF H j) ≤ 100 := by unfold qren1; split <;> omega
    have m2 : qren1 (qF G k) (qT G k) (qT H j) ≤ 100 := by unfold qren1; split <;> omega
    rw [wz_1, ly_367_79 (by first | exact gl_c7 (by assumption) | exact gl_c14 (by assumption) | exact gl_c12 (by omega) (by omega)), ly_367_82 (by first | exact gl_gr | exact gl_r6 | exact gl_r7 | assumption | rfl) (by first | exact gl_gr | exact gl_r6 | exact gl_r7 | assumption | rfl), yc_1 hAj (by omega) (by omega), yc_2 hAj.s0 (by omega) (by omega), yc_3 hAj.s0.s1 m1 (by omega), yc_4 hAj.s0.s1.s0 m2 (by omega), ly_367_182]
    rw [← qren_1 hne, ← qren_1 hne]
    have hAe := hAj.s0 (x := qren1 (qF G k) (qT G k) (qF H j)) |>.s1 (x := qren1 (qF G k) (qT G k) (qT H j)) |>.s0 (x := qren (qF G k) (qT G k) (qF H j)) |>.s1 (x := qren (qF G k) (qT G k) (qT H j))
    refine ih _ _ (yF.u (yF.u (yF.u (yF.u hF4' fun _ => hob.1) fun _ => hob.1) fun _ => hob.1) fun _ => hob.1) ?_ ?_
    · refine hI4.fr (yF.u (P := fun z => z = b2 j) (yF.u (yF.u (yF.u yF.rf fun _ => rfl) fun _ => rfl) fun _ => rfl) fun _ => rfl) (fun z => ?_) (fun z => hbj.2.1 z.symm) (by have := hG2.2.2.2.2.2.2.2.1.2.2; have := hF4'.le; omega)
      have := hob.2
      omega
    · refine hG4.arcF hjH (yF.u (P := fun z => z = b2 j) (yF.u (yF.u (yF.u yF.rf fun _ => rfl) fun _ => rfl) fun _ => rfl) fun _ => rfl) rfl rfl rfl rfl rfl rfl (fun c hc hcj => ⟨?_, ?_, rfl, rfl, rfl⟩) ?_
      · show (if c < j + 1 then _ else _) = if c < j then _ else _
        by_cases h1 : c < j
        · rw [if_pos h1, if_pos (by omega)]
        · rw [if_neg h1, if_neg (by omega)]
      · show (if c < j + 1 then _ else _) = if c < j then _ else _
        by_cases h1 : c < j
        · rw [if_pos h1, if_pos (by omega)]
        · rw [if_neg h1, if_neg (by omega)]
      · rw [show qF (qrenk H (qF G k) (qT G k) (j + 1)) j = qren (qF G k) (qT G k) (qF H j) from if_pos (Nat.lt_succ_self j), show qT (qrenk H (qF G k) (qT G k) (j + 1)) j = qren (qF G k) (qT G k) (qT H j) from if_pos (Nat.lt_succ_self j)]
        exact hAe
  · have hY : yV w' la ea (qK G - 1) (fun a => gr (b2 a)) := hHK ▸ hGk.2.1.1
    have hi1 := hI'.1
    have hP5 : yV w' lp ep (qN G) (fun v => (6, qP H v)) := hHN ▸ hGk.2.1.2
    have g05 : w'.1 g = (0, 0, 14) := hGk.1.1
    have g55 : w'.2.1 g 4 = gr lp := hGk.1.2.2.2.2.2.1
    have hlp5 := hP5.1
    have g15 : w'.2.1 g 0 = (0, (qN G : Int)) := by
      have := hGk.1.2.1
      rw [show qN (qrenk H (qF G k) (qT G k) (qK G - 1)) = qN H from rfl, hHN] at this
      exact this
    obtain ⟨p1, p2⟩ := yz_P hHok (v := qT G k) (by omega)
    rw [ly_367_62 (by first | exact gl_gr | exact gl_r6 | exact gl_r7 | assumption | rfl), ly_367_64 (by first | exact gl_gr | exact gl_r6 | exact gl_r7 | assumption | rfl) (by first | exact gl_cl (by assumption) rfl | exact gl_l6 (by omega) (by omega) | exact gl_l4 (by omega)), wv_hasNext hI' hY (by omega) (by omega), if_pos rfl, wz_1, ly_367_69 (by omega) (by omega)]
    simp only [not_true_eq_false, true_implies, false_implies, and_true]
    rw [ly_367_185 (by first | exact gl_gr | exact gl_r6 | exact gl_r7 | assumption | rfl), ly_367_186 (by assumption), g55, ly_367_189, ly_367_191 (by first | exact gl_gr | exact gl_r6 | exact gl_r7 | assumption | rfl) (by first | exact gl_cl (by assumption) rfl | exact gl_l6 (by omega) (by omega) | exact gl_l4 (by omega))]
    refine wv_rem hP5 f2 fun w5 hF5 hc5 hV5 => ?_
    have g05' : w5.1 g = (0, 0, 14) := (hF5.sh hGk.2.2.2.2.2.2.1.2.2).trans g05
    have g15' : w5.2.1 g 0 = (0, (qN G : Int)) := by
      rw [hF5.me hGk.2.2.2.2.2.2.1.2.2 (fun z => z.elim hgt.1.2.2.1 hgt.1.2.2.2.1)]
      exact g15
    rw [wz_1, ly_367_194 (by first | exact gl_c7 (by assumption) | exact gl_c14 (by assumption) | exact gl_c12 (by omega) (by omega)), ly_367_197 (by first | exact gl_gr | exact gl_r6 | exact gl_r7 | assumption | rfl) (by first | exact gl_cl (by assumption) rfl | exact gl_l6 (by omega) (by omega) | exact gl_l4 (by omega)), wy_int p1 p2, wz_1, ly_367_200 (by first | exact gl_gr | exact gl_r6 | exact gl_r7 | assumption | rfl), ly_367_202 (by first | exact gl_gr | exact gl_r6 | exact gl_r7 | assumption | rfl), ly_367_203 (by first | exact gl_gr | exact gl_r6 | exact gl_r7 | assumption | rfl), ly_367_204 (by assumption), g15', ly_367_207, ly_367_208, io_sub_o (by omega) (by omega), show (qN G : Int) - 1 = ((qN G - 1 : Nat) : Int) by omega, ly_367_209 (by assumption), ly_367_212]
    have hfin : yGx (w5.1, gy_up w5.2.1 g 0 (0, ((qN G - 1 : Nat) : Int)), w5.2.2) (yN w2 O 0) g (qmrg G k) la ea lp ep t b2 := by
      have hNr : qN (qrenk H (qF G k) (qT G k) (qK G - 1)) = qN G := hHN
      have := hGk.vrem (w2 := w5) (v := qT G k) (G' := qmrg G k) hF5 (hNr.symm ▸ hV5) (fun j hj => ?_) (by rw [hNr]; rfl) ?_ ?_ ?_ ?_ ?_
      · rw [hNr] at this
        exact this
      · rw [hNr] at hj
        show (6, if qN G - 1 ≤ j then (-1 : Int) else qov (qP (qdrop (qsw G (qT G k) (qmi (qM G) 0 (qA G k))) k)) (qT G k) j) = _
        rw [if_neg (by omega), hH]
        unfold qov
        split <;> rfl
      · rw [← hH]
        rfl
      · rw [← hH]
        rfl
      · rw [← hH]
        rfl
      · rw [← hH]
        rfl
      · intro c hc
        have hc2 : c < qK G - 1 := by
          have e : qK (qrenk H (qF G k) (qT G k) (qK G - 1)) = qK H := rfl
          omega
        subst hH
        exact ⟨(if_pos hc2).symm, (if_pos hc2).symm, rfl, rfl, rfl⟩
    have hF5' : yF (fun x => O x = g) 1 8 w2 (w5.1, gy_up w5.2.1 g 0 (0, ((qN G - 1 : Nat) : Int)), w5.2.2) := yF.u (hF.tr hF5 fun x hx z => by
      rcases z with z | z
      · rw [z]
        exact o4.1
      · rw [z]
        exact o5.1) fun _ => o1.1
    exact hQ _ b2 (hF02.tt hF5') hfin.hi
end LC2
