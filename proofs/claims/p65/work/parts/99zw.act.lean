/-! act, the whole -/
theorem gl_e14 {w : gy_W} {a : Nat} (h : w.1 a = (0, 0, 14)) : gy_el (gr a) w 14 = true := by
  show (decide (w.1 a = (0, 0, 14)) && decide (14 = 0 ∨ 14 = 2 ∨ 14 = 14) || decide (14 = 24) && (decide (w.1 a = (0, 0, 7)) || decide (w.1 a = (0, 0, 14)))) = true
  rw [h]
  rfl
theorem yZ.new {w w1 : gy_W} {A : q_A} {O : Nat → Nat} {ar pl pe g c s : Nat} {p : Nat → Nat} (h : yZ w A O ar pl pe g p) (hF : yF (fun _ => False) c s w w1) (q : Nat) : yZ w1 A (yN w O q) ar pl pe g p := by
  obtain ⟨⟨hI, hA, hT, hTH⟩, hg, ⟨ar1, ar2, ar3, ar4, ar5⟩, ⟨hV, hOpl, hOpe⟩, hP, hInj, hO⟩ := h
  have hle := hF.le
  have hgo := hg.own
  have fin : ∀ r G, yG w O r G → yG w1 (yN w O q) r G := fun r G hr => hr.fr hF (fun _ _ => id) fun x hx z => (yN_le hx).trans z
  exact ⟨⟨hI.fr0 hF (by have := hgo.1.2; omega), hA, hT, hTH⟩, fin _ _ hg, ⟨(hF.sh ar4).trans ar1, by rw [hF.me ar4 id]; exact ar2, ar3, by omega, (yN_le ar4).trans ar5⟩, ⟨hV.fr hF id id, (yN_le hV.2.2.2.2.1).trans hOpl, (yN_le hV.2.2.2.2.2.2.1).trans hOpe⟩, fun j hj => ⟨fin _ _ (hP j hj).1, (hP j hj).2⟩, hInj, fun x hx => (yN_le (by have := hgo.1.2; omega)).trans (hO x hx)⟩
section AC
variable {N : Nat} {xs : Nat → Int32} {d : Nat} {w : gy_W} {Q : gy_O → Prop} {O : Nat → Nat} {A : q_A} {ar pl pe g v : Nat} {p : Nat → Nat}
/-- a case, whichever it is -/
theorem yz_case {bg wv : Nat} {l14 : gg_V} (hZ : yZ w A O ar pl pe g p) (hb : yG w O bg (aG A)) (hbg : bg ≠ g) (hbp : ∀ j, j < aN A → p j ≠ bg) {la ea lp ep t : Nat} {b : Nat → Nat} (h : yGx w O g (aG A) la ea lp ep t b) (hwv : wv ≤ 2147483647) {what : Nat} (hw : what < 14) {kk : Int} (hl14 : gy_ra l14 = true)
    (hk : (what ≤ 5 ∨ 11 ≤ what) ∨ ∃ k, k < qK (aG A) ∧ kk = (k : Int) ∧ l14 = gr (b k))
    (hQ : ∀ w' A' O' pe' p', yZ w' A' O' ar pl pe' g p' → w'.2.2.1 ≤ w.2.2.1 + 2201 → w'.2.2.2 ≤ w.2.2.2 + 30015 → w.2.2.1 ≤ w'.2.2.1 → Q ((1, (0, 1)), w')) :
    wy N xs (d + 32) 345 156 (yLa ar pl v g what wv (qK (aG A)) bg 1 (3, 0) (3, 0) (0, ((wv % qN (aG A) : Nat) : Int)) (0, kk) l14 (3, 0) (3, 0) (3, 0)) [(0, ((what : Nat) : Int))] w Q := by
  obtain ⟨⟨hI, hA, hT, hTH⟩, _, _, _, _, _, hO⟩ := id hZ
  have hx := ymod (x := wv) hA.1.1.1
  have fin : ∀ w' A' is (due : Int) l12 l13 l14 l15 l16 l17, yR w O g A A' is w' → -2147483648 ≤ due → due ≤ 2147483647 → wy N xs (d + 32) 345 1149 (yLa ar pl v g what wv (qK (aG A)) bg is (0, due) (0, due) l12 l13 l14 l15 l16 l17) [] w' Q :=
    fun w' A' is due _ _ _ _ _ _ hR h1 h2 => yt_tail hZ hb hbg hbp hR h1 h2 fun w2 O2 pe2 p2 z1 z2 z3 z4 => hQ w2 A' O2 pe2 p2 z1 z2 z3 z4
  rcases (show what = 0 ∨ what = 1 ∨ what = 2 ∨ what = 3 ∨ what = 4 ∨ what = 5 ∨ what = 6 ∨ what = 7 ∨ what = 8 ∨ what = 9 ∨ what = 10 ∨ what = 11 ∨ what = 12 ∨ what = 13 by omega) with rfl | rfl | rfl | rfl | rfl | rfl | rfl | rfl | rfl | rfl | rfl | rfl | rfl | rfl
  · rw [ly_345_156_0]
    exact yk_add h hI hA hT hO hx hwv hl14 fin
  · rw [ly_345_156_1]
    exact yk_add h hI hA hT hO hx hwv hl14 fin
  · rw [ly_345_156_2]
    exact yk_paint h hI hA hT hO hx hwv hl14 fin
  · rw [ly_345_156_3]
    exact yk_clean h hI hA hT hO hx fin
  · rw [ly_345_156_4]
    exact yk_fin h hI hA hT hO hl14 fin
  · rw [ly_345_156_5]
    exact yk_switch h hI hA hT hO hx hwv hl14 fin
  · obtain ⟨k, hk2, rfl, rfl⟩ := hk.resolve_left (by omega)
    rw [ly_345_156_6]
    exact yk_drop h hI hA hT hO hk2 hl14 fin
  · obtain ⟨k, hk2, rfl, rfl⟩ := hk.resolve_left (by omega)
    rw [ly_345_156_7]
    exact yk_gain h hI hA hT hO hk2 hwv fin
  · obtain ⟨k, hk2, rfl, rfl⟩ := hk.resolve_left (by omega)
    rw [ly_345_156_8]
    exact yk_weight h hI hA hT hO hk2 hwv fin
  · obtain ⟨k, hk2, rfl, rfl⟩ := hk.resolve_left (by omega)
    rw [ly_345_156_9]
    exact yk_turn h hI hA hT hO hk2 fin
  · obtain ⟨k, hk2, rfl, rfl⟩ := hk.resolve_left (by omega)
    rw [ly_345_156_10]
    exact yk_contr h hI hA hT hO hk2 fin
  · rw [ly_345_156_11]
    exact yk_mark h hI hA hT hO hwv hl14 fin
  · have e1 : ((wv : Int)).tmod 3 = ((wv % 3 : Nat) : Int) := rfl
    have h3 := ymod (x := wv) (m := 3) (by decide)
    have hv := yk_vert (N := N) (xs := xs) (d := d) (Q := Q) (ar := ar) (pl := pl) (v := v) (what := 12) (wv := wv) (bg := bg) (l12 := (0, ((wv % qN (aG A) : Nat) : Int))) (l13 := (0, kk)) (l14 := l14) h hI hA hT hO fin
    have hc := yk_closed (N := N) (xs := xs) (d := d) (Q := Q) (ar := ar) (pl := pl) (v := v) (what := 12) (wv := wv) (bg := bg) (l12 := (0, ((wv % qN (aG A) : Nat) : Int))) (l13 := (0, kk)) (l14 := l14) h hI hA hT hO hl14 fin
    rw [ly_345_156_12]
    unfold yLa at hv hc ⊢
    rw [ly_345_931, ly_345_933, ly_345_934 (by omega) (by omega) (by omega) (by omega), e1, ly_345_935 (by omega) (by omega)]
    exact ⟨fun _ => hv, fun _ => hc⟩
  · rw [ly_345_156_13]
    exact yk_pal h hI hA hT hO hwv hl14 fin
theorem yz_act (hZ : yZ w A O ar pl pe g p) (hv : v ≤ 2147483647)
    (hQ : ∀ w' A' O' pe' g' p', yZ w' A' O' ar pl pe' g' p' → w'.2.2.1 ≤ w.2.2.1 + 2241 → w'.2.2.2 ≤ w.2.2.2 + 30465 → w.2.2.1 ≤ w'.2.2.1 → Q ((1, (0, 1)), w')) :
    wy N xs (d + 32) 345 0 [gr 1, gr ar, gr pl, (0, (v : Int)), (3, 0), (3, 0), (3, 0), (3, 0), (3, 0), (3, 0), (3, 0), (3, 0), (3, 0), (3, 0), (3, 0), (3, 0), (3, 0), (3, 0)] [] w Q := by
  obtain ⟨⟨hI, hA, hT, hTH⟩, hg, ⟨ar1, ar2, ar3, ar4, ar5⟩, ⟨hV, hOpl, hOpe⟩, hP, hInj, hO⟩ := id hZ
  have hG := hA.1
  obtain ⟨⟨k1, k2, k3, k4, k5, k6, k7, k8⟩, hkk, _⟩ := id hG
  have hpl := hV.1
  have hn := hA.2.1
  have hgo := hg.own
  have hs1 := hI.s1
  have e1 : ((v : Int)).tmod 15 = ((v % 15 : Nat) : Int) := rfl
  have e2 : ((v : Int)).tdiv 16 = ((v / 16 : Nat) : Int) := rfl
  have hm := ymod (x := v) (m := 15) (by decide)
  have hd16 : v / 16 ≤ v := Nat.div_le_self _ _
  rw [ly_345_0 (by first | exact gl_gr | exact gl_r6 | exact gl_r7 | assumption | rfl), ly_345_1, ly_345_2 ar1 rfl (by decide) (by decide) (by decide) (by show gy_rr (w.2.1 ar 0) = true; rw [ar2]; rfl), show (0 : Int).toNat = 0 from rfl, ar2, ly_345_3 (by first | exact gl_gr | exact gl_r6 | exact gl_r7 | assumption | rfl), ly_345_5, ly_345_6, ly_345_8 (by omega) (by omega) (by omega) (by omega), e1, ly_345_9 (by first | exact gl_gr | exact gl_r6 | exact gl_r7 | assumption | rfl), ly_345_11, ly_345_12, ly_345_14 (by omega) (by omega) (by omega) (by omega), e2, ly_345_15, ly_345_17, ly_345_19, ly_345_21 (by omega) (by omega) (by omega) (by omega)]
  by_cases h14 : v % 15 = 14
  · simp only [show ((v % 15 : Nat) : Int) = 14 by omega, not_true_eq_false, true_implies, false_implies, and_true, true_and]
    rw [ly_345_24 (by first | exact gl_gr | exact gl_r6 | exact gl_r7 | assumption | rfl), ly_345_25 (by first | exact gl_gr | exact gl_r6 | exact gl_r7 | assumption | rfl) (by first | exact gl_cl (by assumption) rfl | exact gl_l6 (by omega) (by omega) | exact gl_l4 (by omega)), wv_size hV, wz_1, ly_345_28, ly_345_29]
    by_cases hn0 : aN A = 0
    · have e3 : io_sub (aN A : Int) 1 = -1 := by rw [io_sub_o (by omega) (by omega)]; omega
      rw [e3, ly_345_30, ly_345_32, ly_345_34 (by omega) (by omega)]
      simp only [show (-1 : Int) < 0 by omega, not_true_eq_false, true_implies, false_implies, and_true, true_and]
      rw [ly_345_49 (by first | exact gl_gr | exact gl_r6 | exact gl_r7 | assumption | rfl), ly_345_50 (by first | exact gl_gr | exact gl_r6 | exact gl_r7 | assumption | rfl) (by first | exact gl_cl (by assumption) rfl | exact gl_l6 (by omega) (by omega) | exact gl_l4 (by omega))]
      refine cy_do (by decide) (fun M h => cq_146 h hA) hI rfl fun w1 hI1 hF1 hc1 => ?_
      have eA : qundo A = A := if_pos hn0
      have eV : qundoV A = -1 := if_pos hn0
      rw [eA] at hI1
      rw [wz_1, eV, ly_345_53, ly_345_55 (by omega) (by omega) (by omega) (by omega)]
      simp only [not_true_eq_false, true_implies, false_implies, and_true]
      rw [ly_345_58, ly_345_59, ly_345_63 (by omega)]
      exact hQ w1 A O pe g p (hZ.frK hI1 hF1) (by rw [hc1]; omega) (by rw [hc1]; omega) (by rw [hc1]; omega)
    · have e3 : io_sub (aN A : Int) 1 = ((aN A - 1 : Nat) : Int) := by rw [io_sub_o (by omega) (by omega)]; omega
      rw [e3, ly_345_30, ly_345_32, ly_345_34 (by omega) (by omega)]
      simp only [show ¬ (((aN A - 1 : Nat) : Int) < 0) by omega, not_false_eq_true, true_implies, false_implies, and_true, true_and]
      obtain ⟨hq, hqg⟩ := hP (aN A - 1) (by omega)
      rw [Nat.sub_self] at hq
      have hqo := hq.own
      have arn := hV.arn ar1
      have hpln := hV.2.2.2.1
      have hpen := hV.2.2.2.2.2.1
      rw [ly_345_37 (by first | exact gl_gr | exact gl_r6 | exact gl_r7 | assumption | rfl), ly_345_38, ly_345_39 (by first | exact gl_gr | exact gl_r6 | exact gl_r7 | assumption | rfl), ly_345_40, ly_345_42 (by first | exact gl_gr | exact gl_r6 | exact gl_r7 | assumption | rfl) (by first | exact gl_cl (by assumption) rfl | exact gl_l6 (by omega) (by omega) | exact gl_l4 (by omega))]
      refine wv_rem hV (i := aN A - 1) (by omega) fun w1 hF1 hc1 hV1 => ?_
      have hle1 := hF1.le
      have noL : ∀ q, 141 < q → ∀ x, yO w O q x → ¬ (x = pl ∨ x = pe) := fun q hq x hx z => by
        have e := hx.1
        rcases z with z | z
        · rw [z, hOpl] at e
          omega
        · rw [z, hOpe] at e
          omega
      have fin1 : ∀ q G, yG w O q G → yG w1 O q G := fun q G h => h.fr hF1 (noL q h.own.1.2.1) fun _ _ z => z
      have hq1 := fin1 _ _ hq
      have hq14 := hq1.own.2
      have ar11 : w1.1 ar = (5, 1, 14) := (hF1.sh ar4).trans ar1
      rw [wz_1, ly_345_45 (by first | exact gl_c7 (by assumption) | exact gl_c14 (by assumption) | exact gl_c12 (by omega) (by omega)), ly_345_48 ar11 (by decide) (by decide) (by decide) (gl_e14 hq14), show (0 : Int).toNat = 0 from rfl]
      obtain ⟨w2, ew2, hF2, c2, z2, zo2, s2⟩ := st_ex w1 ar 0 (gr (p (aN A - 1)))
      rw [ew2]
      have fin2 : ∀ q G, yG w1 O q G → yG w2 O q G := fun q G h => h.fr hF2 (fun x hx z => by
        have e := hx.1
        rw [show x = ar from z, ar5] at e
        have := h.own.1.2.1
        omega) fun _ _ z => z
      have hI2 : cI w2 A := (hI.fr hF1 (fun x h1 h2 z => by rcases z with z | z <;> omega) (by omega)).fr hF2 (fun x h1 h2 z => by
        have e : x = ar := z
        omega) (by omega)
      have hs12 := hI2.s1
      have hV2 := hV1.fr hF2 (Ne.symm arn.1) (Ne.symm arn.2)
      rw [ly_345_49 (by first | exact gl_gr | exact gl_r6 | exact gl_r7 | assumption | rfl), ly_345_50 (by first | exact gl_gr | exact gl_r6 | exact gl_r7 | assumption | rfl) (by first | exact gl_cl (by assumption) rfl | exact gl_l6 (by omega) (by omega) | exact gl_l4 (by omega))]
      refine cy_do (by decide) (fun M h => cq_146 h hA) hI2 rfl fun w3 hI3 hF3 hc3 => ?_
      have eA : qundo A = (aH A 0, (aN A - 1, fun j => aH A (j + 1)), A.2.2) := if_neg hn0
      have eV : qundoV A = ((aN A - 1 : Nat) : Int) := if_neg hn0
      have nA : aN (qundo A) = aN A - 1 := by rw [eA]; rfl
      have gA : aG (qundo A) = aH A 0 := by rw [eA]; rfl
      have hA' : ∀ j, aH (qundo A) j = aH A (j + 1) := fun j => by rw [eA]; rfl
      rw [wz_1, eV, ly_345_53, ly_345_55 (by omega) (by omega) (by omega) (by omega)]
      simp only [not_true_eq_false, true_implies, false_implies, and_true]
      rw [ly_345_58, ly_345_59, ly_345_63 (by omega)]
      have hZ2 : yZ w3 (qundo A) O ar pl pe (p (aN A - 1)) p := by
        have fin3 : ∀ q G, yG w2 O q G → yG w3 O q G := fun q G h => h.fr hF3 (fun x hx => yK.no hx.2.1) fun _ _ z => z
        have hle2 := hF2.le
        have hle3 := hF3.le
        refine ⟨⟨hI3, ok_undo hA, ?_, fun j hj => ?_⟩, ?_, ⟨(hF3.sh (by omega)).trans ((hF2.sh (by omega)).trans ar11), ?_, ar3, by omega, ar5⟩, ⟨?_, hOpl, hOpe⟩, fun j hj => ?_, fun i j hi hj => ?_, hO⟩
        · rw [gA]
          exact hTH 0 (by omega)
        · rw [nA] at hj
          rw [hA']
          exact hTH (j + 1) (by omega)
        · rw [gA]
          exact fin3 _ _ (fin2 _ _ hq1)
        · rw [hF3.me (by omega) (yK.no ar3)]
          exact z2
        · rw [nA]
          refine ((hV2.fr hF3 (yK.no hpln) (yK.no hpen))).cg fun j hj => ?_
          rw [if_pos hj]
        · rw [nA] at hj
          rw [nA, hA', show aN A - 1 - 1 - j + 1 = aN A - 1 - j by omega]
          refine ⟨fin3 _ _ (fin2 _ _ (fin1 _ _ (hP j (by omega)).1)), fun z => ?_⟩
          have := hInj j (aN A - 1) (by omega) (by omega) z
          omega
        · rw [nA] at hi hj
          exact hInj i j (by omega) (by omega)
      have b1 := hF1.2.1
      have b2 := hF1.2.2.1
      exact hQ w3 (qundo A) O pe _ p hZ2 (by rw [hc3, c2]; omega) (by rw [hc3, c2]; omega) (by rw [hc3, c2]; omega)
  · simp only [show ¬ (((v % 15 : Nat) : Int) = 14) by omega, not_false_eq_true, true_implies, false_implies, and_true, true_and]
    obtain ⟨la, ea, lp, ep, t, b, h⟩ := id hg
    obtain ⟨⟨g0, g1, g2, g3, g4, g5, g6⟩, ⟨v1, v2⟩, _⟩ := id h
    have hla := v1.1
    rw [ly_345_64 (by first | exact gl_gr | exact gl_r6 | exact gl_r7 | assumption | rfl), ly_345_66 (by assumption), g4, ly_345_69 (by first | exact gl_gr | exact gl_r6 | exact gl_r7 | assumption | rfl) (by first | exact gl_cl (by assumption) rfl | exact gl_l6 (by omega) (by omega) | exact gl_l4 (by omega)), wv_size v1, wz_1, ly_345_72, ly_345_74, ly_345_76 (by omega) (by omega)]
    -- from 94 on
    have go : (qK (aG A) = 0 → v % 15 ≤ 5 ∨ 11 ≤ v % 15) → wy N xs (d + 32) 345 94 [gr 1, gr ar, gr pl, (0, (v : Int)), gr g, (0, ((v % 15 : Nat) : Int)), (0, ((v / 16 : Nat) : Int)), (0, (qK (aG A) : Int)), (3, 0), (3, 0), (3, 0), (3, 0), (3, 0), (3, 0), (3, 0), (3, 0), (3, 0), (3, 0)] [] w Q := by
      intro hko
      rw [ly_345_94 (by first | exact gl_gr | exact gl_r6 | exact gl_r7 | assumption | rfl), ly_345_96 (by first | exact gl_gr | exact gl_r6 | exact gl_r7 | assumption | rfl) (by first | exact gl_cl (by assumption) rfl | exact gl_l6 (by omega) (by omega) | exact gl_l4 (by omega))]
      refine yy_copy h hG fun w1 hF1 hb => ?_
      have hZ1 := hZ.new hF1 (w.2.2.1 + 1)
      have h1 : yGx w1 (yN w O (w.2.2.1 + 1)) g (aG A) la ea lp ep t b := h.fr hF1 (fun _ _ => id) fun x hx z => (yN_le hx).trans z
      have g01 := h1.1.1
      have g11 := h1.1.2.1
      have g41 := h1.1.2.2.2.2.1
      have v11 := h1.2.1.1
      have hla1 := v11.1
      have b1 := hF1.2.1
      have b2 := hF1.2.2.1
      have b3 := hF1.le
      have e4 : (((v / 16 : Nat) : Int)).tmod (qN (aG A) : Int) = ((v / 16 % qN (aG A) : Nat) : Int) := rfl
      have hcase := fun (kk : Int) (l14 : gg_V) (hl14 : gy_ra l14 = true) hk => yz_case (N := N) (xs := xs) (d := d) (Q := Q) (v := v) (what := v % 15) (wv := v / 16) (kk := kk) (l14 := l14) hZ1 hb (by have := hgo.1.2.2; omega) (fun j hj => by have := (hP j hj).1.own.1.2.2; omega) h1 (by omega) (by omega) hl14 hk fun w' A' O' pe' p' z1 z2 z3 z4 => hQ w' A' O' pe' g p' z1 (by omega) (by omega) (by omega)
      unfold yLa at hcase
      rw [wz_1, ly_345_99 (by first | exact gl_gr | exact gl_r6 | exact gl_r7 | assumption | rfl), ly_345_101, ly_345_102 (by first | exact gl_gr | exact gl_r6 | exact gl_r7 | assumption | rfl), ly_345_104, ly_345_106 (by first | exact gl_gr | exact gl_r6 | exact gl_r7 | assumption | rfl), ly_345_108 (by assumption), g11, ly_345_111 (by omega) (by omega) (by omega) (by omega), e4, ly_345_112, ly_345_114, ly_345_116 (by omega) (by omega)]
      by_cases hK0 : qK (aG A) = 0
      · simp only [show (qK (aG A) : Int) = 0 by omega, not_true_eq_false, true_implies, false_implies, and_true, true_and]
        rw [ly_345_119, ly_345_120, ly_345_128, ly_345_130, ly_345_132 (by omega) (by omega)]
        simp only [show (-1 : Int) < 0 by omega, not_true_eq_false, true_implies, false_implies, and_true, true_and]
        rw [ly_345_135, ly_345_136, ly_345_152 (by first | exact gl_gr | exact gl_r6 | exact gl_r7 | assumption | rfl), ly_345_154]
        have := hcase (-1) (2, -1) rfl (Or.inl (hko hK0))
        rw [hK0] at this
        exact this
      · have e5 : (((v / 16 : Nat) : Int)).tmod (qK (aG A) : Int) = ((v / 16 % qK (aG A) : Nat) : Int) := rfl
        have hmk := ymod (x := v / 16) (m := qK (aG A)) (by omega)
        simp only [show ¬ ((qK (aG A) : Int) = 0) by omega, not_false_eq_true, true_implies, false_implies, and_true, true_and]
        rw [ly_345_123, ly_345_125, ly_345_127 (by omega) (by omega) (by omega) (by omega), e5, ly_345_128, ly_345_130, ly_345_132 (by omega) (by omega)]
        simp only [show ¬ (((v / 16 % qK (aG A) : Nat) : Int) < 0) by omega, not_false_eq_true, true_implies, false_implies, and_true, true_and]
        have a1 := (h1.2.2.2.1 _ hmk).1
        rw [ly_345_139 (by first | exact gl_gr | exact gl_r6 | exact gl_r7 | assumption | rfl), ly_345_141 (by assumption), g41, ly_345_144, ly_345_146 (by first | exact gl_gr | exact gl_r6 | exact gl_r7 | assumption | rfl) (by first | exact gl_cl (by assumption) rfl | exact gl_l6 (by omega) (by omega) | exact gl_l4 (by omega)), wv_get v11 hmk, wz_1, ly_345_149 (by first | exact gl_c7 (by assumption) | exact gl_c14 (by assumption) | exact gl_c12 (by omega) (by omega)), ly_345_152 (by first | exact gl_gr | exact gl_r6 | exact gl_r7 | assumption | rfl), ly_345_154]
        exact hcase _ _ gl_gr (Or.inr ⟨_, hmk, rfl, rfl⟩)
    by_cases hK0 : qK (aG A) = 0
    · simp only [show (qK (aG A) : Int) = 0 by omega, not_true_eq_false, true_implies, false_implies, and_true, true_and]
      rw [ly_345_79, ly_345_81, ly_345_82 (by omega) (by omega) (by omega) (by omega)]
      by_cases h5 : v % 15 ≤ 5
      · simp only [show ¬ ((5 : Int) < ((v % 15 : Nat) : Int)) by omega, not_false_eq_true, true_implies, false_implies, and_true, true_and]
        have := go fun _ => Or.inl h5
        rw [hK0] at this
        exact this
      · simp only [show (5 : Int) < ((v % 15 : Nat) : Int) by omega, not_true_eq_false, true_implies, false_implies, and_true, true_and]
        rw [ly_345_85, ly_345_87, ly_345_89 (by omega) (by omega) (by omega) (by omega)]
        by_cases h11 : v % 15 < 11
        · simp only [show ((v % 15 : Nat) : Int) < 11 by omega, not_true_eq_false, true_implies, false_implies, and_true, true_and]
          rw [ly_345_92, ly_345_93 (by omega)]
          exact hQ w A O pe g p hZ (by omega) (by omega) (Nat.le_refl _)
        · simp only [show ¬ (((v % 15 : Nat) : Int) < 11) by omega, not_false_eq_true, true_implies, false_implies, and_true, true_and]
          have := go fun _ => Or.inr (by omega)
          rw [hK0] at this
          exact this
    · simp only [show ¬ ((qK (aG A) : Int) = 0) by omega, not_false_eq_true, true_implies, false_implies, and_true, true_and]
      exact go fun z => absurd z hK0
end AC
