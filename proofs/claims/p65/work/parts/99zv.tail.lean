/-! act: the graphs that are kept -/
/-- the class and the law side by side, between two actions: at[0] is g, the kept graphs p 0 .. are the history turned round -/
def yZ (w : gy_W) (A : q_A) (O : Nat → Nat) (ar pl pe g : Nat) (p : Nat → Nat) : Prop :=
  (cI w A ∧ a_ok A ∧ yTo (aG A) ∧ ∀ j, j < aN A → yTo (aH A j)) ∧ yG w O g (aG A) ∧ (w.1 ar = (5, 1, 14) ∧ w.2.1 ar 0 = gr g ∧ 141 < ar ∧ ar ≤ w.2.2.1 ∧ O ar = 0) ∧ (yV w pl pe (aN A) (fun j => gr (p j)) ∧ O pl = 0 ∧ O pe = 0) ∧
  (∀ j, j < aN A → yG w O (p j) (aH A (aN A - 1 - j)) ∧ p j ≠ g) ∧ (∀ i j, i < aN A → j < aN A → p i = p j → i = j) ∧ ∀ x, x ≤ 141 → O x = 0
theorem yG.own {w : gy_W} {O : Nat → Nat} {g : Nat} {G : q_G} (h : yG w O g G) : yO w O g g ∧ w.1 g = (0, 0, 14) := by
  obtain ⟨la, ea, lp, ep, t, b, h⟩ := h
  exact ⟨h.2.2.2.2.2.2.1, h.1.1⟩
theorem yV.arn {w : gy_W} {l e n ar : Nat} {f : Nat → gg_V} (h : yV w l e n f) (ha : w.1 ar = (5, 1, 14)) : ar ≠ l ∧ ar ≠ e := by
  obtain ⟨h1, h2, h3, h4, h5, h6, h7, h8⟩ := h
  have a : ar ≠ l := by
    rintro rfl
    rw [h1] at ha
    exact absurd ha (by decide)
  refine ⟨a, ?_⟩
  rintro rfl
  rcases h8 with ⟨_, _, z⟩ | ⟨_, cap, _, z, _⟩
  · exact a z
  · have := z.2.2.2.1
    rw [this] at ha
    have e : (24 : Nat) = 1 ∨ (24 : Nat) = 14 := Or.inr (congrArg (fun z => z.2.2) ha)
    omega
theorem aN_act (A : q_A) (G : q_G) : aN (a_act A G) = min (aN A + 1) 8 := rfl
theorem aH_act0 (A : q_A) (G : q_G) : aH (a_act A G) 0 = aG A := rfl
theorem aH_actS (A : q_A) (G : q_G) (j : Nat) : aH (a_act A G) (j + 1) = aH A j := rfl
section TL
variable {N : Nat} {xs : Nat → Int32} {d : Nat} {w w0 : gy_W} {Q : gy_O → Prop} {O : Nat → Nat} {A A' : q_A} {ar pl pe g bg v what wv K is : Nat} {p : Nat → Nat} {l12 l13 l14 l15 l16 l17 : gg_V}
/-- the class was only asked -/
theorem yZ.frK {w' : gy_W} {c s : Nat} (h : yZ w A O ar pl pe g p) (hI : cI w' A) (hF : yF yK c s w w') : yZ w' A O ar pl pe g p := by
  obtain ⟨⟨_, hA, hT, hTH⟩, hg, ⟨ar1, ar2, ar3, ar4, ar5⟩, ⟨hV, hOpl, hOpe⟩, hP, hInj, hO⟩ := h
  have hle := hF.le
  have fin : ∀ q G, yG w O q G → yG w' O q G := fun q G hq => hq.fr hF (fun x hx => yK.no hx.2.1) fun _ _ z => z
  exact ⟨⟨hI, hA, hT, hTH⟩, fin _ _ hg, ⟨(hF.sh ar4).trans ar1, by rw [hF.me ar4 (yK.no ar3)]; exact ar2, ar3, by omega, ar5⟩, ⟨hV.fr hF (yK.no hV.2.2.2.1) (yK.no hV.2.2.2.2.2.1), hOpl, hOpe⟩, fun j hj => ⟨fin _ _ (hP j hj).1, (hP j hj).2⟩, hInj, hO⟩
/-- the last comparison -/
theorem yt_end {due : Int} (hZ : yZ w A O ar pl pe g p) (hd1 : -2147483648 ≤ due) (hd2 : due ≤ 2147483647) (hQ : ∀ w', yZ w' A O ar pl pe g p → w'.2.2 = w.2.2 → Q ((1, (0, 1)), w')) :
    wy N xs (d + 32) 345 1176 (yLa ar pl v g what wv K bg is (0, due) (0, due) l12 l13 l14 l15 l16 l17) [] w Q := by
  have hZ' := hZ
  obtain ⟨⟨hI, hA, hT, hTH⟩, hg, _, ⟨hV, hOpl, hOpe⟩, _⟩ := hZ'
  have hs1 := hI.s1
  have hn := hA.2.1
  unfold yLa
  rw [ly_345_1176, ly_345_1178, ly_345_1180 (by omega) (by omega) (by omega) (by omega)]
  simp only [not_true_eq_false, true_implies, false_implies, and_true]
  rw [ly_345_1183 (by first | exact gl_gr | exact gl_r6 | exact gl_r7 | assumption | rfl), ly_345_1184, ly_345_1185 (by first | exact gl_gr | exact gl_r6 | exact gl_r7 | assumption | rfl) (by first | exact gl_cl (by assumption) rfl | exact gl_l6 (by omega) (by omega) | exact gl_l4 (by omega))]
  refine cy_do (by decide) (fun M h => cq_91 h hA (x := 4) (by decide) (by decide)) hI (if_pos (by decide)) fun w1 hI1 hF1 hc1 => ?_
  have hV1 := hV.fr hF1 (yK.no hV.2.2.2.1) (yK.no hV.2.2.2.2.2.1)
  have hpl := hV1.1
  rw [wz_1, show qcount A (4 : Int).toNat = (aN A : Int) from rfl, ly_345_1188 (by first | exact gl_gr | exact gl_r6 | exact gl_r7 | assumption | rfl), ly_345_1189 (by first | exact gl_gr | exact gl_r6 | exact gl_r7 | assumption | rfl) (by first | exact gl_cl (by assumption) rfl | exact gl_l6 (by omega) (by omega) | exact gl_l4 (by omega)), wv_size hV1, wz_1, ly_345_1192 (by omega) (by omega) (by omega) (by omega)]
  simp only [not_true_eq_false, true_implies, false_implies, and_true]
  rw [ly_345_1195, ly_345_1196, ly_345_1200 (by omega)]
  exact hQ w1 (hZ.frK hI1 hF1) hc1
theorem yt_tail {due : Int} (hZ : yZ w0 A O ar pl pe g p) (hb : yG w0 O bg (aG A)) (hbg : bg ≠ g) (hbp : ∀ j, j < aN A → p j ≠ bg) (hR : yR w0 O g A A' is w) (hd1 : -2147483648 ≤ due) (hd2 : due ≤ 2147483647)
    (hQ : ∀ w' O' pe' p', yZ w' A' O' ar pl pe' g p' → w'.2.2.1 ≤ w0.2.2.1 + 2201 → w'.2.2.2 ≤ w0.2.2.2 + 30015 → w0.2.2.1 ≤ w'.2.2.1 → Q ((1, (0, 1)), w')) :
    wy N xs (d + 32) 345 1149 (yLa ar pl v g what wv K bg is (0, due) (0, due) l12 l13 l14 l15 l16 l17) [] w Q := by
  obtain ⟨⟨hI0, hA, hT, hTH⟩, hg, ⟨ar1, ar2, ar3, ar4, ar5⟩, ⟨hV, hOpl, hOpe⟩, hP, hInj, hO⟩ := hZ
  obtain ⟨hF, hg', hI', hcase⟩ := hR
  have hgo := hg.own
  have hbo := hb.own
  have g141 : 141 < g := hgo.1.2.1
  have noP : ∀ x, O x ≠ g → 141 < x → ¬ (yK x ∨ O x = g) := fun x h1 h2 z => z.elim (yK.no h2) h1
  have own : ∀ q, q ≠ g → ∀ x, yO w0 O q x → ¬ (yK x ∨ O x = g) := fun q hq x hx => noP x (fun z => hq (hx.1.symm.trans z)) hx.2.1
  have hle := hF.le
  have hON : ∀ q, ∀ x, x ≤ w0.2.2.1 → O x = q → yN w0 O g x = q := fun q x hx z => (yN_le hx).trans z
  have hV1 := hV.fr hF (noP _ (by omega) hV.2.2.2.1) (noP _ (by omega) hV.2.2.2.2.2.1)
  have hn := hA.2.1
  have hpl := hV1.1
  have hb1 : yG w (yN w0 O g) bg (aG A) := hb.fr hF (own bg hbg) (hON bg)
  have hP1 : ∀ j, j < aN A → yG w (yN w0 O g) (p j) (aH A (aN A - 1 - j)) := fun j hj => (hP j hj).1.fr hF (own _ (hP j hj).2) (hON _)
  have ar1' : w.1 ar = (5, 1, 14) := (hF.sh ar4).trans ar1
  have ar2' : w.2.1 ar 0 = gr g := by rw [hF.me ar4 (noP _ (by omega) ar3)]; exact ar2
  have arn := hV1.arn ar1'
  have hO1 : ∀ x, x ≤ 141 → yN w0 O g x = 0 := fun x hx => (yN_le (by have := hgo.1.2.2; omega)).trans (hO x hx)
  have oar : yN w0 O g ar = 0 := (yN_le ar4).trans ar5
  have opl : yN w0 O g pl = 0 := (yN_le hV.2.2.2.2.1).trans hOpl
  have ope : yN w0 O g pe = 0 := (yN_le hV.2.2.2.2.2.2.1).trans hOpe
  unfold yLa
  rw [ly_345_1149, ly_345_1151 (by omega) (by omega)]
  rcases hcase with ⟨rfl, G', rfl, hG', hT'⟩ | ⟨rfl, hAA⟩
  · -- kept
    simp only [show ¬ (((1 : Nat) : Int) = 0) by omega, not_false_eq_true, true_implies, false_implies, and_true, true_and]
    rw [ly_345_1154 (by first | exact gl_gr | exact gl_r6 | exact gl_r7 | assumption | rfl), ly_345_1155 (by first | exact gl_gr | exact gl_r6 | exact gl_r7 | assumption | rfl), ly_345_1157 (by first | exact gl_gr | exact gl_r6 | exact gl_r7 | assumption | rfl) (by first | exact gl_gr | exact gl_r6 | exact gl_r7 | assumption | rfl) (by first | exact gl_cl (by assumption) rfl | exact gl_l6 (by omega) (by omega) | exact gl_l4 (by omega))]
    have hbo1 := hb1.own
    refine wv_add hV1 (by omega) (yE.g hbo1.1.2.2 hbo1.2) fun w2 pe2 hpe2 hF2 hV2 => ?_
    have hle2 := hF2.le
    -- graphs behind the list
    have hGG : ∀ q G, yG w (yN w0 O g) q G → 141 < q → yG w2 (yN w (yN w0 O g) 0) q G := by
      intro q G hq h141
      refine hq.fr hF2 (fun x hx z => ?_) fun x hx z => (yN_le hx).trans z
      have e := hx.1
      rcases z with z | z
      · rw [z, opl] at e
        omega
      · rw [z, ope] at e
        omega
    have hI2 := hI'.fr hF2 (fun x h1 h2 z => by
      have := hV1.2.2.2.1
      have := hV1.2.2.2.2.2.1
      rcases z with z | z <;> omega) (by omega)
    have arn2 : ¬ (ar = pl ∨ ar = pe) := fun z => z.elim arn.1 arn.2
    have ar12 : w2.1 ar = (5, 1, 14) := (hF2.sh (by omega)).trans ar1'
    have ar22 : w2.2.1 ar 0 = gr g := by rw [hF2.me (by omega) arn2]; exact ar2'
    have hpl2 := hV2.1
    have hpe2' := hV2.2.2.2.2.2.1
    have hpe2c := hV2.2.2.2.2.2.2.1
    have ope2 : yN w (yN w0 O g) 0 pe2 = 0 := by
      rcases hpe2 with e | e
      · rw [e, yN_le hV1.2.2.2.2.2.2.1]
        exact ope
      · exact yN_gt e
    have opl2 : yN w (yN w0 O g) 0 pl = 0 := (yN_le hV1.2.2.2.2.1).trans opl
    have oar2 : yN w (yN w0 O g) 0 ar = 0 := (yN_le (by omega)).trans oar
    have hO2 : ∀ x, x ≤ 141 → yN w (yN w0 O g) 0 x = 0 := fun x hx => (yN_le (by have := hgo.1.2.2; omega)).trans (hO1 x hx)
    have hA2 := ok_act hA hG'
    have hTH2 : ∀ j, j < aN (a_act A G') → yTo (aH (a_act A G') j) := by
      intro j hj
      rw [aN_act] at hj
      rcases j with _ | j
      · rw [aH_act0]
        exact hT
      · rw [aH_actS]
        exact hTH j (by omega)
    have hg2 := hGG g _ hg' g141
    have hpg : ∀ j, j < aN A + 1 → yG w2 (yN w (yN w0 O g) 0) (if j = aN A then bg else p j) (if j = aN A then aG A else aH A (aN A - 1 - j)) ∧ (if j = aN A then bg else p j) ≠ g := by
      intro j hj
      by_cases e : j = aN A
      · rw [if_pos e, if_pos e]
        exact ⟨hGG bg _ hb1 hbo.1.2.1, hbg⟩
      · rw [if_neg e, if_neg e]
        exact ⟨hGG _ _ (hP1 j (by omega)) (hP j (by omega)).1.own.1.2.1, (hP j (by omega)).2⟩
    have hinj : ∀ i j, i < aN A + 1 → j < aN A + 1 → (if i = aN A then bg else p i) = (if j = aN A then bg else p j) → i = j := by
      intro i j hi hj hij
      by_cases e1 : i = aN A <;> by_cases e2 : j = aN A
      · omega
      · rw [if_pos e1, if_neg e2] at hij
        exact absurd hij.symm (hbp j (by omega))
      · rw [if_neg e1, if_pos e2] at hij
        exact absurd hij (hbp i (by omega))
      · rw [if_neg e1, if_neg e2] at hij
        exact hInj i j (by omega) (by omega) hij
    rw [wz_1, ly_345_1160, ly_345_1161 (by first | exact gl_gr | exact gl_r6 | exact gl_r7 | assumption | rfl), ly_345_1162 (by first | exact gl_gr | exact gl_r6 | exact gl_r7 | assumption | rfl) (by first | exact gl_cl (by assumption) rfl | exact gl_l6 (by omega) (by omega) | exact gl_l4 (by omega)), wv_size hV2, wz_1, ly_345_1165, ly_345_1167 (by omega) (by omega) (by omega) (by omega)]
    by_cases h8 : 8 < aN A + 1
    · have hn8 : aN A = 8 := by omega
      simp only [show (8 : Int) < ((aN A + 1 : Nat) : Int) by omega, not_true_eq_false, true_implies, false_implies, and_true, true_and]
      rw [ly_345_1170 (by first | exact gl_gr | exact gl_r6 | exact gl_r7 | assumption | rfl), ly_345_1171, ly_345_1172 (by first | exact gl_gr | exact gl_r6 | exact gl_r7 | assumption | rfl) (by first | exact gl_cl (by assumption) rfl | exact gl_l6 (by omega) (by omega) | exact gl_l4 (by omega))]
      refine wv_rem (i := 0) hV2 (by omega) fun w3 hF3 hc3 hV3 => ?_
      have hle3 := hF3.le
      have hGG3 : ∀ q G, yG w2 (yN w (yN w0 O g) 0) q G → 141 < q → yG w3 (yN w (yN w0 O g) 0) q G := by
        intro q G hq h141
        refine hq.fr hF3 (fun x hx z => ?_) fun x hx z => z
        have e := hx.1
        rcases z with z | z
        · rw [z, opl2] at e
          omega
        · rw [z, ope2] at e
          omega
      have hI3 := hI2.fr hF3 (fun x h1 h2 z => by
        have := hV1.2.2.2.1
        rcases z with z | z <;> omega) (by omega)
      have hV3' : yV w3 pl pe2 (aN (a_act A G')) (fun j => gr (if j + 1 = aN A then bg else p (j + 1))) := by
        rw [aN_act, show min (aN A + 1) 8 = aN A + 1 - 1 by omega]
        refine hV3.cg fun j hj => ?_
        rw [if_neg (Nat.not_lt_zero j)]
        show _ = if j + 1 = aN A then gr bg else gr (p (j + 1))
        split <;> rfl
      have hF23 := hF2.tr hF3 (P := fun x => x = pl ∨ x = pe) fun x hx z => by
        rcases z with z | z
        · exact Or.inl z
        · rcases hpe2 with e | e
          · exact Or.inr (z.trans e)
          · omega
      have arn3 : ¬ (ar = pl ∨ ar = pe2) := fun z => z.elim arn.1 fun z => by
        rcases hpe2 with e | e
        · exact arn.2 (z.trans e)
        · omega
      have r0 := gl_rr (hV2.rr (i := 0) (by omega))
      rw [wz_1, ly_345_1175 r0]
      refine yt_end (O := yN w (yN w0 O g) 0) (pe := pe2) (p := fun j => if j + 1 = aN A then bg else p (j + 1)) ⟨⟨hI3, hA2, hT', hTH2⟩, hGG3 _ _ hg2 g141, ⟨(hF3.sh (by omega)).trans ar12, by rw [hF3.me (by omega) arn3]; exact ar22, ar3, by omega, oar2⟩, ⟨hV3', opl2, ope2⟩, fun j hj => ?_, fun i j hi hj hij => ?_, hO2⟩ hd1 hd2 fun w4 hZ4 hc4 => hQ w4 _ pe2 _ hZ4 ?_ ?_ ?_
      · rw [aN_act] at hj
        obtain ⟨q1, q2⟩ := hpg (j + 1) (by omega)
        refine ⟨?_, q2⟩
        rw [aN_act, show min (aN A + 1) 8 - 1 - j = 7 - j by omega]
        have := hGG3 _ _ q1 (q1.own.1.2.1)
        by_cases e : j + 1 = aN A
        · dsimp only
          rw [if_pos e] at this ⊢
          rw [if_pos e] at this
          rw [show 7 - j = 0 by omega, aH_act0]
          exact this
        · dsimp only
          rw [if_neg e] at this ⊢
          rw [if_neg e] at this
          rw [show 7 - j = (6 - j) + 1 by omega, aH_actS, show 6 - j = aN A - 1 - (j + 1) by omega]
          exact this
      · rw [aN_act] at hi hj
        have := hinj (i + 1) (j + 1) (by omega) (by omega) hij
        omega
      · have := hF.2.1
        have := hF2.2.1
        have := hF3.2.1
        rw [hc4]
        omega
      · have := hF.2.2.1
        have := hF2.2.2.1
        have := hF3.2.2.1
        rw [hc4]
        omega
      · rw [hc4]
        omega
    · simp only [show ¬ ((8 : Int) < ((aN A + 1 : Nat) : Int)) by omega, not_false_eq_true, true_implies, false_implies, and_true, true_and]
      have hmin : aN (a_act A G') = aN A + 1 := by
        rw [aN_act]
        omega
      have hV2' : yV w2 pl pe2 (aN (a_act A G')) (fun j => gr (if j = aN A then bg else p j)) := by
        rw [hmin]
        refine hV2.cg fun j hj => ?_
        split <;> rfl
      refine yt_end (O := yN w (yN w0 O g) 0) (pe := pe2) (p := fun j => if j = aN A then bg else p j) ⟨⟨hI2, hA2, hT', hTH2⟩, hg2, ⟨ar12, ar22, ar3, by omega, oar2⟩, ⟨hV2', opl2, ope2⟩, fun j hj => ?_, fun i j hi hj hij => ?_, hO2⟩ hd1 hd2 fun w4 hZ4 hc4 => hQ w4 _ pe2 _ hZ4 ?_ ?_ ?_
      · rw [hmin] at hj
        obtain ⟨q1, q2⟩ := hpg j (by omega)
        refine ⟨?_, q2⟩
        rw [hmin]
        by_cases e : j = aN A
        · dsimp only
          rw [if_pos e] at q1 ⊢
          rw [if_pos e] at q1
          rw [show aN A + 1 - 1 - j = 0 by omega, aH_act0]
          exact q1
        · dsimp only
          rw [if_neg e] at q1 ⊢
          rw [if_neg e] at q1
          rw [show aN A + 1 - 1 - j = (aN A - 1 - j) + 1 by omega, aH_actS]
          exact q1
      · rw [hmin] at hi hj
        exact hinj i j (by omega) (by omega) hij
      · have := hF.2.1
        have := hF2.2.1
        rw [hc4]
        omega
      · have := hF.2.2.1
        have := hF2.2.2.1
        rw [hc4]
        omega
      · rw [hc4]
        omega
  · obtain rfl : A = A' := hAA.symm
    simp only [show ((0 : Nat) : Int) = 0 by omega, not_true_eq_false, true_implies, false_implies, and_true, true_and]
    rw [ly_345_1161 (by first | exact gl_gr | exact gl_r6 | exact gl_r7 | assumption | rfl), ly_345_1162 (by first | exact gl_gr | exact gl_r6 | exact gl_r7 | assumption | rfl) (by first | exact gl_cl (by assumption) rfl | exact gl_l6 (by omega) (by omega) | exact gl_l4 (by omega)), wv_size hV1, wz_1, ly_345_1165, ly_345_1167 (by omega) (by omega) (by omega) (by omega)]
    simp only [show ¬ ((8 : Int) < (aN A : Int)) by omega, not_false_eq_true, true_implies, false_implies, and_true, true_and]
    refine yt_end (O := yN w0 O g) (pe := pe) (p := p) ⟨⟨hI', hA, hT, hTH⟩, hg', ⟨ar1', ar2', ar3, by omega, oar⟩, ⟨hV1, opl, ope⟩, fun j hj => ⟨hP1 j hj, (hP j hj).2⟩, hInj, hO1⟩ hd1 hd2 fun w4 hZ4 hc4 => hQ w4 _ pe _ hZ4 ?_ ?_ ?_
    · have := hF.2.1
      rw [hc4]
      omega
    · have := hF.2.2.1
      rw [hc4]
      omega
    · rw [hc4]
      omega
end TL
