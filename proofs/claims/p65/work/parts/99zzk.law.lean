/-! the law: its beginning -/
theorem nf_17 : gg_nf 17 ≤ 12 := by decide +kernel
section LW1
variable {N : Nat} {xs : Nat → Int32} {d : Nat} {w : gy_W} {Q : gy_O → Prop} {sb : Nat}
/-- new StringBuilder() -/
theorem yw_new (h : w.1 sb = (0, 0, 17)) (h3 : w.2.1 sb 3 = (0, 0)) (h141 : 141 < sb) (hc : sb ≤ w.2.2.1) (hQ : ∀ w', yF (fun x => x = sb) 1 16 w w' → yTx w' sb (w.2.2.1 + 1) 16 [] → Q ((0, (3, 0)), w')) : wy N xs (d + 2) 394 0 [gr sb] [] w Q := by
  rw [ly_394_0 (by first | exact gl_gr | exact gl_r6 | exact gl_r7 | assumption | rfl), ly_394_1, ly_394_3, ly_400_0 (by first | exact gl_gr | exact gl_r6 | exact gl_r7 | assumption | rfl), ly_400_1, ly_400_4, ly_400_7 (by omega) (by omega)]
  simp only [show ¬ ((1 : Int) = 0) by omega, not_false_eq_true, true_implies, false_implies, and_true, true_and]
  rw [ly_400_10 (by first | exact gl_gr | exact gl_r6 | exact gl_r7 | assumption | rfl), ly_400_11, ly_400_12 (by omega) (by omega), show (16 : Int).toNat = 16 from rfl]
  obtain ⟨w1, ew1, hF1, c1, z1, zz1⟩ := mk_ex w (3, 16, 0) (fun _ => gy_de 3) 16
  have s1 := (hF1.sh hc).trans h
  have m1 := hF1.me hc id
  rw [ew1, ly_400_14 (by assumption) (by first | exact gl_rg | exact gl_s6 | assumption | rfl)]
  obtain ⟨w2, ew2, hF2, c2, z2, zo2, s2⟩ := st_ex w1 sb 0 (gr (w.2.2.1 + 1))
  have s12 : w2.1 sb = (0, 0, 17) := by rw [s2]; exact s1
  rw [ew2, ly_400_17 (by first | exact gl_gr | exact gl_r6 | exact gl_r7 | assumption | rfl), ly_400_18, ly_400_19 (by assumption) (by decide)]
  obtain ⟨w3, ew3, hF3, c3, z3, zo3, s3⟩ := st_ex w2 sb 1 (0, 0)
  rw [ew3, ly_400_22, ly_400_38, wz_0, ly_394_6]
  have hF23 := hF2.tt hF3
  have mv : w3.2.1 (w.2.2.1 + 1) = w1.2.1 (w.2.2.1 + 1) := hF23.me (by omega) (by omega)
  have cc : w3.2.2.1 = w.2.2.1 + 1 := by rw [c3, c2]; exact c1
  refine hQ w3 (((hF1.wk (P' := fun x => x = sb) (fun _ _ z => z.elim) (Nat.le_refl _) (Nat.le_refl _)).tt hF23).wk (fun _ _ z => z) (by omega) (by omega)) ⟨⟨by rw [s3]; exact s12, ?_, z3, ?_⟩, by rw [s3, s2]; exact z1, ⟨Nat.zero_le _, by decide, by decide⟩, fun j hj => absurd hj (Nat.not_lt_zero j), fun j _ => ?_, h141, by omega, by omega, by omega, by omega⟩
  · rw [zo3 0 (by decide)]; exact z2
  · rw [zo3 3 (by decide), zo2 3 (by decide), m1]; exact h3
  · rw [mv, zz1]
    exact i2b_n (x := 0) (by decide)
theorem a0_to : yTo (aG a_0) := fun k => by
  show -2147483648 ≤ (0 : Int) ∧ (0 : Int) ≤ 2147483647
  decide
/-- up to 82 -/
theorem yl_1 (hQ : ∀ w' f l3, cI w' a_0 → 141 ≤ w'.2.2.1 → w'.2.2.1 ≤ 200 → w'.2.2.2 ≤ 13000 → wy N xs 40 287 82 [gr 0, gr 1, gr f, l3, (3, 0), (3, 0), (3, 0), (3, 0)] [] w' Q) (hl3 : True) : wy N xs 40 287 0 (gg_en 8 [(2, 0)]) [] gy_pw Q := by
  show wy N xs 40 287 0 [gr 0, (3, 0), (3, 0), (3, 0), (3, 0), (3, 0), (3, 0), (3, 0)] [] gy_pw Q
  rw [ly_287_0, ly_287_3 (by first | exact gl_gr | exact gl_r6 | exact gl_r7 | assumption | rfl), show gy_pw.2.2.1 + 1 = 1 from rfl]
  rw [ly_287_4]
  refine cy_ctor fun v => ?_
  obtain ⟨k1, k2⟩ := cW0_c
  rw [wz_0, ly_287_7 (by first | exact gl_gr | exact gl_r6 | exact gl_r7 | assumption | rfl) (by first | exact gl_gr | exact gl_r6 | exact gl_r7 | assumption | rfl)]
  have hI0 := cW0_I
  generalize cW0 = w0 at k1 k2 hI0
  rw [ly_287_8]
  obtain ⟨w1, ew1, hF1, c1, z1, zz1⟩ := mk_ex w0 (0, 0, 14) (fun j => gy_df (gg_ft 14 j)) (gg_nf 14)
  have nf := nf_14
  rw [ew1, ly_287_11 (by first | exact gl_gr | exact gl_r6 | exact gl_r7 | assumption | rfl), ly_287_12]
  refine yy_new z1 (by omega) (by omega) fun w2 hF2 c2 hN2 => ?_
  obtain ⟨⟨n0, n1, n2, n3, n4, n5, n6⟩, nA, nA7, nP, nP7, nT, nT0⟩ := hN2
  rw [c1, k1] at n4 n5 n6 nA nA7 nP nP7 nT nT0 c2
  rw [k1] at n0 n1 n2 n3
  have hF02 : yF (fun _ => False) 4 40 w0 w2 := (hF1.tr hF2 fun x hx z => by
    have e : x = w0.2.2.1 + 1 := z
    omega).wk (fun _ _ z => z) (by omega) (by omega)
  have hI2 := hI0.fr0 hF02 (by omega)
  rw [wz_0, ly_287_15 (by first | exact gl_gr | exact gl_r6 | exact gl_r7 | assumption | rfl) (by first | exact gl_gr | exact gl_r6 | exact gl_r7 | assumption | rfl), ly_287_16, ly_287_17 (by first | exact gl_gr | exact gl_r6 | exact gl_r7 | assumption | rfl), k1]
  refine wl_for (P := fun j => ∀ (w' : gy_W) (ep : Nat), yF (fun x => x = 141 + 1 + 2) j (15 * j) w2 w' → (ep = 141 + 1 + 2 ∨ w2.2.2.1 < ep) → yV w' (141 + 1 + 2) ep j (fun _ => (6, -1)) → wy N xs 40 287 18 [gr 0, gr 1, gr (141 + 1), (0, (j : Int)), (3, 0), (3, 0), (3, 0), (3, 0)] [] w' Q) 2 (fun j hj ih w' ep hF hep hV => ?_) (fun w' ep hF hep hV => ?_) w2 _ yF.rf (Or.inl rfl) (nP _)
  · have g0 := (hF.sh (x := 141 + 1) (by omega)).trans n0
    have g5 : w'.2.1 (141 + 1) 4 = gr (141 + 1 + 2) := by rw [hF.me (by omega) (by omega)]; exact n5
    have hlp := hV.1
    have e0 : io_add (j : Int) 1 = ((j + 1 : Nat) : Int) := by rw [io_add_o (by omega) (by omega)]; omega
    rw [ly_287_18, ly_287_19, ly_287_20 (by omega) (by omega) (by omega) (by omega)]
    simp only [show (j : Int) < 2 by omega, not_true_eq_false, true_implies, false_implies, and_true, true_and]
    rw [ly_287_23 (by first | exact gl_gr | exact gl_r6 | exact gl_r7 | assumption | rfl), ly_287_24 (by assumption), g5, ly_287_27, ly_287_28, wy_val (by decide) (by decide), wz_1, ly_287_31 (by first | exact gl_gr | exact gl_r6 | exact gl_r7 | assumption | rfl) (by first | exact gl_gr | exact gl_r6 | exact gl_r7 | assumption | rfl) (by first | exact gl_cl (by assumption) rfl | exact gl_l6 (by omega) (by omega) | exact gl_l4 (by omega))]
    refine wv_add hV (by omega) (yE.i (by decide) (by decide)) fun w3 ep3 hep3 hF3 hV3 => ?_
    have hle := hF.le
    rw [wz_1, ly_287_34, ly_287_35 (by first | exact gl_gr | exact gl_r6 | exact gl_r7 | assumption | rfl), e0, ly_287_38]
    refine ih w3 ep3 ((hF.tr hF3 fun x hx z => ?_).wk (fun _ _ z => z) (by omega) (by omega)) (by omega) (hV3.cg fun i _ => ?_)
    · rcases z with z | z
      · exact z
      · rcases hep with e | e
        · exact z.trans e
        · omega
    · show (6, -1) = if i = j then (6, -1) else (6, -1)
      split <;> rfl
  · have hle := hF.le
    have hI' := hI2.fr hF (fun x h1 h2 z => by
      have e : x = 141 + 1 + 2 := z
      omega) (by omega)
    have m := hF.me (x := 141 + 1) (by omega) (by omega)
    have hepc := hV.2.2.2.2.2.2.1
    have hG : yGx w' (fun x => if x ≤ 141 then 0 else 142) (141 + 1) (aG a_0) (141 + 1 + 1) (141 + 1 + 1) (141 + 1 + 2) ep (141 + 1 + 3) (fun _ => 0) := by
      have own : ∀ x, 141 < x → x ≤ w'.2.2.1 → yO w' (fun x => if x ≤ 141 then 0 else 142) (141 + 1) x := fun x h1 h2 => ⟨if_neg (by omega), h1, h2⟩
      refine ⟨⟨(hF.sh (by omega)).trans n0, ?_, ?_, ?_, ?_, ?_, ?_⟩, ⟨(nA _).fr hF (by omega) (by omega), hV⟩, ⟨(hF.sh (by omega)).trans nT, fun k _ => ?_⟩, fun a ha => absurd ha (Nat.not_lt_zero a), fun a _ ha => absurd ha (Nat.not_lt_zero a), ⟨by omega, by omega, by omega, by omega⟩, own _ (by omega) (by omega), own _ (by omega) (by omega), own _ (by omega) (by omega), own _ (by omega) (by omega), own _ (by omega) hepc, own _ (by omega) (by omega), fun a ha => absurd ha (Nat.not_lt_zero a)⟩
      · rw [m]; exact n1
      · rw [m]; exact n2
      · rw [m]; exact n3
      · rw [m]; exact n4
      · rw [m]; exact n5
      · rw [m]; exact n6
      · rw [hF.me (by omega) (by omega)]
        exact nT0 k
    have b1 := hF02.2.1
    have b2 := hF02.2.2.1
    have b3 := hF.2.1
    have b4 := hF.2.2.1
    rw [ly_287_18, ly_287_19, ly_287_20 (by omega) (by omega) (by omega) (by omega)]
    simp only [show ¬ (((2 : Nat) : Int) < 2) by omega, not_false_eq_true, true_implies, false_implies, and_true, true_and]
    rw [ly_287_41 (by first | exact gl_gr | exact gl_r6 | exact gl_r7 | assumption | rfl), ly_287_42 (by first | exact gl_gr | exact gl_r6 | exact gl_r7 | assumption | rfl), ly_287_43 (by first | exact gl_gr | exact gl_r6 | exact gl_r7 | assumption | rfl) (by first | exact gl_gr | exact gl_r6 | exact gl_r7 | assumption | rfl)]
    refine ys_same (d := 7) hG hI' a0_ok a0_to fun w4 hF4 hI4 => ?_
    have b5 := hF4.2.1
    have b6 := hF4.2.2.1
    have b7 := hF4.le
    have hs4 := hI4.s1
    rw [wz_1, ly_287_46 (by omega) (by omega)]
    simp only [show ¬ ((1 : Int) = 0) by omega, not_false_eq_true, true_implies, false_implies, and_true, true_and]
    rw [ly_287_49 (by first | exact gl_gr | exact gl_r6 | exact gl_r7 | assumption | rfl), ly_287_50 (by first | exact gl_gr | exact gl_r6 | exact gl_r7 | assumption | rfl) (by first | exact gl_cl (by assumption) rfl | exact gl_l6 (by omega) (by omega) | exact gl_l4 (by omega))]
    refine cy_do (by decide) (fun M h => cq_146 (d := 8) h a0_ok) hI4 rfl fun w5 hI5 hF5 hc5 => ?_
    have eA : qundo a_0 = a_0 := rfl
    have eV : qundoV a_0 = -1 := rfl
    rw [eA] at hI5
    have hs5 := hI5.s1
    rw [wz_1, eV, ly_287_53, ly_287_54 (by omega) (by omega) (by omega) (by omega)]
    simp only [not_true_eq_false, true_implies, false_implies, and_true]
    rw [ly_287_57 (by first | exact gl_gr | exact gl_r6 | exact gl_r7 | assumption | rfl), ly_287_58, ly_287_59 (by first | exact gl_gr | exact gl_r6 | exact gl_r7 | assumption | rfl) (by first | exact gl_cl (by assumption) rfl | exact gl_l6 (by omega) (by omega) | exact gl_l4 (by omega))]
    refine cy_do (by decide) (fun M h => cq_101 (d := 9) h a0_ok (x := 0) (by decide) (by decide)) hI5 (by decide) fun w6 hI6 hF6 hc6 => ?_
    have e1 : ((qrk (aG a_0) (0 : Int).toNat : Nat) : Int) = 0 := by decide +kernel
    have hs6 := hI6.s1
    rw [wz_1, e1, ly_287_62 (by omega) (by omega)]
    simp only [show (0 : Int) = 0 by omega, not_true_eq_false, true_implies, false_implies, and_true, true_and]
    rw [ly_287_65 (by first | exact gl_gr | exact gl_r6 | exact gl_r7 | assumption | rfl), ly_287_66 (by first | exact gl_gr | exact gl_r6 | exact gl_r7 | assumption | rfl) (by first | exact gl_cl (by assumption) rfl | exact gl_l6 (by omega) (by omega) | exact gl_l4 (by omega))]
    refine cy_do (by decide) (fun M h => cq_109 (d := 8) h a0_ok) hI6 rfl fun w7 hI7 hF7 hc7 => ?_
    have e2 : ((qcnt (fun s => decide (s &&& qU (aG a_0) = s) && decide (qsz (aG a_0) s = qrk (aG a_0) (qU (aG a_0))) && qfr (aG a_0) s) (2 ^ qK (aG a_0)) : Nat) : Int) = 1 := by decide +kernel
    have hs7 := hI7.s1
    rw [wz_1, e2, ly_287_69, ly_287_70 (by omega) (by omega) (by omega) (by omega)]
    simp only [not_true_eq_false, true_implies, false_implies, and_true]
    rw [ly_287_73 (by first | exact gl_gr | exact gl_r6 | exact gl_r7 | assumption | rfl), ly_287_74 (by first | exact gl_gr | exact gl_r6 | exact gl_r7 | assumption | rfl) (by first | exact gl_cl (by assumption) rfl | exact gl_l6 (by omega) (by omega) | exact gl_l4 (by omega))]
    refine cy_do (by decide) (fun M h => cq_111 (d := 8) h a0_ok) hI7 rfl fun w8 hI8 hF8 hc8 => ?_
    have e3 : ((qmb (aG a_0) 100 : Nat) : Int) = 0 := by decide +kernel
    rw [wz_1, e3, ly_287_77 (by omega) (by omega)]
    simp only [show (0 : Int) = 0 by omega, not_true_eq_false, true_implies, false_implies, and_true, true_and]
    exact hQ w8 _ _ hI8 (by rw [hc8, hc7, hc6, hc5]; omega) (by rw [hc8, hc7, hc6, hc5]; omega) (by rw [hc8, hc7, hc6, hc5]; omega)
end LW1
