/-! texts: append -/
theorem gD_l {l l' : List Nat} {j : Nat} (h : j < l.length) : (l ++ l').getD j 0 = l.getD j 0 := by
  rw [List.getD_eq_getElem?_getD, List.getD_eq_getElem?_getD, List.getElem?_append_left h]
theorem gD_r {l l' : List Nat} {j : Nat} : (l ++ l').getD (l.length + j) 0 = l'.getD j 0 := by
  rw [List.getD_eq_getElem?_getD, List.getD_eq_getElem?_getD, List.getElem?_append_right (by omega), Nat.add_sub_cancel_left]
/-- the StringBuilder holds the text l -/
def yTx (w : gy_W) (sb vb cap : Nat) (l : List Nat) : Prop := yW w sb vb cap l.length (fun j => l.getD j 0)
/-- a number below 100 -/
def dig (i : Nat) : List Nat := if i < 10 then [48 + i] else [48 + i / 10, 48 + i % 10]
/-- a constant text -/
def txl (s : Nat) : List Nat := (gg_tx s).map Int.toNat
section TA
variable {N : Nat} {xs : Nat → Int32} {d : Nat} {w : gy_W} {Q : gy_O → Prop} {sb vb cap : Nat} {l : List Nat}
theorem yTx.ext {w' : gy_W} {m c : Nat} {c' : List Nat} {X : Nat → Nat} (h : yW w' sb vb cap m X) (hm : m = (l ++ c').length) (h1 : ∀ j, j < l.length → X j = l.getD j 0) (h2 : ∀ j, j < c'.length → X (l.length + j) = c'.getD j 0) : yTx w' sb vb cap (l ++ c') := by
  subst hm
  obtain ⟨a, b, c1, x1, x2, f⟩ := h
  refine ⟨a, b, c1, fun j hj => ?_, x2, f⟩
  obtain ⟨y1, y2⟩ := x1 j hj
  have e : X j = (l ++ c').getD j 0 := by
    by_cases hjl : j < l.length
    · rw [h1 j hjl, gD_l hjl]
    · obtain ⟨i, rfl⟩ : ∃ i, j = l.length + i := ⟨j - l.length, by omega⟩
      rw [List.length_append] at hj
      rw [h2 i (by omega), gD_r]
  exact ⟨by rw [y1, e], by show (l ++ c').getD j 0 ≤ 127; rw [← e]; exact y2⟩
theorem yw_chr (h : yTx w sb vb cap l) {c : Nat} (hc : c ≤ 127) (hl : l.length ≤ 500) (hQ : ∀ w' vb' cap', yTx w' sb vb' cap' (l ++ [c]) → yF (fun x => x = sb ∨ x = vb) 1 1300 w w' → (vb' = vb ∨ w.2.2.1 < vb') → Q ((1, gr sb), w')) : wy N xs (d + 5) 395 0 [gr sb, (0, (c : Int))] [] w Q := by
  have g1 := h.1.1
  have g3 := h.1.2.2.2
  have e1 : io_add (l.length : Int) 1 = ((l.length + 1 : Nat) : Int) := by rw [io_add_o (by omega) (by omega)]; omega
  rw [ly_395_0 (by first | exact gl_gr | exact gl_r6 | exact gl_r7 | assumption | rfl), ly_395_1, ly_395_2 (by first | exact gl_gr | exact gl_r6 | exact gl_r7 | assumption | rfl) (by first | exact gl_cl (by assumption) rfl | exact gl_l6 (by omega) (by omega) | exact gl_l4 (by omega)), ly_401_0 (by first | exact gl_gr | exact gl_r6 | exact gl_r7 | assumption | rfl), ly_401_1 (by first | exact gl_gr | exact gl_r6 | exact gl_r7 | assumption | rfl), ly_401_2 (by assumption), g3, ly_401_5, ly_401_6, e1, ly_401_7 (by first | exact gl_gr | exact gl_r6 | exact gl_r7 | assumption | rfl) (by first | exact gl_cl (by assumption) rfl | exact gl_l6 (by omega) (by omega) | exact gl_l4 (by omega))]
  refine yw_ens h (m := l.length + 1) (by omega) fun w1 vb1 cap1 hcap hW1 hF1 hvb1 => ?_
  obtain ⟨⟨s1, s2, s3, s4⟩, b1, ⟨c1, c2, c3⟩, x1, x2, f1, f2, f3, f4, f5⟩ := id hW1
  have hle := hF1.le
  rw [wz_0, ly_401_10 (by first | exact gl_gr | exact gl_r6 | exact gl_r7 | assumption | rfl), ly_401_11 (by first | exact gl_gr | exact gl_r6 | exact gl_r7 | assumption | rfl) (by first | exact gl_cl (by assumption) rfl | exact gl_l6 (by omega) (by omega) | exact gl_l4 (by omega)), yw_latin hW1, wz_1, ly_401_14 (by omega) (by omega)]
  simp only [show ¬ ((1 : Int) = 0) by omega, not_false_eq_true, true_implies, false_implies, and_true, true_and]
  rw [ly_401_17, ly_401_18, ly_356_0, ly_356_1, ly_356_4 (by omega) (by omega) (by omega) (by omega)]
  simp only [show ¬ ((255 : Int) < (c : Int)) by omega, not_false_eq_true, true_implies, false_implies, and_true, true_and]
  rw [ly_356_7, ly_356_8, ly_356_12 (by omega), wz_1, ly_401_21 (by omega) (by omega)]
  simp only [show ¬ ((1 : Int) = 0) by omega, not_false_eq_true, true_implies, false_implies, and_true, true_and]
  rw [ly_401_24 (by first | exact gl_gr | exact gl_r6 | exact gl_r7 | assumption | rfl), ly_401_25 (by assumption), s2, ly_401_28 (by first | exact gl_gr | exact gl_r6 | exact gl_r7 | assumption | rfl), ly_401_29 (by first | exact gl_gr | exact gl_r6 | exact gl_r7 | assumption | rfl), ly_401_30 (by assumption), s4, ly_401_33 (by first | exact gl_gr | exact gl_r6 | exact gl_r7 | assumption | rfl), ly_401_34, ly_401_35, e1, ly_401_36 (by assumption)]
  obtain ⟨w2, ew2, hF2, cc2, z2, zo2, q2⟩ := st_ex w1 sb 3 (0, ((l.length + 1 : Nat) : Int))
  have b12 : w2.1 vb1 = (3, cap1, 0) := by rw [q2]; exact b1
  have mv := hF2.me f4 (Ne.symm f5)
  rw [ew2, ly_401_39, ly_401_40, i2b_n hc, ly_401_41 b12 (by omega) (by omega) (by omega), i2b_n hc, Int.toNat_natCast, ly_401_42, ly_401_75 (by first | exact gl_gr | exact gl_r6 | exact gl_r7 | assumption | rfl), ly_401_76 (by first | exact gl_rg | exact gl_s6 | assumption | rfl), wz_1, ly_395_5 (by first | exact gl_gr | exact gl_r6 | exact gl_r7 | assumption | rfl), ly_395_6 (by first | exact gl_gr | exact gl_r6 | exact gl_r7 | assumption | rfl), ly_395_7 (by first | exact gl_rg | exact gl_s6 | assumption | rfl)]
  obtain ⟨w3, ew3, hF3, cc3, z3, zo3, q3⟩ := st_ex w2 vb1 l.length (0, (c : Int))
  rw [ew3]
  have ms := hF3.me (x := sb) (by rw [cc2]; exact f2) f5
  have hW3 : yW w3 sb vb1 cap1 (l.length + 1) (fun j => if j = l.length then c else l.getD j 0) := by
    refine ⟨⟨by rw [q3, q2]; exact s1, ?_, ?_, ?_⟩, by rw [q3]; exact b12, ⟨hcap, c2, c3⟩, fun j hj => ?_, fun j hj => ?_, f1, by rw [cc3, cc2]; exact f2, f3, by rw [cc3, cc2]; exact f4, f5⟩
    · rw [ms, zo2 0 (by decide)]; exact s2
    · rw [ms, zo2 1 (by decide)]; exact s3
    · rw [ms]; exact z2
    · by_cases e : j = l.length
      · rw [e, z3]
        dsimp only
        rw [if_pos rfl]
        exact ⟨rfl, hc⟩
      · rw [zo3 j e, mv]
        dsimp only
        rw [if_neg e]
        exact x1 j (by omega)
    · by_cases e : j = l.length
      · rw [e, z3]
        exact i2b_n hc
      · rw [zo3 j e, mv]
        exact x2 j hj
  have hF13 : yF (fun x => x = sb ∨ x = vb) 1 1300 w w3 := ((((hF1.wk (P' := fun x => x = sb ∨ x = vb) (fun _ _ z => Or.inl z) (Nat.le_refl _) (Nat.le_refl _)).tr hF2 fun _ _ z => Or.inl z).tr hF3 fun x hx z => by
    rcases hvb1 with e | e
    · exact Or.inr ((show x = vb1 from z).trans e)
    · have e2 : x = vb1 := z
      omega)).wk (fun _ _ z => z) (by omega) (by omega)
  refine hQ w3 vb1 cap1 (yTx.ext (c := 0) hW3 (by rw [List.length_append]; rfl) (fun j hj => if_neg (by omega)) fun j hj => ?_) hF13 hvb1
  have hj0 : j = 0 := by
    have : [c].length = 1 := rfl
    omega
  subst hj0
  exact if_pos rfl
theorem txl_len (s : Nat) : (txl s).length = (gg_tx s).length := List.length_map ..
theorem txl_at {s j : Nat} (hs : s < 7) (hj : j < (gg_tx s).length) : (gg_tx s).getD j 0 = (((txl s).getD j 0 : Nat) : Int) ∧ (txl s).getD j 0 ≤ 127 := by
  have h : ∀ s : Fin 7, ∀ j : Fin 8, j.1 < (gg_tx s.1).length → (gg_tx s.1).getD j.1 0 = (((txl s.1).getD j.1 0 : Nat) : Int) ∧ (txl s.1).getD j.1 0 ≤ 127 := by decide +kernel
  have h8 : ∀ s : Fin 7, (gg_tx s.1).length ≤ 7 := by decide +kernel
  have := h8 ⟨s, hs⟩
  exact h ⟨s, hs⟩ ⟨j, by dsimp only at this; omega⟩ hj
theorem tx_len {s : Nat} (hs : s < 7) : 1 ≤ (gg_tx s).length ∧ (gg_tx s).length ≤ 7 := by
  have h : ∀ s : Fin 7, 1 ≤ (gg_tx s.1).length ∧ (gg_tx s.1).length ≤ 7 := by decide +kernel
  exact h ⟨s, hs⟩
theorem yw_coder {s : Nat} (hs : s < 7) : wy N xs d 337 0 [(4, (s : Int))] [] w Q ↔ Q ((1, (0, 0)), w) := by
  rw [ly_337_0, ly_337_3 (by omega) (by omega)]
  simp only [show ¬ ((1 : Int) = 0) by omega, not_false_eq_true, true_implies, false_implies, and_true, true_and]
  rw [ly_337_6 (by first | exact gl_gr | exact gl_r6 | exact gl_r7 | assumption | rfl), ly_337_7E hs, ly_337_10, ly_337_14 (by decide)]
theorem yw_str (h : yTx w sb vb cap l) {s : Nat} (hs : s < 7) (hl : l.length ≤ 500) (hQ : ∀ w' vb' cap', yTx w' sb vb' cap' (l ++ txl s) → yF (fun x => x = sb ∨ x = vb) 1 1300 w w' → (vb' = vb ∨ w.2.2.1 < vb') → Q ((1, gr sb), w')) : wy N xs (d + 5) 397 0 [gr sb, (4, (s : Int))] [] w Q := by
  have g1 := h.1.1
  have g3 := h.1.2.2.2
  obtain ⟨t1, t2⟩ := tx_len hs
  have e1 : io_add (l.length : Int) ((gg_tx s).length : Int) = ((l.length + (gg_tx s).length : Nat) : Int) := by rw [io_add_o (by omega) (by omega)]; omega
  have e2 := io_shr0 (x := (gg_tx s).length) (by omega)
  rw [ly_397_0 (by first | exact gl_gr | exact gl_r6 | exact gl_r7 | assumption | rfl), ly_397_1 (by first | exact gl_gr | exact gl_r6 | exact gl_r7 | assumption | rfl), ly_397_2 (by first | exact gl_gr | exact gl_r6 | exact gl_r7 | assumption | rfl) (by first | exact gl_gr | exact gl_r6 | exact gl_r7 | assumption | rfl) (by first | exact gl_cl (by assumption) rfl | exact gl_l6 (by omega) (by omega) | exact gl_l4 (by omega)), ly_403_0 (by first | exact gl_gr | exact gl_r6 | exact gl_r7 | assumption | rfl), ly_403_1, ly_403_9 (by first | exact gl_gr | exact gl_r6 | exact gl_r7 | assumption | rfl), ly_403_10 (by first | exact gl_gr | exact gl_r6 | exact gl_r7 | assumption | rfl) (by first | exact gl_cl (by assumption) rfl | exact gl_l6 (by omega) (by omega) | exact gl_l4 (by omega)), ly_335_0 (by first | exact gl_gr | exact gl_r6 | exact gl_r7 | assumption | rfl), ly_335_1E hs, ly_335_4E hs, ly_335_5 (by first | exact gl_gr | exact gl_r6 | exact gl_r7 | assumption | rfl), ly_335_6 (by first | exact gl_gr | exact gl_r6 | exact gl_r7 | assumption | rfl) (by first | exact gl_cl (by assumption) rfl | exact gl_l6 (by omega) (by omega) | exact gl_l4 (by omega)), yw_coder hs, wz_1, ly_335_9, e2, ly_335_10, wz_1, ly_403_13 (by first | exact gl_gr | exact gl_r6 | exact gl_r7 | assumption | rfl), ly_403_14 (by first | exact gl_gr | exact gl_r6 | exact gl_r7 | assumption | rfl), ly_403_15 (by first | exact gl_gr | exact gl_r6 | exact gl_r7 | assumption | rfl), ly_403_16 (by assumption), g3, ly_403_19, ly_403_20, e1, ly_403_21 (by first | exact gl_gr | exact gl_r6 | exact gl_r7 | assumption | rfl) (by first | exact gl_cl (by assumption) rfl | exact gl_l6 (by omega) (by omega) | exact gl_l4 (by omega))]
  refine yw_ens h (m := l.length + (gg_tx s).length) (by omega) fun w1 vb1 cap1 hcap hW1 hF1 hvb1 => ?_
  obtain ⟨⟨s1, s2, s3, s4⟩, b1, ⟨c1, c2, c3⟩, x1, x2, f1, f2, f3, f4, f5⟩ := id hW1
  have hle := hF1.le
  have e3 := io_shl0 (x := l.length) (by omega)
  rw [wz_0, ly_403_24 (by first | exact gl_gr | exact gl_r6 | exact gl_r7 | assumption | rfl), ly_403_25 (by first | exact gl_gr | exact gl_r6 | exact gl_r7 | assumption | rfl), ly_403_26 (by assumption), s4, ly_403_29 (by first | exact gl_gr | exact gl_r6 | exact gl_r7 | assumption | rfl), ly_403_30 (by first | exact gl_gr | exact gl_r6 | exact gl_r7 | assumption | rfl) (by first | exact gl_gr | exact gl_r6 | exact gl_r7 | assumption | rfl) (by first | exact gl_cl (by assumption) rfl | exact gl_l6 (by omega) (by omega) | exact gl_l4 (by omega)), ly_410_0 (by first | exact gl_gr | exact gl_r6 | exact gl_r7 | assumption | rfl), ly_410_1 (by first | exact gl_gr | exact gl_r6 | exact gl_r7 | assumption | rfl), ly_410_2 (by first | exact gl_gr | exact gl_r6 | exact gl_r7 | assumption | rfl) (by first | exact gl_gr | exact gl_r6 | exact gl_r7 | assumption | rfl) (by first | exact gl_cl (by assumption) rfl | exact gl_l6 (by omega) (by omega) | exact gl_l4 (by omega)), ly_406_0, ly_406_3 (by omega) (by omega)]
  simp only [show ¬ ((1 : Int) = 0) by omega, not_false_eq_true, true_implies, false_implies, and_true, true_and]
  rw [ly_406_6 (by first | exact gl_gr | exact gl_r6 | exact gl_r7 | assumption | rfl), ly_406_7 (by assumption), s3, ly_406_10 (by first | exact gl_gr | exact gl_r6 | exact gl_r7 | assumption | rfl), ly_406_11 (by first | exact gl_gr | exact gl_r6 | exact gl_r7 | assumption | rfl) (by first | exact gl_cl (by assumption) rfl | exact gl_l6 (by omega) (by omega) | exact gl_l4 (by omega)), yw_coder hs, wz_1, ly_406_14 (by omega) (by omega) (by omega) (by omega)]
  simp only [not_true_eq_false, true_implies, false_implies, and_true]
  rw [ly_406_21, wz_0, ly_410_5 (by first | exact gl_gr | exact gl_r6 | exact gl_r7 | assumption | rfl), ly_410_6 (by first | exact gl_gr | exact gl_r6 | exact gl_r7 | assumption | rfl), ly_410_7 (by assumption), s2, ly_410_10, ly_410_11 (by first | exact gl_gr | exact gl_r6 | exact gl_r7 | assumption | rfl), ly_410_12 (by assumption), s3, ly_410_15 (by first | exact gl_gr | exact gl_r6 | exact gl_r7 | assumption | rfl) (by first | exact gl_gr | exact gl_r6 | exact gl_r7 | assumption | rfl) (by first | exact gl_cl (by assumption) rfl | exact gl_l6 (by omega) (by omega) | exact gl_l4 (by omega)), ly_355_0 (by first | exact gl_gr | exact gl_r6 | exact gl_r7 | assumption | rfl), ly_355_1 (by first | exact gl_gr | exact gl_r6 | exact gl_r7 | assumption | rfl) (by first | exact gl_cl (by assumption) rfl | exact gl_l6 (by omega) (by omega) | exact gl_l4 (by omega)), yw_coder hs, wz_1, ly_355_4, ly_355_5 (by omega) (by omega) (by omega) (by omega)]
  simp only [not_true_eq_false, true_implies, false_implies, and_true]
  have e4 : io_shl (l.length : Int) 0 = (l.length : Int) := e3
  rw [ly_355_8 (by first | exact gl_gr | exact gl_r6 | exact gl_r7 | assumption | rfl), ly_355_9E hs, ly_355_12, ly_355_13 (by first | exact gl_gr | exact gl_r6 | exact gl_r7 | assumption | rfl), ly_355_14, ly_355_15, ly_355_16, e4, ly_355_17 (by first | exact gl_gr | exact gl_r6 | exact gl_r7 | assumption | rfl), ly_355_18E hs, ly_355_21E hs, ly_355_22 b1 hs (Nat.le_refl _) (by omega) (by omega) (by omega), ly_355_25, ly_355_43, wz_0, ly_410_18, wz_0]
  have hF2 : yF (fun x => x = sb ∨ x = vb) 1 1300 w (w1.1, yCpC w1.2.1 s 0 vb1 l.length (gg_tx s).length, w1.2.2) := by
    obtain ⟨p1, p2, p3, p4⟩ := hF1
    refine ⟨p1, p2, p3, fun x hx => ⟨(p4 x hx).1, fun hn => ?_⟩⟩
    have e : yCpC w1.2.1 s 0 vb1 l.length (gg_tx s).length x = w1.2.1 x := by
      funext j
      exact if_neg fun z => by
        rcases hvb1 with e | e
        · exact hn (Or.inr (z.1.trans e))
        · omega
    exact e.trans ((p4 x hx).2 fun z => hn (Or.inl z))
  have y1 : ∀ j, j < (gg_tx s).length → ((w1.1, yCpC w1.2.1 s 0 vb1 l.length (gg_tx s).length, w1.2.2) : gy_W).2.1 vb1 (l.length + j) = (0, (((txl s).getD j 0 : Nat) : Int)) := by
    intro j hj
    refine (if_pos ⟨rfl, by omega, by omega⟩).trans ?_
    rw [Nat.add_sub_cancel_left, Nat.zero_add, (txl_at hs hj).1]
  have y2 : ∀ j, ¬ (l.length ≤ j ∧ j < l.length + (gg_tx s).length) → ((w1.1, yCpC w1.2.1 s 0 vb1 l.length (gg_tx s).length, w1.2.2) : gy_W).2.1 vb1 j = w1.2.1 vb1 j := fun j hj => if_neg fun z => hj z.2
  have y3 : ((w1.1, yCpC w1.2.1 s 0 vb1 l.length (gg_tx s).length, w1.2.2) : gy_W).2.1 sb = w1.2.1 sb := by
    funext j
    exact if_neg fun z => f5 z.1
  have y4 : ((w1.1, yCpC w1.2.1 s 0 vb1 l.length (gg_tx s).length, w1.2.2) : gy_W).1 = w1.1 := rfl
  have y5 : ((w1.1, yCpC w1.2.1 s 0 vb1 l.length (gg_tx s).length, w1.2.2) : gy_W).2.2 = w1.2.2 := rfl
  generalize ((w1.1, yCpC w1.2.1 s 0 vb1 l.length (gg_tx s).length, w1.2.2) : gy_W) = w2 at hF2 y1 y2 y3 y4 y5
  have s12 : w2.1 sb = (0, 0, 17) := by rw [y4]; exact s1
  have g32 : w2.2.1 sb 3 = (0, (l.length : Int)) := by rw [y3]; exact s4
  rw [ly_403_33 (by first | exact gl_gr | exact gl_r6 | exact gl_r7 | assumption | rfl), ly_403_34 (by first | exact gl_gr | exact gl_r6 | exact gl_r7 | assumption | rfl), ly_403_35 (by assumption), g32, ly_403_38, ly_403_39, e1, ly_403_40 (by assumption)]
  obtain ⟨w3, ew3, hF3, cc3, z3, zo3, q3⟩ := st_ex w2 sb 3 (0, ((l.length + (gg_tx s).length : Nat) : Int))
  have mv := hF3.me (x := vb1) (by rw [y5]; exact f4) (Ne.symm f5)
  rw [ew3, ly_403_43 (by first | exact gl_gr | exact gl_r6 | exact gl_r7 | assumption | rfl), ly_403_44 (by first | exact gl_rg | exact gl_s6 | assumption | rfl), wz_1, ly_397_5 (by first | exact gl_gr | exact gl_r6 | exact gl_r7 | assumption | rfl), ly_397_6 (by first | exact gl_gr | exact gl_r6 | exact gl_r7 | assumption | rfl), ly_397_7 (by first | exact gl_rg | exact gl_s6 | assumption | rfl)]
  have hW3 : yW w3 sb vb1 cap1 (l.length + (gg_tx s).length) (fun j => if j < l.length then l.getD j 0 else (txl s).getD (j - l.length) 0) := by
    refine ⟨⟨by rw [q3]; exact s12, ?_, ?_, z3⟩, by rw [q3, y4]; exact b1, ⟨hcap, c2, c3⟩, fun j hj => ?_, fun j hj => ?_, f1, by rw [cc3, y5]; exact f2, f3, by rw [cc3, y5]; exact f4, f5⟩
    · rw [zo3 0 (by decide), y3]; exact s2
    · rw [zo3 1 (by decide), y3]; exact s3
    · rw [mv]
      dsimp only
      by_cases e : j < l.length
      · rw [if_pos e, y2 j (by omega)]
        exact x1 j e
      · obtain ⟨i, rfl⟩ : ∃ i, j = l.length + i := ⟨j - l.length, by omega⟩
        rw [if_neg e, Nat.add_sub_cancel_left, y1 i (by omega)]
        exact ⟨rfl, (txl_at hs (by omega)).2⟩
    · rw [mv]
      by_cases e : l.length ≤ j ∧ j < l.length + (gg_tx s).length
      · obtain ⟨i, rfl⟩ : ∃ i, j = l.length + i := ⟨j - l.length, by omega⟩
        rw [y1 i (by omega)]
        exact i2b_n (txl_at hs (by omega)).2
      · rw [y2 j e]
        exact x2 j hj
  refine hQ w3 vb1 cap1 (yTx.ext (c := 0) hW3 (by rw [List.length_append, txl_len]) (fun j hj => if_pos hj) fun j hj => ?_) ((hF2.tr hF3 fun _ _ z => Or.inl z).wk (fun _ _ z => z) (by omega) (by omega)) hvb1
  rw [if_neg (by omega), Nat.add_sub_cancel_left]
end TA
