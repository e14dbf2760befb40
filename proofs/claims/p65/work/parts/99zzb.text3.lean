/-! texts: a number appended; toString; length, charAt -/
section TB
variable {N : Nat} {xs : Nat → Int32} {d : Nat} {w : gy_W} {Q : gy_O → Prop} {sb vb cap : Nat} {l : List Nat}
theorem io_neg_i {i : Nat} (h : i ≤ 1000) : io_neg (i : Int) = -(i : Int) := io_neg_o (by omega) (by omega)
theorem io_neg_ii {i : Nat} (h : i ≤ 1000) : io_neg (-(i : Int)) = (i : Int) := by
  rw [io_neg_o (by omega) (by omega)]
  omega
theorem io_addm1 {n : Nat} (h : 1 ≤ n) (h2 : n ≤ 10000) : io_add (n : Int) (-1) = ((n - 1 : Nat) : Int) := by
  rw [io_add_o (by omega) (by omega)]
  omega
theorem dig_len (i : Nat) : (dig i).length = if i < 10 then 1 else 2 := by
  unfold dig
  split <;> rfl
theorem yw_size {i : Nat} (hi : i < 100) : wy N xs d 359 0 [(0, (i : Int)), (3, 0), (3, 0), (3, 0)] [] w Q ↔ Q ((1, (0, ((dig i).length : Int))), w) := by
  have e2 : io_mul 10 (-10) = -100 := by decide
  have e3 : io_add 1 1 = 2 := by decide
  have e4 : io_add 1 0 = 1 := by decide
  have e5 : io_add 2 0 = 2 := by decide
  rw [dig_len, ly_359_0, ly_359_1, ly_359_2, ly_359_3 (by omega) (by omega)]
  simp only [show ¬ ((i : Int) < 0) by omega, not_false_eq_true, true_implies, false_implies, and_true, true_and]
  rw [ly_359_6, ly_359_7, ly_359_8, ly_359_9, io_neg_i (by omega), ly_359_10, ly_359_11, ly_359_13, ly_359_14, ly_359_15, ly_359_16, ly_359_17, ly_359_19 (by omega) (by omega) (by omega) (by omega)]
  simp only [show (1 : Int) < 10 by omega, not_true_eq_false, true_implies, false_implies, and_true, true_and]
  rw [ly_359_22, ly_359_23, ly_359_24 (by omega) (by omega) (by omega) (by omega)]
  by_cases h : i < 10
  · rw [if_pos h]
    simp only [show (-10 : Int) < -(i : Int) by omega, not_true_eq_false, true_implies, false_implies, and_true, true_and]
    rw [ly_359_27, ly_359_28, ly_359_29, e4, ly_359_30]
    rfl
  · rw [if_neg h]
    simp only [show ¬ ((-10 : Int) < -(i : Int)) by omega, not_false_eq_true, true_implies, false_implies, and_true, true_and]
    rw [ly_359_31, ly_359_33, ly_359_34, e2, ly_359_35, ly_359_36, e3, ly_359_39, ly_359_16, ly_359_17, ly_359_19 (by omega) (by omega) (by omega) (by omega)]
    simp only [show (2 : Int) < 10 by omega, not_true_eq_false, true_implies, false_implies, and_true, true_and]
    rw [ly_359_22, ly_359_23, ly_359_24 (by omega) (by omega) (by omega) (by omega)]
    simp only [show (-100 : Int) < -(i : Int) by omega, not_true_eq_false, true_implies, false_implies, and_true, true_and]
    rw [ly_359_27, ly_359_28, ly_359_29, e5, ly_359_30]
    rfl
theorem yw_num (h : yTx w sb vb cap l) {i : Nat} (hi : i < 100) (hl : l.length ≤ 500) (hQ : ∀ w' vb' cap', yTx w' sb vb' cap' (l ++ dig i) → yF (fun x => x = sb ∨ x = vb) 1 1300 w w' → (vb' = vb ∨ w.2.2.1 < vb') → Q ((1, gr sb), w')) : wy N xs (d + 5) 396 0 [gr sb, (0, (i : Int))] [] w Q := by
  have g1 := h.1.1
  have g3 := h.1.2.2.2
  obtain ⟨D, hD⟩ : ∃ D, (dig i).length = D := ⟨_, rfl⟩
  have hdl2 : 1 ≤ D ∧ D ≤ 2 := by
    rw [← hD, dig_len]
    split <;> omega
  have e1 : io_add (l.length : Int) (D : Int) = ((l.length + D : Nat) : Int) := by rw [io_add_o (by omega) (by omega)]; omega
  rw [ly_396_0 (by first | exact gl_gr | exact gl_r6 | exact gl_r7 | assumption | rfl), ly_396_1, ly_396_2 (by first | exact gl_gr | exact gl_r6 | exact gl_r7 | assumption | rfl) (by first | exact gl_cl (by assumption) rfl | exact gl_l6 (by omega) (by omega) | exact gl_l4 (by omega)), ly_402_0 (by first | exact gl_gr | exact gl_r6 | exact gl_r7 | assumption | rfl), ly_402_1 (by assumption), g3, ly_402_4, ly_402_5, ly_402_6, ly_402_7, yw_size hi, hD, wz_1, ly_402_10, e1, ly_402_11, ly_402_12 (by first | exact gl_gr | exact gl_r6 | exact gl_r7 | assumption | rfl), ly_402_13, ly_402_14 (by first | exact gl_gr | exact gl_r6 | exact gl_r7 | assumption | rfl) (by first | exact gl_cl (by assumption) rfl | exact gl_l6 (by omega) (by omega) | exact gl_l4 (by omega))]
  refine yw_ens h (m := l.length + D) (by omega) fun w1 vb1 cap1 hcap hW1 hF1 hvb1 => ?_
  obtain ⟨⟨s1, s2, s3, s4⟩, b1, ⟨c1, c2, c3⟩, x1, x2, f1, f2, f3, f4, f5⟩ := id hW1
  have hle := hF1.le
  rw [wz_0, ly_402_17 (by first | exact gl_gr | exact gl_r6 | exact gl_r7 | assumption | rfl), ly_402_18 (by first | exact gl_gr | exact gl_r6 | exact gl_r7 | assumption | rfl) (by first | exact gl_cl (by assumption) rfl | exact gl_l6 (by omega) (by omega) | exact gl_l4 (by omega)), yw_latin hW1, wz_1, ly_402_21 (by omega) (by omega)]
  simp only [show ¬ ((1 : Int) = 0) by omega, not_false_eq_true, true_implies, false_implies, and_true, true_and]
  rw [ly_402_24, ly_402_25, ly_402_26 (by first | exact gl_gr | exact gl_r6 | exact gl_r7 | assumption | rfl), ly_402_27 (by assumption), s2, ly_402_30 (by first | exact gl_gr | exact gl_r6 | exact gl_r7 | assumption | rfl), ly_357_0, ly_357_1, ly_357_3, ly_357_4 (by omega) (by omega)]
  simp only [show ¬ ((i : Int) < 0) by omega, not_false_eq_true, true_implies, false_implies, and_true, true_and]
  rw [ly_357_11, ly_357_12, ly_357_14, ly_357_16 (by omega) (by omega)]
  simp only [show (0 : Int) = 0 by omega, not_true_eq_false, true_implies, false_implies, and_true, true_and]
  rw [ly_357_19, ly_357_20, io_neg_i (by omega), ly_357_21, ly_357_22, ly_357_23, ly_357_25 (by omega) (by omega) (by omega) (by omega)]
  simp only [show (-100 : Int) < -(i : Int) by omega, not_true_eq_false, true_implies, false_implies, and_true, true_and]
  rw [ly_357_72 (by first | exact gl_gr | exact gl_r6 | exact gl_r7 | assumption | rfl), ly_357_73 (by decide), io_addm1 (by omega) (by omega), ly_357_76, ly_357_78, ly_357_81, ly_357_82, io_neg_ii (by omega), ly_357_83E hi, ly_357_84 b1 (by omega) (by omega) (by omega), i2b_n (by omega), Int.toNat_natCast]
  obtain ⟨w2, ew2, hF2, cc2, z2, zo2, q2⟩ := st_ex w1 vb1 (l.length + D - 1) (0, ((48 + i % 10 : Nat) : Int))
  rw [ew2, ly_357_85, ly_357_86, ly_357_88 (by omega) (by omega) (by omega) (by omega)]
  have ms2 := hF2.me f2 f5
  have hF12 : yF (fun x => x = sb ∨ x = vb) 1 1300 w w2 := ((hF1.wk (P' := fun x => x = sb ∨ x = vb) (fun _ _ z => Or.inl z) (Nat.le_refl _) (Nat.le_refl _)).tr hF2 fun x hx z => by
    rcases hvb1 with e | e
    · exact Or.inr ((show x = vb1 from z).trans e)
    · have e2 : x = vb1 := z
      omega).wk (fun _ _ z => z) (by omega) (by omega)
  -- the end
  have fin : ∀ (w3 : gy_W) (r : Int), yF (fun x => x = sb ∨ x = vb) 1 1300 w w3 → w3.2.2 = w1.2.2 → w3.1 = w1.1 → w3.2.1 sb = w1.2.1 sb → (∀ j, j < l.length → w3.2.1 vb1 j = w1.2.1 vb1 j) → (∀ j, j < D → w3.2.1 vb1 (l.length + j) = (0, (((dig i).getD j 0 : Nat) : Int)) ∧ (dig i).getD j 0 ≤ 127) → (∀ j, l.length + D ≤ j → w3.2.1 vb1 j = w1.2.1 vb1 j) →
      wy N xs (d + 4) 402 33 [gr sb, (0, (i : Int)), (0, (l.length : Int)), (0, ((l.length + D : Nat) : Int))] [(0, r)] w3 (wz N xs (d + 5) 396 2 3 [gr sb, (0, (i : Int))] [] Q) := by
    intro w3 r hF3 hc3 hs3 hm3 y1 y2 y3
    have s13 : w3.1 sb = (0, 0, 17) := by rw [hs3]; exact s1
    rw [ly_402_33, ly_402_34, ly_402_48 (by first | exact gl_gr | exact gl_r6 | exact gl_r7 | assumption | rfl), ly_402_49, ly_402_50 (by assumption)]
    obtain ⟨w4, ew4, hF4, cc4, z4, zo4, q4⟩ := st_ex w3 sb 3 (0, ((l.length + D : Nat) : Int))
    have mv := hF4.me (x := vb1) (by rw [hc3]; exact f4) (Ne.symm f5)
    rw [ew4, ly_402_53 (by first | exact gl_gr | exact gl_r6 | exact gl_r7 | assumption | rfl), ly_402_54 (by first | exact gl_rg | exact gl_s6 | assumption | rfl), wz_1, ly_396_5 (by first | exact gl_gr | exact gl_r6 | exact gl_r7 | assumption | rfl), ly_396_6 (by first | exact gl_gr | exact gl_r6 | exact gl_r7 | assumption | rfl), ly_396_7 (by first | exact gl_rg | exact gl_s6 | assumption | rfl)]
    have hW4 : yW w4 sb vb1 cap1 (l.length + D) (fun j => if j < l.length then l.getD j 0 else (dig i).getD (j - l.length) 0) := by
      refine ⟨⟨by rw [q4]; exact s13, ?_, ?_, z4⟩, by rw [q4, hs3]; exact b1, ⟨hcap, c2, c3⟩, fun j hj => ?_, fun j hj => ?_, f1, by rw [cc4, hc3]; exact f2, f3, by rw [cc4, hc3]; exact f4, f5⟩
      · rw [zo4 0 (by decide), hm3]; exact s2
      · rw [zo4 1 (by decide), hm3]; exact s3
      · rw [mv]
        dsimp only
        by_cases e : j < l.length
        · rw [if_pos e, y1 j e]
          exact x1 j e
        · obtain ⟨k, rfl⟩ : ∃ k, j = l.length + k := ⟨j - l.length, by omega⟩
          rw [if_neg e, Nat.add_sub_cancel_left, (y2 k (by omega)).1]
          exact ⟨rfl, (y2 k (by omega)).2⟩
      · rw [mv]
        by_cases e : j < l.length
        · rw [y1 j e]
          exact x2 j hj
        · by_cases e2 : j < l.length + D
          · obtain ⟨k, rfl⟩ : ∃ k, j = l.length + k := ⟨j - l.length, by omega⟩
            rw [(y2 k (by omega)).1]
            exact i2b_n (y2 k (by omega)).2
          · rw [y3 j (by omega)]
            exact x2 j hj
    refine hQ w4 vb1 cap1 (yTx.ext (c := 0) hW4 (by rw [List.length_append, hD]) (fun j hj => if_pos hj) fun j hj => ?_) ((hF3.tr hF4 fun _ _ z => Or.inl z).wk (fun _ _ z => z) (by omega) (by omega)) hvb1
    rw [if_neg (by omega), Nat.add_sub_cancel_left]
  by_cases h10 : i < 10
  · have hd1 : dig i = [48 + i] := if_pos h10
    have hd2 : D = 1 := by rw [← hD, hd1]; rfl
    simp only [show ¬ (-(i : Int) < -9) by omega, not_false_eq_true, true_implies, false_implies, and_true, true_and]
    rw [ly_357_104, ly_357_106 (by omega) (by omega)]
    simp only [show (0 : Int) = 0 by omega, not_true_eq_false, true_implies, false_implies, and_true, true_and]
    rw [ly_357_118, ly_357_120, wz_1]
    refine fin w2 _ hF12 cc2 q2 ms2 (fun j hj => zo2 j (by omega)) (fun j hj => ?_) (fun j hj => zo2 j (by omega))
    have hj0 : j = 0 := by omega
    subst hj0
    rw [show l.length + 0 = l.length + D - 1 by omega, z2, hd1]
    have : i % 10 = i := Nat.mod_eq_of_lt h10
    rw [this]
    exact ⟨rfl, by show 48 + i ≤ 127; omega⟩
  · have hd1 : dig i = [48 + i / 10, 48 + i % 10] := if_neg h10
    have hd2 : D = 2 := by rw [← hD, hd1]; rfl
    have e5 : l.length + D - 1 - 1 = l.length := by omega
    have b12 : w2.1 vb1 = (3, cap1, 0) := by rw [q2]; exact b1
    simp only [show -(i : Int) < -9 by omega, not_true_eq_false, true_implies, false_implies, and_true, true_and]
    rw [ly_357_91 (by first | exact gl_gr | exact gl_r6 | exact gl_r7 | assumption | rfl), ly_357_92 (by decide), io_addm1 (by omega) (by omega), e5, ly_357_95, ly_357_97, ly_357_100, ly_357_101, io_neg_ii (by omega), ly_357_102E hi, ly_357_103 b12 (by omega) (by omega) (by omega), i2b_n (by omega), Int.toNat_natCast]
    obtain ⟨w3, ew3, hF3, cc3, z3, zo3, q3⟩ := st_ex w2 vb1 l.length (0, ((48 + i / 10 : Nat) : Int))
    rw [ew3, ly_357_104, ly_357_106 (by omega) (by omega)]
    simp only [show (0 : Int) = 0 by omega, not_true_eq_false, true_implies, false_implies, and_true, true_and]
    rw [ly_357_118, ly_357_120, wz_1]
    have hF13 : yF (fun x => x = sb ∨ x = vb) 1 1300 w w3 := (hF12.tr hF3 fun x hx z => by
      rcases hvb1 with e | e
      · exact Or.inr ((show x = vb1 from z).trans e)
      · have e2 : x = vb1 := z
        omega).wk (fun _ _ z => z) (by omega) (by omega)
    refine fin w3 _ hF13 (cc3.trans cc2) (q3.trans q2) ((hF3.me (by rw [cc2]; exact f2) f5).trans ms2) (fun j hj => (zo3 j (by omega)).trans (zo2 j (by omega))) (fun j hj => ?_) (fun j hj => (zo3 j (by omega)).trans (zo2 j (by omega)))
    rcases (show j = 0 ∨ j = 1 by omega) with rfl | rfl
    · rw [Nat.add_zero, z3, hd1]
      exact ⟨rfl, by show 48 + i / 10 ≤ 127; omega⟩
    · rw [zo3 _ (by omega), show l.length + 1 = l.length + D - 1 by omega, z2, hd1]
      exact ⟨rfl, by show 48 + i % 10 ≤ 127; omega⟩
end TB
