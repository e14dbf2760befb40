/-! texts: toString; length, charAt -/
section TB2
variable {N : Nat} {xs : Nat → Int32} {d : Nat} {w : gy_W} {Q : gy_O → Prop} {sb vb cap : Nat} {l : List Nat}
/-- a String that is not constant -/
def ySt (w : gy_W) (s vb : Nat) (l : List Nat) : Prop := (w.1 s = (0, 0, 9) ∧ w.2.1 s 0 = gr vb ∧ w.2.1 s 1 = (0, 0)) ∧ w.1 vb = (3, l.length, 0) ∧ (∀ j, j < l.length → w.2.1 vb j = (0, ((l.getD j 0 : Nat) : Int)) ∧ l.getD j 0 ≤ 127) ∧ 141 < s ∧ s ≤ w.2.2.1 ∧ 141 < vb ∧ vb ≤ w.2.2.1
theorem ySt.fr {P : Nat → Prop} {c k : Nat} {w' : gy_W} {s : Nat} (h : ySt w s vb l) (hF : yF P c k w w') (h1 : ¬ P s) (h2 : ¬ P vb) : ySt w' s vb l := by
  obtain ⟨a, b, c1, f1, f2, f3, f4⟩ := h
  have := hF.le
  unfold ySt
  rw [hF.sh f2, hF.sh f4, hF.me f2 h1, hF.me f4 h2]
  exact ⟨a, b, c1, f1, by omega, f3, by omega⟩
theorem i2c_n {x : Nat} (h : x ≤ 127) : io_i2c (x : Int) = (x : Int) ∧ gg_rI 5 (x : Int) = true := by
  have : ∀ x : Fin 128, io_i2c (x.1 : Int) = (x.1 : Int) ∧ gg_rI 5 (x.1 : Int) = true := by decide +kernel
  exact this ⟨x, by omega⟩
theorem io_and255 {x : Nat} (h : x ≤ 127) : io_and (x : Int) 255 = (x : Int) := by
  rw [io_and_r (by omega) (by omega) (by decide) (by decide), Int.toNat_natCast]
  show ((x &&& (2 ^ 8 - 1) : Nat) : Int) = _
  rw [Nat.and_two_pow_sub_one_eq_mod, Nat.mod_eq_of_lt (by omega)]
theorem io_sub0 {n : Nat} (h : n ≤ 10000) : io_sub (n : Int) 0 = (n : Int) := by
  rw [io_sub_o (by omega) (by omega)]
  omega
theorem nf_9 : gg_nf 9 ≤ 12 := by decide +kernel
theorem yw_toS (h : yTx w sb vb cap l) (hl : l.length ≤ 500) (hQ : ∀ w' s v, ySt w' s v l → yF (fun _ => False) 2 520 w w' → Q ((1, gr s), w')) : wy N xs (d + 5) 399 0 [gr sb] [] w Q := by
  obtain ⟨⟨s1, s2, s3, s4⟩, b1, ⟨c1, c2, c3⟩, x1, x2, f1, f2, f3, f4, f5⟩ := id h
  rw [ly_399_0]
  obtain ⟨w1, ew1, hF1, cc1, z1, zz1⟩ := mk_ex w (0, 0, 9) (fun j => gy_df (gg_ft 9 j)) (gg_nf 9)
  rw [ew1]
  have h1 : yTx w1 sb vb cap l := yW.fr h hF1 id id
  obtain ⟨⟨t1, t2, t3, t4⟩, q1, _, y1, y2, _⟩ := id h1
  rw [ly_399_3 (by first | exact gl_gr | exact gl_r6 | exact gl_r7 | assumption | rfl), ly_399_4 (by first | exact gl_gr | exact gl_r6 | exact gl_r7 | assumption | rfl), ly_399_5 (by first | exact gl_gr | exact gl_r6 | exact gl_r7 | assumption | rfl), ly_354_0 (by first | exact gl_gr | exact gl_r6 | exact gl_r7 | assumption | rfl), ly_354_1 (by first | exact gl_gr | exact gl_r6 | exact gl_r7 | assumption | rfl), ly_354_2, ly_354_3 (by first | exact gl_gr | exact gl_r6 | exact gl_r7 | assumption | rfl) (by first | exact gl_gr | exact gl_r6 | exact gl_r7 | assumption | rfl), ly_353_0 (by first | exact gl_gr | exact gl_r6 | exact gl_r7 | assumption | rfl), ly_353_1, ly_353_4 (by first | exact gl_gr | exact gl_r6 | exact gl_r7 | assumption | rfl), ly_353_5 (by first | exact gl_gr | exact gl_r6 | exact gl_r7 | assumption | rfl) (by first | exact gl_cl (by assumption) rfl | exact gl_l6 (by omega) (by omega) | exact gl_l4 (by omega)), ly_405_0 (by first | exact gl_gr | exact gl_r6 | exact gl_r7 | assumption | rfl), ly_405_1 (by assumption), t2, ly_405_4 (by first | exact gl_rg | exact gl_s6 | assumption | rfl), wz_1, ly_353_8 (by first | exact gl_gr | exact gl_r6 | exact gl_r7 | assumption | rfl) (by first | exact gl_gr | exact gl_r6 | exact gl_r7 | assumption | rfl), ly_353_9 (by first | exact gl_gr | exact gl_r6 | exact gl_r7 | assumption | rfl), ly_353_10 (by first | exact gl_gr | exact gl_r6 | exact gl_r7 | assumption | rfl) (by first | exact gl_cl (by assumption) rfl | exact gl_l6 (by omega) (by omega) | exact gl_l4 (by omega)), ly_398_0 (by first | exact gl_gr | exact gl_r6 | exact gl_r7 | assumption | rfl), ly_398_1 (by first | exact gl_gr | exact gl_r6 | exact gl_r7 | assumption | rfl) (by first | exact gl_cl (by assumption) rfl | exact gl_l6 (by omega) (by omega) | exact gl_l4 (by omega)), ly_408_0 (by first | exact gl_gr | exact gl_r6 | exact gl_r7 | assumption | rfl), ly_408_1 (by assumption), t4, ly_408_4, wz_1, ly_398_4, wz_1, ly_353_13 (by first | exact gl_gr | exact gl_r6 | exact gl_r7 | assumption | rfl), ly_353_15 (by first | exact gl_gr | exact gl_r6 | exact gl_r7 | assumption | rfl), ly_353_16 (by first | exact gl_gr | exact gl_r6 | exact gl_r7 | assumption | rfl) (by first | exact gl_cl (by assumption) rfl | exact gl_l6 (by omega) (by omega) | exact gl_l4 (by omega)), yw_latin h1, wz_1, ly_353_19 (by omega) (by omega)]
  simp only [show ¬ ((1 : Int) = 0) by omega, not_false_eq_true, true_implies, false_implies, and_true, true_and]
  rw [ly_353_22 (by first | exact gl_gr | exact gl_r6 | exact gl_r7 | assumption | rfl), ly_353_23, ly_353_24 (by assumption) (by decide)]
  obtain ⟨w2, ew2, hF2, cc2, z2, zo2, r2⟩ := st_ex w1 (w.2.2.1 + 1) 1 (0, 0)
  have h2 : yTx w2 sb vb cap l := yW.fr h1 hF2 (by omega) (by omega)
  obtain ⟨⟨u1, u2, u3, u4⟩, v1, _, k1, k2, _⟩ := id h2
  have hz2 : w2.1 (w.2.2.1 + 1) = (0, 0, 9) := by rw [r2]; exact z1
  have hc2 : w2.2.2.1 = w.2.2.1 + 1 := by rw [cc2]; exact cc1
  rw [ew2, ly_353_27 (by first | exact gl_gr | exact gl_r6 | exact gl_r7 | assumption | rfl), ly_353_28 (by first | exact gl_gr | exact gl_r6 | exact gl_r7 | assumption | rfl), ly_353_29, ly_353_30, ly_353_32 (by first | exact gl_gr | exact gl_r6 | exact gl_r7 | assumption | rfl), ly_415_0, ly_415_1 (by omega) (by omega)]
  simp only [show (0 : Int) = 0 by omega, not_true_eq_false, true_implies, false_implies, and_true, true_and]
  rw [ly_415_4, ly_415_5 (by first | exact gl_gr | exact gl_r6 | exact gl_r7 | assumption | rfl), ly_415_6 (by omega) (by assumption) (by omega) (by omega) (fun _ => rfl), ly_415_7 (by omega) (by omega) (by omega) (by omega)]
  have nf := nf_9
  have fin : ∀ w3, yF (fun _ => False) 1 l.length w2 w3 → w3.2.2.1 = w.2.2.1 + 2 → w3.1 (w.2.2.1 + 2) = (3, l.length, 0) → (∀ j, j < l.length → w3.2.1 (w.2.2.1 + 2) j = w2.2.1 vb j) → wy N xs (d + 3) 353 35 [gr (w.2.2.1 + 1), gr sb, (2, -1), gr vb, (0, (l.length : Int))] [gr (w.2.2.1 + 2), gr (w.2.2.1 + 1)] w3 (wz N xs (d + 4) 354 3 3 [gr (w.2.2.1 + 1), gr sb] [] (wz N xs (d + 5) 399 5 3 [gr sb] [gr (w.2.2.1 + 1)] Q)) := by
    intro w3 hF3 hc3 hs3 hm3
    have hz3 := (hF3.sh (x := w.2.2.1 + 1) (by omega)).trans hz2
    have hm31 := hF3.me (x := w.2.2.1 + 1) (by omega) id
    rw [ly_353_35 (by assumption) (by first | exact gl_rg | exact gl_s6 | assumption | rfl)]
    obtain ⟨w4, ew4, hF4, cc4, z4, zo4, r4⟩ := st_ex w3 (w.2.2.1 + 1) 0 (gr (w.2.2.1 + 2))
    rw [ew4, ly_353_38, ly_353_97, wz_0, ly_354_6, wz_0, ly_399_8 (by first | exact gl_rg | exact gl_s6 | assumption | rfl)]
    have hm42 := hF4.me (x := w.2.2.1 + 2) (by omega) (by omega)
    refine hQ w4 (w.2.2.1 + 1) (w.2.2.1 + 2) ⟨⟨by rw [r4]; exact hz3, z4, by rw [zo4 1 (by decide), hm31]; exact z2⟩, by rw [r4]; exact hs3, fun j hj => ?_, by omega, by rw [cc4]; omega, by omega, by rw [cc4]; omega⟩ ((((hF1.tr hF2 fun x hx z => by
      have e : x = w.2.2.1 + 1 := z
      omega).tt hF3).tr hF4 fun x hx z => by
      have e : x = w.2.2.1 + 1 := z
      omega).wk (fun _ _ z => z) (by omega) (by omega))
    rw [hm42, hm3 j hj]
    exact k1 j hj
  by_cases hcl : l.length = cap
  · have e : (l.length : Int) = (cap : Int) := by omega
    simp only [e, not_true_eq_false, true_implies, false_implies, and_true]
    rw [ly_415_17 (by first | exact gl_gr | exact gl_r6 | exact gl_r7 | assumption | rfl), ly_415_18 v1 (fun j hj => k2 j hj)]
    obtain ⟨w3, ew3, hF3, cc3, z3, zz3⟩ := mk_ex w2 (3, cap, 0) (w2.2.1 vb) cap
    rw [ew3]
    have hcst : gy_cst 110 (gr (w2.2.2.1 + 1)) w3 = true := by
      show (decide (w3.1 (w2.2.2.1 + 1) = (0, 0, 110) ∧ gy_ob 110 = true) || decide (110 = 110 ∧ (w3.1 (w2.2.2.1 + 1)).1 = 3) || decide (110 = 112 ∧ (w3.1 (w2.2.2.1 + 1)).1 = 1)) = true
      rw [z3]
      rfl
    rw [ly_415_21 hcst, ly_415_24 (by first | exact gl_rg | exact gl_s6 | assumption | rfl), wz_1]
    have e6 : w2.2.2.1 + 1 = w.2.2.1 + 2 := by omega
    rw [e6] at z3 zz3 ⊢
    rw [← hcl]
    exact fin w3 (hcl ▸ hF3) (by omega) (hcl ▸ z3) fun j hj => zz3 j
  · simp only [show ¬ ((l.length : Int) = (cap : Int)) by omega, not_false_eq_true, true_implies, false_implies, and_true, true_and]
    have e9 : (if (cap : Int) ≤ (l.length : Int) then (cap : Int) else (l.length : Int)) = (l.length : Int) := if_neg (by omega)
    rw [ly_415_10 (by first | exact gl_gr | exact gl_r6 | exact gl_r7 | assumption | rfl), ly_415_11, ly_415_12, ly_415_13 (by first | exact gl_gr | exact gl_r6 | exact gl_r7 | assumption | rfl), ly_416_0, ly_416_1, ly_416_2, ly_411_0, ly_411_1, ly_411_2 (by omega) (by omega) (by omega) (by omega)]
    simp only [show ¬ ((l.length : Int) < 0) by omega, not_false_eq_true, true_implies, false_implies, and_true, true_and]
    rw [ly_411_37, wz_0, ly_416_5, ly_416_6, ly_416_7, io_sub0 (by omega), ly_416_8, ly_416_9, ly_416_10 (by omega) (by omega), Int.toNat_natCast]
    obtain ⟨w3, ew3, hF3, cc3, z3, zz3⟩ := mk_ex w2 (3, l.length, 0) (fun _ => gy_de 3) l.length
    have v13 : w3.1 vb = (3, cap, 0) := (hF3.sh (by omega)).trans v1
    have m3 := hF3.me (x := vb) (by omega) id
    rw [ew3, ly_416_12 (by first | exact gl_gr | exact gl_r6 | exact gl_r7 | assumption | rfl), ly_416_14 (by first | exact gl_gr | exact gl_r6 | exact gl_r7 | assumption | rfl), ly_416_15, ly_416_16 (by first | exact gl_gr | exact gl_r6 | exact gl_r7 | assumption | rfl), ly_416_18, ly_416_19 (by first | exact gl_gr | exact gl_r6 | exact gl_r7 | assumption | rfl), ly_416_20 (by omega) (by assumption) (by omega) (by omega) (fun _ => rfl), ly_416_21, ly_416_22, io_sub0 (by omega), ly_416_23, ly_416_24 (by omega) (by omega) (by omega) (by omega), e9, ly_416_27 v13 z3 (fun j hj => by rw [m3, Nat.zero_add]; exact k2 j (by omega)) (by omega) (Nat.le_refl _) (by omega) (by omega), ly_416_30 (by first | exact gl_gr | exact gl_r6 | exact gl_r7 | assumption | rfl), ly_416_32 (by first | exact gl_rg | exact gl_s6 | assumption | rfl), wz_1, ly_415_16 (by first | exact gl_rg | exact gl_s6 | assumption | rfl), wz_1]
    have e6 : w2.2.2.1 + 1 = w.2.2.1 + 2 := by omega
    have hFc : yF (fun _ => False) 1 l.length w2 (w3.1, gy_cpy w3.2.1 vb 0 (w2.2.2.1 + 1) 0 l.length, w3.2.2) := yF.cq hF3 fun z => by omega
    rw [e6] at z3 hFc ⊢
    refine fin _ hFc (by show w3.2.2.1 = _; omega) z3 fun j hj => ?_
    have := gy_cpy_at (m := w3.2.1) (a := vb) (sp := 0) (b := w.2.2.1 + 2) (dp := 0) (z := l.length) hj
    rw [Nat.zero_add] at this
    exact this.trans (by rw [m3])
theorem yw_len {s : Nat} (h : ySt w s vb l) (hl : l.length ≤ 500) : wy N xs (d + 1) 335 0 [gr s] [] w Q ↔ Q ((1, (0, (l.length : Int))), w) := by
  obtain ⟨⟨s1, s2, s3⟩, b1, x1, f1, f2, f3, f4⟩ := h
  have e2 := io_shr0 (x := l.length) (by omega)
  rw [ly_335_0 (by first | exact gl_gr | exact gl_r6 | exact gl_r7 | assumption | rfl), ly_335_1 (by assumption), s2, ly_335_4 (by omega) (by assumption) (by omega) (by omega) (fun _ => rfl), ly_335_5 (by first | exact gl_gr | exact gl_r6 | exact gl_r7 | assumption | rfl), ly_335_6 (by first | exact gl_gr | exact gl_r6 | exact gl_r7 | assumption | rfl) (by first | exact gl_cl (by assumption) rfl | exact gl_l6 (by omega) (by omega) | exact gl_l4 (by omega)), ly_337_0, ly_337_3 (by omega) (by omega)]
  simp only [show ¬ ((1 : Int) = 0) by omega, not_false_eq_true, true_implies, false_implies, and_true, true_and]
  rw [ly_337_6 (by first | exact gl_gr | exact gl_r6 | exact gl_r7 | assumption | rfl), ly_337_7 (by assumption), s3, ly_337_10, ly_337_14 (by decide), wz_1, ly_335_9, e2, ly_335_10]
theorem yw_at {s j : Nat} (h : ySt w s vb l) (hl : l.length ≤ 500) (hj : j < l.length) : wy N xs (d + 3) 336 0 [gr s, (0, (j : Int))] [] w Q ↔ Q ((1, (0, ((l.getD j 0 : Nat) : Int))), w) := by
  obtain ⟨⟨s1, s2, s3⟩, b1, x1, f1, f2, f3, f4⟩ := h
  obtain ⟨y1, y2⟩ := x1 j hj
  have ej : ((j : Int)).toNat = j := Int.toNat_natCast j
  have e1 : (w.2.1 vb j).2 = ((l.getD j 0 : Nat) : Int) := by rw [y1]
  rw [ly_336_0 (by first | exact gl_gr | exact gl_r6 | exact gl_r7 | assumption | rfl), ly_336_1 (by first | exact gl_gr | exact gl_r6 | exact gl_r7 | assumption | rfl) (by first | exact gl_cl (by assumption) rfl | exact gl_l6 (by omega) (by omega) | exact gl_l4 (by omega)), ly_338_0, ly_338_3 (by omega) (by omega)]
  simp only [show ¬ ((1 : Int) = 0) by omega, not_false_eq_true, true_implies, false_implies, and_true, true_and]
  rw [ly_338_6 (by first | exact gl_gr | exact gl_r6 | exact gl_r7 | assumption | rfl), ly_338_7 (by assumption), s3, ly_338_10 (by omega) (by omega)]
  simp only [show (0 : Int) = 0 by omega, not_true_eq_false, true_implies, false_implies, and_true, true_and]
  rw [ly_338_13, ly_338_14, ly_338_18 (by omega), wz_1, ly_336_4 (by omega) (by omega)]
  simp only [show ¬ ((1 : Int) = 0) by omega, not_false_eq_true, true_implies, false_implies, and_true, true_and]
  rw [ly_336_7 (by first | exact gl_gr | exact gl_r6 | exact gl_r7 | assumption | rfl), ly_336_8 (by assumption), s2, ly_336_11, ly_336_12 (by first | exact gl_gr | exact gl_r6 | exact gl_r7 | assumption | rfl), ly_340_0, ly_340_1 (by first | exact gl_gr | exact gl_r6 | exact gl_r7 | assumption | rfl), ly_340_2 (by omega) (by assumption) (by omega) (by omega) (fun _ => rfl), ly_340_3, ly_339_0, ly_339_1, ly_339_2, ly_339_5 (by first | exact gl_gr | exact gl_r6 | exact gl_r7 | assumption | rfl), ly_341_0, ly_341_1 (by omega) (by omega)]
  simp only [show ¬ ((j : Int) < 0) by omega, not_false_eq_true, true_implies, false_implies, and_true, true_and]
  rw [ly_341_4, ly_341_5, ly_341_6 (by omega) (by omega) (by omega) (by omega)]
  simp only [show (j : Int) < (l.length : Int) by omega, not_true_eq_false, true_implies, false_implies, and_true, true_and]
  rw [ly_341_16, ly_341_17, wz_1, ly_339_8, ly_339_9, wz_0, ly_340_6 (by first | exact gl_gr | exact gl_r6 | exact gl_r7 | assumption | rfl), ly_340_7, ly_340_8 (by omega) b1 (by omega) (by omega) (by omega), ej, e1, ly_340_9, ly_340_12, io_and255 y2, ly_340_13, (i2c_n y2).1, ly_340_14 (i2c_n y2).2, wz_1, ly_336_15 (i2c_n y2).2]
end TB2
