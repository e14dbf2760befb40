/-! the law: its forty actions, its end -/
section LW3
variable {N : Nat} {xs : Nat → Int32} {w : gy_W} {Q : gy_O → Prop} {f sb : Nat} {A : q_A} {O : Nat → Nat} {ar pl pe g : Nat} {p : Nat → Nat}
/-- behind the forty actions -/
theorem yl_4 (hZ : yZ w A O ar pl pe g p) (hQ : ∀ w', w'.2.2.1 ≤ w.2.2.1 + 100 → w'.2.2.2 ≤ w.2.2.2 + 1000 → Q ((1, (0, 1)), w')) {l6 : gg_V} : wy N xs 40 287 218 [gr 0, gr 1, gr f, gr sb, gr ar, gr pl, l6, (3, 0)] [] w Q := by
  obtain ⟨⟨hI, hA, hT, hTH⟩, hg, ⟨ar1, ar2, ar3, ar4, ar5⟩, _⟩ := hZ
  obtain ⟨la, ea, lp, ep, t, b, hx⟩ := hg
  have hG := hA.1
  obtain ⟨⟨k1, k2, k3, k4, k5, k6, k7, k8⟩, hkk, _⟩ := id hG
  have g0 := hx.1.1
  have g4 := hx.1.2.2.2.2.1
  have hla := hx.2.1.1.1
  have hml : qM (aG A) * qL (aG A) ≤ 12 * 5 := Nat.mul_le_mul k4 k8
  have hp2 : 2 ^ qK (aG A) ≤ 2 ^ 12 := Nat.pow_le_pow_right (by decide) k5
  have hp1 : 1 ≤ 2 ^ qK (aG A) := Nat.one_le_two_pow
  rw [ly_287_218 (by first | exact gl_gr | exact gl_r6 | exact gl_r7 | assumption | rfl), ly_287_220, ly_287_221 ar1 rfl (by decide) (by decide) (by decide) (by show gy_rr (w.2.1 ar 0) = true; rw [ar2]; rfl), show (0 : Int).toNat = 0 from rfl, ar2, ly_287_222 (by first | exact gl_gr | exact gl_r6 | exact gl_r7 | assumption | rfl) (by first | exact gl_gr | exact gl_r6 | exact gl_r7 | assumption | rfl), ly_287_224 (by first | exact gl_gr | exact gl_r6 | exact gl_r7 | assumption | rfl), ly_287_226 (by assumption), g4, ly_287_229 (by first | exact gl_gr | exact gl_r6 | exact gl_r7 | assumption | rfl) (by first | exact gl_cl (by assumption) rfl | exact gl_l6 (by omega) (by omega) | exact gl_l4 (by omega)), wv_size hx.2.1.1, wz_1, ly_287_232 (by first | exact gl_gr | exact gl_r6 | exact gl_r7 | assumption | rfl), ly_287_234 (by first | exact gl_gr | exact gl_r6 | exact gl_r7 | assumption | rfl), ly_287_235, ly_287_237, ly_287_238, ly_287_239 (by first | exact gl_gr | exact gl_r6 | exact gl_r7 | assumption | rfl)]
  refine yn_arc3 (d := 8) hI hA (x := (qK (aG A) : Int)) (y := 0) (by omega) (by omega) (by decide) (by decide) (by unfold o_aw; rw [if_neg (by omega)]) fun w1 hI1 hF1 => ?_
  rw [wz_1, ly_287_242 (by omega) (by omega)]
  simp only [show ¬ ((1 : Int) = 0) by omega, not_false_eq_true, true_implies, false_implies, and_true, true_and]
  rw [ly_287_245 (by first | exact gl_gr | exact gl_r6 | exact gl_r7 | assumption | rfl), ly_287_246, ly_287_247, ly_287_249, ly_287_250 (by first | exact gl_gr | exact gl_r6 | exact gl_r7 | assumption | rfl)]
  refine yn_arc3 (d := 8) hI1 hA (x := -1) (y := 9) (by decide) (by decide) (by decide) (by decide) (by unfold o_aw; rw [if_neg (by omega)]) fun w2 hI2 hF2 => ?_
  rw [wz_1, ly_287_253 (by omega) (by omega)]
  simp only [show ¬ ((1 : Int) = 0) by omega, not_false_eq_true, true_implies, false_implies, and_true, true_and]
  rw [ly_287_256 (by first | exact gl_gr | exact gl_r6 | exact gl_r7 | assumption | rfl), ly_287_257, ly_287_258 (by first | exact gl_gr | exact gl_r6 | exact gl_r7 | assumption | rfl)]
  refine yn_set (d := 8) hI2 hA (x := -1) (by decide) (by decide) (by unfold o_set; rw [if_neg (by omega)]) fun w3 hI3 hF3 => ?_
  have e1 : io_shl 1 (qK (aG A) : Int) = ((2 ^ qK (aG A) : Nat) : Int) := io_shl1 (by omega) (by omega)
  rw [wz_1, ly_287_261 (by omega) (by omega)]
  simp only [show ¬ ((1 : Int) = 0) by omega, not_false_eq_true, true_implies, false_implies, and_true, true_and]
  rw [ly_287_264 (by first | exact gl_gr | exact gl_r6 | exact gl_r7 | assumption | rfl), ly_287_265, ly_287_266, ly_287_268, e1, ly_287_269 (by first | exact gl_gr | exact gl_r6 | exact gl_r7 | assumption | rfl)]
  refine yn_set (d := 8) hI3 hA (x := ((2 ^ qK (aG A) : Nat) : Int)) (by omega) (by omega) (by unfold o_set qU; rw [if_neg (by omega)]) fun w4 hI4 hF4 => ?_
  have hF04 := ((hF1.tt hF2).tt hF3).tt hF4
  have h4 := hx.frK hF04
  have g04 := h4.1.1
  have g14 := h4.1.2.1
  rw [wz_1, ly_287_272 (by omega) (by omega)]
  simp only [show ¬ ((1 : Int) = 0) by omega, not_false_eq_true, true_implies, false_implies, and_true, true_and]
  rw [ly_287_275 (by first | exact gl_gr | exact gl_r6 | exact gl_r7 | assumption | rfl), ly_287_276 (by first | exact gl_gr | exact gl_r6 | exact gl_r7 | assumption | rfl), ly_287_278 (by assumption), g14, ly_287_281, ly_287_282, ly_287_283 (by first | exact gl_gr | exact gl_r6 | exact gl_r7 | assumption | rfl)]
  refine yn_pt3 (d := 8) hI4 hA (x := (qN (aG A) : Int)) (y := -1) (by omega) (by omega) (by decide) (by decide) (by unfold o_vc; rw [if_neg (by omega)]) fun w5 hI5 hF5 => ?_
  have h5 := h4.frK hF5
  have g05 := h5.1.1
  rw [wz_1, ly_287_286 (by omega) (by omega)]
  simp only [show ¬ ((1 : Int) = 0) by omega, not_false_eq_true, true_implies, false_implies, and_true, true_and]
  rw [ly_287_289 (by first | exact gl_gr | exact gl_r6 | exact gl_r7 | assumption | rfl), ly_287_290, ly_287_291 (by first | exact gl_gr | exact gl_r6 | exact gl_r7 | assumption | rfl), ly_287_293 (by first | exact gl_gr | exact gl_r6 | exact gl_r7 | assumption | rfl) (by first | exact gl_cl (by assumption) rfl | exact gl_l6 (by omega) (by omega) | exact gl_l4 (by omega)), yy_colors h5 hG, wz_1, ly_287_296, ly_287_297 (by first | exact gl_gr | exact gl_r6 | exact gl_r7 | assumption | rfl)]
  refine yn_pt2 (d := 8) hI5 hA (x := 0) (y := ((qM (aG A) * qL (aG A) + 1 : Nat) : Int)) (by decide) (by decide) (by omega) (by omega) (by unfold o_vc; rw [if_pos (by omega), if_neg (by omega)]) fun w6 hI6 hF6 => ?_
  rw [wz_1, ly_287_300 (by omega) (by omega)]
  simp only [show ¬ ((1 : Int) = 0) by omega, not_false_eq_true, true_implies, false_implies, and_true, true_and]
  rw [ly_287_303 (by first | exact gl_gr | exact gl_r6 | exact gl_r7 | assumption | rfl), ly_287_304, ly_287_305, ly_287_306, ly_287_307 (by first | exact gl_gr | exact gl_r6 | exact gl_r7 | assumption | rfl)]
  refine yn_pt2 (d := 8) hI6 hA (x := 0) (y := -1) (by decide) (by decide) (by decide) (by decide) (by unfold o_vc; rw [if_pos (by omega), if_neg (by omega)]) fun w7 hI7 hF7 => ?_
  have h7 := (h5.frK hF6).frK hF7
  have hF07 := ((hF04.tt hF5).tt hF6).tt hF7
  have last : ∀ w8, cI w8 A → yF yK 1 6 w7 w8 → wy N xs 40 287 330 [gr 0, gr 1, gr f, gr sb, gr ar, gr pl, gr g, (0, (qK (aG A) : Int))] [] w8 Q := by
    intro w8 hI8 hF8
    rw [ly_287_330 (by first | exact gl_gr | exact gl_r6 | exact gl_r7 | assumption | rfl), ly_287_331 (by first | exact gl_gr | exact gl_r6 | exact gl_r7 | assumption | rfl), ly_287_333 (by first | exact gl_gr | exact gl_r6 | exact gl_r7 | assumption | rfl) (by first | exact gl_gr | exact gl_r6 | exact gl_r7 | assumption | rfl)]
    refine ys_same (d := 7) (h7.frK hF8) hI8 hA hT fun w9 hF9 hI9 => ?_
    rw [wz_1, ly_287_336 (by omega) (by omega)]
    simp only [show ¬ ((1 : Int) = 0) by omega, not_false_eq_true, true_implies, false_implies, and_true, true_and]
    rw [ly_287_339, ly_287_340, ly_287_344 (by omega)]
    have b1 := hF07.2.1
    have b2 := hF07.2.2.1
    have b3 := hF8.2.1
    have b4 := hF8.2.2.1
    have b5 := hF9.2.1
    have b6 := hF9.2.2.1
    exact hQ w9 (by omega) (by omega)
  rw [wz_1, ly_287_310 (by omega) (by omega)]
  simp only [show ¬ ((1 : Int) = 0) by omega, not_false_eq_true, true_implies, false_implies, and_true, true_and]
  rw [ly_287_315, ly_287_317 (by omega) (by omega)]
  refine ⟨fun _ => last w7 hI7 (yF.rf.wk (fun _ _ z => z) (by decide) (by decide)), fun hne => ?_⟩
  rw [ly_287_320 (by first | exact gl_gr | exact gl_r6 | exact gl_r7 | assumption | rfl), ly_287_321, ly_287_322, ly_287_323, ly_287_324 (by first | exact gl_gr | exact gl_r6 | exact gl_r7 | assumption | rfl)]
  refine yn_arc2 (d := 8) hI7 hA (x := 0) (y := 5) (by decide) (by decide) (by decide) (by decide) (by unfold o_aw; rw [if_pos (by omega), if_neg (by omega)]) fun w8 hI8 hF8 => ?_
  rw [wz_1, ly_287_327 (by omega) (by omega)]
  simp only [show ¬ ((1 : Int) = 0) by omega, not_false_eq_true, true_implies, false_implies, and_true, true_and]
  exact last w8 hI8 hF8
theorem yl_3 (hN : N ≤ 260) (hZ : yZ w A O ar pl pe g p) (hc : w.2.2.1 ≤ 1000) (hs : w.2.2.2 ≤ 300000) (hQ : ∀ w', w'.2.2.1 ≤ 600104 → w'.2.2.2 ≤ 7301314 → Q ((1, (0, 1)), w')) : wy N xs 40 287 169 [gr 0, gr 1, gr f, gr sb, gr ar, gr pl, (3, 0), (3, 0)] [] w Q := by
  rw [ly_287_169, ly_287_170 (by first | exact gl_gr | exact gl_r6 | exact gl_r7 | assumption | rfl)]
  refine wl_for (P := fun k => ∀ (w : gy_W) (A : q_A) (O : Nat → Nat) (pe g : Nat) (p : Nat → Nat), yZ w A O ar pl pe g p → w.2.2.1 ≤ 1000 + 2300 * k → w.2.2.2 ≤ 300000 + 31000 * k → wy N xs 40 287 172 [gr 0, gr 1, gr f, gr sb, gr ar, gr pl, (0, (k : Int)), (3, 0)] [] w Q) 40 (fun k hk ih w A O pe g p hZ hc hs => ?_) (fun w A O pe g p hZ hc hs => ?_) w A O pe g p hZ hc hs
  · have e0 : io_add (k : Int) 1 = ((k + 1 : Nat) : Int) := by rw [io_add_o (by omega) (by omega)]; omega
    have e1 : io_add 20 (k : Int) = ((20 + k : Nat) : Int) := by rw [io_add_o (by omega) (by omega)]; omega
    obtain ⟨eV, hV⟩ := Vq_e N xs (20 + k)
    rw [ly_287_172, ly_287_174, ly_287_176 (by omega) (by omega) (by omega) (by omega)]
    simp only [show (k : Int) < 40 by omega, not_true_eq_false, true_implies, false_implies, and_true, true_and]
    rw [ly_287_179 (by first | exact gl_gr | exact gl_r6 | exact gl_r7 | assumption | rfl), ly_287_180 (by first | exact gl_gr | exact gl_r6 | exact gl_r7 | assumption | rfl), ly_287_182 (by first | exact gl_gr | exact gl_r6 | exact gl_r7 | assumption | rfl), ly_287_184 (by first | exact gl_gr | exact gl_r6 | exact gl_r7 | assumption | rfl), ly_287_185, ly_287_187, ly_287_189, e1, ly_287_190 (by first | exact gl_gr | exact gl_r6 | exact gl_r7 | assumption | rfl), wy_at hN (by omega), wz_1, eV, ly_287_193 (by first | exact gl_gr | exact gl_r6 | exact gl_r7 | assumption | rfl) (by first | exact gl_gr | exact gl_r6 | exact gl_r7 | assumption | rfl) (by first | exact gl_gr | exact gl_r6 | exact gl_r7 | assumption | rfl)]
    refine yz_act (d := 7) hZ hV fun w1 A1 O1 pe1 g1 p1 hZ1 c1 s1 l1 => ?_
    obtain ⟨⟨hI, hA, hT, hTH⟩, hg, ⟨ar1, ar2, ar3, ar4, ar5⟩, _⟩ := id hZ1
    obtain ⟨la, ea, lp, ep, t, b, hx⟩ := hg
    rw [wz_1, ly_287_196 (by omega) (by omega)]
    simp only [show ¬ ((1 : Int) = 0) by omega, not_false_eq_true, true_implies, false_implies, and_true, true_and]
    rw [ly_287_199 (by first | exact gl_gr | exact gl_r6 | exact gl_r7 | assumption | rfl), ly_287_200 (by first | exact gl_gr | exact gl_r6 | exact gl_r7 | assumption | rfl), ly_287_202, ly_287_203 ar1 rfl (by decide) (by decide) (by decide) (by show gy_rr (w1.2.1 ar 0) = true; rw [ar2]; rfl), show (0 : Int).toNat = 0 from rfl, ar2, ly_287_204 (by first | exact gl_gr | exact gl_r6 | exact gl_r7 | assumption | rfl) (by first | exact gl_gr | exact gl_r6 | exact gl_r7 | assumption | rfl)]
    refine ys_same (d := 7) hx hI hA hT fun w2 hF2 hI2 => ?_
    have b1 := hF2.2.1
    have b2 := hF2.2.2.1
    rw [wz_1, ly_287_207 (by omega) (by omega)]
    simp only [show ¬ ((1 : Int) = 0) by omega, not_false_eq_true, true_implies, false_implies, and_true, true_and]
    rw [ly_287_212 (by first | exact gl_gr | exact gl_r6 | exact gl_r7 | assumption | rfl), e0, ly_287_215]
    exact ih w2 A1 O1 pe1 g1 p1 (hZ1.frK hI2 hF2) (by omega) (by omega)
  · rw [ly_287_172, ly_287_174, ly_287_176 (by omega) (by omega) (by omega) (by omega)]
    simp only [show ¬ (((40 : Nat) : Int) < 40) by omega, not_false_eq_true, true_implies, false_implies, and_true, true_and]
    exact yl_4 hZ fun w' h1 h2 => hQ w' (by omega) (by omega)
end LW3
/-- the law says 1, on every script -/
theorem gy_pure : gy_Pure := by
  intro L xs hL
  have h : wy L xs 40 287 0 (gg_en 8 [(2, 0)]) [] gy_pw (fun o => o.1 = (1, (0, 1)) ∧ o.2.2.2.1 ≤ 600104 ∧ o.2.2.2.2 ≤ 7301314) :=
    yl_1 (fun w f l3 hI h1 h2 h3 => yl_2 hL hI h1 h2 h3 fun w' A O ar pl pe g p sb hZ h4 h5 => yl_3 hL hZ h4 h5 fun w2 h6 h7 => ⟨rfl, h6, h7⟩) trivial
  obtain ⟨f, ⟨o1, w⟩, h1, h2, h3, h4⟩ := h
  dsimp only at h2
  subst h2
  exact ⟨f, w, h1, h3, h4⟩
