/-! isSame, second half -/
section SM2
variable {N : Nat} {xs : Nat → Int32} {d : Nat} {w : gy_W} {Q : gy_O → Prop} {O : Nat → Nat} {g : Nat} {A : q_A} {la ea lp ep t : Nat} {b : Nat → Nat} {l2 l3 l4 l5 l6 l7 : gg_V}
theorem ys_3 (h : yGx w O g (aG A) la ea lp ep t b) (hI : cI w A) (hA : a_ok A) (hQ : ∀ w' l5 l6 l7, yF yK 12 60 w w' → cI w' A → wy N xs (d + 32) 351 226 [gr 1, gr g, l2, l3, (0, (qK (aG A) : Int)), l5, l6, l7] [] w' Q) (hl3 : gy_ra l3 = true) :
    wy N xs (d + 32) 351 105 [gr 1, gr g, l2, l3, l4, l5, l6, l7] [] w Q := by
  have hg141 := h.2.2.2.2.2.2.1.2
  have hG := hA.1
  obtain ⟨⟨k1, k2, k3, k4, k5, k6, k7, k8⟩, hk, _⟩ := id hG
  rw [ly_351_105, ly_351_106 (by first | exact gl_gr | exact gl_r6 | exact gl_r7 | assumption | rfl)]
  refine wl_for (P := fun a => ∀ w' l5 l6 l7, yF yK a (5 * a) w w' → cI w' A → wy N xs (d + 32) 351 108 [gr 1, gr g, l2, l3, (0, (a : Int)), l5, l6, l7] [] w' Q) (qK (aG A)) (fun a ha ih w' l5 l6 l7 hF hI' => ?_) (fun w' l5 l6 l7 hF hI' => ?_) w _ _ _ yF.rf hI
  · have h' := h.frK hF
    obtain ⟨⟨g0, g1, g2, g3, g4, g5, g6⟩, ⟨v1, v2⟩, _, hAr, _⟩ := id h'
    have hla := v1.1
    have hAa := hAr a ha
    obtain ⟨a1, a2, a3, a4, a5, a6⟩ := id hAa
    obtain ⟨f1, f2, f3, f4⟩ := hk a ha
    have hle := hF.le
    have hb := h'.2.2.2.2.2.2.2.2.2.2.2.2 a ha
    have e0 : io_add (a : Int) 1 = ((a + 1 : Nat) : Int) := by rw [io_add_o (by omega) (by omega)]; omega
    rw [ly_351_108, ly_351_110 (by first | exact gl_gr | exact gl_r6 | exact gl_r7 | assumption | rfl), ly_351_111 (by assumption), g4, ly_351_114 (by first | exact gl_gr | exact gl_r6 | exact gl_r7 | assumption | rfl) (by first | exact gl_cl (by assumption) rfl | exact gl_l6 (by omega) (by omega) | exact gl_l4 (by omega)), wv_size v1, wz_1, ly_351_117 (by omega) (by omega) (by omega) (by omega)]
    simp only [show (a : Int) < (qK (aG A) : Int) by omega, not_true_eq_false, true_implies, false_implies, and_true, true_and]
    rw [ly_351_120 (by first | exact gl_gr | exact gl_r6 | exact gl_r7 | assumption | rfl), ly_351_121 (by assumption), g4, ly_351_124, ly_351_126 (by first | exact gl_gr | exact gl_r6 | exact gl_r7 | assumption | rfl) (by first | exact gl_cl (by assumption) rfl | exact gl_l6 (by omega) (by omega) | exact gl_l4 (by omega)), wv_get v1 ha, wz_1, ly_351_129 (by first | exact gl_c7 (by assumption) | exact gl_c14 (by assumption) | exact gl_c12 (by omega) (by omega)), ly_351_132 (by first | exact gl_gr | exact gl_r6 | exact gl_r7 | assumption | rfl), ly_351_134, ly_351_135 (by omega) (by omega), show (5 : Int).toNat = 5 from rfl]
    obtain ⟨w1, e1, hF1, c1, s1, z1⟩ := mk_ex w' (1, 5, 0) (fun _ => gy_de 1) 5
    rw [e1]
    have hm0 := hF1.me hb.2.2 id
    have hs0 := (hF1.sh hb.2.2).trans a1
    have hbc := hb.2.2
    rw [← hm0] at a2 a3 a4 a5 a6
    rw [ly_351_137 (by first | exact gl_gr | exact gl_r6 | exact gl_r7 | assumption | rfl), ly_351_138, ly_351_139 (by first | exact gl_gr | exact gl_r6 | exact gl_r7 | assumption | rfl), ly_351_141 (by assumption), a2, ly_351_144 (by assumption) (by omega) (by omega) (by omega), show (0 : Int).toNat = 0 from rfl]
    obtain ⟨w2, e2, hF2, c2, z2, zo2, s2⟩ := st_ex w1 (w'.2.2.1 + 1) 0 (0, (qF (aG A) a : Int))
    rw [e2]
    have hm2 := hF2.me (x := b a) (by omega) (by omega)
    rw [← hm2] at a3 a4 a5 a6
    rw [← s2] at s1 hs0
    rw [ly_351_145 (by first | exact gl_gr | exact gl_r6 | exact gl_r7 | assumption | rfl), ly_351_146, ly_351_147 (by first | exact gl_gr | exact gl_r6 | exact gl_r7 | assumption | rfl), ly_351_149 (by assumption), a3, ly_351_152 (by assumption) (by omega) (by omega) (by omega), show (1 : Int).toNat = 1 from rfl]
    obtain ⟨w3, e3, hF3, c3, z3, zo3, s3⟩ := st_ex w2 (w'.2.2.1 + 1) 1 (0, (qT (aG A) a : Int))
    rw [e3]
    have hm3 := hF3.me (x := b a) (by rw [c2]; omega) (by omega)
    rw [← hm3] at a4 a5 a6
    rw [← s3] at s1 hs0
    rw [ly_351_153 (by first | exact gl_gr | exact gl_r6 | exact gl_r7 | assumption | rfl), ly_351_154, ly_351_155 (by first | exact gl_gr | exact gl_r6 | exact gl_r7 | assumption | rfl), ly_351_157 (by assumption), a4, ly_351_160 (by assumption) (by omega) (by omega) (by omega), show (2 : Int).toNat = 2 from rfl]
    obtain ⟨w4, e4, hF4, c4, z4, zo4, s4⟩ := st_ex w3 (w'.2.2.1 + 1) 2 (0, (qA (aG A) a : Int))
    rw [e4]
    have hm4 := hF4.me (x := b a) (by rw [c3, c2]; omega) (by omega)
    rw [← hm4] at a5 a6
    rw [← s4] at s1 hs0
    rw [ly_351_161 (by first | exact gl_gr | exact gl_r6 | exact gl_r7 | assumption | rfl), ly_351_162, ly_351_163 (by first | exact gl_gr | exact gl_r6 | exact gl_r7 | assumption | rfl), ly_351_165 (by assumption), a5, ly_351_168 (by assumption) (by omega) (by omega) (by omega), show (3 : Int).toNat = 3 from rfl]
    obtain ⟨w5, e5, hF5, c5, z5, zo5, s5⟩ := st_ex w4 (w'.2.2.1 + 1) 3 (0, (qW (aG A) a : Int))
    rw [e5]
    have hm5 := hF5.me (x := b a) (by rw [c4, c3, c2]; omega) (by omega)
    rw [← hm5] at a6
    rw [← s5] at s1 hs0
    have hbr : -2147483648 ≤ (((qS (aG A)).testBit a).toNat : Int) ∧ (((qS (aG A)).testBit a).toNat : Int) ≤ 2147483647 := by cases (qS (aG A)).testBit a <;> decide
    have hmark : ∀ L, wy N xs (d + 32) 351 176 L ((0, (((qS (aG A)).testBit a).toNat : Int)) :: (0, 4) :: gr (w'.2.2.1 + 1) :: gr (w'.2.2.1 + 1) :: []) w5 Q ↔ wy N xs (d + 32) 351 184 L ((0, (((qS (aG A)).testBit a).toNat : Int)) :: (0, 4) :: gr (w'.2.2.1 + 1) :: gr (w'.2.2.1 + 1) :: []) w5 Q := by
      intro L
      cases (qS (aG A)).testBit a
      · rw [Bool.toNat_false, ly_351_176 (by omega) (by omega)]
        simp only [show ((0 : Nat) : Int) = 0 by omega, not_true_eq_false, true_implies, false_implies, and_true, true_and]
        rw [ly_351_183]
      · rw [Bool.toNat_true, ly_351_176 (by omega) (by omega)]
        simp only [show ¬ (((1 : Nat) : Int) = 0) by omega, not_false_eq_true, true_implies, false_implies, and_true, true_and]
        rw [ly_351_179, ly_351_180]
        rfl
    rw [ly_351_169 (by first | exact gl_gr | exact gl_r6 | exact gl_r7 | assumption | rfl), ly_351_170, ly_351_171 (by first | exact gl_gr | exact gl_r6 | exact gl_r7 | assumption | rfl), ly_351_173 (by assumption), a6, hmark, ly_351_184 (by assumption) (by omega) (by omega) (by omega), show (4 : Int).toNat = 4 from rfl]
    obtain ⟨w6, e6, hF6, c6, z6, zo6, s6⟩ := st_ex w5 (w'.2.2.1 + 1) 4 (0, (((qS (aG A)).testBit a).toNat : Int))
    rw [e6]
    rw [← s6] at s1
    have hF06 : yF (fun _ => False) 1 5 w' w6 := ((((hF1.tr hF2 fun x hx z => by
      have e : x = w'.2.2.1 + 1 := z
      omega).tr hF3 fun x hx z => by
      have e : x = w'.2.2.1 + 1 := z
      omega).tr hF4 fun x hx z => by
      have e : x = w'.2.2.1 + 1 := z
      omega).tr hF5 fun x hx z => by
      have e : x = w'.2.2.1 + 1 := z
      omega).tr hF6 fun x hx z => by
      have e : x = w'.2.2.1 + 1 := z
      omega
    have hI6 := hI'.fr0 hF06 (by omega)
    have hval : ∀ k, k < 5 → w6.2.1 (w'.2.2.1 + 1) k = (0, qarcv (aG A) a k) := by
      intro k hk
      rcases (show k = 0 ∨ k = 1 ∨ k = 2 ∨ k = 3 ∨ k = 4 by omega) with rfl | rfl | rfl | rfl | rfl
      · rw [zo6 0 (by decide), zo5 0 (by decide), zo4 0 (by decide), zo3 0 (by decide), z2]
        rfl
      · rw [zo6 1 (by decide), zo5 1 (by decide), zo4 1 (by decide), z3]
        rfl
      · rw [zo6 2 (by decide), zo5 2 (by decide), z4]
        rfl
      · rw [zo6 3 (by decide), z5]
        rfl
      · rw [z6]
        rfl
    have hcc : w6.2.2.1 = w'.2.2.1 + 1 := by rw [c6, c5, c4, c3, c2]; exact c1
    rw [ly_351_185 (by first | exact gl_gr | exact gl_r6 | exact gl_r7 | assumption | rfl) (by first | exact gl_gr | exact gl_r6 | exact gl_r7 | assumption | rfl), ly_351_187, ly_351_188 (by first | exact gl_gr | exact gl_r6 | exact gl_r7 | assumption | rfl)]
    refine wl_for (P := fun k => ∀ w2, yF yK 0 0 w6 w2 → cI w2 A → wy N xs (d + 32) 351 190 [gr 1, gr g, l2, l3, (0, (a : Int)), gr (b a), gr (w'.2.2.1 + 1), (0, (k : Int))] [] w2 Q) 5 (fun k hk ih2 w2 hF2 hI2 => ?_) (fun w2 hF2 hI2 => ?_) w6 yF.rf hI6
    · have e0 : io_add (k : Int) 1 = ((k + 1 : Nat) : Int) := by rw [io_add_o (by omega) (by omega)]; omega
      have hs1 := hI2.s1
      have ek : ((k : Int)).toNat = k := Int.toNat_natCast k
      have ea : ((a : Int)).toNat = a := Int.toNat_natCast a
      rw [ly_351_190, ly_351_192, ly_351_193 (by omega) (by omega) (by omega) (by omega)]
      simp only [show (k : Int) < 5 by omega, not_true_eq_false, true_implies, false_implies, and_true, true_and]
      rw [ly_351_196 (by first | exact gl_gr | exact gl_r6 | exact gl_r7 | assumption | rfl), ly_351_197, ly_351_199, ly_351_201 (by first | exact gl_gr | exact gl_r6 | exact gl_r7 | assumption | rfl) (by first | exact gl_cl (by assumption) rfl | exact gl_l6 (by omega) (by omega) | exact gl_l4 (by omega))]
      refine cy_do (by decide) (fun M h => cq_92 h hA (x := (a : Int)) (y := (k : Int)) (by omega) (by omega) (by omega) (by omega)) hI2 (by unfold o_aw; rw [if_pos (by omega), if_pos (by omega)]) fun w7 hI7 hF7 hc7 => ?_
      have hF67 := hF2.tt hF7
      have hm7 : (w7.2.1 (w'.2.2.1 + 1) k).2 = qarcv (aG A) a k := by
        rw [hF67.me (by omega) (yK.no (by omega)), hval k hk]
      have hs7 : w7.1 (w'.2.2.1 + 1) = (1, 5, 0) := (hF67.sh (by omega)).trans s1
      have hcr : -2147483648 ≤ qarcv (aG A) a k ∧ qarcv (aG A) a k ≤ 2147483647 := by
        unfold qarcv
        rcases (show k = 0 ∨ k = 1 ∨ k = 2 ∨ k = 3 ∨ k = 4 by omega) with rfl | rfl | rfl | rfl | rfl
        · rw [if_pos rfl]
          omega
        · rw [if_neg (by decide), if_pos rfl]
          omega
        · rw [if_neg (by decide), if_neg (by decide), if_pos rfl]
          omega
        · rw [if_neg (by decide), if_neg (by decide), if_neg (by decide), if_pos rfl]
          omega
        · rw [if_neg (by decide), if_neg (by decide), if_neg (by decide), if_neg (by decide)]
          exact hbr
      rw [wz_1, ly_351_204 (by first | exact gl_gr | exact gl_r6 | exact gl_r7 | assumption | rfl), ly_351_206, ly_351_208 (by omega) hs7 (by omega) (by omega) (by omega), ek, ea, hm7, ly_351_209 (by omega) (by omega) (by omega) (by omega)]
      simp only [not_true_eq_false, true_implies, false_implies, and_true]
      rw [ly_351_214 (by first | exact gl_gr | exact gl_r6 | exact gl_r7 | assumption | rfl), e0, ly_351_217]
      exact ih2 w7 hF67 hI7
    · rw [ly_351_190, ly_351_192, ly_351_193 (by omega) (by omega) (by omega) (by omega)]
      simp only [show ¬ (((5 : Nat) : Int) < 5) by omega, not_false_eq_true, true_implies, false_implies, and_true, true_and]
      rw [ly_351_220 (by first | exact gl_gr | exact gl_r6 | exact gl_r7 | assumption | rfl), e0, ly_351_223]
      exact ih w2 _ _ _ (((hF.tt hF06.K).tt hF2).wk (fun _ _ z => z) (by omega) (by omega)) hI2
  · have h' := h.frK hF
    obtain ⟨⟨g0, g1, g2, g3, g4, g5, g6⟩, ⟨v1, v2⟩, _⟩ := id h'
    have hla := v1.1
    rw [ly_351_108, ly_351_110 (by first | exact gl_gr | exact gl_r6 | exact gl_r7 | assumption | rfl), ly_351_111 (by assumption), g4, ly_351_114 (by first | exact gl_gr | exact gl_r6 | exact gl_r7 | assumption | rfl) (by first | exact gl_cl (by assumption) rfl | exact gl_l6 (by omega) (by omega) | exact gl_l4 (by omega)), wv_size v1, wz_1, ly_351_117 (by omega) (by omega) (by omega) (by omega)]
    simp only [show ¬ ((qK (aG A) : Int) < (qK (aG A) : Int)) by omega, not_false_eq_true, true_implies, false_implies, and_true, true_and]
    exact hQ w' _ _ _ (hF.wk (fun _ _ z => z) (by omega) (by omega)) hI'
theorem qcl_c {G : q_G} {a x y : Nat} (hx : qP G (qF G a) = (x : Int)) (hy : qP G (qT G a) = (y : Int)) : qcl G (qP G) a = qclash (qM G) x y (qA G a) := by
  unfold qcl qclash
  rw [hx, hy]
  refine decide_eq_decide.2 ⟨fun h => ?_, fun h => ⟨by omega, by omega, ?_⟩⟩
  · have := h.2.2
    rw [Int.toNat_natCast] at this
    omega
  · rw [Int.toNat_natCast]
    omega
theorem ys_4 (h : yGx w O g (aG A) la ea lp ep t b) (hI : cI w A) (hA : a_ok A) (hQ : ∀ w' l5 l6, yF yK 1 8 w w' → cI w' A → wy N xs (d + 32) 351 360 [gr 1, gr g, l2, l3, (0, ((qcnt (qcl (aG A) (qP (aG A))) (qK (aG A)) : Nat) : Int)), l5, l6, l7] [] w' Q) (hl3 : gy_ra l3 = true) :
    wy N xs (d + 32) 351 226 [gr 1, gr g, l2, l3, l4, l5, l6, l7] [] w Q := by
  have hg141 := h.2.2.2.2.2.2.1.2
  have hG := hA.1
  obtain ⟨⟨k1, k2, k3, k4, k5, k6, k7, k8⟩, hk, hp, _⟩ := id hG
  obtain ⟨⟨g0, g1, g2, g3, g4, g5, g6⟩, ⟨v1, v2⟩, _⟩ := id h
  have hla := v1.1
  rw [ly_351_226, ly_351_227 (by first | exact gl_gr | exact gl_r6 | exact gl_r7 | assumption | rfl), ly_351_229 (by first | exact gl_gr | exact gl_r6 | exact gl_r7 | assumption | rfl), ly_351_230 (by assumption), g4, ly_351_233 (by first | exact gl_gr | exact gl_r6 | exact gl_r7 | assumption | rfl) (by first | exact gl_cl (by assumption) rfl | exact gl_l6 (by omega) (by omega) | exact gl_l4 (by omega))]
  refine wv_iter hla v1.2.2.2.2.1 v1.2.2.2.1 (fun w1 hF1 hc1 hI1 => ?_) (by obtain ⟨m, hm, _⟩ := v1.2.2.1; exact ⟨m, hm⟩)
  rw [wz_1, ly_351_236 (by first | exact gl_gr | exact gl_r6 | exact gl_r7 | assumption | rfl)]
  refine wl_for (P := fun k => ∀ (w' : gy_W) (l6 : gg_V), yF (fun _ => False) 1 8 w w' → yI w' (w.2.2.1 + 1) la k → wy N xs (d + 32) 351 238 [gr 1, gr g, l2, l3, (0, ((qcnt (qcl (aG A) (qP (aG A))) k : Nat) : Int)), gr (w.2.2.1 + 1), l6, l7] [] w' Q) (qK (aG A)) (fun a ha ih w' l6 hF hI' => ?_) (fun w' l6 hF hI' => ?_) w1 _ hF1 hI1
  · have h' := h.fr0 hF
    have hY := h'.2.1.1
    have hi1 := hI'.1
    have hq := qcnt_le (qcl (aG A) (qP (aG A))) a
    rw [ly_351_238 (by first | exact gl_gr | exact gl_r6 | exact gl_r7 | assumption | rfl), ly_351_240 (by first | exact gl_gr | exact gl_r6 | exact gl_r7 | assumption | rfl) (by first | exact gl_cl (by assumption) rfl | exact gl_l6 (by omega) (by omega) | exact gl_l4 (by omega)), wv_hasNext hI' hY (by omega) (by omega), if_neg (by omega), wz_1, ly_351_245 (by omega) (by omega)]
    simp only [show ¬ ((1 : Int) = 0) by omega, not_false_eq_true, true_implies, false_implies, and_true, true_and]
    rw [ly_351_248 (by first | exact gl_gr | exact gl_r6 | exact gl_r7 | assumption | rfl), ly_351_250 (by first | exact gl_gr | exact gl_r6 | exact gl_r7 | assumption | rfl) (by first | exact gl_cl (by assumption) rfl | exact gl_l6 (by omega) (by omega) | exact gl_l4 (by omega))]
    refine wv_next hI' hY ha (by have := h.2.2.2.2.2.2.2.2.1.2.2; omega) fun w2 hF2 hc2 hI2 => ?_
    have hF02 := hF.it hF2 (by omega)
    obtain ⟨⟨g0, g1, g2, g3, g4, g5, g6⟩, ⟨v1, v2⟩, _, hAr, _⟩ := id (h.fr0 hF02)
    have hAa := hAr a ha
    obtain ⟨a1, a2, a3, a4, a5, a6⟩ := id hAa
    obtain ⟨f1, f2, f3, f4⟩ := hk a ha
    have hlp := v2.1
    obtain ⟨pf1, pf2⟩ := yz_P hG (v := qF (aG A) a) (by omega)
    obtain ⟨pt1, pt2⟩ := yz_P hG (v := qT (aG A) a) (by omega)
    have hml : qM (aG A) * qL (aG A) ≤ 12 * 5 := Nat.mul_le_mul k4 k8
    obtain ⟨qf1, qf2⟩ := hp (qF (aG A) a) (by omega)
    obtain ⟨qt1, qt2⟩ := hp (qT (aG A) a) (by omega)
    have ih2 := ih w2 (gr (b a)) hF02 hI2
    rw [show qcnt (qcl (aG A) (qP (aG A))) (a + 1) = qcnt (qcl (aG A) (qP (aG A))) a + (qcl (aG A) (qP (aG A)) a).toNat from rfl] at ih2
    have no : qcl (aG A) (qP (aG A)) a = false → wy N xs (d + 32) 351 353 [gr 1, gr g, l2, l3, (0, ((qcnt (qcl (aG A) (qP (aG A))) a : Nat) : Int)), gr (w.2.2.1 + 1), gr (b a), l7] [(0, ((qcnt (qcl (aG A) (qP (aG A))) a : Nat) : Int))] w2 Q := by
      intro e
      rw [e] at ih2
      rw [ly_351_353, ly_351_354, io_add_o (by omega) (by omega), Int.add_zero, ly_351_355 (by first | exact gl_gr | exact gl_r6 | exact gl_r7 | assumption | rfl), ly_351_357]
      exact ih2
    rw [wz_1, ly_351_255 (by first | exact gl_c7 (by assumption) | exact gl_c14 (by assumption) | exact gl_c12 (by omega) (by omega)), ly_351_258 (by first | exact gl_gr | exact gl_r6 | exact gl_r7 | assumption | rfl) (by first | exact gl_gr | exact gl_r6 | exact gl_r7 | assumption | rfl), ly_351_260, ly_351_262 (by first | exact gl_gr | exact gl_r6 | exact gl_r7 | assumption | rfl), ly_351_263 (by assumption), g5, ly_351_266 (by first | exact gl_gr | exact gl_r6 | exact gl_r7 | assumption | rfl), ly_351_268 (by assumption), a2, ly_351_271 (by first | exact gl_gr | exact gl_r6 | exact gl_r7 | assumption | rfl) (by first | exact gl_cl (by assumption) rfl | exact gl_l6 (by omega) (by omega) | exact gl_l4 (by omega)), wv_get v2 f1, wz_1, ly_351_274 (by first | exact gl_c7 (by assumption) | exact gl_c14 (by assumption) | exact gl_c12 (by omega) (by omega)), ly_351_277 (by first | exact gl_gr | exact gl_r6 | exact gl_r7 | assumption | rfl) (by first | exact gl_cl (by assumption) rfl | exact gl_l6 (by omega) (by omega) | exact gl_l4 (by omega)), wy_int pf1 pf2, wz_1, ly_351_280 (by omega) (by omega)]
    by_cases hx : qP (aG A) (qF (aG A) a) < 0
    · simp only [hx, not_true_eq_false, true_implies, false_implies, and_true]
      refine no ?_
      unfold qcl
      exact decide_eq_false fun z => z.1 (by omega)
    · obtain ⟨x, hxx⟩ : ∃ x : Nat, qP (aG A) (qF (aG A) a) = (x : Int) := ⟨(qP (aG A) (qF (aG A) a)).toNat, by omega⟩
      simp only [hx, not_false_eq_true, true_implies, false_implies, true_and]
      rw [ly_351_283 (by first | exact gl_gr | exact gl_r6 | exact gl_r7 | assumption | rfl), ly_351_284 (by assumption), g5, ly_351_287 (by first | exact gl_gr | exact gl_r6 | exact gl_r7 | assumption | rfl), ly_351_289 (by assumption), a3, ly_351_292 (by first | exact gl_gr | exact gl_r6 | exact gl_r7 | assumption | rfl) (by first | exact gl_cl (by assumption) rfl | exact gl_l6 (by omega) (by omega) | exact gl_l4 (by omega)), wv_get v2 f2, wz_1, ly_351_295 (by first | exact gl_c7 (by assumption) | exact gl_c14 (by assumption) | exact gl_c12 (by omega) (by omega)), ly_351_298 (by first | exact gl_gr | exact gl_r6 | exact gl_r7 | assumption | rfl) (by first | exact gl_cl (by assumption) rfl | exact gl_l6 (by omega) (by omega) | exact gl_l4 (by omega)), wy_int pt1 pt2, wz_1, ly_351_301 (by omega) (by omega)]
      by_cases hy : qP (aG A) (qT (aG A) a) < 0
      · simp only [hy, not_true_eq_false, true_implies, false_implies, and_true]
        refine no ?_
        unfold qcl
        exact decide_eq_false fun z => z.2.1 (by omega)
      · obtain ⟨y, hyy⟩ : ∃ y : Nat, qP (aG A) (qT (aG A) a) = (y : Int) := ⟨(qP (aG A) (qT (aG A) a)).toNat, by omega⟩
        have hc := qcl_c (a := a) hxx hyy
        simp only [hy, not_false_eq_true, true_implies, false_implies, true_and]
        rw [ly_351_304 (by first | exact gl_gr | exact gl_r6 | exact gl_r7 | assumption | rfl), ly_351_305 (by first | exact gl_gr | exact gl_r6 | exact gl_r7 | assumption | rfl), ly_351_307 (by first | exact gl_gr | exact gl_r6 | exact gl_r7 | assumption | rfl), ly_351_308 (by assumption), g5, ly_351_311 (by first | exact gl_gr | exact gl_r6 | exact gl_r7 | assumption | rfl), ly_351_313 (by assumption), a2, ly_351_316 (by first | exact gl_gr | exact gl_r6 | exact gl_r7 | assumption | rfl) (by first | exact gl_cl (by assumption) rfl | exact gl_l6 (by omega) (by omega) | exact gl_l4 (by omega)), wv_get v2 f1, wz_1, ly_351_319 (by first | exact gl_c7 (by assumption) | exact gl_c14 (by assumption) | exact gl_c12 (by omega) (by omega)), ly_351_322 (by first | exact gl_gr | exact gl_r6 | exact gl_r7 | assumption | rfl) (by first | exact gl_cl (by assumption) rfl | exact gl_l6 (by omega) (by omega) | exact gl_l4 (by omega)), wy_int pf1 pf2, wz_1, ly_351_325 (by first | exact gl_gr | exact gl_r6 | exact gl_r7 | assumption | rfl), ly_351_326 (by assumption), g5, ly_351_329 (by first | exact gl_gr | exact gl_r6 | exact gl_r7 | assumption | rfl), ly_351_331 (by assumption), a3, ly_351_334 (by first | exact gl_gr | exact gl_r6 | exact gl_r7 | assumption | rfl) (by first | exact gl_cl (by assumption) rfl | exact gl_l6 (by omega) (by omega) | exact gl_l4 (by omega)), wv_get v2 f2, wz_1, ly_351_337 (by first | exact gl_c7 (by assumption) | exact gl_c14 (by assumption) | exact gl_c12 (by omega) (by omega)), ly_351_340 (by first | exact gl_gr | exact gl_r6 | exact gl_r7 | assumption | rfl) (by first | exact gl_cl (by assumption) rfl | exact gl_l6 (by omega) (by omega) | exact gl_l4 (by omega)), wy_int pt1 pt2, wz_1, hxx, hyy, ly_351_343 (by first | exact gl_gr | exact gl_r6 | exact gl_r7 | assumption | rfl) (by first | exact gl_gr | exact gl_r6 | exact gl_r7 | assumption | rfl) (by first | exact gl_cl (by assumption) rfl | exact gl_l6 (by omega) (by omega) | exact gl_l4 (by omega)), yy_clash g0 g2 hAa k3 k4 f3 (by omega) (by omega), wz_1]
        cases hb : qclash (qM (aG A)) x y (qA (aG A) a)
        · rw [Bool.toNat_false, ly_351_346 (by omega) (by omega)]
          simp only [show ((0 : Nat) : Int) = 0 by omega, not_true_eq_false, true_implies, false_implies, and_true, true_and]
          exact no (hc.trans hb)
        · rw [hc.trans hb] at ih2
          rw [Bool.toNat_true, ly_351_346 (by omega) (by omega)]
          simp only [show ¬ (((1 : Nat) : Int) = 0) by omega, not_false_eq_true, true_implies, false_implies, and_true, true_and]
          rw [ly_351_349, ly_351_350, ly_351_354, io_add_o (by omega) (by omega), ly_351_355 (by first | exact gl_gr | exact gl_r6 | exact gl_r7 | assumption | rfl), ly_351_357]
          exact ih2
  · have h' := h.fr0 hF
    have hY := h'.2.1.1
    have hi1 := hI'.1
    rw [ly_351_238 (by first | exact gl_gr | exact gl_r6 | exact gl_r7 | assumption | rfl), ly_351_240 (by first | exact gl_gr | exact gl_r6 | exact gl_r7 | assumption | rfl) (by first | exact gl_cl (by assumption) rfl | exact gl_l6 (by omega) (by omega) | exact gl_l4 (by omega)), wv_hasNext hI' hY (by omega) (by omega), if_pos rfl, wz_1, ly_351_245 (by omega) (by omega)]
    simp only [not_true_eq_false, true_implies, false_implies, and_true]
    exact hQ w' _ _ hF.K (hI.fr0 hF (by omega))
theorem ys_5 {l4 : Int} (h : yGx w O g (aG A) la ea lp ep t b) (hI : cI w A) (hA : a_ok A) (hQ : ∀ w' l5, yF yK 0 0 w w' → cI w' A → wy N xs (d + 32) 351 404 [gr 1, gr g, l2, l3, (0, l4), l5, l6, l7] [] w' Q) :
    wy N xs (d + 32) 351 360 [gr 1, gr g, l2, l3, (0, l4), l5, l6, l7] [] w Q := by
  have hG := hA.1
  obtain ⟨⟨k1, k2, k3, k4, k5, k6, k7, k8⟩, hk, hp, _⟩ := id hG
  rw [ly_351_360, ly_351_361]
  refine wl_for (P := fun v => ∀ w', yF yK 0 0 w w' → cI w' A → wy N xs (d + 32) 351 363 [gr 1, gr g, l2, l3, (0, l4), (0, (v : Int)), l6, l7] [] w' Q) (qN (aG A)) (fun v hv ih w' hF hI' => ?_) (fun w' hF hI' => ?_) w yF.rf hI
  · have h' := h.frK hF
    obtain ⟨⟨g0, g1, g2, g3, g4, g5, g6⟩, ⟨v1, v2⟩, _⟩ := id h'
    have e0 : io_add (v : Int) 1 = ((v + 1 : Nat) : Int) := by rw [io_add_o (by omega) (by omega)]; omega
    have ev : ((v : Int)).toNat = v := Int.toNat_natCast v
    have hs1 := hI'.s1
    obtain ⟨pf1, pf2⟩ := yz_P hG (v := v) (by omega)
    rw [ly_351_363, ly_351_365 (by first | exact gl_gr | exact gl_r6 | exact gl_r7 | assumption | rfl), ly_351_366 (by assumption), g1, ly_351_369 (by omega) (by omega) (by omega) (by omega)]
    simp only [show (v : Int) < (qN (aG A) : Int) by omega, not_true_eq_false, true_implies, false_implies, and_true, true_and]
    rw [ly_351_372 (by first | exact gl_gr | exact gl_r6 | exact gl_r7 | assumption | rfl), ly_351_373, ly_351_375 (by first | exact gl_gr | exact gl_r6 | exact gl_r7 | assumption | rfl) (by first | exact gl_cl (by assumption) rfl | exact gl_l6 (by omega) (by omega) | exact gl_l4 (by omega))]
    refine cy_do (by decide) (fun M h => cq_122 h hA (x := (v : Int)) (by omega) (by omega)) hI' (if_pos (by omega)) fun w2 hI2 hF2 hc2 => ?_
    have hF02 := hF.tt hF2
    obtain ⟨⟨g0, g1, g2, g3, g4, g5, g6⟩, ⟨v1, v2⟩, _⟩ := id (h.frK hF02)
    have hlp := v2.1
    rw [wz_1, ev, ly_351_378 (by first | exact gl_gr | exact gl_r6 | exact gl_r7 | assumption | rfl), ly_351_379 (by assumption), g5, ly_351_382, ly_351_384 (by first | exact gl_gr | exact gl_r6 | exact gl_r7 | assumption | rfl) (by first | exact gl_cl (by assumption) rfl | exact gl_l6 (by omega) (by omega) | exact gl_l4 (by omega)), wv_get v2 hv, wz_1, ly_351_387 (by first | exact gl_c7 (by assumption) | exact gl_c14 (by assumption) | exact gl_c12 (by omega) (by omega)), ly_351_390 (by first | exact gl_gr | exact gl_r6 | exact gl_r7 | assumption | rfl) (by first | exact gl_cl (by assumption) rfl | exact gl_l6 (by omega) (by omega) | exact gl_l4 (by omega)), wy_int pf1 pf2, wz_1, ly_351_393 (by omega) (by omega) (by omega) (by omega)]
    simp only [not_true_eq_false, true_implies, false_implies, and_true]
    rw [ly_351_398, e0, ly_351_401]
    exact ih w2 hF02 hI2
  · have h' := h.frK hF
    obtain ⟨⟨g0, g1, g2, g3, g4, g5, g6⟩, ⟨v1, v2⟩, _⟩ := id h'
    rw [ly_351_363, ly_351_365 (by first | exact gl_gr | exact gl_r6 | exact gl_r7 | assumption | rfl), ly_351_366 (by assumption), g1, ly_351_369 (by omega) (by omega) (by omega) (by omega)]
    simp only [show ¬ ((qN (aG A) : Int) < (qN (aG A) : Int)) by omega, not_false_eq_true, true_implies, false_implies, and_true, true_and]
    exact hQ w' _ hF hI'
theorem ys_6 {l4 : Int} (h : yGx w O g (aG A) la ea lp ep t b) (hI : cI w A) (hA : a_ok A) (hQ : ∀ w' l5, yF yK 0 0 w w' → cI w' A → wy N xs (d + 32) 351 437 [gr 1, gr g, l2, l3, (0, l4), l5, l6, l7] [] w' Q) (hO : ∀ k, -2147483648 ≤ qO (aG A) k ∧ qO (aG A) k ≤ 2147483647) :
    wy N xs (d + 32) 351 404 [gr 1, gr g, l2, l3, (0, l4), l5, l6, l7] [] w Q := by
  have hG := hA.1
  rw [ly_351_404, ly_351_405]
  refine wl_for (P := fun v => ∀ w', yF yK 0 0 w w' → cI w' A → wy N xs (d + 32) 351 407 [gr 1, gr g, l2, l3, (0, l4), (0, (v : Int)), l6, l7] [] w' Q) 4 (fun v hv ih w' hF hI' => ?_) (fun w' hF hI' => ?_) w yF.rf hI
  · have e0 : io_add (v : Int) 1 = ((v + 1 : Nat) : Int) := by rw [io_add_o (by omega) (by omega)]; omega
    have ev : ((v : Int)).toNat = v := Int.toNat_natCast v
    have hs1 := hI'.s1
    obtain ⟨o1, o2⟩ := hO v
    rw [ly_351_407, ly_351_409, ly_351_410 (by omega) (by omega) (by omega) (by omega)]
    simp only [show (v : Int) < 4 by omega, not_true_eq_false, true_implies, false_implies, and_true, true_and]
    rw [ly_351_413 (by first | exact gl_gr | exact gl_r6 | exact gl_r7 | assumption | rfl), ly_351_414, ly_351_416 (by first | exact gl_gr | exact gl_r6 | exact gl_r7 | assumption | rfl) (by first | exact gl_cl (by assumption) rfl | exact gl_l6 (by omega) (by omega) | exact gl_l4 (by omega))]
    refine cy_do (by decide) (fun M h => cq_145 h hA (x := (v : Int)) (by omega) (by omega)) hI' (if_pos (by omega)) fun w2 hI2 hF2 hc2 => ?_
    have hF02 := hF.tt hF2
    have h2 := h.frK hF02
    obtain ⟨⟨g0, g1, g2, g3, g4, g5, g6⟩, _, ⟨t1, t2⟩, _, _, _, _, _, _, _, _, ot, _⟩ := id h2
    have em : (w2.2.1 t v).2 = qO (aG A) v := by rw [t2 v hv]
    rw [wz_1, ev, ly_351_419 (by first | exact gl_gr | exact gl_r6 | exact gl_r7 | assumption | rfl), ly_351_420 (by assumption), g6, ly_351_423, ly_351_425 (by have := ot.2.1; omega) t1 (by omega) (by omega) (by omega), ev, em, ly_351_426 (by omega) (by omega) (by omega) (by omega)]
    simp only [not_true_eq_false, true_implies, false_implies, and_true]
    rw [ly_351_431, e0, ly_351_434]
    exact ih w2 hF02 hI2
  · rw [ly_351_407, ly_351_409, ly_351_410 (by omega) (by omega) (by omega) (by omega)]
    simp only [show ¬ (((4 : Nat) : Int) < 4) by omega, not_false_eq_true, true_implies, false_implies, and_true, true_and]
    exact hQ w' _ hF hI'
/-- the law's graph is the class's: isSame says so -/
theorem ys_same (h : yGx w O g (aG A) la ea lp ep t b) (hI : cI w A) (hA : a_ok A) (hO : ∀ k, -2147483648 ≤ qO (aG A) k ∧ qO (aG A) k ≤ 2147483647) (hQ : ∀ w', yF yK 15 80 w w' → cI w' A → Q ((1, (0, 1)), w')) :
    wy N xs (d + 32) 351 0 [gr 1, gr g, (3, 0), (3, 0), (3, 0), (3, 0), (3, 0), (3, 0)] [] w Q := by
  have hG := hA.1
  obtain ⟨⟨k1, k2, k3, k4, k5, k6, k7, k8⟩, hk, hp, _⟩ := id hG
  refine ys_1 h hI hA (fun w1 x3 x4 hF1 hI1 hx3 => ?_)
  refine ys_2 (h.frK hF1) hI1 hA fun w2 hF2 hI2 => ?_
  have hF02 := hF1.tt hF2
  refine ys_3 (h.frK hF02) hI2 hA (fun w3 y5 y6 y7 hF3 hI3 => ?_) hx3
  have hF03 := hF02.tt hF3
  refine ys_4 (h.frK hF03) hI3 hA (fun w4 z5 z6 hF4 hI4 => ?_) hx3
  have hF04 := hF03.tt hF4
  refine ys_5 (h.frK hF04) hI4 hA fun w5 u5 hF5 hI5 => ?_
  have hF05 := hF04.tt hF5
  refine ys_6 (h.frK hF05) hI5 hA (fun w6 v5 hF6 hI6 => ?_) hO
  have hF06 := hF05.tt hF6
  have hs1 := hI6.s1
  have hq := qcnt_le (qcl (aG A) (qP (aG A))) (qK (aG A))
  rw [ly_351_437 (by first | exact gl_gr | exact gl_r6 | exact gl_r7 | assumption | rfl), ly_351_438 (by first | exact gl_gr | exact gl_r6 | exact gl_r7 | assumption | rfl) (by first | exact gl_cl (by assumption) rfl | exact gl_l6 (by omega) (by omega) | exact gl_l4 (by omega))]
  refine cy_do (by decide) (fun M h => cq_125 h hA) hI6 rfl fun w7 hI7 hF7 hc7 => ?_
  rw [wz_1, ly_351_441, ly_351_443 (by omega) (by omega) (by omega) (by omega)]
  simp only [not_true_eq_false, true_implies, false_implies, and_true]
  rw [ly_351_446, ly_351_447, ly_351_451 (by omega)]
  exact hQ w7 ((hF06.tt hF7).wk (fun _ _ z => z) (by omega) (by omega)) hI7
end SM2
