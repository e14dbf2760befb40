/-! the law's Graph: how many vertices are painted; what bars a color -/
section LR2
variable {N : Nat} {xs : Nat → Int32} {d : Nat} {w : gy_W} {Q : gy_O → Prop} {O : Nat → Nat} {g : Nat} {G : q_G} {la ea lp ep t : Nat} {b : Nat → Nat}
theorem yF.it {w w' w2 : gy_W} {c s i : Nat} (h : yF (fun _ => False) c s w w') (h2 : yF (fun x => x = i) 0 0 w' w2) (hi : w.2.2.1 < i) : yF (fun _ => False) c s w w2 :=
  h.tr h2 fun x hx z => by
    have e : x = i := z
    omega
theorem yy_painted (h : yGx w O g G la ea lp ep t b) (hG : q_ok G) (hQ : ∀ w', yF (fun _ => False) 1 8 w w' → Q ((1, (0, ((qcnt (fun v => decide (qP G v ≠ -1)) (qN G) : Nat) : Int))), w')) : wy N xs (d + 3) 371 0 [gr g, (3, 0), (3, 0), (3, 0)] [] w Q := by
  obtain ⟨⟨g0, g1, g2, g3, g4, g5, g6⟩, ⟨v1, v2⟩, ⟨t1, t2⟩, hA, hI, hD, hO⟩ := h
  obtain ⟨⟨k1, k2, k3, k4, k5, k6, k7, k8⟩, hk, hp, hp2⟩ := id hG
  have hlp := v2.1
  rw [ly_371_0, ly_371_1 (by first | exact gl_gr | exact gl_r6 | exact gl_r7 | assumption | rfl), ly_371_2 (by first | exact gl_gr | exact gl_r6 | exact gl_r7 | assumption | rfl), ly_371_3 (by assumption), g5, ly_371_6 (by first | exact gl_gr | exact gl_r6 | exact gl_r7 | assumption | rfl) (by first | exact gl_cl (by assumption) rfl | exact gl_l6 (by omega) (by omega) | exact gl_l4 (by omega))]
  refine wv_iter hlp v2.2.2.2.2.1 v2.2.2.2.1 (fun w1 hF1 hc1 hI1 => ?_) (by obtain ⟨m, hm, _⟩ := v2.2.2.1; exact ⟨m, hm⟩)
  rw [wz_1, ly_371_9 (by first | exact gl_gr | exact gl_r6 | exact gl_r7 | assumption | rfl)]
  refine wl_for (P := fun k => ∀ (w' : gy_W) (l3 : gg_V), yF (fun _ => False) 1 8 w w' → yI w' (w.2.2.1 + 1) lp k → wy N xs (d + 3) 371 10 [gr g, (0, ((qcnt (fun v => decide (qP G v ≠ -1)) k : Nat) : Int)), gr (w.2.2.1 + 1), l3] [] w' Q) (qN G) (fun k hk ih w' l3 hF hI' => ?_) (fun w' l3 hF hI' => ?_) w1 (3, 0) hF1 hI1
  · have hY := v2.fr hF id id
    have hi1 := hI'.1
    obtain ⟨p1, p2⟩ := yz_P hG (v := k) (by omega)
    have hq := qcnt_le (fun v => decide (qP G v ≠ -1)) k
    have hpk := (hp k (by omega)).1
    rw [ly_371_10 (by first | exact gl_gr | exact gl_r6 | exact gl_r7 | assumption | rfl), ly_371_11 (by first | exact gl_gr | exact gl_r6 | exact gl_r7 | assumption | rfl) (by first | exact gl_cl (by assumption) rfl | exact gl_l6 (by omega) (by omega) | exact gl_l4 (by omega)), wv_hasNext hI' hY (by omega) (by omega), if_neg (by omega), wz_1, ly_371_16 (by omega) (by omega)]
    simp only [show ¬ ((1 : Int) = 0) by omega, not_false_eq_true, true_implies, false_implies, and_true, true_and]
    rw [ly_371_19 (by first | exact gl_gr | exact gl_r6 | exact gl_r7 | assumption | rfl), ly_371_20 (by first | exact gl_gr | exact gl_r6 | exact gl_r7 | assumption | rfl) (by first | exact gl_cl (by assumption) rfl | exact gl_l6 (by omega) (by omega) | exact gl_l4 (by omega))]
    refine wv_next hI' hY hk (by have := v2.2.2.2.2.2.2.1; omega) fun w2 hF2 hc2 hI2 => ?_
    rw [wz_1, ly_371_25 (by first | exact gl_c7 (by assumption) | exact gl_c14 (by assumption) | exact gl_c12 (by omega) (by omega)), ly_371_28 (by first | exact gl_gr | exact gl_r6 | exact gl_r7 | assumption | rfl) (by first | exact gl_cl (by assumption) rfl | exact gl_l6 (by omega) (by omega) | exact gl_l4 (by omega)), wy_int p1 p2, wz_1, ly_371_31 (by first | exact gl_gr | exact gl_r6 | exact gl_r7 | assumption | rfl), ly_371_32, ly_371_33, ly_371_34 (by omega) (by omega)]
    have ih2 := fun l3 => ih w2 l3 (hF.it hF2 (by omega)) hI2
    by_cases hn : qP G k < 0
    · simp only [hn, not_true_eq_false, true_implies, false_implies, and_true]
      rw [ly_371_41, ly_371_42, io_add_o (by omega) (by omega), ly_371_43 (by first | exact gl_gr | exact gl_r6 | exact gl_r7 | assumption | rfl), ly_371_44]
      have e : qP G k = -1 := by omega
      have := ih2 (0, qP G k)
      rw [show qcnt (fun v => decide (qP G v ≠ -1)) (k + 1) = qcnt (fun v => decide (qP G v ≠ -1)) k + (decide (qP G k ≠ -1)).toNat from rfl, e] at this
      rw [e, Int.add_zero]
      exact this
    · simp only [hn, not_false_eq_true, true_implies, false_implies, true_and]
      rw [ly_371_37, ly_371_38, ly_371_42, io_add_o (by omega) (by omega), ly_371_43 (by first | exact gl_gr | exact gl_r6 | exact gl_r7 | assumption | rfl), ly_371_44]
      have := ih2 (0, qP G k)
      rw [show qcnt (fun v => decide (qP G v ≠ -1)) (k + 1) = qcnt (fun v => decide (qP G v ≠ -1)) k + (decide (qP G k ≠ -1)).toNat from rfl, decide_eq_true (show qP G k ≠ -1 by omega)] at this
      exact this
  · have hY := v2.fr hF id id
    have hi1 := hI'.1
    rw [ly_371_10 (by first | exact gl_gr | exact gl_r6 | exact gl_r7 | assumption | rfl), ly_371_11 (by first | exact gl_gr | exact gl_r6 | exact gl_r7 | assumption | rfl) (by first | exact gl_cl (by assumption) rfl | exact gl_l6 (by omega) (by omega) | exact gl_l4 (by omega)), wv_hasNext hI' hY (by omega) (by omega), if_pos rfl, wz_1, ly_371_16 (by omega) (by omega)]
    simp only [not_true_eq_false, true_implies, false_implies, and_true]
    rw [ly_371_47, ly_371_48]
    exact hQ w' hF
theorem qwith_e {c : Nat → Int} {v : Nat} {x : Int} : qwith c v x v = x := if_pos rfl
theorem qwith_n {c : Nat → Int} {v u : Nat} {x : Int} (h : u ≠ v) : qwith c v x u = c u := if_neg h
theorem qhit_c {G : q_G} {v c a x y : Nat} (hat : qF G a = v ∨ qT G a = v) (hx : qwith (qP G) v (c : Int) (qF G a) = (x : Int)) (hy : qwith (qP G) v (c : Int) (qT G a) = (y : Int)) : qhit G (qP G) v (c : Int) a = qclash (qM G) x y (qA G a) := by
  unfold qhit qat qcl qclash
  rw [hx, hy, decide_eq_true hat, Bool.true_and]
  refine decide_eq_decide.2 ⟨fun h => ?_, fun h => ⟨by omega, by omega, ?_⟩⟩
  · have := h.2.2
    rw [Int.toNat_natCast] at this
    omega
  · rw [Int.toNat_natCast]
    omega
theorem yy_bar (h : yGx w O g G la ea lp ep t b) (hG : q_ok G) {v c : Nat} (hv : v < 8) (hc : c ≤ 60) : wy N xs (d + 4) 363 0 [gr g, (0, (v : Int)), (0, (c : Int)), (3, 0), (3, 0), (3, 0), (3, 0)] [] w Q ↔ Q ((1, (0, qfst (qhit G (qP G) v (c : Int)) (qK G))), w) := by
  obtain ⟨⟨g0, g1, g2, g3, g4, g5, g6⟩, ⟨v1, v2⟩, ⟨t1, t2⟩, hA, hI, hD, hO⟩ := h
  obtain ⟨⟨k1, k2, k3, k4, k5, k6, k7, k8⟩, hk, hp, hp2⟩ := id hG
  have hla := v1.1
  have hlp := v2.1
  refine wy_det ?_
  rw [ly_363_0, ly_363_1]
  refine wl_for (P := fun a => (∀ j, j < a → qhit G (qP G) v (c : Int) j = false) → ∀ l4 l5 l6 : gg_V, wy N xs (d + 4) 363 2 [gr g, (0, (v : Int)), (0, (c : Int)), (0, (a : Int)), l4, l5, l6] [] w fun o => o = ((1, (0, qfst (qhit G (qP G) v (c : Int)) (qK G))), w)) (qK G) (fun a ha ih hno l4 l5 l6 => ?_) (fun hno l4 l5 l6 => ?_) (fun j hj => absurd hj (Nat.not_lt_zero j)) _ _ _
  · have hAa := hA a ha
    obtain ⟨a1, a2, a3, a4, a5, a6⟩ := id hAa
    obtain ⟨f1, f2, f3, f4⟩ := hk a ha
    have e0 : io_add (a : Int) 1 = ((a + 1 : Nat) : Int) := by rw [io_add_o (by omega) (by omega)]; omega
    obtain ⟨pf1, pf2⟩ := yz_P hG (v := qF G a) (by omega)
    obtain ⟨pt1, pt2⟩ := yz_P hG (v := qT G a) (by omega)
    have hml : qM G * qL G ≤ 12 * 5 := Nat.mul_le_mul k4 k8
    obtain ⟨qf1, qf2⟩ := hp (qF G a) (by omega)
    obtain ⟨qt1, qt2⟩ := hp (qT G a) (by omega)
    have next : ∀ l5 l6 : gg_V, qhit G (qP G) v (c : Int) a = false → wy N xs (d + 4) 363 138 [gr g, (0, (v : Int)), (0, (c : Int)), (0, (a : Int)), gr (b a), l5, l6] [] w fun o => o = ((1, (0, qfst (qhit G (qP G) v (c : Int)) (qK G))), w) := by
      intro l5 l6 hf
      rw [ly_363_138, e0, ly_363_141]
      refine ih (fun j hj => ?_) _ _ _
      by_cases hja : j = a
      · rw [hja]
        exact hf
      · exact hno j (by omega)
    have s1 : ∀ l5 l6 : gg_V, wy N xs (d + 4) 363 47 [gr g, (0, (v : Int)), (0, (c : Int)), (0, (a : Int)), gr (b a), l5, l6] [] w (fun o => o = ((1, (0, qfst (qhit G (qP G) v (c : Int)) (qK G))), w)) ↔ wy N xs (d + 4) 363 80 [gr g, (0, (v : Int)), (0, (c : Int)), (0, (a : Int)), gr (b a), (0, qwith (qP G) v (c : Int) (qF G a)), l6] [] w (fun o => o = ((1, (0, qfst (qhit G (qP G) v (c : Int)) (qK G))), w)) := by
      intro l5 l6
      rw [ly_363_47 (by first | exact gl_gr | exact gl_r6 | exact gl_r7 | assumption | rfl), ly_363_49 (by assumption), a2, ly_363_52, ly_363_53 (by omega) (by omega) (by omega) (by omega)]
      by_cases hf : qF G a = v
      · simp only [show (qF G a : Int) = (v : Int) by omega, not_true_eq_false, true_implies, false_implies, and_true, true_and]
        rw [hf, qwith_e, ly_363_56, ly_363_57, ly_363_78 (by first | exact gl_gr | exact gl_r6 | exact gl_r7 | assumption | rfl)]
      · simp only [show ¬ ((qF G a : Int) = (v : Int)) by omega, not_false_eq_true, true_implies, false_implies, and_true, true_and]
        rw [qwith_n hf, ly_363_60 (by first | exact gl_gr | exact gl_r6 | exact gl_r7 | assumption | rfl), ly_363_61 (by assumption), g5, ly_363_64 (by first | exact gl_gr | exact gl_r6 | exact gl_r7 | assumption | rfl), ly_363_66 (by assumption), a2, ly_363_69 (by first | exact gl_gr | exact gl_r6 | exact gl_r7 | assumption | rfl) (by first | exact gl_cl (by assumption) rfl | exact gl_l6 (by omega) (by omega) | exact gl_l4 (by omega)), wv_get v2 f1, wz_1, ly_363_72 (by first | exact gl_c7 (by assumption) | exact gl_c14 (by assumption) | exact gl_c12 (by omega) (by omega)), ly_363_75 (by first | exact gl_gr | exact gl_r6 | exact gl_r7 | assumption | rfl) (by first | exact gl_cl (by assumption) rfl | exact gl_l6 (by omega) (by omega) | exact gl_l4 (by omega)), wy_int pf1 pf2, wz_1, ly_363_78 (by first | exact gl_gr | exact gl_r6 | exact gl_r7 | assumption | rfl)]
    have s2 : ∀ (x : Int) (l6 : gg_V), wy N xs (d + 4) 363 80 [gr g, (0, (v : Int)), (0, (c : Int)), (0, (a : Int)), gr (b a), (0, x), l6] [] w (fun o => o = ((1, (0, qfst (qhit G (qP G) v (c : Int)) (qK G))), w)) ↔ wy N xs (d + 4) 363 113 [gr g, (0, (v : Int)), (0, (c : Int)), (0, (a : Int)), gr (b a), (0, x), (0, qwith (qP G) v (c : Int) (qT G a))] [] w (fun o => o = ((1, (0, qfst (qhit G (qP G) v (c : Int)) (qK G))), w)) := by
      intro x l6
      rw [ly_363_80 (by first | exact gl_gr | exact gl_r6 | exact gl_r7 | assumption | rfl), ly_363_82 (by assumption), a3, ly_363_85, ly_363_86 (by omega) (by omega) (by omega) (by omega)]
      by_cases hf : qT G a = v
      · simp only [show (qT G a : Int) = (v : Int) by omega, not_true_eq_false, true_implies, false_implies, and_true, true_and]
        rw [hf, qwith_e, ly_363_89, ly_363_90, ly_363_111]
      · simp only [show ¬ ((qT G a : Int) = (v : Int)) by omega, not_false_eq_true, true_implies, false_implies, and_true, true_and]
        rw [qwith_n hf, ly_363_93 (by first | exact gl_gr | exact gl_r6 | exact gl_r7 | assumption | rfl), ly_363_94 (by assumption), g5, ly_363_97 (by first | exact gl_gr | exact gl_r6 | exact gl_r7 | assumption | rfl), ly_363_99 (by assumption), a3, ly_363_102 (by first | exact gl_gr | exact gl_r6 | exact gl_r7 | assumption | rfl) (by first | exact gl_cl (by assumption) rfl | exact gl_l6 (by omega) (by omega) | exact gl_l4 (by omega)), wv_get v2 f2, wz_1, ly_363_105 (by first | exact gl_c7 (by assumption) | exact gl_c14 (by assumption) | exact gl_c12 (by omega) (by omega)), ly_363_108 (by first | exact gl_gr | exact gl_r6 | exact gl_r7 | assumption | rfl) (by first | exact gl_cl (by assumption) rfl | exact gl_l6 (by omega) (by omega) | exact gl_l4 (by omega)), wy_int pt1 pt2, wz_1, ly_363_111]
    rw [ly_363_2, ly_363_3 (by first | exact gl_gr | exact gl_r6 | exact gl_r7 | assumption | rfl), ly_363_4 (by assumption), g4, ly_363_7 (by first | exact gl_gr | exact gl_r6 | exact gl_r7 | assumption | rfl) (by first | exact gl_cl (by assumption) rfl | exact gl_l6 (by omega) (by omega) | exact gl_l4 (by omega)), wv_size v1, wz_1, ly_363_10 (by omega) (by omega) (by omega) (by omega)]
    simp only [show (a : Int) < (qK G : Int) by omega, not_true_eq_false, true_implies, false_implies, and_true, true_and]
    rw [ly_363_13 (by first | exact gl_gr | exact gl_r6 | exact gl_r7 | assumption | rfl), ly_363_14 (by assumption), g4, ly_363_17, ly_363_18 (by first | exact gl_gr | exact gl_r6 | exact gl_r7 | assumption | rfl) (by first | exact gl_cl (by assumption) rfl | exact gl_l6 (by omega) (by omega) | exact gl_l4 (by omega)), wv_get v1 ha, wz_1, ly_363_21 (by first | exact gl_c7 (by assumption) | exact gl_c14 (by assumption) | exact gl_c12 (by omega) (by omega)), ly_363_24 (by first | exact gl_gr | exact gl_r6 | exact gl_r7 | assumption | rfl), ly_363_26 (by first | exact gl_gr | exact gl_r6 | exact gl_r7 | assumption | rfl), ly_363_28 (by assumption), a2, ly_363_31, ly_363_32 (by omega) (by omega) (by omega) (by omega)]
    by_cases hat : qF G a = v ∨ qT G a = v
    · have s0 : wy N xs (d + 4) 363 47 [gr g, (0, (v : Int)), (0, (c : Int)), (0, (a : Int)), gr (b a), l5, l6] [] w (fun o => o = ((1, (0, qfst (qhit G (qP G) v (c : Int)) (qK G))), w)) := by
        rw [s1, s2]
        have hwf : -1 ≤ qwith (qP G) v (c : Int) (qF G a) ∧ qwith (qP G) v (c : Int) (qF G a) ≤ 60 := by
          by_cases hf : qF G a = v
          · rw [hf, qwith_e]
            omega
          · rw [qwith_n hf]
            omega
        have hwt : -1 ≤ qwith (qP G) v (c : Int) (qT G a) ∧ qwith (qP G) v (c : Int) (qT G a) ≤ 60 := by
          by_cases hf : qT G a = v
          · rw [hf, qwith_e]
            omega
          · rw [qwith_n hf]
            omega
        by_cases hx : qwith (qP G) v (c : Int) (qF G a) < 0
        · have hhit : qhit G (qP G) v (c : Int) a = false := by
            unfold qhit qcl
            rw [decide_eq_false (fun z => z.1 (by omega)), Bool.and_false]
          rw [ly_363_113, ly_363_115 (by omega) (by omega)]
          simp only [hx, not_true_eq_false, true_implies, false_implies, and_true]
          exact next _ _ hhit
        · obtain ⟨x, hxx⟩ : ∃ x : Nat, qwith (qP G) v (c : Int) (qF G a) = (x : Int) := ⟨(qwith (qP G) v (c : Int) (qF G a)).toNat, by omega⟩
          rw [ly_363_113, ly_363_115 (by omega) (by omega)]
          simp only [hx, not_false_eq_true, true_implies, false_implies, true_and]
          rw [ly_363_118, ly_363_120 (by omega) (by omega)]
          by_cases hy : qwith (qP G) v (c : Int) (qT G a) < 0
          · have hhit : qhit G (qP G) v (c : Int) a = false := by
              unfold qhit qcl
              rw [decide_eq_false (fun z => z.2.1 (by omega)), Bool.and_false]
            simp only [hy, not_true_eq_false, true_implies, false_implies, and_true]
            exact next _ _ hhit
          · obtain ⟨y, hyy⟩ : ∃ y : Nat, qwith (qP G) v (c : Int) (qT G a) = (y : Int) := ⟨(qwith (qP G) v (c : Int) (qT G a)).toNat, by omega⟩
            simp only [hy, not_false_eq_true, true_implies, false_implies, true_and]
            have hhit := qhit_c hat hxx hyy
            rw [ly_363_123 (by first | exact gl_gr | exact gl_r6 | exact gl_r7 | assumption | rfl), ly_363_124 (by first | exact gl_gr | exact gl_r6 | exact gl_r7 | assumption | rfl), ly_363_126, ly_363_128, hxx, hyy, ly_363_130 (by first | exact gl_gr | exact gl_r6 | exact gl_r7 | assumption | rfl) (by first | exact gl_gr | exact gl_r6 | exact gl_r7 | assumption | rfl) (by first | exact gl_cl (by assumption) rfl | exact gl_l6 (by omega) (by omega) | exact gl_l4 (by omega)), yy_clash g0 g2 hAa k3 k4 f3 (by omega) (by omega), wz_1]
            cases hb : qclash (qM G) x y (qA G a)
            · rw [ly_363_133 (by decide) (by decide)]
              simp only [Bool.toNat_false, Int.natCast_zero, not_true_eq_false, true_implies, false_implies, and_true]
              exact next _ _ (hhit.trans hb)
            · rw [ly_363_133 (by decide) (by decide)]
              simp only [Bool.toNat_true, Int.natCast_one, Int.one_ne_zero, not_false_eq_true, true_implies, false_implies, true_and]
              rw [ly_363_136, ly_363_137, qfst_hit ha (hhit.trans hb) hno]
      by_cases hf : qF G a = v
      · simp only [show (qF G a : Int) = (v : Int) by omega, not_true_eq_false, true_implies, false_implies, and_true, true_and]
        exact s0
      · simp only [show ¬ ((qF G a : Int) = (v : Int)) by omega, not_false_eq_true, true_implies, false_implies, and_true, true_and]
        rw [ly_363_35 (by first | exact gl_gr | exact gl_r6 | exact gl_r7 | assumption | rfl), ly_363_37 (by assumption), a3, ly_363_40, ly_363_41 (by omega) (by omega) (by omega) (by omega)]
        simp only [show (qT G a : Int) = (v : Int) by omega, not_true_eq_false, true_implies, false_implies, and_true, true_and]
        exact s0
    · have hhit : qhit G (qP G) v (c : Int) a = false := by
        unfold qhit qat
        rw [decide_eq_false hat, Bool.false_and]
      simp only [show ¬ ((qF G a : Int) = (v : Int)) by omega, not_false_eq_true, true_implies, false_implies, and_true, true_and]
      rw [ly_363_35 (by first | exact gl_gr | exact gl_r6 | exact gl_r7 | assumption | rfl), ly_363_37 (by assumption), a3, ly_363_40, ly_363_41 (by omega) (by omega) (by omega) (by omega)]
      simp only [show ¬ ((qT G a : Int) = (v : Int)) by omega, not_false_eq_true, true_implies, false_implies, and_true, true_and]
      rw [ly_363_44]
      exact next _ _ hhit
  · rw [ly_363_2, ly_363_3 (by first | exact gl_gr | exact gl_r6 | exact gl_r7 | assumption | rfl), ly_363_4 (by assumption), g4, ly_363_7 (by first | exact gl_gr | exact gl_r6 | exact gl_r7 | assumption | rfl) (by first | exact gl_cl (by assumption) rfl | exact gl_l6 (by omega) (by omega) | exact gl_l4 (by omega)), wv_size v1, wz_1, ly_363_10 (by omega) (by omega) (by omega) (by omega)]
    simp only [show ¬ ((qK G : Int) < (qK G : Int)) by omega, not_false_eq_true, true_implies, false_implies, and_true, true_and]
    rw [ly_363_144, ly_363_145, qfst_none.2 hno]
end LR2
