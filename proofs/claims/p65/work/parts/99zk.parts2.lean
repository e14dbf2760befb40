/-! the law's Graph: parts, its loops -/
section LPC
variable {N : Nat} {xs : Nat → Int32} {d : Nat} {w0 w : gy_W} {Q : gy_O → Prop} {O : Nat → Nat} {g : Nat} {G : q_G} {la ea lp ep t : Nat} {b : Nat → Nat} {C S s v rl re l k u a : Nat} {r : Nat → Nat} {rb : Nat → Bool} {po lo ba : Nat → Nat} {bal : Bool} {l8 l9 l10 l11 l12 l13 l14 : gg_V}
theorem yb_arc (h : yGx w0 O g G la ea lp ep t b) (hG : q_ok G) (hs : s < 4096) (hS : yS w0 w G C S s v rl re l r rb po bal lo ba) (hu : rb u = true) (ha : a < qK G) (hv : v ≤ 8) (hkk : k ≤ 8)
    (hQ : ∀ w' re' l' r' rb' po' bal' l12 l13 l14, yS w0 w' G C S s v rl re' l' r' rb' po' bal' lo ba → (∀ way, way < 2 → bT G s rb' po' bal' u a way) → (∀ u' a' way', rb u' = true → bT G s rb po bal u' a' way' → bT G s rb' po' bal' u' a' way') → (∀ x, rb x = true → rb' x = true) → l ≤ l' → (∀ i, i < l → r' i = r i) →
      wy N xs (d + 6) 372 278 (yLo g s w0.2.2.1 v rl bal'.toNat k u a (b a) 2 l12 l13 l14) [] w' Q) : wy N xs (d + 6) 372 110 [gr g, (0, (s : Int)), gr (w0.2.2.1 + 1), gr (w0.2.2.1 + 5), (0, (v : Int)), gr rl, (0, (bal.toNat : Int)), (0, (k : Int)), (0, (u : Int)), (0, (a : Int)), l10, l11, l12, l13, l14] [] w Q := by
  have hg := h.fr0 hS.1
  obtain ⟨⟨g0, g1, g2, g3, g4, g5, g6⟩, ⟨v1, v2⟩, ⟨t1, t2⟩, hA, _, hD, o1, o2, o3, o4, o5, o6, o7⟩ := id hg
  have k5 := hG.1.2.2.2.2.1
  have a1 := (hA a ha).1
  have hla := v1.1
  rw [ly_372_110 (by first | exact gl_gr | exact gl_r6 | exact gl_r7 | assumption | rfl), ly_372_111 (by assumption), g4, ly_372_114, ly_372_116 (by first | exact gl_gr | exact gl_r6 | exact gl_r7 | assumption | rfl) (by first | exact gl_cl (by assumption) rfl | exact gl_l6 (by omega) (by omega) | exact gl_l4 (by omega)), wv_get v1 ha, wz_1, ly_372_119 (by first | exact gl_c7 (by assumption) | exact gl_c14 (by assumption) | exact gl_c12 (by omega) (by omega)), ly_372_122 (by first | exact gl_gr | exact gl_r6 | exact gl_r7 | assumption | rfl), ly_372_124, ly_372_125 (by first | exact gl_gr | exact gl_r6 | exact gl_r7 | assumption | rfl), ly_372_127, ly_372_129, ly_372_130 (by omega) (by omega) (by omega) (by omega)]
  simp only [show (0 : Int) < 2 by omega, not_true_eq_false, true_implies, false_implies, and_true, true_and]
  refine yb_step (way := 0) h hG hs hS hu ha (by decide) hv hkk fun w1 re1 l1 r1 rb1 po1 bal1 x12 x13 x14 hS1 hT1 hM1 hR1 hL1 hr1 => ?_
  unfold yLo
  rw [ly_372_272 (by first | exact gl_gr | exact gl_r6 | exact gl_r7 | assumption | rfl), show io_add ((0 : Nat) : Int) 1 = ((1 : Nat) : Int) from by decide, ly_372_275, ly_372_127, ly_372_129, ly_372_130 (by omega) (by omega) (by omega) (by omega)]
  simp only [show ((1 : Nat) : Int) < 2 by omega, not_true_eq_false, true_implies, false_implies, and_true, true_and]
  refine yb_step (way := 1) h hG hs hS1 (hR1 u hu) ha (by decide) hv hkk fun w2 re2 l2 r2 rb2 po2 bal2 y12 y13 y14 hS2 hT2 hM2 hR2 hL2 hr2 => ?_
  unfold yLo
  rw [ly_372_272 (by first | exact gl_gr | exact gl_r6 | exact gl_r7 | assumption | rfl), show io_add ((1 : Nat) : Int) 1 = ((2 : Nat) : Int) from by decide, ly_372_275, ly_372_127, ly_372_129, ly_372_130 (by omega) (by omega) (by omega) (by omega)]
  simp only [show ¬ (((2 : Nat) : Int) < 2) by omega, not_false_eq_true, true_implies, false_implies, and_true, true_and]
  refine hQ w2 re2 l2 r2 rb2 po2 bal2 _ _ _ hS2 (fun way hw => ?_) (fun u' a' way' h1 h2 => hM2 u' a' way' (hR1 u' h1) (hM1 u' a' way' h1 h2)) (fun x hx => hR2 x (hR1 x hx)) (by omega) fun i hi => (hr2 i (by omega)).trans (hr1 i hi)
  rcases (show way = 0 ∨ way = 1 by omega) with e | e
  · rw [e]
    exact hM2 u a 0 (hR1 u hu) hT1
  · rw [e]
    exact hT2
/-- one vertex of the row -/
theorem yb_row (h : yGx w0 O g G la ea lp ep t b) (hG : q_ok G) (hs : s < 4096) (hv : v ≤ 8) (hkk : k ≤ 8) (hS : yS w0 w G C S s v rl re l r rb po bal lo ba) (hkl : k < l) (hT : ∀ i, i < k → ∀ a, a < qK G → ∀ way, way < 2 → bT G s rb po bal (r i) a way)
    (hQ : ∀ w' re' l' r' rb' po' bal' l8 l9 l10 l11 l12 l13 l14, yS w0 w' G C S s v rl re' l' r' rb' po' bal' lo ba → k + 1 ≤ l' → (∀ i, i < k + 1 → ∀ a, a < qK G → ∀ way, way < 2 → bT G s rb' po' bal' (r' i) a way) →
      wy N xs (d + 6) 372 70 [gr g, (0, (s : Int)), gr (w0.2.2.1 + 1), gr (w0.2.2.1 + 5), (0, (v : Int)), gr rl, (0, (bal'.toNat : Int)), (0, ((k + 1 : Nat) : Int)), l8, l9, l10, l11, l12, l13, l14] [] w' Q) : wy N xs (d + 6) 372 80 [gr g, (0, (s : Int)), gr (w0.2.2.1 + 1), gr (w0.2.2.1 + 5), (0, (v : Int)), gr rl, (0, (bal.toNat : Int)), (0, (k : Int)), l8, l9, l10, l11, l12, l13, l14] [] w Q := by
  obtain ⟨k1, k2, k3, k4, k5, k6, k7, k8⟩ := hG.1
  have hVr := hS.2.2.2.1
  have hIr := hS.2.1
  have hrl := hVr.1
  have hrk := (hIr.2.1 k hkl).1
  rw [ly_372_80 (by first | exact gl_gr | exact gl_r6 | exact gl_r7 | assumption | rfl), ly_372_82, ly_372_84 (by first | exact gl_gr | exact gl_r6 | exact gl_r7 | assumption | rfl) (by first | exact gl_cl (by assumption) rfl | exact gl_l6 (by omega) (by omega) | exact gl_l4 (by omega)), wv_get hVr hkl, wz_1, ly_372_87 (by first | exact gl_c7 (by assumption) | exact gl_c14 (by assumption) | exact gl_c12 (by omega) (by omega)), ly_372_90 (by first | exact gl_gr | exact gl_r6 | exact gl_r7 | assumption | rfl) (by first | exact gl_cl (by assumption) rfl | exact gl_l6 (by omega) (by omega) | exact gl_l4 (by omega)), wy_int (by omega) (by omega), wz_1, ly_372_93, ly_372_95, ly_372_96]
  refine wl_for (P := fun a => ∀ (w' : gy_W) (re' l' : Nat) (r' : Nat → Nat) (rb' : Nat → Bool) (po' : Nat → Nat) (bal' : Bool) (l10 l11 l12 l13 l14 : gg_V), yS w0 w' G C S s v rl re' l' r' rb' po' bal' lo ba → l ≤ l' → (∀ i, i < l → r' i = r i) → rb' (r k) = true → (∀ i, i < k → ∀ a, a < qK G → ∀ way, way < 2 → bT G s rb' po' bal' (r i) a way) → (∀ a', a' < a → ∀ way, way < 2 → bT G s rb' po' bal' (r k) a' way) →
    wy N xs (d + 6) 372 98 [gr g, (0, (s : Int)), gr (w0.2.2.1 + 1), gr (w0.2.2.1 + 5), (0, (v : Int)), gr rl, (0, (bal'.toNat : Int)), (0, (k : Int)), (0, ((r k : Nat) : Int)), (0, (a : Int)), l10, l11, l12, l13, l14] [] w' Q) (qK G) (fun a ha ih w' re' l' r' rb' po' bal' l10 l11 l12 l13 l14 hS' hll hrr hrb hT' hTa => ?_) (fun w' re' l' r' rb' po' bal' l10 l11 l12 l13 l14 hS' hll hrr hrb hT' hTa => ?_) w re l r rb po bal _ _ _ _ _ hS (Nat.le_refl _) (fun _ _ => rfl) ((hIr.2.2.1 _).2 ⟨k, hkl, rfl⟩) hT (fun a' ha' => absurd ha' (Nat.not_lt_zero a'))
  · have hg := h.fr0 hS'.1
    obtain ⟨⟨g0, g1, g2, g3, g4, g5, g6⟩, ⟨v1, v2⟩, _⟩ := id hg
    have hla := v1.1
    rw [ly_372_98, ly_372_100 (by first | exact gl_gr | exact gl_r6 | exact gl_r7 | assumption | rfl), ly_372_101 (by assumption), g4, ly_372_104 (by first | exact gl_gr | exact gl_r6 | exact gl_r7 | assumption | rfl) (by first | exact gl_cl (by assumption) rfl | exact gl_l6 (by omega) (by omega) | exact gl_l4 (by omega)), wv_size v1, wz_1, ly_372_107 (by omega) (by omega) (by omega) (by omega)]
    simp only [show (a : Int) < (qK G : Int) by omega, not_true_eq_false, true_implies, false_implies, and_true, true_and]
    refine yb_arc h hG hs hS' hrb ha hv hkk fun w2 re2 l2 r2 rb2 po2 bal2 x12 x13 x14 hS2 hT2 hM2 hR2 hL2 hr2 => ?_
    unfold yLo
    have e0 : io_add (a : Int) 1 = ((a + 1 : Nat) : Int) := by rw [io_add_o (by omega) (by omega)]; omega
    rw [ly_372_278, e0, ly_372_281]
    have hrbi : ∀ i, i < k → rb' (r i) = true := fun i hi => (hS'.2.1.2.2.1 _).2 ⟨i, by omega, hrr i (by omega)⟩
    refine ih w2 re2 l2 r2 rb2 po2 bal2 _ _ _ _ _ hS2 (by omega) (fun i hi => (hr2 i (by omega)).trans (hrr i hi)) (hR2 _ hrb) (fun i hi a' ha' way hw => hM2 _ _ _ (hrbi i hi) (hT' i hi a' ha' way hw)) (fun a' ha' way hw => ?_)
    by_cases e : a' = a
    · rw [e]
      exact hT2 way hw
    · exact hM2 _ _ _ hrb (hTa a' (by omega) way hw)
  · have hg := h.fr0 hS'.1
    obtain ⟨⟨g0, g1, g2, g3, g4, g5, g6⟩, ⟨v1, v2⟩, _⟩ := id hg
    have hla := v1.1
    have e0 : io_add (k : Int) 1 = ((k + 1 : Nat) : Int) := by rw [io_add_o (by omega) (by omega)]; omega
    rw [ly_372_98, ly_372_100 (by first | exact gl_gr | exact gl_r6 | exact gl_r7 | assumption | rfl), ly_372_101 (by assumption), g4, ly_372_104 (by first | exact gl_gr | exact gl_r6 | exact gl_r7 | assumption | rfl) (by first | exact gl_cl (by assumption) rfl | exact gl_l6 (by omega) (by omega) | exact gl_l4 (by omega)), wv_size v1, wz_1, ly_372_107 (by omega) (by omega) (by omega) (by omega)]
    simp only [show ¬ ((qK G : Int) < (qK G : Int)) by omega, not_false_eq_true, true_implies, false_implies, and_true, true_and]
    rw [ly_372_284, e0, ly_372_287]
    refine hQ w' re' l' r' rb' po' bal' _ _ _ _ _ _ _ hS' (by omega) fun i hi a ha way hw => ?_
    rw [hrr i (by omega)]
    by_cases e : i = k
    · rw [e]
      exact hTa a ha way hw
    · exact hT' i (by omega) a ha way hw
/-- the whole row -/
theorem yb_comp (h : yGx w0 O g G la ea lp ep t b) (hG : q_ok G) (hs : s < 4096) (hv : v ≤ 8) (hl : pl (qPs G s) v = v) (hS : yS w0 w G C S s v rl re l r rb po bal lo ba)
    (hQ : ∀ w' re' l' r' rb' po' k l8 l9 l10 l11 l12 l13 l14, yS w0 w' G C S s v rl re' l' r' rb' po' (pb (qPs G s) v) lo ba → (∀ u, rb' u = true ↔ pl (qPs G s) u = v) →
      wy N xs (d + 6) 372 290 [gr g, (0, (s : Int)), gr (w0.2.2.1 + 1), gr (w0.2.2.1 + 5), (0, (v : Int)), gr rl, (0, ((pb (qPs G s) v).toNat : Int)), (0, ((k : Nat) : Int)), l8, l9, l10, l11, l12, l13, l14] [] w' Q) : wy N xs (d + 6) 372 70 [gr g, (0, (s : Int)), gr (w0.2.2.1 + 1), gr (w0.2.2.1 + 5), (0, (v : Int)), gr rl, (0, (bal.toNat : Int)), (0, 0), l8, l9, l10, l11, l12, l13, l14] [] w Q := by
  obtain ⟨k1, k2, k3, k4, k5, k6, k7, k8⟩ := hG.1
  have exit : ∀ (k : Nat) (w' : gy_W) (re' l' : Nat) (r' : Nat → Nat) (rb' : Nat → Bool) (po' : Nat → Nat) (bal' : Bool) (l8 l9 l10 l11 l12 l13 l14 : gg_V), yS w0 w' G C S s v rl re' l' r' rb' po' bal' lo ba → k = l' → (∀ i, i < k → ∀ a, a < qK G → ∀ way, way < 2 → bT G s rb' po' bal' (r' i) a way) →
    wy N xs (d + 6) 372 70 [gr g, (0, (s : Int)), gr (w0.2.2.1 + 1), gr (w0.2.2.1 + 5), (0, (v : Int)), gr rl, (0, (bal'.toNat : Int)), (0, (k : Int)), l8, l9, l10, l11, l12, l13, l14] [] w' Q := by
    intro k w' re' l' r' rb' po' bal' l8 l9 l10 l11 l12 l13 l14 hS' hkl hT
    subst hkl
    have hVr := hS'.2.2.2.1
    have hrl := hVr.1
    have hlen := hS'.2.1.len
    obtain ⟨e1, e2⟩ := hS'.2.1.fin hG hl hT
    rw [ly_372_70, ly_372_72 (by first | exact gl_gr | exact gl_r6 | exact gl_r7 | assumption | rfl), ly_372_74 (by first | exact gl_gr | exact gl_r6 | exact gl_r7 | assumption | rfl) (by first | exact gl_cl (by assumption) rfl | exact gl_l6 (by omega) (by omega) | exact gl_l4 (by omega)), wv_size hVr, wz_1, ly_372_77 (by omega) (by omega) (by omega) (by omega)]
    simp only [show ¬ ((k : Int) < (k : Int)) by omega, not_false_eq_true, true_implies, false_implies, and_true, true_and]
    subst e2
    exact hQ w' re' k r' rb' po' k _ _ _ _ _ _ _ hS' e1
  refine wl_for (P := fun k => ∀ (w' : gy_W) (re' l' : Nat) (r' : Nat → Nat) (rb' : Nat → Bool) (po' : Nat → Nat) (bal' : Bool) (l8 l9 l10 l11 l12 l13 l14 : gg_V), yS w0 w' G C S s v rl re' l' r' rb' po' bal' lo ba → k ≤ l' → (∀ i, i < k → ∀ a, a < qK G → ∀ way, way < 2 → bT G s rb' po' bal' (r' i) a way) →
    wy N xs (d + 6) 372 70 [gr g, (0, (s : Int)), gr (w0.2.2.1 + 1), gr (w0.2.2.1 + 5), (0, (v : Int)), gr rl, (0, (bal'.toNat : Int)), (0, (k : Int)), l8, l9, l10, l11, l12, l13, l14] [] w' Q) (qN G) (fun k hk ih w' re' l' r' rb' po' bal' l8 l9 l10 l11 l12 l13 l14 hS' hkl hT => ?_) (fun w' re' l' r' rb' po' bal' l8 l9 l10 l11 l12 l13 l14 hS' hkl hT => ?_) w re l r rb po bal _ _ _ _ _ _ _ hS (Nat.zero_le _) (fun i hi => absurd hi (Nat.not_lt_zero i))
  · by_cases e : k = l'
    · exact exit k w' re' l' r' rb' po' bal' _ _ _ _ _ _ _ hS' e hT
    · have hVr := hS'.2.2.2.1
      have hrl := hVr.1
      have hlen := hS'.2.1.len
      rw [ly_372_70, ly_372_72 (by first | exact gl_gr | exact gl_r6 | exact gl_r7 | assumption | rfl), ly_372_74 (by first | exact gl_gr | exact gl_r6 | exact gl_r7 | assumption | rfl) (by first | exact gl_cl (by assumption) rfl | exact gl_l6 (by omega) (by omega) | exact gl_l4 (by omega)), wv_size hVr, wz_1, ly_372_77 (by omega) (by omega) (by omega) (by omega)]
      simp only [show (k : Int) < (l' : Int) by omega, not_true_eq_false, true_implies, false_implies, and_true, true_and]
      exact yb_row h hG hs hv (by omega) hS' (by omega) hT fun w2 re2 l2 r2 rb2 po2 bal2 x8 x9 x10 x11 x12 x13 x14 hS2 h2 hT2 => ih w2 re2 l2 r2 rb2 po2 bal2 _ _ _ _ _ _ _ hS2 h2 hT2
  · have hlen := hS'.2.1.len
    exact exit _ w' re' l' r' rb' po' bal' _ _ _ _ _ _ _ hS' (by omega) hT
end LPC
