/-! the law's Graph: parts, the whole; balanced, rank, closure -/
def loW (r : Nat → Nat) (x : Nat) (lo : Nat → Nat) : Nat → Nat → Nat
  | 0 => lo
  | j + 1 => qup (loW r x lo j) (r j) x
theorem loW_in {r : Nat → Nat} {x : Nat} {lo : Nat → Nat} {j u : Nat} (h : ∃ i, i < j ∧ r i = u) : loW r x lo j u = x := by
  induction j with
  | zero => obtain ⟨i, hi, _⟩ := h; omega
  | succ j ih =>
    show qup _ _ _ _ = _
    by_cases e : u = r j
    · rw [e, qup_e]
    · rw [qup_n e]
      obtain ⟨i, hi, hr⟩ := h
      refine ih ⟨i, ?_, hr⟩
      have : i ≠ j := by
        rintro rfl
        exact e hr.symm
      omega
theorem loW_out {r : Nat → Nat} {x : Nat} {lo : Nat → Nat} {j u : Nat} (h : ∀ i, i < j → r i ≠ u) : loW r x lo j u = lo u := by
  induction j with
  | zero => rfl
  | succ j ih =>
    show qup _ _ _ _ = _
    rw [qup_n (Ne.symm (h j (by omega)))]
    exact ih fun i hi => h i (by omega)
section LPD
variable {N : Nat} {xs : Nat → Int32} {d : Nat} {w0 w : gy_W} {Q : gy_O → Prop} {O : Nat → Nat} {g : Nat} {G : q_G} {la ea lp ep t : Nat} {b : Nat → Nat} {C S s v rl re l k : Nat} {r : Nat → Nat} {rb : Nat → Bool} {po lo ba : Nat → Nat} {bal : Bool} {l5 l6 l7 l8 l9 l10 l11 l12 l13 l14 : gg_V}
theorem yb_write (hG : q_ok G) (hv : v ≤ 8) (hS : yS w0 w G C S s v rl re l r rb po bal lo ba)
    (hQ : ∀ w' l7 l8, yF (fun _ => False) (C + l + 1) (S + 15 * l + 8) w0 w' → yB w' w0.2.2.1 (qN G) (loW r v lo l) po (loW r bal.toNat ba l) (fun u => decide (pl (qPs G s) u < v) || rb u) → w0.2.2.1 + 5 ≤ w'.2.2.1 → 
      wy N xs (d + 6) 372 341 [gr g, (0, (s : Int)), gr (w0.2.2.1 + 1), gr (w0.2.2.1 + 5), (0, (v : Int)), gr rl, (0, (bal.toNat : Int)), l7, l8, l9, l10, l11, l12, l13, l14] [] w' Q) : wy N xs (d + 6) 372 290 [gr g, (0, (s : Int)), gr (w0.2.2.1 + 1), gr (w0.2.2.1 + 5), (0, (v : Int)), gr rl, (0, (bal.toNat : Int)), (0, (k : Int)), l8, l9, l10, l11, l12, l13, l14] [] w Q := by
  obtain ⟨k1, k2, k3, k4, k5, k6, k7, k8⟩ := hG.1
  obtain ⟨hF, hI, hB, hV, hsep, hc5⟩ := hS
  have hrl := hV.1
  have hlen := hI.len
  have hbal : (bal.toNat : Int) ≤ 1 := by cases bal <;> decide
  rw [ly_372_290 (by first | exact gl_gr | exact gl_r6 | exact gl_r7 | assumption | rfl), ly_372_292 (by first | exact gl_gr | exact gl_r6 | exact gl_r7 | assumption | rfl) (by first | exact gl_cl (by assumption) rfl | exact gl_l6 (by omega) (by omega) | exact gl_l4 (by omega))]
  refine wv_iter hrl hV.2.2.2.2.1 hV.2.2.2.1 (fun w1 hF1 hc1 hI1 => ?_) (by obtain ⟨m, hm, _⟩ := hV.2.2.1; exact ⟨m, hm⟩)
  rw [wz_1, ly_372_295 (by first | exact gl_gr | exact gl_r6 | exact gl_r7 | assumption | rfl)]
  have hV1 := hV.fr hF1 id id
  refine wl_for (P := fun j => ∀ (w' : gy_W) (l8 : gg_V), yF (fun x => w0.2.2.1 < x ∧ x ≤ w0.2.2.1 + 5 ∨ x = w.2.2.1 + 1) 0 0 w1 w' → yI w' (w.2.2.1 + 1) rl j → yB w' w0.2.2.1 (qN G) (loW r v lo j) po (loW r bal.toNat ba j) (fun u => decide (pl (qPs G s) u < v) || rb u) →
    wy N xs (d + 6) 372 297 [gr g, (0, (s : Int)), gr (w0.2.2.1 + 1), gr (w0.2.2.1 + 5), (0, (v : Int)), gr rl, (0, (bal.toNat : Int)), gr (w.2.2.1 + 1), l8, l9, l10, l11, l12, l13, l14] [] w' Q) l (fun j hj ih w' l8 hF' hI' hB' => ?_) (fun w' l8 hF' hI' hB' => ?_) w1 _ yF.rf hI1 (hB.fr hF1 (by omega) fun _ _ _ => id)
  · have hV' := hV1.fr hF' (by have := hV.2.2.2.2.1; omega) (by have := hV.2.2.2.2.2.2.1; omega)
    have hi1 := hI'.1
    have hrj := (hI.2.1 j hj).1
    rw [ly_372_297 (by first | exact gl_gr | exact gl_r6 | exact gl_r7 | assumption | rfl), ly_372_299 (by first | exact gl_gr | exact gl_r6 | exact gl_r7 | assumption | rfl) (by first | exact gl_cl (by assumption) rfl | exact gl_l6 (by omega) (by omega) | exact gl_l4 (by omega)), wv_hasNext hI' hV' (by omega) (by omega), if_neg (by omega), wz_1, ly_372_304 (by omega) (by omega)]
    simp only [show ¬ ((1 : Int) = 0) by omega, not_false_eq_true, true_implies, false_implies, and_true, true_and]
    rw [ly_372_307 (by first | exact gl_gr | exact gl_r6 | exact gl_r7 | assumption | rfl), ly_372_309 (by first | exact gl_gr | exact gl_r6 | exact gl_r7 | assumption | rfl) (by first | exact gl_cl (by assumption) rfl | exact gl_l6 (by omega) (by omega) | exact gl_l4 (by omega))]
    refine wv_next hI' hV' hj (by have := hV.2.2.2.2.2.2.1; omega) fun w2 hF2 hc2 hI2 => ?_
    have hle1 := hF1.le
    have hle' := hF'.le
    have hB2 := hB'.fr hF2 (by omega) fun x h1 h2 z => by
      have e : x = w.2.2.1 + 1 := z
      omega
    obtain ⟨⟨x1, x2, x3, x4⟩, ⟨x5, x6, x7, x8⟩, _⟩ := id hB2
    have e3 : (((r j : Nat) : Int)).toNat = r j := Int.toNat_natCast _
    rw [wz_1, ly_372_314 (by first | exact gl_c7 (by assumption) | exact gl_c14 (by assumption) | exact gl_c12 (by omega) (by omega)), ly_372_317 (by first | exact gl_gr | exact gl_r6 | exact gl_r7 | assumption | rfl) (by first | exact gl_cl (by assumption) rfl | exact gl_l6 (by omega) (by omega) | exact gl_l4 (by omega)), wy_int (by omega) (by omega), wz_1, ly_372_320 (by first | exact gl_gr | exact gl_r6 | exact gl_r7 | assumption | rfl), ly_372_322 (by first | exact gl_gr | exact gl_r6 | exact gl_r7 | assumption | rfl), ly_372_323, ly_372_324 x1 rfl (by decide) (by decide) (by decide) (by show gy_rr (w2.2.1 (w0.2.2.1 + 1) 0) = true; rw [x2]; rfl), show (0 : Int).toNat = 0 from rfl, x2, ly_372_325, ly_372_327, ly_372_329 x5 (by omega) (by omega) (by omega), e3]
    have hB3 := hB2.slo (i := r j) (x := v)
    have hF3 : yF (fun x => w0.2.2.1 < x ∧ x ≤ w0.2.2.1 + 5 ∨ x = w.2.2.1 + 1) 0 0 w2 (w2.1, gy_up w2.2.1 (w0.2.2.1 + 2) (r j) (0, (v : Int)), w2.2.2) := yF.u yF.rf fun _ => Or.inl ⟨by omega, by omega⟩
    have hI3 : yI (w2.1, gy_up w2.2.1 (w0.2.2.1 + 2) (r j) (0, (v : Int)), w2.2.2) (w.2.2.1 + 1) rl (j + 1) := hI2.fr (yF.u (P := fun x => x = w0.2.2.1 + 2) yF.rf fun _ => rfl) (by omega) (by omega) (by have := hV.2.2.2.2.1; have := hF2.le; omega)
    generalize ((w2.1, gy_up w2.2.1 (w0.2.2.1 + 2) (r j) (0, (v : Int)), w2.2.2) : gy_W) = w3 at hB3 hF3 hI3
    obtain ⟨⟨y1, y2, y3, y4⟩, ⟨y5, y6, y7, y8⟩, _⟩ := id hB3
    rw [ly_372_330 (by first | exact gl_gr | exact gl_r6 | exact gl_r7 | assumption | rfl), ly_372_331, ly_372_332 y1 rfl (by decide) (by decide) (by decide) (by show gy_rr (w3.2.1 (w0.2.2.1 + 1) 2) = true; rw [y4]; rfl), show (2 : Int).toNat = 2 from rfl, y4, ly_372_333, ly_372_335, ly_372_337 y7 (by omega) (by omega) (by omega), e3, ly_372_338]
    have hB4 := hB3.sba (i := r j) (x := bal.toNat)
    have hI4 : yI (w3.1, gy_up w3.2.1 (w0.2.2.1 + 4) (r j) (0, (bal.toNat : Int)), w3.2.2) (w.2.2.1 + 1) rl (j + 1) := hI3.fr (yF.u (P := fun x => x = w0.2.2.1 + 4) yF.rf fun _ => rfl) (by omega) (by omega) (by have := hV.2.2.2.2.1; have := hF2.le; have := hF3.le; omega)
    refine ih _ _ (yF.u ((hF'.tr hF2 fun x _ z => Or.inr z).tt hF3) fun _ => Or.inl ⟨by omega, by omega⟩) hI4 hB4
  · have hV' := hV1.fr hF' (by have := hV.2.2.2.2.1; omega) (by have := hV.2.2.2.2.2.2.1; omega)
    have hi1 := hI'.1
    have hle1 := hF1.le
    have hle' := hF'.le
    rw [ly_372_297 (by first | exact gl_gr | exact gl_r6 | exact gl_r7 | assumption | rfl), ly_372_299 (by first | exact gl_gr | exact gl_r6 | exact gl_r7 | assumption | rfl) (by first | exact gl_cl (by assumption) rfl | exact gl_l6 (by omega) (by omega) | exact gl_l4 (by omega)), wv_hasNext hI' hV' (by omega) (by omega), if_pos rfl, wz_1, ly_372_304 (by omega) (by omega)]
    simp only [not_true_eq_false, true_implies, false_implies, and_true]
    exact hQ w' _ _ ((hF.tt hF1).tr hF' fun x hx z => by omega) hB' (by omega)
/-- what parts comes to -/
theorem yb_parts (h : yGx w O g G la ea lp ep t b) (hG : q_ok G) (hs : s < 4096) (hQ : ∀ w' po me, yF (fun _ => False) 85 1155 w w' → yB w' w.2.2.1 (qN G) (pl (qPs G s)) po (fun u => (pb (qPs G s) (pl (qPs G s) u)).toNat) me → Q ((1, gr (w.2.2.1 + 1)), w')) :
    wy N xs (d + 6) 372 0 [gr g, (0, (s : Int)), (3, 0), (3, 0), (3, 0), (3, 0), (3, 0), (3, 0), (3, 0), (3, 0), (3, 0), (3, 0), (3, 0), (3, 0), (3, 0)] [] w Q := by
  have hg141 := h.2.2.2.2.2.2.1.2
  obtain ⟨⟨g0, g1, g2, g3, g4, g5, g6⟩, ⟨v1, v2⟩, _⟩ := id h
  obtain ⟨k1, k2, k3, k4, k5, k6, k7, k8⟩ := hG.1
  have hok := p_r_ok hG (bE G s)
  rw [ly_372_0, ly_372_1 (by first | exact gl_gr | exact gl_r6 | exact gl_r7 | assumption | rfl), ly_372_2 (by assumption), g1, ly_372_5 (by omega)]
  have hF1 := yF_Mna (w := w) (k := qN G)
  have x1 : (yMna w (qN G)).1 (w.2.2.1 + 1) = (5, 3, 25) := if_pos rfl
  have xr : ∀ j, j < 3 → (yMna w (qN G)).2.1 (w.2.2.1 + 1) j = gr (w.2.2.1 + 2 + j) := fun j hj => by
    show (if w.2.2.1 + 1 = w.2.2.1 + 1 then ((2, if j < 3 then ((w.2.2.1 + 2 + j : Nat) : Int) else -1) : gg_V) else _) = _
    rw [if_pos rfl, if_pos hj]
    rfl
  have xs' : ∀ j, w.2.2.1 + 1 < j → j ≤ w.2.2.1 + 4 → (yMna w (qN G)).1 j = (1, qN G, 0) := fun j h1 h2 => by
    show (if j = w.2.2.1 + 1 then _ else if w.2.2.1 + 1 < j ∧ j ≤ w.2.2.1 + 1 + 3 then ((1, qN G, 0) : Nat × Nat × Nat) else _) = _
    rw [if_neg (by omega), if_pos ⟨h1, by omega⟩]
  have xm : ∀ j u, w.2.2.1 + 1 < j → j ≤ w.2.2.1 + 4 → (yMna w (qN G)).2.1 j u = (0, 0) := fun j u h1 h2 => by
    show (if j = w.2.2.1 + 1 then _ else if w.2.2.1 + 1 < j ∧ j ≤ w.2.2.1 + 1 + 3 then ((0, 0) : gg_V) else _) = _
    rw [if_neg (by omega), if_pos ⟨h1, by omega⟩]
  have xc : (yMna w (qN G)).2.2.1 = w.2.2.1 + 4 := rfl
  have y1 := xr 0 (by decide)
  have y2 := xr 1 (by decide)
  have y3 := xr 2 (by decide)
  generalize yMna w (qN G) = w1 at hF1 x1 xr xs' xm xc y1 y2 y3
  have g01 : w1.1 g = (0, 0, 14) := (hF1.sh hg141.2).trans g0
  have g11 : w1.2.1 g 0 = (0, (qN G : Int)) := by rw [hF1.me hg141.2 id]; exact g1
  rw [ly_372_9 (by first | exact gl_gr | exact gl_r6 | exact gl_r7 | assumption | rfl), ly_372_10 (by first | exact gl_gr | exact gl_r6 | exact gl_r7 | assumption | rfl), ly_372_11 (by assumption), g11, ly_372_14 (by omega) (by omega), Int.toNat_natCast, xc]
  have hF2 := (hF1.mk (x := (2, qN G, 0)) (g := fun _ => gy_de 2) (n := qN G))
  have hF12 := ((yF.rf (P := fun _ => False) (w := w1)).mk (x := (2, qN G, 0)) (g := fun _ => gy_de 2) (n := qN G))
  have z1 : (gy_mk w1 (2, qN G, 0) (fun _ => gy_de 2) (qN G)).1 (w.2.2.1 + 5) = (2, qN G, 0) := by
    rw [show w.2.2.1 + 5 = w1.2.2.1 + 1 by omega]
    exact gy_mk_s
  have z2 : ∀ u, (gy_mk w1 (2, qN G, 0) (fun _ => gy_de 2) (qN G)).2.1 (w.2.2.1 + 5) u = (0, 0) := fun u => by
    rw [show w.2.2.1 + 5 = w1.2.2.1 + 1 by omega]
    exact gy_mk_m
  have zc : (gy_mk w1 (2, qN G, 0) (fun _ => gy_de 2) (qN G)).2.2.1 = w.2.2.1 + 5 := by
    show w1.2.2.1 + 1 = _
    omega
  generalize gy_mk w1 (2, qN G, 0) (fun _ => gy_de 2) (qN G) = w2 at hF2 hF12 z1 z2 zc
  have hB2 : yB w2 w.2.2.1 (qN G) (fun _ => 0) (fun _ => 0) (fun _ => 0) (fun u => decide (pl (qPs G s) u < 0)) := by
    refine ⟨⟨?_, ?_, ?_, ?_⟩, ⟨?_, ?_, ?_, z1⟩, fun u hu => ?_, fun u hu => ?_, fun u hu => ?_, fun u hu => ?_⟩
    · exact (hF12.sh (by omega)).trans x1
    · rw [hF12.me (by omega) id]; exact y1
    · rw [hF12.me (by omega) id]; exact y2
    · rw [hF12.me (by omega) id]; exact y3
    · exact (hF12.sh (by omega)).trans (xs' _ (by omega) (by omega))
    · exact (hF12.sh (by omega)).trans (xs' _ (by omega) (by omega))
    · exact (hF12.sh (by omega)).trans (xs' _ (by omega) (by omega))
    · rw [hF12.me (by omega) id]; exact xm _ _ (by omega) (by omega)
    · rw [hF12.me (by omega) id]; exact xm _ _ (by omega) (by omega)
    · rw [hF12.me (by omega) id]; exact xm _ _ (by omega) (by omega)
    · rw [z2]
      show ((0, 0) : gg_V) = (0, (((decide (pl (qPs G s) u < 0)).toNat : Nat) : Int))
      rw [decide_eq_false (Nat.not_lt_zero _)]
      rfl
  rw [show w.2.2.1 + 4 + 1 = w.2.2.1 + 5 from rfl, ly_372_16 (by first | exact gl_gr | exact gl_r6 | exact gl_r7 | assumption | rfl) (by first | exact gl_gr | exact gl_r6 | exact gl_r7 | assumption | rfl), ly_372_17, ly_372_18 (by first | exact gl_gr | exact gl_r6 | exact gl_r7 | assumption | rfl)]
  refine wl_for (P := fun v => ∀ (w' : gy_W) (lo po ba : Nat → Nat) (l5 l6 l7 l8 l9 l10 l11 l12 l13 l14 : gg_V), yF (fun _ => False) (5 + 10 * v) (35 + 140 * v) w w' → yB w' w.2.2.1 (qN G) lo po ba (fun u => decide (pl (qPs G s) u < v)) → (∀ u, pl (qPs G s) u < v → lo u = pl (qPs G s) u ∧ ba u = (pb (qPs G s) (pl (qPs G s) u)).toNat) → (∀ u, v ≤ pl (qPs G s) u → po u = 0) → w.2.2.1 + 5 ≤ w'.2.2.1 →
    wy N xs (d + 6) 372 20 [gr g, (0, (s : Int)), gr (w.2.2.1 + 1), gr (w.2.2.1 + 5), (0, (v : Int)), l5, l6, l7, l8, l9, l10, l11, l12, l13, l14] [] w' Q) (qN G) (fun v hv ih w' lo po ba l5 l6 l7 l8 l9 l10 l11 l12 l13 l14 hF hB hlo hpo hc5 => ?_) (fun w' lo po ba l5 l6 l7 l8 l9 l10 l11 l12 l13 l14 hF hB hlo hpo hc5 => ?_) w2 _ _ _ _ _ _ _ _ _ _ _ _ _ (hF2.wk (fun _ _ z => z) (by omega) (by omega)) hB2 (fun u hu => absurd hu (Nat.not_lt_zero _)) (fun _ _ => rfl) (by omega)
  · have g0' : w'.1 g = (0, 0, 14) := (hF.sh hg141.2).trans g0
    have g1' : w'.2.1 g 0 = (0, (qN G : Int)) := by rw [hF.me hg141.2 id]; exact g1
    obtain ⟨⟨b1, b2, b3, b4⟩, ⟨b5, b6, b7, b8⟩, m1, m2, m3, m4⟩ := id hB
    have e0 : io_add (v : Int) 1 = ((v + 1 : Nat) : Int) := by rw [io_add_o (by omega) (by omega)]; omega
    have e1 : ((v : Int)).toNat = v := Int.toNat_natCast v
    have e2 : (w'.2.1 (w.2.2.1 + 5) v).2 = ((decide (pl (qPs G s) v < v)).toNat : Int) := by rw [m4 v hv]
    rw [ly_372_20, ly_372_22 (by first | exact gl_gr | exact gl_r6 | exact gl_r7 | assumption | rfl), ly_372_23 (by assumption), g1', ly_372_26 (by omega) (by omega) (by omega) (by omega)]
    simp only [show (v : Int) < (qN G : Int) by omega, not_true_eq_false, true_implies, false_implies, and_true, true_and]
    rw [ly_372_29 (by first | exact gl_gr | exact gl_r6 | exact gl_r7 | assumption | rfl), ly_372_30, ly_372_32 (by omega) b8 (by omega) (by omega) (by omega), e1, e2]
    have hple := (hok v).1
    by_cases hm : pl (qPs G s) v < v
    · rw [decide_eq_true hm, Bool.toNat_true, ly_372_33 (by omega) (by omega)]
      simp only [show ¬ (((1 : Nat) : Int) = 0) by omega, not_false_eq_true, true_implies, false_implies, and_true, true_and]
      rw [ly_372_36, ly_372_341 (by first | exact gl_gr | exact gl_r6 | exact gl_r7 | assumption | rfl), e0, ly_372_344]
      have hne : ∀ u, pl (qPs G s) u ≠ v := fun u z => by
        have := (hok u).2.1
        rw [z] at this
        omega
      refine ih w' lo po ba _ _ _ _ _ _ _ _ _ _ (hF.wk (fun _ _ z => z) (by omega) (by omega)) (hB.cg (fun _ _ => rfl) (fun _ _ => rfl) (fun _ _ => rfl) fun u _ => ?_) (fun u hu => hlo u (by have := hne u; omega)) (fun u hu => hpo u (by omega)) hc5
      have := hne u
      exact decide_eq_decide.2 ⟨fun z => by omega, fun z => by omega⟩
    · have hroot : pl (qPs G s) v = v := by omega
      rw [decide_eq_false hm, Bool.toNat_false, ly_372_33 (by omega) (by omega)]
      simp only [show ((0 : Nat) : Int) = 0 by omega, not_true_eq_false, true_implies, false_implies, and_true, true_and]
      rw [ly_372_39]
      have hF3 := hF.new (cl := 15) (g := fun j => gy_df (gg_ft 15 j)) nf_15
      have hF13 := (yF.rf (P := fun _ => False) (w := w')).new (cl := 15) (g := fun j => gy_df (gg_ft 15 j)) nf_15
      have s3 : (gy_mk w' (0, 0, 15) (fun j => gy_df (gg_ft 15 j)) (gg_nf 15)).1 (w'.2.2.1 + 1) = (0, 0, 15) := gy_mk_s
      have z3 : (gy_mk w' (0, 0, 15) (fun j => gy_df (gg_ft 15 j)) (gg_nf 15)).2.1 (w'.2.2.1 + 1) 2 = (0, 0) := gy_mk_m
      have c3 : (gy_mk w' (0, 0, 15) (fun j => gy_df (gg_ft 15 j)) (gg_nf 15)).2.2.1 = w'.2.2.1 + 1 := rfl
      generalize gy_mk w' (0, 0, 15) (fun j => gy_df (gg_ft 15 j)) (gg_nf 15) = w3 at hF3 hF13 s3 z3 c3
      rw [ly_372_42 (by first | exact gl_gr | exact gl_r6 | exact gl_r7 | assumption | rfl), ly_372_43]
      refine wv_ctor s3 z3 (by omega) (by omega) fun w4 hF4 c4 hV4 h74 => ?_
      have c4' : w4.2.2.1 = w'.2.2.1 + 1 := by rw [c4]; exact c3
      have hF04 := hF3.tr hF4 fun x hx z => by
        have e : x = w'.2.2.1 + 1 := z
        have := hF.le
        omega
      have hF14 := hF13.tr hF4 fun x hx z => by
        have e : x = w'.2.2.1 + 1 := z
        omega
      have hrl := (hV4 fun _ => (0, 0)).1
      rw [wz_0, ly_372_46 (by first | exact gl_gr | exact gl_r6 | exact gl_r7 | assumption | rfl), ly_372_48 (by first | exact gl_gr | exact gl_r6 | exact gl_r7 | assumption | rfl), ly_372_50, ly_372_52, wy_val (by omega) (by omega), wz_1, ly_372_55 (by first | exact gl_gr | exact gl_r6 | exact gl_r7 | assumption | rfl) (by first | exact gl_gr | exact gl_r6 | exact gl_r7 | assumption | rfl) (by first | exact gl_cl (by assumption) rfl | exact gl_l6 (by omega) (by omega) | exact gl_l4 (by omega))]
      refine wv_add (hV4 fun _ => (0, 0)) (by omega) (yE.i (by omega) (by omega)) fun w5 re hre hF5 hV5 => ?_
      have hle5 := hF5.le
      have hF15 := hF14.tr hF5 fun x hx z => by
        rcases z with z | z <;> omega
      have hF05 := hF04.tr hF5 fun x hx z => by
        have := hF.le
        rcases z with z | z <;> omega
      have hB5 := hB.fr hF15 hc5 fun _ _ _ => id
      obtain ⟨_, ⟨_, _, _, b8'⟩, _⟩ := id hB5
      rw [wz_1, ly_372_58, ly_372_59 (by first | exact gl_gr | exact gl_r6 | exact gl_r7 | assumption | rfl), ly_372_60, ly_372_62, ly_372_63 b8' (by omega) (by omega) (by omega) (Or.inr rfl), e1, ly_372_64, ly_372_65 (by first | exact gl_gr | exact gl_r6 | exact gl_r7 | assumption | rfl), ly_372_67, ly_372_68]
      have hB6 := hB5.sme (i := v)
      have hF56 : yF (fun x => x = w.2.2.1 + 5) 0 0 w5 (w5.1, gy_up w5.2.1 (w.2.2.1 + 5) v (0, 1), w5.2.2) := yF.u yF.rf fun _ => rfl
      have hS : yS w (w5.1, gy_up w5.2.1 (w.2.2.1 + 5) v (0, 1), w5.2.2) G (5 + 10 * v + 1) (35 + 140 * v + 12) s v (w'.2.2.1 + 1) re 1 (fun _ => v) (fun u => decide (u = v)) po true lo ba := by
        refine ⟨(hF05.tr hF56 fun x hx z => by
          have e : x = w.2.2.1 + 5 := z
          omega).wk (fun _ _ z => z) (by omega) (by omega), bI.start hG hv hroot hpo, hB6.cg (fun _ _ => rfl) (fun _ _ => rfl) (fun _ _ => rfl) fun u hu => ?_, (hV5.fr hF56 (by omega) (by omega)).cg fun j hj => ?_, ⟨by omega, by omega⟩, ?_⟩
        · show (decide (pl (qPs G s) u < v) || decide (u = v)) = _
          by_cases e : u = v
          · rw [e, qup_e, decide_eq_true (rfl : v = v), Bool.or_true]
          · rw [qup_n e, decide_eq_false e, Bool.or_false]
        · show (6, (v : Int)) = if j = 0 then (6, (v : Int)) else (0, 0)
          rw [if_pos (by omega)]
        · show w.2.2.1 + 5 ≤ w5.2.2.1
          omega
      refine yb_comp h hG hs (by omega) hroot hS fun w6 re6 l6 r6 rb6 po6 k6 x8 x9 x10 x11 x12 x13 x14 hS6 hr6 => ?_
      have hlen6 := hS6.2.1.len
      refine yb_write hG (by omega) hS6 fun w7 y7 y8 hF7 hB7 hc7 => ?_
      rw [ly_372_341 (by first | exact gl_gr | exact gl_r6 | exact gl_r7 | assumption | rfl), e0, ly_372_344]
      have hin : ∀ u, pl (qPs G s) u = v → ∃ i, i < l6 ∧ r6 i = u := fun u hu => (hS6.2.1.2.2.1 u).1 ((hr6 u).2 hu)
      have hout : ∀ u, pl (qPs G s) u ≠ v → ∀ i, i < l6 → r6 i ≠ u := fun u hu i hi z => hu ((hr6 u).1 ((hS6.2.1.2.2.1 u).2 ⟨i, hi, z⟩))
      refine ih w7 _ po6 _ _ _ _ _ _ _ _ _ _ _ (hF7.wk (fun _ _ z => z) (by omega) (by omega)) (hB7.cg (fun _ _ => rfl) (fun _ _ => rfl) (fun _ _ => rfl) fun u _ => ?_) (fun u hu => ?_) (fun u hu => ?_) hc7
      · by_cases e : pl (qPs G s) u = v
        · rw [(hr6 u).2 e, Bool.or_true]
          exact decide_eq_true (by omega)
        · have : rb6 u = false := by
            cases hb : rb6 u
            · rfl
            · exact absurd ((hr6 u).1 hb) e
          rw [this, Bool.or_false]
          exact decide_eq_decide.2 ⟨fun z => by omega, fun z => by omega⟩
      · by_cases e : pl (qPs G s) u = v
        · rw [loW_in (hin u e), loW_in (hin u e), e]
          exact ⟨rfl, rfl⟩
        · rw [loW_out (hout u e), loW_out (hout u e)]
          exact hlo u (by omega)
      · exact hS6.2.1.2.2.2.2.2.2 u (by omega)
  · have g0' : w'.1 g = (0, 0, 14) := (hF.sh hg141.2).trans g0
    have g1' : w'.2.1 g 0 = (0, (qN G : Int)) := by rw [hF.me hg141.2 id]; exact g1
    rw [ly_372_20, ly_372_22 (by first | exact gl_gr | exact gl_r6 | exact gl_r7 | assumption | rfl), ly_372_23 (by assumption), g1', ly_372_26 (by omega) (by omega) (by omega) (by omega)]
    simp only [show ¬ ((qN G : Int) < (qN G : Int)) by omega, not_false_eq_true, true_implies, false_implies, and_true, true_and]
    rw [ly_372_347 (by first | exact gl_gr | exact gl_r6 | exact gl_r7 | assumption | rfl), ly_372_348 (by first | exact gl_rg | exact gl_s6 | assumption | rfl)]
    have hlt : ∀ u, u < qN G → pl (qPs G s) u < qN G := fun u hu => by
      have := (hok u).1
      omega
    exact hQ w' po _ (hF.wk (fun _ _ z => z) (by omega) (by omega)) (hB.cg (fun u hu => (hlo u (hlt u hu)).1.symm) (fun _ _ => rfl) (fun u hu => (hlo u (hlt u hu)).2.symm) fun _ _ => rfl)
end LPD
