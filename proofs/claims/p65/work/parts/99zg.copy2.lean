/-! the law's Graph: copy -/
section LK2
variable {N : Nat} {xs : Nat → Int32} {d : Nat} {w : gy_W} {Q : gy_O → Prop} {O : Nat → Nat} {g : Nat} {G : q_G} {la ea lp ep t : Nat} {b : Nat → Nat}
theorem yy_copy (h : yGx w O g G la ea lp ep t b) (hG : q_ok G) (hQ : ∀ w', yF (fun _ => False) 40 450 w w' → yG w' (yN w O (w.2.2.1 + 1)) (w.2.2.1 + 1) G → Q ((1, gr (w.2.2.1 + 1)), w')) :
    wy N xs (d + 6) 368 0 [gr g, (3, 0), (3, 0), (3, 0), (3, 0)] [] w Q := by
  have hg141 := h.2.2.2.2.2.2.1.2
  obtain ⟨⟨g0, g1, g2, g3, g4, g5, g6⟩, ⟨v1, v2⟩, ⟨t1, t2⟩, hA, hI, hD, o1, o2, o3, o4, o5, o6, o7⟩ := id h
  obtain ⟨⟨k1, k2, k3, k4, k5, k6, k7, k8⟩, hk, hp, hp2⟩ := id hG
  have hF0 := (yF.rf (P := fun _ => False) (w := w)).new (cl := 14) (g := fun j => gy_df (gg_ft 14 j)) nf_14
  have s0 : (gy_mk w (0, 0, 14) (fun j => gy_df (gg_ft 14 j)) (gg_nf 14)).1 (w.2.2.1 + 1) = (0, 0, 14) := gy_mk_s
  have c0 : (gy_mk w (0, 0, 14) (fun j => gy_df (gg_ft 14 j)) (gg_nf 14)).2.2.1 = w.2.2.1 + 1 := rfl
  rw [ly_368_0]
  generalize gy_mk w (0, 0, 14) (fun j => gy_df (gg_ft 14 j)) (gg_nf 14) = w0 at hF0 s0 c0
  rw [ly_368_3 (by first | exact gl_gr | exact gl_r6 | exact gl_r7 | assumption | rfl), ly_368_4]
  refine yy_new s0 (by omega) (by omega) fun w1 hF1 c1 hN1 => ?_
  rw [c0] at c1
  have hF01 : yF (fun _ => False) 4 40 w w1 := (hF0.tr hF1 fun x hx z => by
    have e : x = w.2.2.1 + 1 := z
    omega).wk (fun _ _ z => z) (by omega) (by omega)
  obtain ⟨⟨n0, n1, n2, n3, n4, n5, n6⟩, nA, nA7, nP, nP7, nT, nT0⟩ := hN1
  rw [c0] at n4 n5 n6 nA nA7 nP nP7 nT nT0
  have gg1 : w1.1 g = (0, 0, 14) := (hF01.sh hg141.2).trans g0
  have gm1 := hF01.me hg141.2 id
  have q1 : w1.2.1 g 0 = (0, (qN G : Int)) := by rw [gm1]; exact g1
  have q2 : w1.2.1 g 1 = (0, (qM G : Int)) := by rw [gm1]; exact g2
  have q3 : w1.2.1 g 2 = (0, (qL G : Int)) := by rw [gm1]; exact g3
  have q4 : w1.2.1 g 3 = gr la := by rw [gm1]; exact g4
  have hgn : g ≠ w.2.2.1 + 1 := by omega
  have hF12 : yF (fun x => x = w.2.2.1 + 1) 0 0 w1 (w1.1, gy_up (gy_up (gy_up w1.2.1 (w.2.2.1 + 1) 0 (0, (qN G : Int))) (w.2.2.1 + 1) 1 (0, (qM G : Int))) (w.2.2.1 + 1) 2 (0, (qL G : Int)), w1.2.2) := yF.u (yF.u (yF.u yF.rf fun _ => rfl) fun _ => rfl) fun _ => rfl
  have z1 : ((w1.1, gy_up w1.2.1 (w.2.2.1 + 1) 0 (0, (qN G : Int)), w1.2.2) : gy_W).1 (w.2.2.1 + 1) = (0, 0, 14) := n0
  have z1g : ((w1.1, gy_up w1.2.1 (w.2.2.1 + 1) 0 (0, (qN G : Int)), w1.2.2) : gy_W).1 g = (0, 0, 14) := gg1
  have z2 : ((w1.1, gy_up (gy_up w1.2.1 (w.2.2.1 + 1) 0 (0, (qN G : Int))) (w.2.2.1 + 1) 1 (0, (qM G : Int)), w1.2.2) : gy_W).1 (w.2.2.1 + 1) = (0, 0, 14) := n0
  have z2g : ((w1.1, gy_up (gy_up w1.2.1 (w.2.2.1 + 1) 0 (0, (qN G : Int))) (w.2.2.1 + 1) 1 (0, (qM G : Int)), w1.2.2) : gy_W).1 g = (0, 0, 14) := gg1
  have e2 : ((w1.1, gy_up w1.2.1 (w.2.2.1 + 1) 0 (0, (qN G : Int)), w1.2.2) : gy_W).2.1 g 1 = (0, (qM G : Int)) := by
    show gy_up _ _ _ _ g 1 = _
    rw [gy_up_o hgn]
    exact q2
  have e3 : ((w1.1, gy_up (gy_up w1.2.1 (w.2.2.1 + 1) 0 (0, (qN G : Int))) (w.2.2.1 + 1) 1 (0, (qM G : Int)), w1.2.2) : gy_W).2.1 g 2 = (0, (qL G : Int)) := by
    show gy_up _ _ _ _ g 2 = _
    rw [gy_up_o hgn, gy_up_o hgn]
    exact q3
  rw [wz_0, ly_368_7 (by first | exact gl_gr | exact gl_r6 | exact gl_r7 | assumption | rfl) (by first | exact gl_gr | exact gl_r6 | exact gl_r7 | assumption | rfl), ly_368_8 (by first | exact gl_gr | exact gl_r6 | exact gl_r7 | assumption | rfl), ly_368_9 (by first | exact gl_gr | exact gl_r6 | exact gl_r7 | assumption | rfl), ly_368_10 (by assumption), q1, ly_368_13 (by assumption), ly_368_16 (by first | exact gl_gr | exact gl_r6 | exact gl_r7 | assumption | rfl), ly_368_17 (by first | exact gl_gr | exact gl_r6 | exact gl_r7 | assumption | rfl), ly_368_18 z1g, e2, ly_368_21 z1, ly_368_24 (by first | exact gl_gr | exact gl_r6 | exact gl_r7 | assumption | rfl), ly_368_25 (by first | exact gl_gr | exact gl_r6 | exact gl_r7 | assumption | rfl), ly_368_26 z2g, e3, ly_368_29 z2, ly_368_32 (by first | exact gl_gr | exact gl_r6 | exact gl_r7 | assumption | rfl)]
  have m0 : ((w1.1, gy_up (gy_up (gy_up w1.2.1 (w.2.2.1 + 1) 0 (0, (qN G : Int))) (w.2.2.1 + 1) 1 (0, (qM G : Int))) (w.2.2.1 + 1) 2 (0, (qL G : Int)), w1.2.2) : gy_W).2.1 (w.2.2.1 + 1) 0 = (0, (qN G : Int)) := by
    show gy_up _ _ 2 _ (w.2.2.1 + 1) 0 = _
    rw [gy_up_k (by decide), gy_up_k (by decide), gy_up_at]
  have m1 : ((w1.1, gy_up (gy_up (gy_up w1.2.1 (w.2.2.1 + 1) 0 (0, (qN G : Int))) (w.2.2.1 + 1) 1 (0, (qM G : Int))) (w.2.2.1 + 1) 2 (0, (qL G : Int)), w1.2.2) : gy_W).2.1 (w.2.2.1 + 1) 1 = (0, (qM G : Int)) := by
    show gy_up _ _ 2 _ (w.2.2.1 + 1) 1 = _
    rw [gy_up_k (by decide), gy_up_at]
  have m2 : ((w1.1, gy_up (gy_up (gy_up w1.2.1 (w.2.2.1 + 1) 0 (0, (qN G : Int))) (w.2.2.1 + 1) 1 (0, (qM G : Int))) (w.2.2.1 + 1) 2 (0, (qL G : Int)), w1.2.2) : gy_W).2.1 (w.2.2.1 + 1) 2 = (0, (qL G : Int)) := gy_up_at
  have m3 : ((w1.1, gy_up (gy_up (gy_up w1.2.1 (w.2.2.1 + 1) 0 (0, (qN G : Int))) (w.2.2.1 + 1) 1 (0, (qM G : Int))) (w.2.2.1 + 1) 2 (0, (qL G : Int)), w1.2.2) : gy_W).2.1 (w.2.2.1 + 1) 3 = gr (w.2.2.1 + 2) := by
    show gy_up _ _ 2 _ (w.2.2.1 + 1) 3 = _
    rw [gy_up_k (by decide), gy_up_k (by decide), gy_up_k (by decide)]
    exact n4
  have m4 : ((w1.1, gy_up (gy_up (gy_up w1.2.1 (w.2.2.1 + 1) 0 (0, (qN G : Int))) (w.2.2.1 + 1) 1 (0, (qM G : Int))) (w.2.2.1 + 1) 2 (0, (qL G : Int)), w1.2.2) : gy_W).2.1 (w.2.2.1 + 1) 4 = gr (w.2.2.1 + 3) := by
    show gy_up _ _ 2 _ (w.2.2.1 + 1) 4 = _
    rw [gy_up_k (by decide), gy_up_k (by decide), gy_up_k (by decide)]
    exact n5
  have c2 : ((w1.1, gy_up (gy_up (gy_up w1.2.1 (w.2.2.1 + 1) 0 (0, (qN G : Int))) (w.2.2.1 + 1) 1 (0, (qM G : Int))) (w.2.2.1 + 1) 2 (0, (qL G : Int)), w1.2.2) : gy_W).2.2.1 = w.2.2.1 + 4 := c1
  generalize ((w1.1, gy_up (gy_up (gy_up w1.2.1 (w.2.2.1 + 1) 0 (0, (qN G : Int))) (w.2.2.1 + 1) 1 (0, (qM G : Int))) (w.2.2.1 + 1) 2 (0, (qL G : Int)), w1.2.2) : gy_W) = w2 at hF12 m0 m1 m2 m3 m4 c2
  have hF02 : yF (fun _ => False) 4 40 w w2 := hF01.tr hF12 fun x hx z => by
    have e : x = w.2.2.1 + 1 := z
    omega
  have gg2 : w2.1 g = (0, 0, 14) := (hF02.sh hg141.2).trans g0
  have qq4 : w2.2.1 g 3 = gr la := by rw [hF02.me hg141.2 id]; exact g4
  have hv1 := v1.fr hF02 id id
  have hla2 := hv1.1
  have nA2 : ∀ f, yV w2 (w.2.2.1 + 2) (w.2.2.1 + 2) 0 f := fun f => (nA f).fr hF12 (by omega) (by omega)
  have nP2 : ∀ f, yV w2 (w.2.2.1 + 3) (w.2.2.1 + 3) 0 f := fun f => (nP f).fr hF12 (by omega) (by omega)
  have nP72 : w2.2.1 (w.2.2.1 + 3) 1 = (7, 1) := by rw [hF12.me (by omega) (by omega)]; exact nP7
  have n02 : w2.1 (w.2.2.1 + 1) = (0, 0, 14) := (hF12.sh (by omega)).trans n0
  rw [ly_368_33 (by assumption), qq4, ly_368_36 (by first | exact gl_gr | exact gl_r6 | exact gl_r7 | assumption | rfl) (by first | exact gl_cl (by assumption) rfl | exact gl_l6 (by omega) (by omega) | exact gl_l4 (by omega))]
  refine wv_iter hla2 hv1.2.2.2.2.1 hv1.2.2.2.1 (fun w3 hF3 hc3 hI3 => ?_) (by obtain ⟨m, hm, _⟩ := hv1.2.2.1; exact ⟨m, hm⟩)
  have hF03 : yF (fun _ => False) 5 48 w w3 := (hF02.tt hF3).wk (fun _ _ z => z) (by omega) (by omega)
  rw [c2] at hI3 hc3
  rw [wz_1, ly_368_39 (by first | exact gl_gr | exact gl_r6 | exact gl_r7 | assumption | rfl) (by first | exact gl_gr | exact gl_r6 | exact gl_r7 | assumption | rfl), c2]
  refine wl_for (P := fun j => ∀ (w' : gy_W) (l3 l4 : gg_V) (ea2 : Nat) (b2 : Nat → Nat), yF (fun _ => False) (5 + 2 * j) (48 + 27 * j) w w' → yI w' (w.2.2.1 + 4 + 1) la j → yF (fun x => x = w.2.2.1 + 2 ∨ w.2.2.1 + 4 < x) (2 * j) (27 * j) w3 w' →
    yV w' (w.2.2.1 + 2) ea2 j (fun a => gr (b2 a)) → (ea2 = w.2.2.1 + 2 ∨ w.2.2.1 + 5 < ea2) → (∀ a, a < j → yA w' (b2 a) (qF G a) (qT G a) (qA G a) (qW G a) ((qS G).testBit a) ∧ w.2.2.1 + 5 < b2 a ∧ b2 a ≤ w'.2.2.1) → (∀ a c, a < j → c < j → b2 a = b2 c → a = c) →
    wy N xs (d + 6) 368 40 [gr g, gr (w.2.2.1 + 1), gr (w.2.2.1 + 4 + 1), l3, l4] [] w' Q) (qK G) (fun j hj ih w' l3 l4 ea2 b2 hF hI' hF3' hVa hea2 hAA hII => ?_) (fun w' l3 l4 ea2 b2 hF hI' hF3' hVa hea2 hAA hII => ?_) w3 (3, 0) (3, 0) (w.2.2.1 + 2) (fun _ => 0) hF03 hI3 (yF.rf) ((nA2 _).fr hF3 id id) (Or.inl rfl) (fun a ha => absurd ha (Nat.not_lt_zero a)) (fun a c ha => absurd ha (Nat.not_lt_zero a))
  · have hY := v1.fr hF id id
    have hi1 := hI'.1
    have hAj := (hA j hj).fr hF id (o7 j hj).2.2
    have hbj := (o7 j hj).2.2
    rw [ly_368_40 (by first | exact gl_gr | exact gl_r6 | exact gl_r7 | assumption | rfl), ly_368_41 (by first | exact gl_gr | exact gl_r6 | exact gl_r7 | assumption | rfl) (by first | exact gl_cl (by assumption) rfl | exact gl_l6 (by omega) (by omega) | exact gl_l4 (by omega)), wv_hasNext hI' hY (by omega) (by omega), if_neg (by omega), wz_1, ly_368_46 (by omega) (by omega)]
    simp only [show ¬ ((1 : Int) = 0) by omega, not_false_eq_true, true_implies, false_implies, and_true, true_and]
    rw [ly_368_49 (by first | exact gl_gr | exact gl_r6 | exact gl_r7 | assumption | rfl), ly_368_50 (by first | exact gl_gr | exact gl_r6 | exact gl_r7 | assumption | rfl) (by first | exact gl_cl (by assumption) rfl | exact gl_l6 (by omega) (by omega) | exact gl_l4 (by omega))]
    refine wv_next hI' hY hj (by have := o3.2.2; omega) fun w4 hF4 hc4 hI4 => ?_
    have hle := hF.le
    have hAj4 := hAj.fr hF4 (by omega) (by omega)
    obtain ⟨a1, a2, a3, a4, a5, a6⟩ := id hAj4
    have hle4 : w'.2.2.1 ≤ w4.2.2.1 := hF4.le
    have hi5 : w.2.2.1 + 5 ≤ w'.2.2.1 := hI'.2.2.2.2.2
    rw [wz_1, ly_368_55 (by first | exact gl_c7 (by assumption) | exact gl_c14 (by assumption) | exact gl_c12 (by omega) (by omega)), ly_368_58 (by first | exact gl_gr | exact gl_r6 | exact gl_r7 | assumption | rfl) (by first | exact gl_gr | exact gl_r6 | exact gl_r7 | assumption | rfl), ly_368_59]
    have hF5 := (yF.rf (P := fun _ => False) (w := w4)).new (cl := 7) (g := fun j => gy_df (gg_ft 7 j)) nf_7
    have s5 : (gy_mk w4 (0, 0, 7) (fun j => gy_df (gg_ft 7 j)) (gg_nf 7)).1 (w4.2.2.1 + 1) = (0, 0, 7) := gy_mk_s
    have c5 : (gy_mk w4 (0, 0, 7) (fun j => gy_df (gg_ft 7 j)) (gg_nf 7)).2.2.1 = w4.2.2.1 + 1 := rfl
    generalize gy_mk w4 (0, 0, 7) (fun j => gy_df (gg_ft 7 j)) (gg_nf 7) = w5 at hF5 s5 c5
    have hAj5 := hAj4.fr hF5 id (by omega)
    obtain ⟨x1, x2, x3, x4, x5, x6⟩ := id hAj5
    rw [ly_368_62 (by first | exact gl_gr | exact gl_r6 | exact gl_r7 | assumption | rfl), ly_368_63 (by first | exact gl_gr | exact gl_r6 | exact gl_r7 | assumption | rfl), ly_368_64 (by assumption), x2, ly_368_67 (by first | exact gl_gr | exact gl_r6 | exact gl_r7 | assumption | rfl), ly_368_68 (by assumption), x3, ly_368_71 (by first | exact gl_gr | exact gl_r6 | exact gl_r7 | assumption | rfl), ly_368_72 (by assumption), x4, ly_368_75 (by first | exact gl_gr | exact gl_r6 | exact gl_r7 | assumption | rfl), ly_368_76 (by assumption), x5, ly_368_79, wy_arc s5, wz_0]
    have hF56 : yF (fun x => x = w4.2.2.1 + 1) 0 0 w5 (w5.1, gy_up (gy_up (gy_up (gy_up w5.2.1 (w4.2.2.1 + 1) 0 (0, (qF G j : Int))) (w4.2.2.1 + 1) 1 (0, (qT G j : Int))) (w4.2.2.1 + 1) 2 (0, (qA G j : Int))) (w4.2.2.1 + 1) 3 (0, (qW G j : Int)), w5.2.2) := yF.u (yF.u (yF.u (yF.u yF.rf fun _ => rfl) fun _ => rfl) fun _ => rfl) fun _ => rfl
    have y0 : ((w5.1, gy_up (gy_up (gy_up (gy_up w5.2.1 (w4.2.2.1 + 1) 0 (0, (qF G j : Int))) (w4.2.2.1 + 1) 1 (0, (qT G j : Int))) (w4.2.2.1 + 1) 2 (0, (qA G j : Int))) (w4.2.2.1 + 1) 3 (0, (qW G j : Int)), w5.2.2) : gy_W).2.1 (w4.2.2.1 + 1) 0 = (0, (qF G j : Int)) := by
      show gy_up _ _ 3 _ (w4.2.2.1 + 1) 0 = _
      rw [gy_up_k (by decide), gy_up_k (by decide), gy_up_k (by decide), gy_up_at]
    have y1 : ((w5.1, gy_up (gy_up (gy_up (gy_up w5.2.1 (w4.2.2.1 + 1) 0 (0, (qF G j : Int))) (w4.2.2.1 + 1) 1 (0, (qT G j : Int))) (w4.2.2.1 + 1) 2 (0, (qA G j : Int))) (w4.2.2.1 + 1) 3 (0, (qW G j : Int)), w5.2.2) : gy_W).2.1 (w4.2.2.1 + 1) 1 = (0, (qT G j : Int)) := by
      show gy_up _ _ 3 _ (w4.2.2.1 + 1) 1 = _
      rw [gy_up_k (by decide), gy_up_k (by decide), gy_up_at]
    have y2 : ((w5.1, gy_up (gy_up (gy_up (gy_up w5.2.1 (w4.2.2.1 + 1) 0 (0, (qF G j : Int))) (w4.2.2.1 + 1) 1 (0, (qT G j : Int))) (w4.2.2.1 + 1) 2 (0, (qA G j : Int))) (w4.2.2.1 + 1) 3 (0, (qW G j : Int)), w5.2.2) : gy_W).2.1 (w4.2.2.1 + 1) 2 = (0, (qA G j : Int)) := by
      show gy_up _ _ 3 _ (w4.2.2.1 + 1) 2 = _
      rw [gy_up_k (by decide), gy_up_at]
    have y3 : ((w5.1, gy_up (gy_up (gy_up (gy_up w5.2.1 (w4.2.2.1 + 1) 0 (0, (qF G j : Int))) (w4.2.2.1 + 1) 1 (0, (qT G j : Int))) (w4.2.2.1 + 1) 2 (0, (qA G j : Int))) (w4.2.2.1 + 1) 3 (0, (qW G j : Int)), w5.2.2) : gy_W).2.1 (w4.2.2.1 + 1) 3 = (0, (qW G j : Int)) := gy_up_at
    have c6 : ((w5.1, gy_up (gy_up (gy_up (gy_up w5.2.1 (w4.2.2.1 + 1) 0 (0, (qF G j : Int))) (w4.2.2.1 + 1) 1 (0, (qT G j : Int))) (w4.2.2.1 + 1) 2 (0, (qA G j : Int))) (w4.2.2.1 + 1) 3 (0, (qW G j : Int)), w5.2.2) : gy_W).2.2.1 = w4.2.2.1 + 1 := c5
    generalize ((w5.1, gy_up (gy_up (gy_up (gy_up w5.2.1 (w4.2.2.1 + 1) 0 (0, (qF G j : Int))) (w4.2.2.1 + 1) 1 (0, (qT G j : Int))) (w4.2.2.1 + 1) 2 (0, (qA G j : Int))) (w4.2.2.1 + 1) 3 (0, (qW G j : Int)), w5.2.2) : gy_W) = w6 at hF56 y0 y1 y2 y3 c6
    have s6 : w6.1 (w4.2.2.1 + 1) = (0, 0, 7) := (hF56.sh (by omega)).trans s5
    have hAj6 := hAj5.fr hF56 (by omega) (by omega)
    obtain ⟨_, _, _, _, _, u6⟩ := id hAj6
    have hbit : (((qS G).testBit j).toNat : Int) = 0 ∨ (((qS G).testBit j).toNat : Int) = 1 := by cases (qS G).testBit j <;> decide
    have hAj6s := hAj6.1
    rw [ly_368_82 (by first | exact gl_gr | exact gl_r6 | exact gl_r7 | assumption | rfl) (by first | exact gl_gr | exact gl_r6 | exact gl_r7 | assumption | rfl), ly_368_84 (by first | exact gl_gr | exact gl_r6 | exact gl_r7 | assumption | rfl), ly_368_86 (by first | exact gl_gr | exact gl_r6 | exact gl_r7 | assumption | rfl), ly_368_87 hAj6s, u6, ly_368_90 s6 hbit]
    have hF67 : yF (fun x => x = w4.2.2.1 + 1) 0 0 w6 (w6.1, gy_up w6.2.1 (w4.2.2.1 + 1) 4 (0, (((qS G).testBit j).toNat : Int)), w6.2.2) := yF.u yF.rf fun _ => rfl
    have hNew : yA (w6.1, gy_up w6.2.1 (w4.2.2.1 + 1) 4 (0, (((qS G).testBit j).toNat : Int)), w6.2.2) (w4.2.2.1 + 1) (qF G j) (qT G j) (qA G j) (qW G j) ((qS G).testBit j) := ⟨s6, (gy_up_k (by decide)).trans y0, (gy_up_k (by decide)).trans y1, (gy_up_k (by decide)).trans y2, (gy_up_k (by decide)).trans y3, gy_up_at⟩
    have c7 : ((w6.1, gy_up w6.2.1 (w4.2.2.1 + 1) 4 (0, (((qS G).testBit j).toNat : Int)), w6.2.2) : gy_W).2.2.1 = w4.2.2.1 + 1 := c6
    generalize ((w6.1, gy_up w6.2.1 (w4.2.2.1 + 1) 4 (0, (((qS G).testBit j).toNat : Int)), w6.2.2) : gy_W) = w7 at hF67 hNew c7
    have hF47 : yF (fun _ => False) 1 12 w4 w7 := ((hF5.tr hF56 fun x hx z => by
      have e : x = w4.2.2.1 + 1 := z
      omega).tr hF67 fun x hx z => by
      have e : x = w4.2.2.1 + 1 := z
      omega).wk (fun _ _ z => z) (by omega) (by omega)
    have hF37 : yF (fun x => x = w.2.2.1 + 4 + 1) 1 12 w' w7 := (hF4.tr hF47 fun _ _ z => z.elim).wk (fun _ _ z => z) (by omega) (by omega)
    have hF07 : yF (fun _ => False) (5 + 2 * j + 1) (48 + 27 * j + 12) w w7 := hF.tr hF37 fun x hx z => by
      have e : x = w.2.2.1 + 4 + 1 := z
      omega
    have m37 : w7.2.1 (w.2.2.1 + 1) 3 = gr (w.2.2.1 + 2) := by
      rw [hF37.me (by omega) (by omega), hF3'.me (by omega) (by omega), hF3.me (by omega) id]
      exact m3
    have n07 : w7.1 (w.2.2.1 + 1) = (0, 0, 14) := (hF37.sh (by omega)).trans ((hF3'.sh (by omega)).trans ((hF3.sh (by omega)).trans n02))
    have hVa7 := hVa.fr hF37 (by omega) (by omega)
    have hla7 := hVa7.1
    have hI7 : yI w7 (w.2.2.1 + 4 + 1) la (j + 1) := hI4.fr hF47 id id (by have := v1.2.2.2.2.1; omega)
    rw [ly_368_93 (by first | exact gl_gr | exact gl_r6 | exact gl_r7 | assumption | rfl), ly_368_94 (by assumption), m37, ly_368_97 (by first | exact gl_gr | exact gl_r6 | exact gl_r7 | assumption | rfl), ly_368_99 (by first | exact gl_gr | exact gl_r6 | exact gl_r7 | assumption | rfl) (by first | exact gl_gr | exact gl_r6 | exact gl_r7 | assumption | rfl) (by first | exact gl_cl (by assumption) rfl | exact gl_l6 (by omega) (by omega) | exact gl_l4 (by omega))]
    refine wv_add hVa7 (by omega) (yE.a (by omega) hNew.1) fun w8 ea3 hea3 hF8 hV8 => ?_
    rw [wz_1, ly_368_102, ly_368_103]
    have hle7 := hF37.le
    have hle8 := hF8.le
    refine ih w8 _ _ ea3 (qup b2 j (w4.2.2.1 + 1)) ?_ ?_ ?_ (hV8.cg fun a ha => ?_) (by omega) (fun a ha => ?_) (fun a c ha hc hac => ?_)
    · refine (hF07.tr hF8 fun x hx z => ?_).wk (fun _ _ z => z) (by omega) (by omega)
      rcases z with z | z <;> omega
    · refine hI7.fr hF8 (fun z => ?_) (fun z => ?_) (by have := v1.2.2.2.2.1; omega)
      · rcases z with z | z <;> omega
      · have := v1.2.2.2.2.1
        rcases z with z | z <;> omega
    · refine ((hF3'.tr hF37 fun x hx z => Or.inr ?_).tr hF8 fun x hx z => ?_).wk (fun _ _ z => z) (by omega) (by omega)
      · have e : x = w.2.2.1 + 4 + 1 := z
        omega
      · rcases z with z | z
        · exact Or.inl z
        · rcases hea2 with e | e
          · exact Or.inl (z.trans e)
          · exact Or.inr (by omega)
    · show gr (if a = j then w4.2.2.1 + 1 else b2 a) = if a = j then gr (w4.2.2.1 + 1) else gr (b2 a)
      split <;> rfl
    · show yA w8 (if a = j then w4.2.2.1 + 1 else b2 a) _ _ _ _ _ ∧ w.2.2.1 + 5 < (if a = j then w4.2.2.1 + 1 else b2 a) ∧ (if a = j then w4.2.2.1 + 1 else b2 a) ≤ w8.2.2.1
      have hsep := fun (x : Nat) (hx : w7.1 x = (0, 0, 7)) => hVa7.ne hx (by decide) (by decide)
      by_cases haj : a = j
      · rw [if_pos haj, haj]
        have := hsep _ hNew.1
        exact ⟨hNew.fr hF8 (fun z => z.elim this.1 this.2) (by omega), by omega, by omega⟩
      · rw [if_neg haj]
        obtain ⟨d1, d2, d3⟩ := hAA a (by omega)
        have d1' := d1.fr hF37 (by omega) d3
        have := hsep _ d1'.1
        exact ⟨d1'.fr hF8 (fun z => z.elim this.1 this.2) (by omega), d2, by omega⟩
    · have hac' : (if a = j then w4.2.2.1 + 1 else b2 a) = (if c = j then w4.2.2.1 + 1 else b2 c) := hac
      by_cases h1 : a = j <;> by_cases h2 : c = j
      · omega
      · rw [if_pos h1, if_neg h2] at hac'
        have := (hAA c (by omega)).2.2
        omega
      · rw [if_neg h1, if_pos h2] at hac'
        have := (hAA a (by omega)).2.2
        omega
      · rw [if_neg h1, if_neg h2] at hac'
        exact hII a c (by omega) (by omega) hac'
  · have hY := v1.fr hF id id
    have hi1 := hI'.1
    have hi5 : w.2.2.1 + 5 ≤ w'.2.2.1 := hI'.2.2.2.2.2
    have hP : ∀ f, yV w' (w.2.2.1 + 3) (w.2.2.1 + 3) 0 f := fun f => ((nP2 f).fr hF3 id id).fr hF3' (by omega) (by omega)
    have hP7 : w'.2.1 (w.2.2.1 + 3) 1 = (7, 1) := by
      rw [hF3'.me (by omega) (by omega), hF3.me (by omega) id]
      exact nP72
    have gm : w'.2.1 (w.2.2.1 + 1) = w2.2.1 (w.2.2.1 + 1) := by rw [hF3'.me (by omega) (by omega), hF3.me (by omega) id]
    have gs : w'.1 (w.2.2.1 + 1) = (0, 0, 14) := (hF3'.sh (by omega)).trans ((hF3.sh (by omega)).trans n02)
    have gg : w'.1 g = (0, 0, 14) := (hF.sh hg141.2).trans g0
    have gm0 := hF.me hg141.2 id
    have r4 : w'.2.1 (w.2.2.1 + 1) 4 = gr (w.2.2.1 + 3) := by rw [gm]; exact m4
    have r4g : w'.2.1 g 4 = gr lp := by rw [gm0]; exact g5
    have hV2 := v2.fr hF id id
    have hlp2 := (hP fun _ => (0, 0)).1
    rw [ly_368_40 (by first | exact gl_gr | exact gl_r6 | exact gl_r7 | assumption | rfl), ly_368_41 (by first | exact gl_gr | exact gl_r6 | exact gl_r7 | assumption | rfl) (by first | exact gl_cl (by assumption) rfl | exact gl_l6 (by omega) (by omega) | exact gl_l4 (by omega)), wv_hasNext hI' hY (by omega) (by omega), if_pos rfl, wz_1, ly_368_46 (by omega) (by omega)]
    simp only [not_true_eq_false, true_implies, false_implies, and_true]
    rw [ly_368_106 (by first | exact gl_gr | exact gl_r6 | exact gl_r7 | assumption | rfl), ly_368_107 gs, r4, ly_368_110 (by first | exact gl_gr | exact gl_r6 | exact gl_r7 | assumption | rfl), ly_368_111 gg, r4g, ly_368_114 (by first | exact gl_gr | exact gl_r6 | exact gl_r7 | assumption | rfl) (by first | exact gl_gr | exact gl_r6 | exact gl_r7 | assumption | rfl) (by first | exact gl_cl (by assumption) rfl | exact gl_l6 (by omega) (by omega) | exact gl_l4 (by omega))]
    refine wv_addAll (hP fun _ => (0, 0)) hP7 hV2 (by have := o4.2.2; omega) (by have := o5.2.2; omega) k1 k2 fun w6 hF6 hV6 => ?_
    have hle6 := hF6.le
    have hF06 : yF (fun _ => False) 39 430 w w6 := (hF.tr hF6 fun x hx z => by
      have e : x = w.2.2.1 + 3 := z
      omega).wk (fun _ _ z => z) (by omega) (by omega)
    have gg6 : w6.1 g = (0, 0, 14) := (hF06.sh hg141.2).trans g0
    have r6g : w6.2.1 g 5 = gr t := by rw [hF06.me hg141.2 id]; exact g6
    have t6 : w6.1 t = (1, 4, 0) := (hF06.sh o6.2.2).trans t1
    rw [wz_1, ly_368_117, ly_368_118 (by first | exact gl_gr | exact gl_r6 | exact gl_r7 | assumption | rfl), ly_368_119 (by first | exact gl_gr | exact gl_r6 | exact gl_r7 | assumption | rfl), ly_368_120 gg6, r6g, ly_368_123 t6]
    have hF7 := (yF.rf (P := fun _ => False) (w := w6)).mk (x := (1, 4, 0)) (g := w6.2.1 t) (n := 4)
    have s7 : (gy_mk w6 (1, 4, 0) (w6.2.1 t) 4).1 (w6.2.2.1 + 1) = (1, 4, 0) := gy_mk_s
    have z7 : ∀ k, (gy_mk w6 (1, 4, 0) (w6.2.1 t) 4).2.1 (w6.2.2.1 + 1) k = w6.2.1 t k := fun k => gy_mk_m
    have c7 : (gy_mk w6 (1, 4, 0) (w6.2.1 t) 4).2.2.1 = w6.2.2.1 + 1 := rfl
    generalize gy_mk w6 (1, 4, 0) (w6.2.1 t) 4 = w7 at hF7 s7 z7 c7
    have gs6 : w6.1 (w.2.2.1 + 1) = (0, 0, 14) := (hF6.sh (by omega)).trans gs
    have gs7 : w7.1 (w.2.2.1 + 1) = (0, 0, 14) := (hF7.sh (by omega)).trans gs6
    rw [ly_368_126 (gl_c112 s7), ly_368_129 (by assumption) (by first | exact gl_rg | exact gl_s6 | assumption | rfl), ly_368_132 (by first | exact gl_gr | exact gl_r6 | exact gl_r7 | assumption | rfl), ly_368_133 (by first | exact gl_rg | exact gl_s6 | assumption | rfl)]
    have hF78 : yF (fun x => x = w.2.2.1 + 1) 0 0 w7 (w7.1, gy_up w7.2.1 (w.2.2.1 + 1) 5 (gr (w6.2.2.1 + 1)), w7.2.2) := yF.u yF.rf fun _ => rfl
    have gm7 : w7.2.1 (w.2.2.1 + 1) = w2.2.1 (w.2.2.1 + 1) := by rw [hF7.me (by omega) id, hF6.me (by omega) (by omega), gm]
    have hF08 : yF (fun _ => False) 40 450 w (w7.1, gy_up w7.2.1 (w.2.2.1 + 1) 5 (gr (w6.2.2.1 + 1)), w7.2.2) := (((hF06.tt hF7).tr hF78 fun x hx z => by
      have e : x = w.2.2.1 + 1 := z
      omega).wk (fun _ _ z => z) (by omega) (by omega))
    have hF68 : yF (fun x => x = w.2.2.1 + 1) 1 4 w6 (w7.1, gy_up w7.2.1 (w.2.2.1 + 1) 5 (gr (w6.2.2.1 + 1)), w7.2.2) := yF.u (hF7.wk (fun _ _ z => z.elim) (by omega) (by omega)) fun _ => rfl
    have hc8 : ((w7.1, gy_up w7.2.1 (w.2.2.1 + 1) 5 (gr (w6.2.2.1 + 1)), w7.2.2) : gy_W).2.2.1 = w6.2.2.1 + 1 := c7
    have own : ∀ x, w.2.2.1 < x → x ≤ w6.2.2.1 + 1 → yO (w7.1, gy_up w7.2.1 (w.2.2.1 + 1) 5 (gr (w6.2.2.1 + 1)), w7.2.2) (yN w O (w.2.2.1 + 1)) (w.2.2.1 + 1) x := fun x h1 h2 => ⟨yN_gt h1, by omega, by omega⟩
    refine hQ _ hF08 ⟨w.2.2.1 + 2, ea2, w.2.2.1 + 3, w'.2.2.1 + 2, w6.2.2.1 + 1, b2, ⟨gs7, ?_, ?_, ?_, ?_, ?_, gy_up_at⟩, ⟨?_, ?_⟩, ⟨s7, fun k hk => ?_⟩, fun a ha => ?_, hII, ⟨by omega, by omega, by omega, ?_⟩, own _ (by omega) (by omega), own _ (by omega) (by omega), own _ (by omega) ?_, own _ (by omega) (by omega), own _ (by omega) ?_, own _ (by omega) (by omega), fun a ha => own _ (by have := (hAA a ha).2.1; omega) (by have := (hAA a ha).2.2; omega)⟩
    · exact (gy_up_k (by decide)).trans (by rw [gm7]; exact m0)
    · exact (gy_up_k (by decide)).trans (by rw [gm7]; exact m1)
    · exact (gy_up_k (by decide)).trans (by rw [gm7]; exact m2)
    · exact (gy_up_k (by decide)).trans (by rw [gm7]; exact m3)
    · exact (gy_up_k (by decide)).trans (by rw [gm7]; exact m4)
    · exact (hVa.fr hF6 (by omega) (by omega)).fr hF68 (by omega) (by omega)
    · exact hV6.fr hF68 (by omega) (by omega)
    · show gy_up w7.2.1 (w.2.2.1 + 1) 5 _ (w6.2.2.1 + 1) k = _
      rw [gy_up_o (by omega), z7, hF06.me o6.2.2 id]
      exact t2 k hk
    · have h3 := (hAA a ha)
      exact (h3.1.fr hF6 (by omega) h3.2.2).fr hF68 (by omega) (by omega)
    · have := hVa.2.2.2.2.2.2.1
      omega
    · have := hVa.2.2.2.2.2.2.1
      omega
    · have := hV6.2.2.2.2.2.2.1
      omega
end LK2
