/-! what does not exist: thrown -/
section NO
variable {N : Nat} {xs : Nat → Int32} {d : Nat} {w : gy_W} {Q : gy_O → Prop} {A : q_A}
theorem cy_thr {k o t E : Nat} {as : List gg_V} {A' : q_A} {v : Int} {W : gy_W} (hk : k ≠ 287) (hq : ∀ M : gg_M, q_I M A → q_cS 0 (fun _ => 0) d k as M A' 0 0 o t v) (hI : cI W A) (ho : o = E + 2)
    (hQ : ∀ W', cI W' A → yF yK 1 6 W W' → Q ((E + 2, (3, 0)), W')) : wy N xs d k 0 (gr 1 :: as) [] W Q := by
  refine cy_q hk hq hI (fun h => by omega) fun _ W' h1 h2 h3 => ?_
  rw [ho]
  obtain ⟨M, _, i2⟩ := id hI
  obtain ⟨M', _, i2'⟩ := id h1
  have c1 : W'.2.2.1 = W.2.2.1 + 1 := by rw [h3]
  have c2 : W'.2.2.2 = W.2.2.2 + 6 := by rw [h3]
  refine hQ W' h1 ⟨by omega, by omega, by omega, fun x _ => ⟨?_, fun hx => (h2 x hx).2⟩⟩
  by_cases hx : 1 ≤ x ∧ x < 142
  · rw [(i2 x hx.1 hx.2).1, (i2' x hx.1 hx.2).1]
  · exact (h2 x hx).1
theorem yn_arc3 (hI : cI w A) (hA : a_ok A) {x y : Int} (x1 : -2147483648 ≤ x) (x2 : x ≤ 2147483647) (y1 : -2147483648 ≤ y) (y2 : y ≤ 2147483647) (ho : o_aw A x y = 3) (hQ : ∀ w', cI w' A → yF yK 1 6 w w' → Q ((1, (0, 1)), w')) : wy N xs (d + 31) 348 0 [gr 1, (0, x), (0, y), (0, 1), (3, 0)] [] w Q := by
  have hs1 := hI.s1
  rw [ly_348_0 (by first | exact gl_gr | exact gl_r6 | exact gl_r7 | assumption | rfl), ly_348_1, ly_348_2, ly_348_3 (by first | exact gl_gr | exact gl_r6 | exact gl_r7 | assumption | rfl) (by first | exact gl_cl (by assumption) rfl | exact gl_l6 (by omega) (by omega) | exact gl_l4 (by omega))]
  refine cy_thr (E := 1) (by decide) (fun M h => cq_92 h hA x1 x2 y1 y2) hI ho fun w1 hI1 hF1 => ?_
  rw [wz_h (E := 1) (h := 10) (j := 4) (m := 2) (L' := [gr 1, (0, x), (0, y), (0, 1), (3, 0)]) (by decide +kernel) (by decide +kernel) (by decide +kernel) (Nat.le_of_ble_eq_true rfl) rfl, ly_348_12, ly_348_13 (by omega)]
  exact hQ w1 hI1 hF1
theorem yn_arc2 (hI : cI w A) (hA : a_ok A) {x y : Int} (x1 : -2147483648 ≤ x) (x2 : x ≤ 2147483647) (y1 : -2147483648 ≤ y) (y2 : y ≤ 2147483647) (ho : o_aw A x y = 2) (hQ : ∀ w', cI w' A → yF yK 1 6 w w' → Q ((1, (0, 1)), w')) : wy N xs (d + 31) 348 0 [gr 1, (0, x), (0, y), (0, 0), (3, 0)] [] w Q := by
  have hs1 := hI.s1
  rw [ly_348_0 (by first | exact gl_gr | exact gl_r6 | exact gl_r7 | assumption | rfl), ly_348_1, ly_348_2, ly_348_3 (by first | exact gl_gr | exact gl_r6 | exact gl_r7 | assumption | rfl) (by first | exact gl_cl (by assumption) rfl | exact gl_l6 (by omega) (by omega) | exact gl_l4 (by omega))]
  refine cy_thr (E := 0) (by decide) (fun M h => cq_92 h hA x1 x2 y1 y2) hI ho fun w1 hI1 hF1 => ?_
  rw [wz_h (E := 0) (h := 14) (j := 4) (m := 2) (L' := [gr 1, (0, x), (0, y), (0, 0), (3, 0)]) (by decide +kernel) (by decide +kernel) (by decide +kernel) (Nat.le_of_ble_eq_true rfl) rfl, ly_348_16, ly_348_17 (by omega) (by omega)]
  simp only [show (0 : Int) = 0 by omega, not_true_eq_false, true_implies, false_implies, and_true, true_and]
  rw [ly_348_20, ly_348_21, ly_348_25 (by omega)]
  exact hQ w1 hI1 hF1
theorem yn_pt3 (hI : cI w A) (hA : a_ok A) {x y : Int} (x1 : -2147483648 ≤ x) (x2 : x ≤ 2147483647) (y1 : -2147483648 ≤ y) (y2 : y ≤ 2147483647) (ho : o_vc A x y = 3) (hQ : ∀ w', cI w' A → yF yK 1 6 w w' → Q ((1, (0, 1)), w')) : wy N xs (d + 31) 349 0 [gr 1, (0, x), (0, y), (0, 1), (3, 0)] [] w Q := by
  have hs1 := hI.s1
  rw [ly_349_0 (by first | exact gl_gr | exact gl_r6 | exact gl_r7 | assumption | rfl), ly_349_1, ly_349_2, ly_349_3 (by first | exact gl_gr | exact gl_r6 | exact gl_r7 | assumption | rfl) (by first | exact gl_cl (by assumption) rfl | exact gl_l6 (by omega) (by omega) | exact gl_l4 (by omega))]
  refine cy_thr (E := 1) (by decide) (fun M h => cq_127 h hA x1 x2 y1 y2) hI ho fun w1 hI1 hF1 => ?_
  rw [wz_h (E := 1) (h := 10) (j := 4) (m := 2) (L' := [gr 1, (0, x), (0, y), (0, 1), (3, 0)]) (by decide +kernel) (by decide +kernel) (by decide +kernel) (Nat.le_of_ble_eq_true rfl) rfl, ly_349_12, ly_349_13 (by omega)]
  exact hQ w1 hI1 hF1
theorem yn_pt2 (hI : cI w A) (hA : a_ok A) {x y : Int} (x1 : -2147483648 ≤ x) (x2 : x ≤ 2147483647) (y1 : -2147483648 ≤ y) (y2 : y ≤ 2147483647) (ho : o_vc A x y = 2) (hQ : ∀ w', cI w' A → yF yK 1 6 w w' → Q ((1, (0, 1)), w')) : wy N xs (d + 31) 349 0 [gr 1, (0, x), (0, y), (0, 0), (3, 0)] [] w Q := by
  have hs1 := hI.s1
  rw [ly_349_0 (by first | exact gl_gr | exact gl_r6 | exact gl_r7 | assumption | rfl), ly_349_1, ly_349_2, ly_349_3 (by first | exact gl_gr | exact gl_r6 | exact gl_r7 | assumption | rfl) (by first | exact gl_cl (by assumption) rfl | exact gl_l6 (by omega) (by omega) | exact gl_l4 (by omega))]
  refine cy_thr (E := 0) (by decide) (fun M h => cq_127 h hA x1 x2 y1 y2) hI ho fun w1 hI1 hF1 => ?_
  rw [wz_h (E := 0) (h := 14) (j := 4) (m := 2) (L' := [gr 1, (0, x), (0, y), (0, 0), (3, 0)]) (by decide +kernel) (by decide +kernel) (by decide +kernel) (Nat.le_of_ble_eq_true rfl) rfl, ly_349_16, ly_349_17 (by omega) (by omega)]
  simp only [show (0 : Int) = 0 by omega, not_true_eq_false, true_implies, false_implies, and_true, true_and]
  rw [ly_349_20, ly_349_21, ly_349_25 (by omega)]
  exact hQ w1 hI1 hF1
theorem yn_set (hI : cI w A) (hA : a_ok A) {x : Int} (x1 : -2147483648 ≤ x) (x2 : x ≤ 2147483647) (ho : o_set A x = 2) (hQ : ∀ w', cI w' A → yF yK 1 6 w w' → Q ((1, (0, 1)), w')) : wy N xs (d + 31) 350 0 [gr 1, (0, x), (3, 0)] [] w Q := by
  have hs1 := hI.s1
  rw [ly_350_0 (by first | exact gl_gr | exact gl_r6 | exact gl_r7 | assumption | rfl), ly_350_1, ly_350_2 (by first | exact gl_gr | exact gl_r6 | exact gl_r7 | assumption | rfl) (by first | exact gl_cl (by assumption) rfl | exact gl_l6 (by omega) (by omega) | exact gl_l4 (by omega))]
  refine cy_thr (E := 0) (by decide) (fun M h => cq_101 h hA x1 x2) hI ho fun w1 hI1 hF1 => ?_
  rw [wz_h (E := 0) (h := 9) (j := 2) (m := 1) (L' := [gr 1, (0, x), (3, 0)]) (by decide +kernel) (by decide +kernel) (by decide +kernel) (Nat.le_of_ble_eq_true rfl) rfl, ly_350_10, ly_350_11 (by omega)]
  exact hQ w1 hI1 hF1
end NO
