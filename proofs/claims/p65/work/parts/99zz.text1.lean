/-! texts: the rules of the places, what a StringBuilder holds -/
section TY
variable {N : Nat} {xs : Nat → Int32} {d : Nat} {L st : List gg_V} {w : gy_W} {Q : gy_O → Prop}
theorem ly_335_1 {a : Nat} (hs : w.1 a = (0, 0, 9)) : wy N xs d 335 1 L (gr a :: st) w Q ↔ wy N xs d 335 4 L (w.2.1 a 0 :: st) w Q := wl_get (show gg_dt 335 1 = some (.getfield 9, 3) by decide +kernel) (t := 2) (by decide +kernel) hs
theorem ly_336_8 {a : Nat} (hs : w.1 a = (0, 0, 9)) : wy N xs d 336 8 L (gr a :: st) w Q ↔ wy N xs d 336 11 L (w.2.1 a 0 :: st) w Q := wl_get (show gg_dt 336 8 = some (.getfield 9, 3) by decide +kernel) (t := 2) (by decide +kernel) hs
theorem ly_337_7 {a : Nat} (hs : w.1 a = (0, 0, 9)) : wy N xs d 337 7 L (gr a :: st) w Q ↔ wy N xs d 337 10 L (w.2.1 a 1 :: st) w Q := wl_get (show gg_dt 337 7 = some (.getfield 15, 3) by decide +kernel) (t := 5) (by decide +kernel) hs
theorem ly_338_7 {a : Nat} (hs : w.1 a = (0, 0, 9)) : wy N xs d 338 7 L (gr a :: st) w Q ↔ wy N xs d 338 10 L (w.2.1 a 1 :: st) w Q := wl_get (show gg_dt 338 7 = some (.getfield 15, 3) by decide +kernel) (t := 5) (by decide +kernel) hs
theorem ly_335_1E {i : Nat} (hi : i < 7) : wy N xs d 335 1 L ((4, (i : Int)) :: st) w Q ↔ wy N xs d 335 4 L ((8, (i : Int)) :: st) w Q := wl_getC (show gg_dt 335 1 = some (.getfield 9, 3) by decide +kernel) (by decide +kernel) hi
theorem ly_337_7E {i : Nat} (hi : i < 7) : wy N xs d 337 7 L ((4, (i : Int)) :: st) w Q ↔ wy N xs d 337 10 L ((0, 0) :: st) w Q := wl_getC2 (show gg_dt 337 7 = some (.getfield 15, 3) by decide +kernel) (by decide +kernel) hi
theorem ly_355_9E {i : Nat} (hi : i < 7) : wy N xs d 355 9 L ((4, (i : Int)) :: st) w Q ↔ wy N xs d 355 12 L ((8, (i : Int)) :: st) w Q := wl_getC (show gg_dt 355 9 = some (.getfield 9, 3) by decide +kernel) (by decide +kernel) hi
theorem ly_355_18E {i : Nat} (hi : i < 7) : wy N xs d 355 18 L ((4, (i : Int)) :: st) w Q ↔ wy N xs d 355 21 L ((8, (i : Int)) :: st) w Q := wl_getC (show gg_dt 355 18 = some (.getfield 9, 3) by decide +kernel) (by decide +kernel) hi
theorem ly_335_4E {i : Nat} (hi : i < 7) : wy N xs d 335 4 L ((8, (i : Int)) :: st) w Q ↔ wy N xs d 335 5 L ((0, ((gg_tx i).length : Int)) :: st) w Q := wl_lenC (show gg_dt 335 4 = some (.arraylength, 1) by decide +kernel) hi
theorem ly_355_21E {i : Nat} (hi : i < 7) : wy N xs d 355 21 L ((8, (i : Int)) :: st) w Q ↔ wy N xs d 355 22 L ((0, ((gg_tx i).length : Int)) :: st) w Q := wl_lenC (show gg_dt 355 21 = some (.arraylength, 1) by decide +kernel) hi
theorem ly_403_1 {i : Int} : wy N xs d 403 1 L ((4, i) :: st) w Q ↔ wy N xs d 403 9 L st w Q := wy_eq (show gg_dt 403 1 = some (.ifnonnull 8, 3) by decide +kernel) (fun _ => rfl)
theorem ly_355_22 {s b m dp z c2 : Nat} (hb : w.1 b = (3, m, c2)) (hs : s < 7) (h1 : z ≤ (gg_tx s).length) (hlen : (gg_tx s).length ≤ 100) (h2 : dp + z ≤ m) (hm : m ≤ 100000) : wy N xs d 355 22 L [(0, (z : Int)), (0, (dp : Int)), gr b, (0, 0), (8, (s : Int))] w Q ↔ wy N xs d 355 25 L [] (w.1, yCpC w.2.1 s 0 b dp z, w.2.2) Q := wl_cpyC (sp := 0) (show gg_dt 355 22 = some (.invokestatic 212, 3) by decide +kernel) (show gg_lm (gg_mt 355).1 212 = some (1002, 0) by decide +kernel) hb hs (by omega) hlen h2 hm (Nat.le_of_ble_eq_true rfl)
theorem ly_412_28 {a b n m z c c2 : Nat} (ha : w.1 a = (3, n, c)) (hb : w.1 b = (3, m, c2)) (hel : ∀ j, j < z → io_i2b (w.2.1 a (0 + j)).2 = (w.2.1 a (0 + j)).2) (h1 : z ≤ n) (h2 : z ≤ m) (hn : n ≤ 100000) (hm : m ≤ 100000) : wy N xs d 412 28 L [(0, (z : Int)), (0, 0), gr b, (0, 0), gr a] w Q ↔ wy N xs d 412 31 L [] (w.1, gy_cpy w.2.1 a 0 b 0 z, w.2.2) Q := wl_cpyB (sp := 0) (dp := 0) (show gg_dt 412 28 = some (.invokestatic 150, 3) by decide +kernel) (show gg_lm (gg_mt 412).1 150 = some (1002, 0) by decide +kernel) ha hb hel (by omega) (by omega) hn hm (Nat.le_of_ble_eq_true rfl)
theorem ly_416_27 {a b n m z c c2 : Nat} (ha : w.1 a = (3, n, c)) (hb : w.1 b = (3, m, c2)) (hel : ∀ j, j < z → io_i2b (w.2.1 a (0 + j)).2 = (w.2.1 a (0 + j)).2) (h1 : z ≤ n) (h2 : z ≤ m) (hn : n ≤ 100000) (hm : m ≤ 100000) : wy N xs d 416 27 L [(0, (z : Int)), (0, 0), gr b, (0, 0), gr a] w Q ↔ wy N xs d 416 30 L [] (w.1, gy_cpy w.2.1 a 0 b 0 z, w.2.2) Q := wl_cpyB (sp := 0) (dp := 0) (show gg_dt 416 27 = some (.invokestatic 150, 3) by decide +kernel) (show gg_lm (gg_mt 416).1 150 = some (1002, 0) by decide +kernel) ha hb hel (by omega) (by omega) hn hm (Nat.le_of_ble_eq_true rfl)
theorem ly_415_18 {a n c : Nat} (ha : w.1 a = (3, n, c)) (hel : ∀ j, j < n → io_i2b (w.2.1 a j).2 = (w.2.1 a j).2) : wy N xs d 415 18 L [gr a] w Q ↔ wy N xs d 415 21 L [gr (w.2.2.1 + 1)] (gy_mk w (3, n, 0) (w.2.1 a) n) Q := wl_clnB (show gg_dt 415 18 = some (.invokevirtual 310, 3) by decide +kernel) (show gg_lm (gg_mt 415).1 310 = some (1005, 0) by decide +kernel) ha hel (Nat.le_of_ble_eq_true rfl)
theorem ly_357_83E {i : Nat} (hi : i < 100) : wy N xs d 357 83 L ((0, (i : Int)) :: (7, 2) :: st) w Q ↔ wy N xs d 357 84 L ((0, ((48 + i % 10 : Nat) : Int)) :: st) w Q := wl_dig (z := 2) (show gg_dt 357 83 = some (.baload, 1) by decide +kernel) (Or.inl rfl) hi
theorem ly_357_102E {i : Nat} (hi : i < 100) : wy N xs d 357 102 L ((0, (i : Int)) :: (7, 3) :: st) w Q ↔ wy N xs d 357 103 L ((0, ((48 + i / 10 : Nat) : Int)) :: st) w Q := wl_dig (z := 3) (show gg_dt 357 102 = some (.baload, 1) by decide +kernel) (Or.inr rfl) hi
theorem ly_352_13 {l0 l1 l2 l3 l4 l5 l6 : gg_V} {v : Int} (h3 : l3.1 ≠ 1) : wy N xs d 352 13 [l0, l1, l2, l3, l4, l5, l6] ((1, v) :: st) w Q ↔ wy N xs d 352 15 [l0, l1, l2, l3, (1, v), (3, 0), l6] st w Q := wl_lst (show gg_dt 352 13 = some (.lstore 4, 2) by decide +kernel) (by
  obtain ⟨t, z⟩ := l3
  show ((gg_cut [l0, l1, l2, (t, z), l4, l5, l6] 4).set (4 + 1) (3, 0)).set 4 (1, v) = _
  have : gg_cut [l0, l1, l2, (t, z), l4, l5, l6] 4 = [l0, l1, l2, (t, z), l4, l5, l6] := by
    show (match (some (t, z) : Option gg_V) with
      | some (1, _) => _
      | _ => _) = _
    split
    · rename_i h
      cases h
      exact absurd rfl h3
    · rfl
  rw [this]
  rfl) (Nat.le_of_ble_eq_true rfl)
end TY
/-- the StringBuilder sb holds the characters X 0 .. X (n - 1) in its row vb of cap places -/
def yW (w : gy_W) (sb vb cap n : Nat) (X : Nat → Nat) : Prop := (w.1 sb = (0, 0, 17) ∧ w.2.1 sb 0 = gr vb ∧ w.2.1 sb 1 = (0, 0) ∧ w.2.1 sb 3 = (0, (n : Int))) ∧ w.1 vb = (3, cap, 0) ∧ (n ≤ cap ∧ 16 ≤ cap ∧ cap ≤ 1300) ∧ (∀ j, j < n → w.2.1 vb j = (0, (X j : Int)) ∧ X j ≤ 127) ∧ (∀ j, j < cap → io_i2b (w.2.1 vb j).2 = (w.2.1 vb j).2) ∧ (141 < sb ∧ sb ≤ w.2.2.1 ∧ 141 < vb ∧ vb ≤ w.2.2.1 ∧ sb ≠ vb)
theorem yW.fr {P : Nat → Prop} {c s : Nat} {w w' : gy_W} {sb vb cap n : Nat} {X : Nat → Nat} (h : yW w sb vb cap n X) (hF : yF P c s w w') (h1 : ¬ P sb) (h2 : ¬ P vb) : yW w' sb vb cap n X := by
  obtain ⟨a, b, c1, d, e, f1, f2, f3, f4, f5⟩ := h
  have := hF.le
  unfold yW
  rw [hF.sh f2, hF.sh f4, hF.me f2 h1, hF.me f4 h2]
  exact ⟨a, b, c1, d, e, f1, by omega, f3, by omega, f5⟩
theorem i2b_n {x : Nat} (h : x ≤ 127) : io_i2b (x : Int) = (x : Int) := io_i2b_r (by omega) (by omega)
section TZ
variable {N : Nat} {xs : Nat → Int32} {d : Nat} {w : gy_W} {Q : gy_O → Prop} {sb vb cap n : Nat} {X : Nat → Nat}
theorem yw_latin (h : yW w sb vb cap n X) : wy N xs d 407 0 [gr sb] [] w Q ↔ Q ((1, (0, 1)), w) := by
  obtain ⟨⟨s1, s2, s3, s4⟩, _⟩ := h
  rw [ly_407_0, ly_407_3 (by omega) (by omega)]
  simp only [show ¬ ((1 : Int) = 0) by omega, not_false_eq_true, true_implies, false_implies, and_true, true_and]
  rw [ly_407_6 (by first | exact gl_gr | exact gl_r6 | exact gl_r7 | assumption | rfl), ly_407_7 (by assumption), s3, ly_407_10 (by omega) (by omega)]
  simp only [show (0 : Int) = 0 by omega, not_true_eq_false, true_implies, false_implies, and_true, true_and]
  rw [ly_407_13, ly_407_14, ly_407_18 (by omega)]
theorem io_shr0 {x : Nat} (h : x ≤ 100000) : io_shr (x : Int) 0 = (x : Int) := by
  rw [io_shr_r (by omega) (by omega) (by decide) (by decide)]
  rfl
theorem io_shl0 {x : Nat} (h : x ≤ 100000) : io_shl (x : Int) 0 = (x : Int) := by
  rw [io_shl_r (by omega) (by omega) (by decide) (by decide) (by show x <<< 0 < _; rw [Nat.shiftLeft_zero]; omega)]
  rfl
/-- room for m -/
theorem yw_ens (h : yW w sb vb cap n X) {m : Nat} (hm : m ≤ 600) (hQ : ∀ w' vb' cap', m ≤ cap' → yW w' sb vb' cap' n X → yF (fun x => x = sb) 1 1300 w w' → (vb' = vb ∨ w.2.2.1 < vb') → Q ((0, (3, 0)), w')) : wy N xs (d + 3) 404 0 [gr sb, (0, (m : Int)), (3, 0)] [] w Q := by
  obtain ⟨⟨s1, s2, s3, s4⟩, b1, ⟨c1, c2, c3⟩, x1, x2, f1, f2, f3, f4, f5⟩ := id h
  have e1 := io_shr0 (x := cap) (by omega)
  rw [ly_404_0 (by first | exact gl_gr | exact gl_r6 | exact gl_r7 | assumption | rfl), ly_404_1 (by assumption), s2, ly_404_4 (by omega) (by assumption) (by omega) (by omega) (fun _ => rfl), ly_404_5 (by first | exact gl_gr | exact gl_r6 | exact gl_r7 | assumption | rfl), ly_404_6 (by assumption), s3, ly_404_9, e1, ly_404_10, ly_404_11, ly_404_12, ly_404_13, io_sub_o (by omega) (by omega), ly_404_14 (by omega) (by omega)]
  by_cases hc : cap < m
  · have e2 := io_shl0 (x := m) (by omega)
    simp only [show (0 : Int) < (m : Int) - (cap : Int) by omega, not_true_eq_false, true_implies, false_implies, and_true, true_and]
    rw [ly_404_17 (by first | exact gl_gr | exact gl_r6 | exact gl_r7 | assumption | rfl), ly_404_18 (by first | exact gl_gr | exact gl_r6 | exact gl_r7 | assumption | rfl), ly_404_19 (by assumption), s2, ly_404_22 (by first | exact gl_gr | exact gl_r6 | exact gl_r7 | assumption | rfl), ly_404_23, ly_404_24 (by first | exact gl_gr | exact gl_r6 | exact gl_r7 | assumption | rfl) (by first | exact gl_cl (by assumption) rfl | exact gl_l6 (by omega) (by omega) | exact gl_l4 (by omega))]
    -- newCapacity
    have e3 : io_sub (m : Int) (cap : Int) = ((m - cap : Nat) : Int) := by rw [io_sub_o (by omega) (by omega)]; omega
    have e4 : io_shl 2 0 = 2 := by decide
    have e5 : io_add (cap : Int) 2 = ((cap + 2 : Nat) : Int) := by rw [io_add_o (by omega) (by omega)]; omega
    have e6 : (if ((m - cap : Nat) : Int) ≤ ((cap + 2 : Nat) : Int) then ((cap + 2 : Nat) : Int) else ((m - cap : Nat) : Int)) = ((max (m - cap) (cap + 2) : Nat) : Int) := by
      split <;> omega
    have e7 : io_add (cap : Int) ((max (m - cap) (cap + 2) : Nat) : Int) = ((cap + max (m - cap) (cap + 2) : Nat) : Int) := by rw [io_add_o (by omega) (by omega)]; omega
    have e8 := io_shr0 (x := cap + max (m - cap) (cap + 2)) (by omega)
    have e9 := io_shl0 (x := cap + max (m - cap) (cap + 2)) (by omega)
    rw [ly_409_0 (by first | exact gl_gr | exact gl_r6 | exact gl_r7 | assumption | rfl), ly_409_1 (by assumption), s2, ly_409_4 (by omega) (by assumption) (by omega) (by omega) (fun _ => rfl), ly_409_5, ly_409_6, ly_409_7 (by first | exact gl_gr | exact gl_r6 | exact gl_r7 | assumption | rfl), ly_409_8 (by assumption), s3, ly_409_11, e2, ly_409_12, ly_409_13, ly_409_14, ly_409_15, e3, ly_409_16, ly_409_18, ly_409_19, ly_409_21, ly_409_22, ly_409_23 (by first | exact gl_gr | exact gl_r6 | exact gl_r7 | assumption | rfl), ly_409_24 (by assumption), s3, ly_409_27, e4, ly_409_28, e5, ly_409_29]
    rw [ly_417_0, ly_417_1, ly_417_2, ly_417_3 (by omega) (by omega) (by omega) (by omega), e6, ly_417_6, e7, ly_417_7, ly_417_8, ly_417_9, ly_417_10 (by omega) (by omega) (by omega) (by omega)]
    generalize hcap : cap + max (m - cap) (cap + 2) = cap2 at e8 e9
    simp only [show (0 : Int) < (cap2 : Int) by omega, not_true_eq_false, true_implies, false_implies, and_true, true_and]
    rw [ly_417_13, ly_417_14, ly_417_16 (by omega) (by omega) (by omega) (by omega)]
    simp only [show ¬ ((2147483639 : Int) < (cap2 : Int)) by omega, not_false_eq_true, true_implies, false_implies, and_true, true_and]
    rw [ly_417_19, ly_417_20, wz_1, ly_409_32, ly_409_34, ly_409_36, ly_409_38 (by omega) (by omega) (by omega) (by omega)]
    simp only [show ¬ ((cap2 : Int) = 2147483647) by omega, not_false_eq_true, true_implies, false_implies, and_true, true_and]
    rw [ly_409_51, ly_409_53 (by first | exact gl_gr | exact gl_r6 | exact gl_r7 | assumption | rfl), ly_409_54 (by assumption), s3, ly_409_57, e8, ly_409_58, wz_1, ly_404_27 (by first | exact gl_gr | exact gl_r6 | exact gl_r7 | assumption | rfl), ly_404_28 (by assumption), s3, ly_404_31, e9, ly_404_32 (by first | exact gl_gr | exact gl_r6 | exact gl_r7 | assumption | rfl)]
    -- copyOf
    have hc2 : cap2 ≤ 1300 := by omega
    rw [ly_412_0, ly_412_1 (by first | exact gl_gr | exact gl_r6 | exact gl_r7 | assumption | rfl), ly_412_2 (by omega) (by assumption) (by omega) (by omega) (fun _ => rfl), ly_412_3 (by omega) (by omega) (by omega) (by omega)]
    simp only [show ¬ ((cap2 : Int) = (cap : Int)) by omega, not_false_eq_true, true_implies, false_implies, and_true, true_and]
    rw [ly_412_14, ly_412_15 (by omega) (by omega), Int.toNat_natCast]
    obtain ⟨w1, ew1, hF1, cc1, z1, zz1⟩ := mk_ex w (3, cap2, 0) (fun _ => gy_de 3) cap2
    have b11 : w1.1 vb = (3, cap, 0) := (hF1.sh f4).trans b1
    have m11 : w1.2.1 vb = w.2.1 vb := hF1.me f4 id
    have e10 : (if (cap : Int) ≤ (cap2 : Int) then (cap : Int) else (cap2 : Int)) = (cap : Int) := if_pos (by omega)
    rw [ew1, ly_412_17 (by first | exact gl_gr | exact gl_r6 | exact gl_r7 | assumption | rfl), ly_412_18 (by first | exact gl_gr | exact gl_r6 | exact gl_r7 | assumption | rfl), ly_412_19, ly_412_20 (by first | exact gl_gr | exact gl_r6 | exact gl_r7 | assumption | rfl), ly_412_21, ly_412_22 (by first | exact gl_gr | exact gl_r6 | exact gl_r7 | assumption | rfl), ly_412_23 (by omega) (by assumption) (by omega) (by omega) (fun _ => rfl), ly_412_24, ly_412_25 (by omega) (by omega) (by omega) (by omega), e10, ly_412_28 b11 z1 (fun j hj => by rw [m11, Nat.zero_add]; exact x2 j hj) (Nat.le_refl _) (by omega) (by omega) (by omega), ly_412_31 (by first | exact gl_gr | exact gl_r6 | exact gl_r7 | assumption | rfl), ly_412_32 (by first | exact gl_rg | exact gl_s6 | assumption | rfl), wz_1]
    have hF2 : yF (fun _ => False) 1 cap2 w (w1.1, gy_cpy w1.2.1 vb 0 (w.2.2.1 + 1) 0 cap, w1.2.2) := yF.cq hF1 fun z => by omega
    have y1 : ∀ j, j < cap → ((w1.1, gy_cpy w1.2.1 vb 0 (w.2.2.1 + 1) 0 cap, w1.2.2) : gy_W).2.1 (w.2.2.1 + 1) j = w.2.1 vb j := by
      intro j hj
      have := gy_cpy_at (m := w1.2.1) (a := vb) (sp := 0) (b := w.2.2.1 + 1) (dp := 0) (z := cap) hj
      rw [Nat.zero_add] at this
      exact this.trans (by rw [m11])
    have y2 : ∀ j, cap ≤ j → ((w1.1, gy_cpy w1.2.1 vb 0 (w.2.2.1 + 1) 0 cap, w1.2.2) : gy_W).2.1 (w.2.2.1 + 1) j = (0, 0) := by
      intro j hj
      exact (gy_cpy_k (Or.inr (by omega))).trans (zz1 j)
    have y3 : ((w1.1, gy_cpy w1.2.1 vb 0 (w.2.2.1 + 1) 0 cap, w1.2.2) : gy_W).1 (w.2.2.1 + 1) = (3, cap2, 0) := z1
    have y4 : ((w1.1, gy_cpy w1.2.1 vb 0 (w.2.2.1 + 1) 0 cap, w1.2.2) : gy_W).2.2.1 = w.2.2.1 + 1 := cc1
    generalize ((w1.1, gy_cpy w1.2.1 vb 0 (w.2.2.1 + 1) 0 cap, w1.2.2) : gy_W) = w2 at hF2 y1 y2 y3 y4
    have s12 : w2.1 sb = (0, 0, 17) := (hF2.sh f2).trans s1
    have ms := hF2.me f2 id
    rw [ly_404_35 (by assumption) (by first | exact gl_rg | exact gl_s6 | assumption | rfl), ly_404_38]
    obtain ⟨w3, ew3, hF3, c3', q1, q2, q3⟩ := st_ex w2 sb 0 (gr (w.2.2.1 + 1))
    rw [ew3]
    have hF03 : yF (fun x => x = sb) 1 1300 w w3 := ((hF2.wk (P' := fun x => x = sb) (fun _ _ z => z.elim) (Nat.le_refl _) (Nat.le_refl _)).tt hF3).wk (fun _ _ z => z) (by omega) (by omega)
    have mv : w3.2.1 (w.2.2.1 + 1) = w2.2.1 (w.2.2.1 + 1) := hF3.me (by omega) (by omega)
    refine hQ w3 (w.2.2.1 + 1) cap2 (by omega) ⟨⟨by rw [q3]; exact s12, q1, ?_, ?_⟩, by rw [q3]; exact y3, ⟨by omega, by omega, hc2⟩, fun j hj => ?_, fun j hj => ?_, f1, by rw [c3']; omega, by omega, by rw [c3']; omega, by omega⟩ hF03 (Or.inr (by omega))
    · rw [q2 1 (by decide), ms]; exact s3
    · rw [q2 3 (by decide), ms]; exact s4
    · rw [mv, y1 j (by omega)]
      exact x1 j hj
    · rw [mv]
      by_cases hjc : j < cap
      · rw [y1 j hjc]
        exact x2 j hjc
      · rw [y2 j (by omega)]
        exact i2b_n (x := 0) (by decide)
  · simp only [show ¬ ((0 : Int) < (m : Int) - (cap : Int)) by omega, not_false_eq_true, true_implies, false_implies, and_true, true_and]
    rw [ly_404_38]
    exact hQ w vb cap (by omega) h ((yF.rf (P := fun x => x = sb)).wk (fun _ _ z => z) (by omega) (by omega)) (Or.inl rfl)
end TZ
