/-! lists: what an ArrayList holds; its size, an element -/
theorem gy_up_at {m : gy_M} {a k : Nat} {v : gg_V} : gy_up m a k v a k = v := if_pos ⟨rfl, rfl⟩
theorem gy_up_o {m : gy_M} {a k o : Nat} {v : gg_V} (h : o ≠ a) : gy_up m a k v o = m o := by
  funext j
  exact if_neg fun z => h z.1
theorem gy_up_k {m : gy_M} {a k j : Nat} {v : gg_V} (h : j ≠ k) : gy_up m a k v a j = m a j := if_neg fun z => h z.2
theorem gy_mk_s {w : gy_W} {x : Nat × Nat × Nat} {g : Nat → gg_V} {n : Nat} : (gy_mk w x g n).1 (w.2.2.1 + 1) = x := if_pos rfl
theorem gy_mk_so {w : gy_W} {x : Nat × Nat × Nat} {g : Nat → gg_V} {n o : Nat} (h : o ≠ w.2.2.1 + 1) : (gy_mk w x g n).1 o = w.1 o := if_neg h
theorem gy_mk_m {w : gy_W} {x : Nat × Nat × Nat} {g : Nat → gg_V} {n k : Nat} : (gy_mk w x g n).2.1 (w.2.2.1 + 1) k = g k := if_pos rfl
theorem gy_mk_mo {w : gy_W} {x : Nat × Nat × Nat} {g : Nat → gg_V} {n o : Nat} (h : o ≠ w.2.2.1 + 1) : (gy_mk w x g n).2.1 o = w.2.1 o := by
  funext j
  exact if_neg h
theorem gl_cl {w : gy_W} {a c : Nat} (h : w.1 a = (0, 0, c)) (ho : gy_ob c = true) : gy_cl (gr a) w = some c := by
  show (if (w.1 a).1 = 0 ∧ (w.1 a).2.1 = 0 ∧ gy_ob (w.1 a).2.2 = true then some (w.1 a).2.2 else none) = some c
  rw [h]
  exact if_pos ⟨rfl, rfl, ho⟩
/-- the ArrayList l holds the values f 0 .. f (n - 1), its row is e with cap places -/
def yL (w : gy_W) (l e cap n : Nat) (f : Nat → gg_V) : Prop := w.1 l = (0, 0, 15) ∧ w.2.1 l 1 = gr e ∧ w.2.1 l 2 = (0, (n : Int)) ∧ w.1 e = (5, cap, 24) ∧ n ≤ cap ∧ cap ≤ 1000 ∧ ∀ j, j < n → w.2.1 e j = f j ∧ gy_rr (f j) = true
section LL
variable {N : Nat} {xs : Nat → Int32} {d : Nat} {w : gy_W} {Q : gy_O → Prop} {l e cap n : Nat} {f : Nat → gg_V}
theorem wy_size (h : w.1 l = (0, 0, 15)) (h2 : w.2.1 l 2 = (0, (n : Int))) : wy N xs d 388 0 [gr l] [] w Q ↔ Q ((1, (0, (n : Int))), w) := by
  have r0 : gy_ra (gr l) = true := rfl
  rw [ly_388_0 r0, ly_388_1 h, h2, ly_388_4]
/-- Objects.checkIndex -/
theorem wy_check {i m : Nat} (hi : i < m) (hm : m ≤ 100000) : wy N xs (d + 1) 418 0 [(0, (i : Int)), (0, (m : Int))] [] w Q ↔ Q ((1, (0, (i : Int))), w) := by
  have r0 : gy_ra ((2, -1) : gg_V) = true := rfl
  rw [ly_418_0, ly_418_1, ly_418_2, ly_418_3 r0, ly_341_0, ly_341_1 (by omega) (by omega)]
  simp only [show ¬ (i : Int) < 0 by omega, false_implies, not_false_eq_true, true_implies, true_and]
  rw [ly_341_4, ly_341_5, ly_341_6 (by omega) (by omega) (by omega) (by omega)]
  simp only [show (i : Int) < (m : Int) by omega, true_implies, not_true_eq_false, false_implies, and_true]
  rw [ly_341_16, ly_341_17, wz_1, ly_418_6]
theorem wy_elem {i : Nat} (h : yL w l e cap n f) (hi : i < n) : wy N xs d 380 0 [gr l, (0, (i : Int))] [] w Q ↔ Q ((1, f i), w) := by
  obtain ⟨h1, h2, h3, h4, h5, h6, h7⟩ := h
  obtain ⟨g1, g2⟩ := h7 i hi
  have r0 : gy_ra (gr l) = true := rfl
  have e1 : ((i : Int)).toNat = i := Int.toNat_natCast i
  rw [ly_380_0 r0, ly_380_1 h1, h2, ly_380_4, ly_380_5 h4 rfl (by omega) (by omega) (by omega) (by rw [e1, g1]; exact g2), e1, g1, ly_380_6 g2]
theorem wy_get {i : Nat} (h : yL w l e cap n f) (hi : i < n) : wy N xs (d + 2) 382 0 [gr l, (0, (i : Int))] [] w Q ↔ Q ((1, f i), w) := by
  obtain ⟨h1, h2, h3, h4, h5, h6, h7⟩ := id h
  obtain ⟨g1, g2⟩ := h7 i hi
  have r0 : gy_ra (gr l) = true := rfl
  rw [ly_382_0, ly_382_1 r0, ly_382_2 h1, h3, ly_382_5, wy_check hi (by omega), wz_1, ly_382_8, ly_382_9 r0, ly_382_10, ly_382_11 r0 (gl_cl h1 rfl), wy_elem h hi, wz_1, ly_382_14 g2]
theorem gl_rr {v : gg_V} (h : gy_rr v = true) : gy_ra v = true := by
  have h2 := gy_rr_ok h
  unfold gy_ra
  simp only [Bool.or_eq_true, beq_iff_eq]
  omega
/-- the world with another element at i -/
def ySet (w : gy_W) (e i : Nat) (v : gg_V) : gy_W := (w.1, gy_up w.2.1 e i v, w.2.2)
theorem wy_set {i : Nat} {v : gg_V} (h : yL w l e cap n f) (hi : i < n) (hv : gy_el v w 24 = true) (hr : gy_rr v = true) : wy N xs (d + 2) 387 0 [gr l, (0, (i : Int)), v, (3, 0)] [] w Q ↔ Q ((1, f i), ySet w e i v) := by
  obtain ⟨h1, h2, h3, h4, h5, h6, h7⟩ := id h
  obtain ⟨g1, g2⟩ := h7 i hi
  have r0 : gy_ra (gr l) = true := rfl
  have rv := gl_rr hr
  have rf := gl_rr g2
  have e1 : ((i : Int)).toNat = i := Int.toNat_natCast i
  rw [ly_387_0, ly_387_1 r0, ly_387_2 h1, h3, ly_387_5, wy_check hi (by omega), wz_1, ly_387_8, ly_387_9 r0, ly_387_10, ly_387_11 r0 (gl_cl h1 rfl), wy_elem h hi, wz_1, ly_387_14 rv rf, ly_387_15 r0, ly_387_16 h1, h2, ly_387_19, ly_387_20 rv, ly_387_21 h4 (by omega) (by omega) (by omega) hv, e1, ly_387_22 rf, ly_387_23 g2]
  rfl
theorem yL_set {i : Nat} {v : gg_V} (h : yL w l e cap n f) (hle : l ≠ e) (hr : gy_rr v = true) : yL (ySet w e i v) l e cap n (fun j => if j = i then v else f j) := by
  obtain ⟨h1, h2, h3, h4, h5, h6, h7⟩ := h
  refine ⟨h1, ?_, ?_, h4, h5, h6, fun j hj => ?_⟩
  · show gy_up w.2.1 e i v l 1 = _
    rw [gy_up_o hle]
    exact h2
  · show gy_up w.2.1 e i v l 2 = _
    rw [gy_up_o hle]
    exact h3
  · obtain ⟨g1, g2⟩ := h7 j hj
    show gy_up w.2.1 e i v e j = (if j = i then v else f j) ∧ gy_rr (if j = i then v else f j) = true
    by_cases hji : j = i
    · subst hji
      rw [if_pos rfl, gy_up_at]
      exact ⟨rfl, hr⟩
    · rw [if_neg hji, gy_up_k hji]
      exact ⟨g1, g2⟩
/-- add where there is room: the world behind it -/
def yAdd (w : gy_W) (l e n : Nat) (m : Int) (v : gg_V) : gy_W := (w.1, gy_up (gy_up (gy_up w.2.1 l 0 (0, io_add m 1)) e n v) l 2 (0, ((n + 1 : Nat) : Int)), w.2.2)
theorem gy_el_w {v : gg_V} {w w' : gy_W} {c : Nat} (h : w'.1 = w.1) : gy_el v w' c = gy_el v w c := by
  unfold gy_el
  rw [h]
theorem wy_add {v : gg_V} {m : Int} (h : yL w l e cap n f) (hle : l ≠ e) (he : e ≠ 0) (hn : n < cap) (hm : w.2.1 l 0 = (0, m)) (hv : gy_el v w 24 = true) (hr : gy_rr v = true) : wy N xs (d + 1) 377 0 [gr l, v] [] w Q ↔ Q ((1, (0, 1)), yAdd w l e n m v) := by
  obtain ⟨h1, h2, h3, h4, h5, h6, h7⟩ := id h
  have r0 : gy_ra (gr l) = true := rfl
  have re : gy_ra (gr e) = true := rfl
  have rv := gl_rr hr
  have e1 : ((n : Int)).toNat = n := Int.toNat_natCast n
  have e2 : gy_up w.2.1 l 0 (0, io_add m 1) l 1 = gr e := by rw [gy_up_k (by decide)]; exact h2
  have e3 : gy_up w.2.1 l 0 (0, io_add m 1) l 2 = (0, (n : Int)) := by rw [gy_up_k (by decide)]; exact h3
  have e4 : io_add (n : Int) 1 = ((n + 1 : Nat) : Int) := by rw [io_add_o (by omega) (by omega)]; omega
  have hv2 : gy_el v (w.1, gy_up w.2.1 l 0 (0, io_add m 1), w.2.2) 24 = true := (gy_el_w (w := w) rfl).trans hv
  have k1 : ((w.1, gy_up w.2.1 l 0 (0, io_add m 1), w.2.2) : gy_W).1 l = (0, 0, 15) := h1
  have k2 : ((w.1, gy_up w.2.1 l 0 (0, io_add m 1), w.2.2) : gy_W).1 e = (5, cap, 24) := h4
  have k3 : ((w.1, gy_up (gy_up w.2.1 l 0 (0, io_add m 1)) e n v, w.2.2) : gy_W).1 l = (0, 0, 15) := h1
  rw [ly_377_0 r0, ly_377_1 r0, ly_377_2 h1, hm, ly_377_5, ly_377_6, ly_377_7 h1, ly_377_10 r0, ly_377_11 rv, ly_377_12 r0, ly_377_13 k1]
  dsimp only
  rw [e2, ly_377_16 r0, ly_377_17 k1]
  dsimp only
  rw [e3, ly_377_20 re rv r0 (gl_cl k1 rfl), ly_378_0, ly_378_1 re, ly_378_2 he k2 (by decide) (by decide) (fun _ => rfl), ly_378_3 (by omega) (by omega) (by omega) (by omega)]
  simp only [show ¬ (n : Int) = (cap : Int) by omega, false_implies, not_false_eq_true, true_implies, true_and]
  rw [ly_378_11 re, ly_378_12, ly_378_13 rv, ly_378_14 k2 (by omega) (by omega) (by omega) hv2, e1, ly_378_15 r0, ly_378_16, ly_378_17, ly_378_18, e4, ly_378_19 k3, ly_378_22, wz_0, ly_377_23, ly_377_24 (Or.inr rfl)]
  rfl
theorem yL_add {v : gg_V} {m : Int} (h : yL w l e cap n f) (hle : l ≠ e) (hn : n < cap) (hr : gy_rr v = true) : yL (yAdd w l e n m v) l e cap (n + 1) (fun j => if j = n then v else f j) := by
  obtain ⟨h1, h2, h3, h4, h5, h6, h7⟩ := h
  refine ⟨h1, ?_, gy_up_at, h4, hn, h6, fun j hj => ?_⟩
  · show gy_up (gy_up (gy_up w.2.1 l 0 (0, io_add m 1)) e n v) l 2 _ l 1 = _
    rw [gy_up_k (by decide), gy_up_o hle, gy_up_k (by decide)]
    exact h2
  · show gy_up (gy_up (gy_up w.2.1 l 0 (0, io_add m 1)) e n v) l 2 _ e j = _ ∧ _
    rw [gy_up_o (Ne.symm hle)]
    dsimp only
    by_cases hji : j = n
    · subst hji
      rw [if_pos rfl, gy_up_at]
      exact ⟨rfl, hr⟩
    · obtain ⟨g1, g2⟩ := h7 j (by omega)
      rw [if_neg hji, gy_up_k hji, gy_up_o (Ne.symm hle)]
      exact ⟨g1, g2⟩
/-- a list only looks at its two cells -/
theorem yL_fr {w' : gy_W} (h : yL w l e cap n f) (a1 : w'.1 l = w.1 l) (a2 : w'.2.1 l = w.2.1 l) (b1 : w'.1 e = w.1 e) (b2 : w'.2.1 e = w.2.1 e) : yL w' l e cap n f := by
  obtain ⟨h1, h2, h3, h4, h5, h6, h7⟩ := h
  exact ⟨a1.trans h1, by rw [a2]; exact h2, by rw [a2]; exact h3, b1.trans h4, h5, h6, fun j hj => by rw [b2]; exact h7 j hj⟩
/-- new ArrayList(): the world behind the constructor -/
def yNew (w : gy_W) (l : Nat) : gy_W := (w.1, gy_up (gy_up w.2.1 l 0 (0, 0)) l 1 (7, 1), w.2.2)
theorem wy_ctor (h : w.1 l = (0, 0, 15)) : wy N xs (d + 2) 376 0 [gr l] [] w Q ↔ Q ((0, (3, 0)), yNew w l) := by
  have r0 : gy_ra (gr l) = true := rfl
  have k1 : ((w.1, gy_up w.2.1 l 0 (0, 0), w.2.2) : gy_W).1 l = (0, 0, 15) := h
  rw [ly_376_0 r0, ly_376_1, ly_419_0 r0, ly_419_1, ly_420_0 r0, ly_420_1, ly_420_4, wz_0, ly_419_4 r0, ly_419_5, ly_419_6 h, ly_419_9, wz_0, ly_376_4 r0, ly_376_5, ly_376_8 k1 rfl, ly_376_11]
  rfl
/-- a list that has never had an element: its row is the shared empty one -/
def yL0 (w : gy_W) (l : Nat) : Prop := w.1 l = (0, 0, 15) ∧ w.2.1 l 0 = (0, 0) ∧ w.2.1 l 1 = (7, 1) ∧ w.2.1 l 2 = (0, 0)
theorem yL0_new (h : w.1 l = (0, 0, 15)) (h2 : w.2.1 l 2 = (0, 0)) : yL0 (yNew w l) l := by
  refine ⟨h, ?_, gy_up_at, ?_⟩
  · show gy_up (gy_up w.2.1 l 0 (0, 0)) l 1 (7, 1) l 0 = _
    rw [gy_up_k (by decide), gy_up_at]
  · show gy_up (gy_up w.2.1 l 0 (0, 0)) l 1 (7, 1) l 2 = _
    rw [gy_up_k (by decide), gy_up_k (by decide)]
    exact h2
end LL
