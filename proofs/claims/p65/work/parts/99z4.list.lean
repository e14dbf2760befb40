/-! lists: what an ArrayList holds; its size, an element -/
theorem gy_up_at {m : gy_M} {a k : Nat} {v : gg_V} : gy_up m a k v a k = v := if_pos ⟨rfl, rfl⟩
theorem gy_up_o {m : gy_M} {a k o : Nat} {v : gg_V} (h : o ≠ a) : gy_up m a k v o = m o := by
  funext j
  exact if_neg fun z => h z.1
theorem gy_up_k {m : gy_M} {a k j : Nat} {v : gg_V} (h : j ≠ k) : gy_up m a k v a j = m a j := if_neg fun z => h z.2
theorem gy_mk_s {w : gy_W} {x : Nat × Nat × Nat} {g : Nat → gg_V} {n : Nat} : (gy_mk w x g n).1 (w.2.2.1 + 1) = x := if_pos rfl
theorem gy_mk_so {w : gy_W} {x : Nat × Nat × Nat} {g : Nat → gg_V} {n o : Nat} (h : o ≠ w.2.2.1 + 1) : (gy_mk w x g n).1 o = w.1 o := if_neg h
theorem gy_mk_m {w : gy_W} {x : Nat × Nat × Nat} {g : Nat → gg_V} {n k : Nat} : (gy_mk w x g n).2.1 (w.2.2.1 + 1) k = g k := if_pos rfl
theorem gy_mk_mo {w : gy_W} {x : Nat × Nat × Nat} {g : Nat → gg_V} {n o : Nat} (h : o ≠ w.2.2.1 + 1) : (gy_mk w x g n).2.1 o = w.2.1 o := by
  funext j
  exact if_neg h
theorem gl_cl {w : gy_W} {a c : Nat} (h : w.1 a = (0, 0, c)) (ho : gy_ob c = true) : gy_cl (gr a) w = some c := by
  show (if (w.1 a).1 = 0 ∧ (w.1 a).2.1 = 0 ∧ gy_ob (w.1 a).2.2 = true then some (w.1 a).2.2 else none) = some c
  rw [h]
  exact if_pos ⟨rfl, rfl, ho⟩
/-- the ArrayList l holds the values f 0 .. f (n - 1), its row is e with cap places -/
def yL (w : gy_W) (l e cap n : Nat) (f : Nat → gg_V) : Prop := w.1 l = (0, 0, 15) ∧ w.2.1 l 1 = gr e ∧ w.2.1 l 2 = (0, (n : Int)) ∧ w.1 e = (5, cap, 24) ∧ n ≤ cap ∧ cap ≤ 1000 ∧ ∀ j, j < n → w.2.1 e j = f j ∧ gy_rr (f j) = true
section LL
variable {N : Nat} {xs : Nat → Int32} {d : Nat} {w : gy_W} {Q : gy_O → Prop} {l e cap n : Nat} {f : Nat → gg_V}
theorem wy_size (h : w.1 l = (0, 0, 15)) (h2 : w.2.1 l 2 = (0, (n : Int))) : wy N xs d 388 0 [gr l] [] w Q ↔ Q ((1, (0, (n : Int))), w) := by
  have r0 : gy_ra (gr l) = true := rfl
  rw [ly_388_0 r0, ly_388_1 h, h2, ly_388_4]
/-- Objects.checkIndex -/
theorem wy_check {i m : Nat} (hi : i < m) (hm : m ≤ 100000) : wy N xs (d + 1) 418 0 [(0, (i : Int)), (0, (m : Int))] [] w Q ↔ Q ((1, (0, (i : Int))), w) := by
  have r0 : gy_ra ((2, -1) : gg_V) = true := rfl
  rw [ly_418_0, ly_418_1, ly_418_2, ly_418_3 r0, ly_341_0, ly_341_1 (by omega) (by omega)]
  simp only [show ¬ (i : Int) < 0 by omega, false_implies, not_false_eq_true, true_implies, true_and]
  rw [ly_341_4, ly_341_5, ly_341_6 (by omega) (by omega) (by omega) (by omega)]
  simp only [show (i : Int) < (m : Int) by omega, true_implies, not_true_eq_false, false_implies, and_true]
  rw [ly_341_16, ly_341_17, wz_1, ly_418_6]
theorem wy_elem {i : Nat} (h : yL w l e cap n f) (hi : i < n) : wy N xs d 380 0 [gr l, (0, (i : Int))] [] w Q ↔ Q ((1, f i), w) := by
  obtain ⟨h1, h2, h3, h4, h5, h6, h7⟩ := h
  obtain ⟨g1, g2⟩ := h7 i hi
  have r0 : gy_ra (gr l) = true := rfl
  have e1 : ((i : Int)).toNat = i := Int.toNat_natCast i
  rw [ly_380_0 r0, ly_380_1 h1, h2, ly_380_4, ly_380_5 h4 rfl (by omega) (by omega) (by omega) (by rw [e1, g1]; exact g2), e1, g1, ly_380_6 g2]
theorem wy_get {i : Nat} (h : yL w l e cap n f) (hi : i < n) : wy N xs (d + 2) 382 0 [gr l, (0, (i : Int))] [] w Q ↔ Q ((1, f i), w) := by
  obtain ⟨h1, h2, h3, h4, h5, h6, h7⟩ := id h
  obtain ⟨g1, g2⟩ := h7 i hi
  have r0 : gy_ra (gr l) = true := rfl
  rw [ly_382_0, ly_382_1 r0, ly_382_2 h1, h3, ly_382_5, wy_check hi (by omega), wz_1, ly_382_8, ly_382_9 r0, ly_382_10, ly_382_11 r0 (gl_cl h1 rfl), wy_elem h hi, wz_1, ly_382_14 g2]
end LL
