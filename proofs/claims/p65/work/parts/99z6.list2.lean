/-! lists: from the first element on, growing too -/
/-- what these lists hold: small Integers, arcs, graphs -/
def yE (w : gy_W) (v : gg_V) : Prop := (∃ x, v = (6, x) ∧ -128 ≤ x ∧ x ≤ 127) ∨ ∃ a, v = gr a ∧ a ≤ w.2.2.1 ∧ (w.1 a = (0, 0, 7) ∨ w.1 a = (0, 0, 14))
theorem yE.rr {w : gy_W} {v : gg_V} (h : yE w v) : gy_rr v = true := by
  rcases h with ⟨x, rfl, _⟩ | ⟨a, rfl, _⟩
  · rfl
  · rfl
theorem yE.el {w : gy_W} {v : gg_V} (h : yE w v) : gy_el v w 24 = true := by
  rcases h with ⟨x, rfl, h1, h2⟩ | ⟨a, rfl, _, h⟩
  · exact decide_eq_true ⟨rfl, h1, h2⟩
  · show (decide (w.1 a = (0, 0, 24)) && decide (24 = 0 ∨ 24 = 2 ∨ 24 = 14) || decide (24 = 24) && (decide (w.1 a = (0, 0, 7)) || decide (w.1 a = (0, 0, 14)))) = true
    rcases h with h | h
    · rw [h]
      rfl
    · rw [h]
      rfl
theorem yE.fr {P : Nat → Prop} {c s : Nat} {w w' : gy_W} {v : gg_V} (h : yE w v) (hF : yF P c s w w') : yE w' v := by
  rcases h with h | ⟨a, h1, h2, h3⟩
  · exact Or.inl h
  · have := hF.le
    exact Or.inr ⟨a, h1, by omega, by rw [hF.sh h2]; exact h3⟩
theorem yE.i {w : gy_W} {x : Int} (h : -128 ≤ x) (h2 : x ≤ 127) : yE w (6, x) := Or.inl ⟨x, rfl, h, h2⟩
theorem yE.a {w : gy_W} {a : Nat} (h : a ≤ w.2.2.1) (h2 : w.1 a = (0, 0, 7)) : yE w (gr a) := Or.inr ⟨a, rfl, h, Or.inl h2⟩
theorem yE.g {w : gy_W} {a : Nat} (h : a ≤ w.2.2.1) (h2 : w.1 a = (0, 0, 14)) : yE w (gr a) := Or.inr ⟨a, rfl, h, Or.inr h2⟩
/-- the ArrayList l holds f 0 .. f (n - 1); e its row (the shared empty one where it has never had an element) -/
def yV (w : gy_W) (l e n : Nat) (f : Nat → gg_V) : Prop := w.1 l = (0, 0, 15) ∧ w.2.1 l 2 = (0, (n : Int)) ∧ (∃ m, w.2.1 l 0 = (0, m) ∧ -2147483648 ≤ m ∧ m ≤ 2147483647) ∧ 141 < l ∧ l ≤ w.2.2.1 ∧ 141 < e ∧ e ≤ w.2.2.1 ∧ ((w.2.1 l 1 = (7, 1) ∧ n = 0 ∧ e = l) ∨ (l ≠ e ∧ ∃ cap, (cap = 10 ∨ cap = 15) ∧ yL w l e cap n f ∧ ∀ j, j < n → yE w (f j)))
theorem yV.fr {P : Nat → Prop} {c s : Nat} {w w' : gy_W} {l e n : Nat} {f : Nat → gg_V} (h : yV w l e n f) (hF : yF P c s w w') (hl : ¬ P l) (he : ¬ P e) : yV w' l e n f := by
  obtain ⟨h1, h2, h3, h4, h5, h6, h7, h8⟩ := h
  have e1 := hF.sh h5
  have e2 := hF.me h5 hl
  have e3 := hF.sh h7
  have e4 := hF.me h7 he
  have e5 := hF.le
  refine ⟨e1.trans h1, by rw [e2]; exact h2, by rw [e2]; exact h3, h4, by omega, h6, by omega, ?_⟩
  rcases h8 with ⟨a, b⟩ | ⟨a, cap, b, c, g⟩
  · exact Or.inl ⟨by rw [e2]; exact a, b⟩
  · exact Or.inr ⟨a, cap, b, yL_fr c e1 e2 e3 e4, fun j hj => (g j hj).fr hF⟩
theorem yV.ne {w : gy_W} {l e n x k m c : Nat} {f : Nat → gg_V} (h : yV w l e n f) (hx : w.1 x = (k, m, c)) (hk : k ≠ 5) (hc : c ≠ 15) : x ≠ l ∧ x ≠ e := by
  obtain ⟨h1, h2, h3, h4, h5, h6, h7, h8⟩ := h
  have a : x ≠ l := by
    rintro rfl
    rw [h1] at hx
    exact hc (congrArg (fun z => z.2.2) hx).symm
  refine ⟨a, ?_⟩
  rintro rfl
  rcases h8 with ⟨_, _, z⟩ | ⟨_, cap, _, z, _⟩
  · exact a z
  · have := z.2.2.2.1
    rw [this] at hx
    exact hk (congrArg Prod.fst hx).symm
theorem yV.cg {w : gy_W} {l e n : Nat} {f g : Nat → gg_V} (h : yV w l e n f) (hf : ∀ j, j < n → g j = f j) : yV w l e n g := by
  obtain ⟨h1, h2, h3, h4, h5, h6, h7, h8⟩ := h
  refine ⟨h1, h2, h3, h4, h5, h6, h7, ?_⟩
  rcases h8 with a | ⟨a, cap, b, ⟨c1, c2, c3, c4, c5, c6, c7⟩, g⟩
  · exact Or.inl a
  · exact Or.inr ⟨a, cap, b, ⟨c1, c2, c3, c4, c5, c6, fun j hj => by rw [hf j hj]; exact c7 j hj⟩, fun j hj => by rw [hf j hj]; exact g j hj⟩
theorem yV.full {w : gy_W} {l e n : Nat} {f : Nat → gg_V} (h : yV w l e n f) {i : Nat} (hi : i < n) : l ≠ e ∧ ∃ cap, (cap = 10 ∨ cap = 15) ∧ yL w l e cap n f ∧ ∀ j, j < n → yE w (f j) := by
  rcases h.2.2.2.2.2.2.2 with a | b
  · omega
  · exact b
theorem yV.rr {w : gy_W} {l e n : Nat} {f : Nat → gg_V} (h : yV w l e n f) {i : Nat} (hi : i < n) : gy_rr (f i) = true := by
  obtain ⟨_, cap, _, hL, _⟩ := h.full hi
  exact (hL.2.2.2.2.2.2 i hi).2
theorem yV.E {w : gy_W} {l e n : Nat} {f : Nat → gg_V} (h : yV w l e n f) {i : Nat} (hi : i < n) : yE w (f i) := by
  obtain ⟨_, cap, _, _, g⟩ := h.full hi
  exact g i hi
section LV
variable {N : Nat} {xs : Nat → Int32} {d : Nat} {w : gy_W} {Q : gy_O → Prop} {l e n : Nat} {f : Nat → gg_V}
theorem wv_size (h : yV w l e n f) : wy N xs d 388 0 [gr l] [] w Q ↔ Q ((1, (0, (n : Int))), w) := wy_size h.1 h.2.1
theorem wv_get {i : Nat} (h : yV w l e n f) (hi : i < n) : wy N xs (d + 2) 382 0 [gr l, (0, (i : Int))] [] w Q ↔ Q ((1, f i), w) := by
  obtain ⟨_, cap, _, hL, _⟩ := h.full hi
  exact wy_get hL hi
theorem wv_set {i : Nat} {v : gg_V} (h : yV w l e n f) (hi : i < n) (hv : yE w v) (hQ : ∀ w', yF (fun x => x = e) 0 0 w w' → w'.2.2 = w.2.2 → yV w' l e n (fun j => if j = i then v else f j) → Q ((1, f i), w')) : wy N xs (d + 2) 387 0 [gr l, (0, (i : Int)), v, (3, 0)] [] w Q := by
  obtain ⟨hle, cap, hcap, hL, hE⟩ := h.full hi
  obtain ⟨h1, h2, h3, h4, h5, h6, h7, h8⟩ := h
  have hF : yF (fun x => x = e) 0 0 w (ySet w e i v) := yF.rf.up fun _ => rfl
  rw [wy_set hL hi hv.el hv.rr]
  refine hQ _ hF rfl ⟨h1, ?_, ?_, h4, h5, h6, h7, Or.inr ⟨hle, cap, hcap, yL_set hL hle hv.rr, fun j hj => ?_⟩⟩
  · show gy_up w.2.1 e i v l 2 = _
    rw [gy_up_o hle]
    exact h2
  · show ∃ m, gy_up w.2.1 e i v l 0 = _ ∧ _
    rw [gy_up_o hle]
    exact h3
  · dsimp only
    by_cases hji : j = i
    · rw [if_pos hji]
      exact hv.fr hF
    · rw [if_neg hji]
      exact (hE j hj).fr hF
/-- a row of 10 for what has had none -/
theorem wy_grow0 {z : Nat} (h : w.1 l = (0, 0, 15)) (h1 : w.2.1 l 1 = (7, 1)) (hz : z ≤ 9) (hl : l ≤ w.2.2.1) : wy N xs d 384 0 [gr l, (0, (z : Int)), (3, 0), (3, 0)] [] w Q ↔ Q ((1, gr (w.2.2.1 + 1)), ((gy_mk w (5, 10, 24) (fun _ => (2, -1)) 10).1, gy_up (gy_mk w (5, 10, 24) (fun _ => (2, -1)) 10).2.1 l 1 (gr (w.2.2.1 + 1)), (gy_mk w (5, 10, 24) (fun _ => (2, -1)) 10).2.2)) := by
  have k1 : (gy_mk w (5, 10, 24) (fun _ => (2, -1)) 10).1 l = (0, 0, 15) := (gy_mk_so (by omega)).trans h
  have k2 : ¬ (10 : Int) ≤ (z : Int) := by omega
  simp (disch := first | assumption | exact gl_gr | exact gl_rg | exact gl_r6 | exact gl_s6 | exact gl_r7 | exact gl_cl (by assumption) rfl | exact gl_c7 (by assumption) | exact gl_l6 (by omega) (by omega) | exact gl_c12 (by omega) (by omega) | omega | exact Or.inr rfl | exact Or.inl rfl) only [ly_384_0, ly_384_1, ly_384_4, ly_384_4E, ly_384_5, ly_384_6, ly_384_7, ly_384_10, ly_384_11, ly_384_14, ly_384_17, ly_384_20, ly_384_21, ly_384_22, ly_384_23, ly_384_24, ly_384_25, ly_384_26, ly_384_27, ly_384_30, ly_384_31, ly_384_32, ly_384_33, ly_384_36, ly_384_37, ly_384_40, ly_384_41, ly_384_44, ly_384_45, ly_384_46, ly_384_48, ly_384_49, ly_384_52, ly_384_55, ly_384_56, ly_384_59, io_add_o, io_sub_o, io_mul_o, io_neg_o, Int.toNat_natCast, true_implies, false_implies, implies_true, and_true, true_and, and_self, not_true_eq_false, not_false_eq_true, wz_0, wz_1, Int.ofNat_lt, Int.ofNat_le, Int.ofNat_inj, Nat.lt_irrefl, Int.lt_irrefl, Int.toNat_one, Int.toNat_zero, Bool.false_eq_true, reduceIte, reduceCtorEq, Nat.reduceAdd, Nat.reduceMul, Nat.reduceSub, Nat.reduceLT, Nat.reduceLeDiff, Nat.reduceEqDiff, Int.reduceNeg, Int.reduceAdd, Int.reduceMul, Int.reduceSub, Int.reduceLT, Int.reduceLE, Int.reduceEq, Int.reduceToNat, Int.reduceNatCast, Int.reduceTMod, Int.reduceTDiv, Nat.not_lt_zero, Nat.reduceMod, Nat.reduceDiv, Int.reduceMod, Int.reduceDiv, h1, k2]
/-- Arrays.copyOf -/
theorem wy_cof {m cap : Nat} (he : w.1 e = (5, cap, 24)) (h0 : e ≠ 0) (hc : cap ≤ 1000) (hm : m ≤ 1000) (hel : ∀ j, j < min cap m → yE w (w.2.1 e j)) (hle : e ≤ w.2.2.1)
    (hQ : ∀ w', yF (fun _ => False) 1 m w w' → w'.2.2.1 = w.2.2.1 + 1 → w'.1 (w.2.2.1 + 1) = (5, m, 24) → (∀ j, j < min cap m → w'.2.1 (w.2.2.1 + 1) j = w.2.1 e j) → Q ((1, gr (w.2.2.1 + 1)), w')) : wy N xs (d + 1) 413 0 [gr e, (0, (m : Int))] [] w Q := by
  have k1 : (gy_mk w (5, m, 24) (fun _ => (2, -1)) m).1 e = (5, cap, 24) := (gy_mk_so (by omega)).trans he
  have k2 : (gy_mk w (5, m, 24) (fun _ => (2, -1)) m).1 (w.2.2.1 + 1) = (5, m, 24) := gy_mk_s
  have k3 : (if (cap : Int) ≤ (m : Int) then (cap : Int) else (m : Int)) = ((min cap m : Nat) : Int) := by omega
  have k4 : ∀ j, j < min cap m → gy_el ((gy_mk w (5, m, 24) (fun _ => (2, -1)) m).2.1 e (0 + j)) (gy_mk w (5, m, 24) (fun _ => (2, -1)) m) 24 = true := by
    intro j hj
    rw [gy_mk_mo (by omega), Nat.zero_add]
    exact ((hel j hj).fr (yF.mk (yF.rf (P := fun _ => False)))).el
  rw [ly_413_0 gl_gr, ly_413_1, ly_413_2 gl_gr, ly_413_3 he, ly_413_6 gl_r7 gl_gr, ly_414_0 gl_r7, ly_414_1, ly_414_3, ly_414_6, ly_414_7 (by omega) (by omega), Int.toNat_natCast, ly_414_10, ly_414_24 gl_r7 gl_gr, ly_414_25 gl_gr, ly_414_26, ly_414_27 gl_gr, ly_414_28, ly_414_29 gl_gr, ly_414_30 h0 k1 (by decide) (by decide) (fun _ => rfl), ly_414_31, ly_414_32 (by omega) (by omega) (by omega) (by omega), k3, ly_414_35 k1 k2 k4 (by omega) (by omega) (by omega) (by omega), ly_414_38 gl_gr, ly_414_39 gl_rg, wz_1, ly_413_9 gl_rg]
  have hF0 : yF (fun _ => False) 1 m w (gy_mk w (5, m, 24) (fun _ => (2, -1)) m) := (yF.rf.mk).wk (fun _ _ z => z) (by omega) (by omega)
  refine hQ _ (hF0.cp (a := e) (sp := 0) (b := w.2.2.1 + 1) (dp := 0) (z := min cap m) fun h => by omega) rfl k2 fun j hj => ?_
  show gy_cpy _ e 0 _ 0 _ (w.2.2.1 + 1) j = _
  have := gy_cpy_at (m := (gy_mk w (5, m, 24) (fun _ => (2, -1)) m).2.1) (a := e) (sp := 0) (b := w.2.2.1 + 1) (dp := 0) (z := min cap m) (j := j) hj
  rw [Nat.zero_add] at this
  rw [this, gy_mk_mo (by omega)]
end LV
