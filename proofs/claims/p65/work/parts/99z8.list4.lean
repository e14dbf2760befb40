/-! lists: remove, the iterator, addAll, the constructor -/
/-- the iterator i over the list l stands at k -/
def yI (w : gy_W) (i l k : Nat) : Prop := w.1 i = (0, 0, 16) ∧ w.2.1 i 0 = (0, (k : Int)) ∧ w.2.1 i 2 = w.2.1 l 0 ∧ w.2.1 i 3 = gr l ∧ 141 < i ∧ i ≤ w.2.2.1
theorem yI.fr {P : Nat → Prop} {c s : Nat} {w w' : gy_W} {i l k : Nat} (h : yI w i l k) (hF : yF P c s w w') (hi : ¬ P i) (hl : ¬ P l) (hll : l ≤ w.2.2.1) : yI w' i l k := by
  obtain ⟨h1, h2, h3, h4, h5, h6⟩ := h
  have e1 := hF.me h6 hi
  have e2 := hF.me hll hl
  have := hF.le
  exact ⟨(hF.sh h6).trans h1, by rw [e1]; exact h2, by rw [e1, e2]; exact h3, by rw [e1]; exact h4, h5, by omega⟩
section LV4
variable {N : Nat} {xs : Nat → Int32} {d : Nat} {w : gy_W} {Q : gy_O → Prop} {l e n : Nat} {f : Nat → gg_V}
theorem wv_iter (h : w.1 l = (0, 0, 15)) (hl : l ≤ w.2.2.1) (h141 : 141 < l) (hQ : ∀ w', yF (fun _ => False) 1 8 w w' → w'.2.2.1 = w.2.2.1 + 1 → yI w' (w.2.2.1 + 1) l 0 → Q ((1, gr (w.2.2.1 + 1)), w')) (h0 : ∃ m, w.2.1 l 0 = (0, m)) : wy N xs (d + 1) 385 0 [gr l] [] w Q := by
  obtain ⟨m, hm⟩ := h0
  have k1 : (gy_mk w (0, 0, 16) (fun j => gy_df (gg_ft 16 j)) (gg_nf 16)).1 (w.2.2.1 + 1) = (0, 0, 16) := gy_mk_s
  have k2 : (gy_mk w (0, 0, 16) (fun j => gy_df (gg_ft 16 j)) (gg_nf 16)).1 l = (0, 0, 15) := (gy_mk_so (by omega)).trans h
  have k3 : (gy_mk w (0, 0, 16) (fun j => gy_df (gg_ft 16 j)) (gg_nf 16)).2.1 l 0 = (0, m) := by rw [gy_mk_mo (by omega)]; exact hm
  have k5 : (gy_mk w (0, 0, 16) (fun j => gy_df (gg_ft 16 j)) (gg_nf 16)).2.1 (w.2.2.1 + 1) 0 = (0, 0) := gy_mk_m
  have k6 : gg_nf 16 ≤ 8 := by decide +kernel
  have hF : yF (fun _ => False) 1 (gg_nf 16) w (gy_mk w (0, 0, 16) (fun j => gy_df (gg_ft 16 j)) (gg_nf 16)) := by
    have := (yF.rf (P := fun _ => False) (w := w)).mk (x := (0, 0, 16)) (g := fun j => gy_df (gg_ft 16 j)) (n := gg_nf 16)
    rw [Nat.zero_add, Nat.zero_add] at this
    exact this
  have kc : (gy_mk w (0, 0, 16) (fun j => gy_df (gg_ft 16 j)) (gg_nf 16)).2.2.1 = w.2.2.1 + 1 := rfl
  rw [ly_385_0, ly_385_3 gl_gr, ly_385_4 gl_gr, ly_385_5 gl_gr]
  generalize gy_mk w (0, 0, 16) (fun j => gy_df (gg_ft 16 j)) (gg_nf 16) = w1 at k1 k2 k3 k5 hF kc
  have g1 : ((w1.1, gy_up w1.2.1 (w.2.2.1 + 1) 3 (gr l), w1.2.2) : gy_W).1 (w.2.2.1 + 1) = (0, 0, 16) := k1
  have g2 : ((w1.1, gy_up (gy_up w1.2.1 (w.2.2.1 + 1) 3 (gr l)) (w.2.2.1 + 1) 1 (0, -1), w1.2.2) : gy_W).1 (w.2.2.1 + 1) = (0, 0, 16) := k1
  have g3 : ((w1.1, gy_up (gy_up w1.2.1 (w.2.2.1 + 1) 3 (gr l)) (w.2.2.1 + 1) 1 (0, -1), w1.2.2) : gy_W).1 l = (0, 0, 15) := k2
  have e1 : gy_up (gy_up w1.2.1 (w.2.2.1 + 1) 3 (gr l)) (w.2.2.1 + 1) 1 (0, -1) (w.2.2.1 + 1) 3 = gr l := by rw [gy_up_k (by decide), gy_up_at]
  have e2 : gy_up (gy_up w1.2.1 (w.2.2.1 + 1) 3 (gr l)) (w.2.2.1 + 1) 1 (0, -1) l 0 = (0, m) := by rw [gy_up_o (by omega), gy_up_o (by omega)]; exact k3
  rw [ly_390_0 gl_gr, ly_390_1 gl_gr, ly_390_2 k1 gl_rg, ly_390_5 gl_gr, ly_390_6, ly_390_9 gl_gr, ly_390_10, ly_390_11 g1, ly_390_14 gl_gr, ly_390_15 gl_gr, ly_390_16 g2]
  dsimp only
  rw [e1, ly_390_19 g3]
  dsimp only
  rw [e2, ly_390_22 g2, ly_390_25, wz_0, ly_385_8 gl_rg]
  refine hQ _ (yF.u (yF.u (yF.u (hF.wk (c' := 1) (s' := 8) (fun _ _ z => z) (by omega) (by omega)) fun z => by omega) fun z => by omega) fun z => by omega) kc ⟨k1, ?_, ?_, ?_, by omega, ?_⟩
  · show gy_up _ _ 2 _ (w.2.2.1 + 1) 0 = _
    dsimp only
    rw [gy_up_k (by decide), gy_up_k (by decide), gy_up_k (by decide)]
    exact k5
  · show gy_up _ _ 2 _ (w.2.2.1 + 1) 2 = gy_up _ _ 2 _ l 0
    dsimp only
    rw [gy_up_at, gy_up_o (by omega), e2]
  · show gy_up _ _ 2 _ (w.2.2.1 + 1) 3 = _
    dsimp only
    rw [gy_up_k (by decide), e1]
  · show w.2.2.1 + 1 ≤ w1.2.2.1
    omega
theorem wv_hasNext {i k : Nat} (hI : yI w i l k) (h : yV w l e n f) (hk : k ≤ n) (hn : n ≤ 1000) : wy N xs d 392 0 [gr i] [] w Q ↔ Q ((1, (0, if k = n then 0 else 1)), w) := by
  obtain ⟨i1, i2, i3, i4, i5, i6⟩ := hI
  obtain ⟨h1, h2, h3, h4, h5, h6, h7, h8⟩ := h
  rw [ly_392_0 gl_gr, ly_392_1 i1, i2, ly_392_4 gl_gr, ly_392_5 i1, i4, ly_392_8 h1, h2, ly_392_11 (by omega) (by omega) (by omega) (by omega)]
  by_cases hkn : k = n
  · rw [if_pos hkn]
    simp only [show (k : Int) = (n : Int) by omega, not_true_eq_false, true_implies, false_implies, and_true]
    rw [ly_392_18, ly_392_19 (Or.inl rfl)]
  · rw [if_neg hkn]
    simp only [show ¬ (k : Int) = (n : Int) by omega, not_false_eq_true, true_implies, false_implies, true_and]
    rw [ly_392_14, ly_392_15, ly_392_19 (Or.inr rfl)]
theorem wv_next {i k : Nat} (hI : yI w i l k) (h : yV w l e n f) (hk : k < n) (hil : i ≠ e) (hQ : ∀ w', yF (fun x => x = i) 0 0 w w' → w'.2.2 = w.2.2 → yI w' i l (k + 1) → Q ((1, f k), w')) : wy N xs (d + 1) 393 0 [gr i, (3, 0), (3, 0)] [] w Q := by
  obtain ⟨i1, i2, i3, i4, i5, i6⟩ := hI
  obtain ⟨hle, cap, hcap, ⟨c1, c2, c3, c4, c5, c6, c7⟩, hE⟩ := h.full hk
  obtain ⟨h1, h2, ⟨m, h3, hm1, hm2⟩, h4, h5, h6, h7, h8⟩ := h
  rw [h3] at i3
  have hli : l ≠ i := by
    rintro rfl
    rw [i1] at h1
    exact absurd h1 (by decide)
  have e1 : io_add (k : Int) 1 = ((k + 1 : Nat) : Int) := by rw [io_add_o (by omega) (by omega)]; omega
  have e2 : ((k : Int)).toNat = k := Int.toNat_natCast k
  have k1 : ((w.1, gy_up w.2.1 i 0 (0, ((k + 1 : Nat) : Int)), w.2.2) : gy_W).1 i = (0, 0, 16) := i1
  have k2 : ((w.1, gy_up (gy_up w.2.1 i 0 (0, ((k + 1 : Nat) : Int))) i 1 (0, (k : Int)), w.2.2) : gy_W).1 e = (5, cap, 24) := c4
  have k3 : gy_up (gy_up w.2.1 i 0 (0, ((k + 1 : Nat) : Int))) i 1 (0, (k : Int)) e k = f k := by
    rw [gy_up_o (Ne.symm hil), gy_up_o (Ne.symm hil)]
    exact (c7 k hk).1
  have rk := (c7 k hk).2
  rw [ly_393_0 gl_gr, ly_393_1 gl_gr (gl_cl i1 rfl), ly_391_0 gl_gr, ly_391_1 i1, i4, ly_391_4 h1, h3, ly_391_7 gl_gr, ly_391_8 i1, i3, ly_391_11 hm1 hm2 hm1 hm2]
  simp only [not_true_eq_false, true_implies, false_implies, and_true]
  rw [ly_391_22, wz_0, ly_393_4 gl_gr, ly_393_5 i1, i2, ly_393_8 gl_gr, ly_393_9, ly_393_10 gl_gr, ly_393_11 i1, i4, ly_393_14 h1, h2, ly_393_17 (by omega) (by omega) (by omega) (by omega)]
  simp only [show (k : Int) < (n : Int) by omega, not_true_eq_false, true_implies, false_implies, and_true]
  rw [ly_393_28 gl_gr, ly_393_29 i1, i4, ly_393_32 h1, c2, ly_393_35 gl_gr, ly_393_36, ly_393_37 gl_gr, ly_393_38 (by omega) c4 (by decide) (by decide) (fun _ => rfl), ly_393_39 (by omega) (by omega) (by omega) (by omega)]
  simp only [show (k : Int) < (cap : Int) by omega, not_true_eq_false, true_implies, false_implies, and_true]
  rw [ly_393_50 gl_gr, ly_393_51, ly_393_52, ly_393_53, e1, ly_393_54 i1, ly_393_57 gl_gr, ly_393_58 gl_gr, ly_393_59, ly_393_60 gl_gr, ly_393_61 k1]
  dsimp only
  rw [ly_393_64 k2 rfl (by omega) (by omega) (by omega) (by rw [e2]; dsimp only; rw [k3]; exact rk)]
  dsimp only
  rw [e2, k3, ly_393_65 rk]
  refine hQ _ (yF.u (yF.u yF.rf fun _ => rfl) fun _ => rfl) rfl ⟨i1, ?_, ?_, ?_, i5, i6⟩
  · show gy_up _ i 1 _ i 0 = _
    rw [gy_up_k (by decide), gy_up_at]
  · show gy_up _ i 1 _ i 2 = gy_up _ i 1 _ l 0
    rw [gy_up_k (by decide), gy_up_k (by decide), gy_up_o hli, gy_up_o hli, i3, h3]
  · show gy_up _ i 1 _ i 3 = _
    rw [gy_up_k (by decide), gy_up_k (by decide)]
    exact i4
/-- new ArrayList() -/
theorem wv_ctor (h : w.1 l = (0, 0, 15)) (h2 : w.2.1 l 2 = (0, 0)) (h141 : 141 < l) (hl : l ≤ w.2.2.1) (hQ : ∀ w', yF (fun x => x = l) 0 0 w w' → w'.2.2 = w.2.2 → (∀ g, yV w' l l 0 g) → w'.2.1 l 1 = (7, 1) → Q ((0, (3, 0)), w')) : wy N xs (d + 2) 376 0 [gr l] [] w Q := by
  rw [wy_ctor h]
  obtain ⟨a1, a2, a3, a4⟩ := yL0_new h h2
  exact hQ _ (yF.u (yF.u yF.rf fun _ => rfl) fun _ => rfl) rfl (fun g => ⟨a1, a4, ⟨0, a2, by decide, by decide⟩, h141, hl, h141, hl, Or.inl ⟨a3, rfl, rfl⟩⟩) a3
/-- remove(int) -/
theorem wv_rem {i : Nat} (h : yV w l e n f) (hi : i < n) (hQ : ∀ w', yF (fun x => x = l ∨ x = e) 0 0 w w' → w'.2.2 = w.2.2 → yV w' l e (n - 1) (fun j => if j < i then f j else f (j + 1)) → Q ((1, f i), w')) : wy N xs (d + 2) 386 0 [gr l, (0, (i : Int)), (3, 0), (3, 0)] [] w Q := by
  obtain ⟨hle, cap, hcap, ⟨c1, c2, c3, c4, c5, c6, c7⟩, hE⟩ := h.full hi
  obtain ⟨h1, h2, ⟨m, h3, hm1, hm2⟩, h4, h5, h6, h7, h8⟩ := id h
  have ri := (c7 i hi).2
  have e2 : ((i : Int)).toNat = i := Int.toNat_natCast i
  have hF1 : yF (fun x => x = l ∨ x = e) 0 0 w (w.1, gy_up w.2.1 l 0 (0, io_add m 1), w.2.2) := yF.rf.up fun _ => Or.inl rfl
  have k1 : ((w.1, gy_up w.2.1 l 0 (0, io_add m 1), w.2.2) : gy_W).1 l = (0, 0, 15) := h1
  have e3 : gy_up w.2.1 l 0 (0, io_add m 1) l 2 = (0, (n : Int)) := by rw [gy_up_k (by decide)]; exact h2
  have e4 : io_sub (n : Int) 1 = ((n - 1 : Nat) : Int) := by rw [io_sub_o (by omega) (by omega)]; omega
  have e5 : io_add (i : Int) 1 = ((i + 1 : Nat) : Int) := by rw [io_add_o (by omega) (by omega)]; omega
  have e6 : i < n - 1 → io_sub ((n - 1 : Nat) : Int) (i : Int) = ((n - 1 - i : Nat) : Int) := fun _ => by rw [io_sub_o (by omega) (by omega)]; omega
  have e7 : (((n - 1 : Nat) : Int)).toNat = n - 1 := Int.toNat_natCast _
  have hfin : ∀ (M : gy_M), (∀ x, x ≠ l → x ≠ e → M x = w.2.1 x) → M l 0 = (0, io_add m 1) → M l 1 = gr e → (∀ j, j < n - 1 → M e j = if j < i then f j else f (j + 1)) → Q ((1, f i), ((w.1, gy_up (gy_up M l 2 (0, ((n - 1 : Nat) : Int))) e (n - 1) (2, -1), w.2.2) : gy_W)) := by
    intro M hM m0 m1 me
    refine hQ _ ⟨Nat.le_refl _, Nat.le_refl _, Nat.le_refl _, fun x _ => ⟨rfl, fun hn => ?_⟩⟩ rfl ⟨h1, ?_, ⟨io_add m 1, ?_, io_add_rg _ _⟩, h4, h5, h6, h7, Or.inr ⟨hle, cap, hcap, ⟨h1, ?_, ?_, c4, by omega, c6, fun j hj => ?_⟩, fun j hj => ?_⟩⟩
    · show gy_up _ e _ _ x = _
      rw [gy_up_o (fun z => hn (Or.inr z)), gy_up_o (fun z => hn (Or.inl z))]
      exact hM x (fun z => hn (Or.inl z)) (fun z => hn (Or.inr z))
    · show gy_up _ e _ _ l 2 = _
      rw [gy_up_o hle, gy_up_at]
    · show gy_up _ e _ _ l 0 = _
      rw [gy_up_o hle, gy_up_k (by decide)]
      exact m0
    · show gy_up _ e _ _ l 1 = _
      rw [gy_up_o hle, gy_up_k (by decide)]
      exact m1
    · show gy_up _ e _ _ l 2 = _
      rw [gy_up_o hle, gy_up_at]
    · show gy_up _ e _ _ e j = _ ∧ _
      rw [gy_up_k (by omega), gy_up_o (Ne.symm hle), me j hj]
      refine ⟨rfl, ?_⟩
      dsimp only
      split
      · exact h.rr (i := j) (by omega)
      · exact h.rr (i := j + 1) (by omega)
    · dsimp only
      have hFF : ∀ v, yE w v → yE ((w.1, gy_up (gy_up M l 2 (0, ((n - 1 : Nat) : Int))) e (n - 1) (2, -1), w.2.2) : gy_W) v := fun v z => z
      split
      · exact hFF _ (hE j (by omega))
      · exact hFF _ (hE (j + 1) (by omega))
  rw [ly_386_0, ly_386_1 gl_gr, ly_386_2 h1, h2, ly_386_5, wy_check hi (by omega), wz_1, ly_386_8, ly_386_9 gl_gr, ly_386_10 h1, c2, ly_386_13 gl_gr, ly_386_14 gl_gr, ly_386_15, ly_386_16 c4 rfl (by omega) (by omega) (by omega) (by rw [e2, (c7 i hi).1]; exact ri), e2, (c7 i hi).1, ly_386_17 gl_gr (gl_rr ri), ly_386_18 gl_gr, ly_386_19 gl_gr, ly_386_20, ly_386_21 gl_gr gl_gr (gl_cl h1 rfl)]
  rw [ly_381_0 gl_gr, ly_381_1 gl_gr, ly_381_2 h1, h3, ly_381_5, ly_381_6, ly_381_7 h1, ly_381_10 gl_gr, ly_381_11 k1]
  dsimp only
  rw [e3, ly_381_14, ly_381_15, e4, ly_381_16, ly_381_17, ly_381_18, ly_381_19 (by omega) (by omega) (by omega) (by omega)]
  by_cases hlt : i < n - 1
  · simp only [show (i : Int) < ((n - 1 : Nat) : Int) by omega, not_true_eq_false, true_implies, false_implies, and_true]
    have k4 : ((w.1, gy_up w.2.1 l 0 (0, io_add m 1), w.2.2) : gy_W).1 e = (5, cap, 24) := c4
    have hel : ∀ j, j < n - 1 - i → gy_el (((w.1, gy_up w.2.1 l 0 (0, io_add m 1), w.2.2) : gy_W).2.1 e (i + 1 + j)) (w.1, gy_up w.2.1 l 0 (0, io_add m 1), w.2.2) 24 = true := by
      intro j hj
      show gy_el (gy_up w.2.1 l 0 _ e (i + 1 + j)) _ 24 = true
      rw [gy_up_o (Ne.symm hle), (c7 (i + 1 + j) (by omega)).1]
      exact ((hE (i + 1 + j) (by omega)).fr hF1).el
    have k5 : ((w.1, gy_cpy (gy_up w.2.1 l 0 (0, io_add m 1)) e (i + 1) e i (n - 1 - i), w.2.2) : gy_W).1 l = (0, 0, 15) := h1
    have k6 : ((w.1, gy_up (gy_cpy (gy_up w.2.1 l 0 (0, io_add m 1)) e (i + 1) e i (n - 1 - i)) l 2 (0, ((n - 1 : Nat) : Int)), w.2.2) : gy_W).1 e = (5, cap, 24) := c4
    rw [ly_381_22 gl_gr, ly_381_23, ly_381_24, ly_381_25, e5, ly_381_26 gl_gr, ly_381_27, ly_381_28, ly_381_29, ly_381_30, e6 hlt, ly_381_31 k4 k4 hel (by omega) (by omega) (by omega) (by omega)]
    rw [ly_381_34 gl_gr, ly_381_35 gl_gr, ly_381_36, ly_381_37 gl_gr, ly_381_38 k5, ly_381_41, ly_381_42 k6 (by omega) (by omega) (by omega) rfl, e7, ly_381_43, wz_0, ly_386_24 (gl_rr ri), ly_386_25 ri]
    refine hfin _ (fun x hx hy => ?_) ?_ ?_ (fun j hj => ?_)
    · rw [gy_cpy_o hy, gy_up_o hx]
    · rw [gy_cpy_o hle, gy_up_at]
    · rw [gy_cpy_o hle, gy_up_k (by decide)]
      exact c2
    · by_cases hji : j < i
      · rw [if_pos hji, gy_cpy_k (Or.inl hji), gy_up_o (Ne.symm hle), (c7 j (by omega)).1]
      · rw [if_neg hji]
        have ej : j = i + (j - i) := by omega
        have := gy_cpy_at (m := gy_up w.2.1 l 0 (0, io_add m 1)) (a := e) (sp := i + 1) (b := e) (dp := i) (z := n - 1 - i) (j := j - i) (by omega)
        rw [← ej] at this
        rw [this, gy_up_o (Ne.symm hle), show i + 1 + (j - i) = j + 1 by omega, (c7 (j + 1) (by omega)).1]
  · simp only [show ¬ (i : Int) < ((n - 1 : Nat) : Int) by omega, not_false_eq_true, true_implies, false_implies, true_and]
    have k6 : ((w.1, gy_up (gy_up w.2.1 l 0 (0, io_add m 1)) l 2 (0, ((n - 1 : Nat) : Int)), w.2.2) : gy_W).1 e = (5, cap, 24) := c4
    rw [ly_381_34 gl_gr, ly_381_35 gl_gr, ly_381_36, ly_381_37 gl_gr, ly_381_38 k1, ly_381_41, ly_381_42 k6 (by omega) (by omega) (by omega) rfl, e7, ly_381_43, wz_0, ly_386_24 (gl_rr ri), ly_386_25 ri]
    refine hfin _ (fun x hx hy => ?_) ?_ ?_ (fun j hj => ?_)
    · rw [gy_up_o hx]
    · rw [gy_up_at]
    · rw [gy_up_k (by decide)]
      exact c2
    · rw [if_pos (by omega), gy_up_o (Ne.symm hle), (c7 j (by omega)).1]
/-- addAll of a list to one that has had no element -/
theorem wv_addAll {l2 e2 : Nat} {f0 : Nat → gg_V} (h0 : yV w l l 0 f0) (h07 : w.2.1 l 1 = (7, 1)) (h : yV w l2 e2 n f) (hne : l2 ≠ l) (he2 : e2 ≠ l) (hn1 : 1 ≤ n) (hn8 : n ≤ 8)
    (hQ : ∀ w', yF (fun x => x = l) 2 18 w w' → yV w' l (w.2.2.1 + 2) n f → Q ((1, (0, 1)), w')) : wy N xs (d + 3) 379 0 [gr l, gr l2, (3, 0), (3, 0), (3, 0), (3, 0)] [] w Q := by
  obtain ⟨hle, cap, hcap, ⟨c1, c2, c3, c4, c5, c6, c7⟩, hE⟩ := h.full (i := 0) (by omega)
  obtain ⟨a1, a2, a3, a4, a5, a6, a7, a8⟩ := h
  obtain ⟨b1, b2, ⟨m, b3, hm1, hm2⟩, b4, b5, b6, b7, b8⟩ := h0
  have hmin : min cap n = n := by omega
  rw [ly_379_0 gl_gr, ly_379_1 gl_gr (gl_cl a1 rfl), ly_389_0 gl_gr, ly_389_1 a1, c2, ly_389_4 gl_gr, ly_389_5 a1, a2, ly_389_8 gl_gr]
  refine wy_cof (m := n) c4 (by omega) (by omega) (by omega) (fun j hj => by rw [(c7 j (by omega)).1]; exact hE j (by omega)) a7 fun w1 hF1 hc1 hs1 hm1 => ?_
  rw [hmin] at hm1
  have q1 : w1.1 l = (0, 0, 15) := (hF1.sh b5).trans b1
  have q3 : w1.2.1 l 0 = (0, m) := by rw [hF1.me b5 id]; exact b3
  have q4 : w1.2.1 l 1 = (7, 1) := by rw [hF1.me b5 id]; exact h07
  have q5 : w1.2.1 l 2 = (0, 0) := by rw [hF1.me b5 id]; exact b2
  have e1 : gy_up w1.2.1 l 0 (0, io_add m 1) l 1 = (7, 1) := by rw [gy_up_k (by decide)]; exact q4
  have e2' : gy_up w1.2.1 l 0 (0, io_add m 1) l 2 = (0, 0) := by rw [gy_up_k (by decide)]; exact q5
  have k1 : ((w1.1, gy_up w1.2.1 l 0 (0, io_add m 1), w1.2.2) : gy_W).1 l = (0, 0, 15) := q1
  have k2 : ((w1.1, gy_up w1.2.1 l 0 (0, io_add m 1), w1.2.2) : gy_W).1 (w.2.2.1 + 1) = (5, n, 24) := hs1
  have e5 : io_sub 0 0 = 0 := by decide
  have e6 : io_add 0 (n : Int) = (n : Int) := by rw [io_add_o (by omega) (by omega)]; omega
  have hF2 : yF (fun x => x = l) 1 n w (w1.1, gy_up w1.2.1 l 0 (0, io_add m 1), w1.2.2) := (hF1.wk (fun _ _ z => z.elim) (Nat.le_refl _) (Nat.le_refl _)).up fun _ => rfl
  rw [wz_1, ly_389_11 gl_rg, wz_1, ly_379_6 gl_gr gl_gr, ly_379_7 gl_gr, ly_379_8 gl_gr, ly_379_9 q1, q3, ly_379_12, ly_379_13, ly_379_14 q1, ly_379_17 gl_gr, ly_379_18 (by omega) k2 (by decide) (by decide) (fun _ => rfl), ly_379_19 gl_gr, ly_379_20, ly_379_21 (by omega) (by omega)]
  simp only [show ¬ (n : Int) = 0 by omega, not_false_eq_true, true_implies, false_implies, true_and]
  rw [ly_379_26, ly_379_27 gl_gr, ly_379_28 k1]
  dsimp only
  rw [e1, ly_379_31 gl_r7, ly_379_32 gl_r7, ly_379_34E, ly_379_35 gl_gr, ly_379_36 k1]
  dsimp only
  rw [e2', ly_379_39, ly_379_40 gl_r7, ly_379_42, e5, ly_379_43 (by omega) (by omega) (by omega) (by omega)]
  simp only [show (0 : Int) < (n : Int) by omega, not_true_eq_false, true_implies, false_implies, and_true]
  rw [ly_379_46 gl_gr, ly_379_47, ly_379_49, ly_379_50, e6, ly_379_51 gl_gr (gl_cl k1 rfl)]
  have hc2 : w1.2.2.1 = w.2.2.1 + 1 := hc1
  rw [wy_grow0 k1 (by exact e1) (by omega) (by show l ≤ w1.2.2.1; omega), wz_1]
  have hF3 := (hF2.mk (x := (5, 10, 24)) (g := fun _ => (2, -1)) (n := 10)).up (a := l) (k := 1) (v := gr (w1.2.2.1 + 1)) fun _ => rfl
  have s1 : ((gy_mk (w1.1, gy_up w1.2.1 l 0 (0, io_add m 1), w1.2.2) (5, 10, 24) (fun _ => (2, -1)) 10).1) (w.2.2.1 + 1) = (5, n, 24) := (gy_mk_so (by show w.2.2.1 + 1 ≠ w1.2.2.1 + 1; omega)).trans hs1
  have s2 : ((gy_mk (w1.1, gy_up w1.2.1 l 0 (0, io_add m 1), w1.2.2) (5, 10, 24) (fun _ => (2, -1)) 10).1) (w1.2.2.1 + 1) = (5, 10, 24) := gy_mk_s
  have s3 : ((gy_mk (w1.1, gy_up w1.2.1 l 0 (0, io_add m 1), w1.2.2) (5, 10, 24) (fun _ => (2, -1)) 10).1) l = (0, 0, 15) := (gy_mk_so (by show l ≠ w1.2.2.1 + 1; omega)).trans q1
  have t1 : ∀ j, j < n → gy_up (gy_mk (w1.1, gy_up w1.2.1 l 0 (0, io_add m 1), w1.2.2) (5, 10, 24) (fun _ => (2, -1)) 10).2.1 l 1 (gr (w1.2.2.1 + 1)) (w.2.2.1 + 1) j = f j := by
    intro j hj
    rw [gy_up_o (by omega), gy_mk_mo (by show w.2.2.1 + 1 ≠ w1.2.2.1 + 1; omega)]
    show gy_up w1.2.1 l 0 _ (w.2.2.1 + 1) j = _
    rw [gy_up_o (by omega), hm1 j hj]
    exact (c7 j hj).1
  have t2 : gy_up (gy_mk (w1.1, gy_up w1.2.1 l 0 (0, io_add m 1), w1.2.2) (5, 10, 24) (fun _ => (2, -1)) 10).2.1 l 1 (gr (w1.2.2.1 + 1)) l 0 = (0, io_add m 1) := by
    rw [gy_up_k (by decide), gy_mk_mo (by show l ≠ w1.2.2.1 + 1; omega)]
    exact gy_up_at
  have tc : (gy_mk (w1.1, gy_up w1.2.1 l 0 (0, io_add m 1), w1.2.2) (5, 10, 24) (fun _ => (2, -1)) 10).2.2.1 = w.2.2.1 + 2 := by
    show w1.2.2.1 + 1 = _
    omega
  have kc : ((w1.1, gy_up w1.2.1 l 0 (0, io_add m 1), w1.2.2) : gy_W).2.2.1 + 1 = w1.2.2.1 + 1 := rfl
  rw [kc]
  generalize gy_mk (w1.1, gy_up w1.2.1 l 0 (0, io_add m 1), w1.2.2) (5, 10, 24) (fun _ => (2, -1)) 10 = w2 at hF3 s1 s2 s3 t1 t2 tc
  have hE1 : ∀ j, j < n → gy_el (((w2.1, gy_up w2.2.1 l 1 (gr (w1.2.2.1 + 1)), w2.2.2) : gy_W).2.1 (w.2.2.1 + 1) (0 + j)) (w2.1, gy_up w2.2.1 l 1 (gr (w1.2.2.1 + 1)), w2.2.2) 24 = true := by
    intro j hj
    rw [Nat.zero_add]
    show gy_el (gy_up w2.2.1 l 1 (gr (w1.2.2.1 + 1)) (w.2.2.1 + 1) j) _ 24 = true
    rw [t1 j hj]
    exact ((hE j hj).fr hF3).el
  have s1' : ((w2.1, gy_up w2.2.1 l 1 (gr (w1.2.2.1 + 1)), w2.2.2) : gy_W).1 (w.2.2.1 + 1) = (5, n, 24) := s1
  have s2' : ((w2.1, gy_up w2.2.1 l 1 (gr (w1.2.2.1 + 1)), w2.2.2) : gy_W).1 (w1.2.2.1 + 1) = (5, 10, 24) := s2
  have s3' : ((w2.1, gy_cpy (gy_up w2.2.1 l 1 (gr (w1.2.2.1 + 1))) (w.2.2.1 + 1) 0 (w1.2.2.1 + 1) 0 n, w2.2.2) : gy_W).1 l = (0, 0, 15) := s3
  rw [ly_379_54 gl_gr, ly_379_56 gl_gr, ly_379_57, ly_379_58 gl_gr, ly_379_60, ly_379_62]
  have hcp := ly_379_63 (N := N) (xs := xs) (d := d + 3) (L := [gr l, gr l2, gr (w.2.2.1 + 1), (0, (n : Int)), gr (w1.2.2.1 + 1), (0, 0)]) (w := (w2.1, gy_up w2.2.1 l 1 (gr (w1.2.2.1 + 1)), w2.2.2)) (Q := Q) (dp := 0) s1' s2' hE1 (Nat.le_refl _) (by omega) (by omega) (by omega)
  rw [show (((0 : Nat) : Int)) = 0 from rfl] at hcp
  rw [hcp, ly_379_66 gl_gr, ly_379_67, ly_379_69, ly_379_70, e6, ly_379_71 s3', ly_379_74, ly_379_75 (Or.inr rfl)]
  have hF4 := ((hF3.cp (a := w.2.2.1 + 1) (sp := 0) (b := w1.2.2.1 + 1) (dp := 0) (z := n) fun z => by omega).up (a := l) (k := 2) (v := (0, (n : Int))) fun _ => rfl)
  have hl1 : l ≠ w1.2.2.1 + 1 := by omega
  refine hQ _ (hF4.wk (fun _ _ z => z) (by omega) (by omega)) ⟨s3, gy_up_at, ⟨io_add m 1, ?_, io_add_rg _ _⟩, b4, ?_, by omega, ?_, Or.inr ⟨by omega, 10, Or.inl rfl, ⟨s3, ?_, gy_up_at, ?_, by omega, by omega, fun j hj => ?_⟩, fun j hj => (hE j hj).fr hF4⟩⟩
  · show gy_up (gy_cpy _ _ _ _ _ _) l 2 _ l 0 = _
    rw [gy_up_k (by decide), gy_cpy_o hl1]
    exact t2
  · show l ≤ w2.2.2.1
    omega
  · show w.2.2.1 + 2 ≤ w2.2.2.1
    omega
  · show gy_up (gy_cpy _ _ _ _ _ _) l 2 _ l 1 = _
    rw [gy_up_k (by decide), gy_cpy_o hl1, gy_up_at, hc2]
  · show w2.1 (w.2.2.1 + 2) = _
    rw [show w.2.2.1 + 2 = w1.2.2.1 + 1 by omega]
    exact s2
  · show gy_up (gy_cpy _ _ _ _ _ _) l 2 _ (w.2.2.1 + 2) j = _ ∧ _
    rw [gy_up_o (by omega), show w.2.2.1 + 2 = w1.2.2.1 + 1 by omega]
    have := gy_cpy_at (m := gy_up w2.2.1 l 1 (gr (w1.2.2.1 + 1))) (a := w.2.2.1 + 1) (sp := 0) (b := w1.2.2.1 + 1) (dp := 0) (z := n) (j := j) hj
    rw [Nat.zero_add] at this
    rw [this, t1 j hj]
    exact ⟨rfl, (c7 j hj).2⟩
end LV4
