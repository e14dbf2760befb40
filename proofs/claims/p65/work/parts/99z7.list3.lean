/-! lists: add, remove, the iterator, addAll, the constructor -/
section LV3
variable {N : Nat} {xs : Nat → Int32} {d : Nat} {w : gy_W} {Q : gy_O → Prop} {l e n : Nat} {f : Nat → gg_V}
theorem yV.mod {m : Int} (h : yV w l e n f) : yV (w.1, gy_up w.2.1 l 0 (0, io_add m 1), w.2.2) l e n f := by
  obtain ⟨h1, h2, h3, h4, h5, h6, h7, h8⟩ := h
  refine ⟨h1, ?_, ⟨io_add m 1, gy_up_at, io_add_rg _ _⟩, h4, h5, h6, h7, ?_⟩
  · show gy_up w.2.1 l 0 _ l 2 = _
    rw [gy_up_k (by decide)]
    exact h2
  · rcases h8 with ⟨a, b⟩ | ⟨a, cap, b, c, g⟩
    · refine Or.inl ⟨?_, b⟩
      show gy_up w.2.1 l 0 _ l 1 = _
      rw [gy_up_k (by decide)]
      exact a
    · obtain ⟨c1, c2, c3, c4, c5, c6, c7⟩ := c
      refine Or.inr ⟨a, cap, b, ⟨c1, ?_, ?_, c4, c5, c6, fun j hj => ?_⟩, fun j hj => (g j hj).fr (yF.rf.up (P := fun _ => True) fun _ => trivial)⟩
      · show gy_up w.2.1 l 0 _ l 1 = _
        rw [gy_up_k (by decide)]
        exact c2
      · show gy_up w.2.1 l 0 _ l 2 = _
        rw [gy_up_k (by decide)]
        exact c3
      · show gy_up w.2.1 l 0 _ e j = _ ∧ _
        rw [gy_up_o (Ne.symm a)]
        exact c7 j hj
theorem wv_pre {v row : gg_V} {m : Int} (h1 : w.1 l = (0, 0, 15)) (hm : w.2.1 l 0 = (0, m)) (h2 : w.2.1 l 2 = (0, (n : Int))) (h3 : w.2.1 l 1 = row) (hra : gy_ra row = true) (rv : gy_ra v = true)
    (hQ : wy N xs d 378 0 [gr l, v, row, (0, (n : Int))] [] (w.1, gy_up w.2.1 l 0 (0, io_add m 1), w.2.2) (wz N xs (d + 1) 377 20 3 [gr l, v] [] Q)) : wy N xs (d + 1) 377 0 [gr l, v] [] w Q := by
  have r0 : gy_ra (gr l) = true := rfl
  have e2 : gy_up w.2.1 l 0 (0, io_add m 1) l 1 = row := by rw [gy_up_k (by decide)]; exact h3
  have e3 : gy_up w.2.1 l 0 (0, io_add m 1) l 2 = (0, (n : Int)) := by rw [gy_up_k (by decide)]; exact h2
  have k1 : ((w.1, gy_up w.2.1 l 0 (0, io_add m 1), w.2.2) : gy_W).1 l = (0, 0, 15) := h1
  rw [ly_377_0 r0, ly_377_1 r0, ly_377_2 h1, hm, ly_377_5, ly_377_6, ly_377_7 h1, ly_377_10 r0, ly_377_11 rv, ly_377_12 r0, ly_377_13 k1]
  dsimp only
  rw [e2, ly_377_16 r0, ly_377_17 k1]
  dsimp only
  rw [e3, ly_377_20 hra rv r0 (gl_cl k1 rfl)]
  exact hQ
theorem wv_suf {v : gg_V} {cap : Nat} (h1 : w.1 l = (0, 0, 15)) (h4 : w.1 e = (5, cap, 24)) (hn : n < cap) (hc : cap ≤ 1000) (hv : gy_el v w 24 = true) (hr : gy_ra v = true) : wy N xs d 378 11 [gr l, v, gr e, (0, (n : Int))] [] w Q ↔ Q ((0, (3, 0)), (w.1, gy_up (gy_up w.2.1 e n v) l 2 (0, ((n + 1 : Nat) : Int)), w.2.2)) := by
  have r0 : gy_ra (gr l) = true := rfl
  have e1 : ((n : Int)).toNat = n := Int.toNat_natCast n
  have e4 : io_add (n : Int) 1 = ((n + 1 : Nat) : Int) := by rw [io_add_o (by omega) (by omega)]; omega
  have k3 : ((w.1, gy_up w.2.1 e n v, w.2.2) : gy_W).1 l = (0, 0, 15) := h1
  rw [ly_378_11 gl_gr, ly_378_12, ly_378_13 hr, ly_378_14 h4 (by omega) (by omega) (by omega) hv, e1, ly_378_15 r0, ly_378_16, ly_378_17, ly_378_18, e4, ly_378_19 k3, ly_378_22]
theorem wv_grow (h : yV w l e n f) (hno : (w.2.1 l 1 = (7, 1) ∧ n = 0 ∧ e = l) ∨ (l ≠ e ∧ n = 10 ∧ yL w l e 10 n f ∧ ∀ j, j < n → yE w (f j)))
    (hQ : ∀ w' cap, (cap = 10 ∨ cap = 15) → n < cap → yF (fun x => x = l) 1 15 w w' → w'.2.2.1 = w.2.2.1 + 1 → w'.1 (w.2.2.1 + 1) = (5, cap, 24) → w'.2.1 l 1 = gr (w.2.2.1 + 1) → (∀ k, k ≠ 1 → w'.2.1 l k = w.2.1 l k) → (∀ j, j < n → w'.2.1 (w.2.2.1 + 1) j = f j) → Q ((1, gr (w.2.2.1 + 1)), w')) : wy N xs (d + 3) 383 0 [gr l] [] w Q := by
  obtain ⟨h1, h2, h3, h4, h5, h6, h7, _⟩ := h
  have e1 : io_add (n : Int) 1 = ((n + 1 : Nat) : Int) := by
    rcases hno with ⟨_, a, _⟩ | ⟨_, a, _⟩ <;> rw [io_add_o (by omega) (by omega)] <;> omega
  rw [ly_383_0 gl_gr, ly_383_1 gl_gr, ly_383_2 h1, h2, ly_383_5, ly_383_6, e1, ly_383_7 gl_gr (gl_cl h1 rfl)]
  rcases hno with ⟨a, rfl, _⟩ | ⟨hle, hn, hL, hE⟩
  · rw [wy_grow0 h1 a (by omega) h5, wz_1, ly_383_10 gl_rg]
    have hF : yF (fun x => x = l) 1 10 w ((gy_mk w (5, 10, 24) (fun _ => (2, -1)) 10).1, gy_up (gy_mk w (5, 10, 24) (fun _ => (2, -1)) 10).2.1 l 1 (gr (w.2.2.1 + 1)), (gy_mk w (5, 10, 24) (fun _ => (2, -1)) 10).2.2) := (yF.rf.mk).up fun _ => rfl
    refine hQ _ 10 (Or.inl rfl) (by omega) (hF.wk (fun _ _ z => z) (by omega) (by omega)) rfl (gy_mk_s (g := fun _ => (2, -1)) (n := 10)) gy_up_at (fun k hk => ?_) (fun j hj => by omega)
    show gy_up _ l 1 _ l k = _
    rw [gy_up_k hk, gy_mk_mo (by omega)]
  · subst hn
    obtain ⟨c1, c2, c3, c4, c5, c6, c7⟩ := hL
    have g1 : io_sub ((11 : Nat) : Int) ((10 : Nat) : Int) = 1 := by decide
    have g2 : io_shr ((10 : Nat) : Int) 1 = 5 := by decide
    have g3 : io_add ((10 : Nat) : Int) 5 = 15 := by decide
    have g4 : (if (1 : Int) ≤ 5 then (5 : Int) else 1) = 5 := rfl
    rw [ly_384_0 gl_gr, ly_384_1 h1, c2, ly_384_4 (by omega) c4 (by decide) (by decide) (fun _ => rfl), ly_384_5, ly_384_6, ly_384_7 (by decide) (by decide)]
    simp only [show (0 : Int) < ((10 : Nat) : Int) by decide, true_implies, not_true_eq_false, false_implies, and_true]
    rw [ly_384_20, ly_384_21, ly_384_22, ly_384_23, ly_384_24, ly_384_25, ly_384_26, ly_384_27, g1, g2]
    rw [ly_417_0, ly_417_1, ly_417_2, ly_417_3 (by decide) (by decide) (by decide) (by decide), g4, ly_417_6, g3, ly_417_7, ly_417_8, ly_417_9, ly_417_10 (by decide) (by decide) (by decide) (by decide)]
    simp only [show (0 : Int) < 15 by decide, true_implies, not_true_eq_false, false_implies, and_true]
    rw [ly_417_13, ly_417_14, ly_417_16 (by decide) (by decide) (by decide) (by decide)]
    simp only [show ¬ (2147483639 : Int) < 15 by decide, not_false_eq_true, true_implies, false_implies, true_and]
    rw [ly_417_19, ly_417_20, wz_1, ly_384_30, ly_384_31 gl_gr, ly_384_32 gl_gr, ly_384_33 h1, c2, ly_384_36, ly_384_37 gl_gr]
    refine wy_cof (m := 15) c4 (by omega) (by omega) (by omega) (fun j hj => by rw [(c7 j (by omega)).1]; exact hE j (by omega)) h7 fun w' hF hc hs hm => ?_
    have k1 : w'.1 l = (0, 0, 15) := (hF.sh h5).trans h1
    rw [wz_1, ly_384_40 gl_gr gl_gr, ly_384_41 k1 gl_rg, ly_384_44 gl_rg, wz_1, ly_383_10 gl_rg]
    have hF2 : yF (fun x => x = l) 1 15 w (w'.1, gy_up w'.2.1 l 1 (gr (w.2.2.1 + 1)), w'.2.2) := (hF.wk (fun _ _ z => z.elim) (Nat.le_refl _) (Nat.le_refl _)).up fun _ => rfl
    refine hQ _ 15 (Or.inr rfl) (by omega) hF2 hc hs gy_up_at (fun k hk => ?_) (fun j hj => ?_)
    · show gy_up _ l 1 _ l k = _
      rw [gy_up_k hk, hF.me h5 id]
    · show gy_up _ l 1 _ (w.2.2.1 + 1) j = _
      rw [gy_up_o (by omega), hm j (by omega)]
      exact (c7 j hj).1
theorem wv_add {v : gg_V} (h : yV w l e n f) (hn : n < 15) (hv : yE w v) (hQ : ∀ w' e', (e' = e ∨ w.2.2.1 < e') → yF (fun x => x = l ∨ x = e) 1 15 w w' → yV w' l e' (n + 1) (fun j => if j = n then v else f j) → Q ((1, (0, 1)), w')) : wy N xs (d + 5) 377 0 [gr l, v] [] w Q := by
  obtain ⟨h1, h2, ⟨m, hm, hm1, hm2⟩, h4, h5, h6, h7, h8⟩ := id h
  have rv := gl_rr hv.rr
  have hY := h.mod (m := m)
  have hF1 : yF (fun x => x = l) 0 0 w (w.1, gy_up w.2.1 l 0 (0, io_add m 1), w.2.2) := yF.rf.up fun _ => rfl
  have hv1 := hv.fr hF1
  have k1 : ((w.1, gy_up w.2.1 l 0 (0, io_add m 1), w.2.2) : gy_W).1 l = (0, 0, 15) := h1
  by_cases hA : l ≠ e ∧ ∃ cap, (cap = 10 ∨ cap = 15) ∧ n < cap ∧ yL w l e cap n f ∧ ∀ j, j < n → yE w (f j)
  · obtain ⟨hle, cap, hcap, hnc, hL, hE⟩ := hA
    obtain ⟨c1, c2, c3, c4, c5, c6, c7⟩ := id hL
    have k4 : ((w.1, gy_up w.2.1 l 0 (0, io_add m 1), w.2.2) : gy_W).1 e = (5, cap, 24) := c4
    refine wv_pre h1 hm h2 c2 gl_gr rv ?_
    rw [ly_378_0, ly_378_1 gl_gr, ly_378_2 (by omega) k4 (by decide) (by decide) (fun _ => rfl), ly_378_3 (by omega) (by omega) (by omega) (by omega)]
    simp only [show ¬ (n : Int) = (cap : Int) by omega, false_implies, not_false_eq_true, true_implies, true_and]
    rw [wv_suf k1 k4 hnc c6 hv1.el rv, wz_0, ly_377_23, ly_377_24 (Or.inr rfl)]
    have hF : yF (fun x => x = l ∨ x = e) 0 0 w (w.1, gy_up (gy_up (gy_up w.2.1 l 0 (0, io_add m 1)) e n v) l 2 (0, ((n + 1 : Nat) : Int)), w.2.2) := ((hF1.wk (P' := fun x => x = l ∨ x = e) (fun _ _ z => Or.inl z) (Nat.le_refl _) (Nat.le_refl _)).up (a := e) (k := n) (v := v) fun _ => Or.inr rfl).up (a := l) (k := 2) (v := (0, ((n + 1 : Nat) : Int))) fun _ => Or.inl rfl
    refine hQ _ e (Or.inl rfl) (hF.wk (fun _ _ z => z) (by omega) (by omega)) ⟨h1, gy_up_at, ⟨io_add m 1, ?_, io_add_rg _ _⟩, h4, h5, h6, h7, Or.inr ⟨hle, cap, hcap, yL_add (m := m) hL hle hnc hv.rr, fun j hj => ?_⟩⟩
    · show gy_up _ l 2 _ l 0 = _
      rw [gy_up_k (by decide), gy_up_o hle]
      exact gy_up_at
    · dsimp only
      by_cases hji : j = n
      · rw [if_pos hji]
        exact hv.fr hF
      · rw [if_neg hji]
        exact (hE j (by omega)).fr hF
  · have hno : (w.2.1 l 1 = (7, 1) ∧ n = 0 ∧ e = l) ∨ (l ≠ e ∧ n = 10 ∧ yL w l e 10 n f ∧ ∀ j, j < n → yE w (f j)) := by
      rcases h8 with a | ⟨a, cap, b, c, g⟩
      · exact Or.inl a
      · have hcn := c.2.2.2.2.1
        have : ¬ n < cap := fun z => hA ⟨a, cap, b, z, c, g⟩
        have e1 : cap = 10 := by omega
        subst e1
        exact Or.inr ⟨a, by omega, c, g⟩
    have hno1 : ((w.1, gy_up w.2.1 l 0 (0, io_add m 1), w.2.2) : gy_W).2.1 l 1 = (7, 1) ∧ n = 0 ∧ e = l ∨ (l ≠ e ∧ n = 10 ∧ yL (w.1, gy_up w.2.1 l 0 (0, io_add m 1), w.2.2) l e 10 n f ∧ ∀ j, j < n → yE (w.1, gy_up w.2.1 l 0 (0, io_add m 1), w.2.2) (f j)) := by
      rcases hno with ⟨a, b⟩ | ⟨a, b, c, g⟩
      · refine Or.inl ⟨?_, b⟩
        show gy_up w.2.1 l 0 _ l 1 = _
        rw [gy_up_k (by decide)]
        exact a
      · obtain ⟨c1, c2, c3, c4, c5, c6, c7⟩ := c
        refine Or.inr ⟨a, b, ⟨c1, ?_, ?_, c4, c5, c6, fun j hj => ?_⟩, fun j hj => (g j hj).fr hF1⟩
        · show gy_up w.2.1 l 0 _ l 1 = _
          rw [gy_up_k (by decide)]
          exact c2
        · show gy_up w.2.1 l 0 _ l 2 = _
          rw [gy_up_k (by decide)]
          exact c3
        · show gy_up w.2.1 l 0 _ e j = _ ∧ _
          rw [gy_up_o (Ne.symm a)]
          exact c7 j hj
    have hmid : wy N xs (d + 4) 378 6 [gr l, v, w.2.1 l 1, (0, (n : Int))] [] (w.1, gy_up w.2.1 l 0 (0, io_add m 1), w.2.2) (wz N xs (d + 5) 377 20 3 [gr l, v] [] Q) := by
      rw [ly_378_6 gl_gr, ly_378_7 gl_gr (gl_cl k1 rfl)]
      refine wv_grow hY hno1 fun w' cap hcap hnc hF hc hs g1 g2 g3 => ?_
      have hF2 := hF1.tt hF
      have k1 : w'.1 l = (0, 0, 15) := (hF2.sh h5).trans h1
      have hs2 : w'.1 (w.2.2.1 + 1) = (5, cap, 24) := hs
      have hv2 := hv.fr hF2
      have hc2 : w'.2.2.1 = w.2.2.1 + 1 := hc
      rw [wz_1, ly_378_10 rv gl_gr, wv_suf k1 hs hnc (by omega) hv2.el rv, wz_0, ly_377_23, ly_377_24 (Or.inr rfl)]
      have hF3 : yF (fun x => x = l ∨ x = e) 1 15 w (w'.1, gy_up (gy_up w'.2.1 (w.2.2.1 + 1) n v) l 2 (0, ((n + 1 : Nat) : Int)), w'.2.2) := ((hF2.wk (P' := fun x => x = l ∨ x = e) (c' := 1) (s' := 15) (fun _ _ z => Or.inl z) (by omega) (by omega)).up (a := w.2.2.1 + 1) (k := n) (v := v) fun z => by omega).up (a := l) (k := 2) (v := (0, ((n + 1 : Nat) : Int))) fun _ => Or.inl rfl
      have hle : l ≠ w.2.2.1 + 1 := by omega
      refine hQ _ (w.2.2.1 + 1) (Or.inr (by omega)) hF3 ⟨k1, gy_up_at, ⟨io_add m 1, ?_, io_add_rg _ _⟩, h4, ?_, by omega, ?_, Or.inr ⟨hle, cap, hcap, ⟨k1, ?_, gy_up_at, hs2, hnc, by omega, fun j hj => ?_⟩, fun j hj => ?_⟩⟩
      · show gy_up _ l 2 _ l 0 = _
        rw [gy_up_k (by decide), gy_up_o hle, g2 0 (by decide)]
        exact gy_up_at
      · show l ≤ w'.2.2.1
        omega
      · show w.2.2.1 + 1 ≤ w'.2.2.1
        omega
      · show gy_up _ l 2 _ l 1 = _
        rw [gy_up_k (by decide), gy_up_o hle]
        exact g1
      · show gy_up _ l 2 _ (w.2.2.1 + 1) j = _ ∧ _
        rw [gy_up_o (Ne.symm hle)]
        dsimp only
        by_cases hji : j = n
        · subst hji
          rw [if_pos rfl, gy_up_at]
          exact ⟨rfl, hv.rr⟩
        · rw [if_neg hji, gy_up_k hji]
          exact ⟨g3 j (by omega), h.rr (i := j) (by omega)⟩
      · dsimp only
        by_cases hji : j = n
        · rw [if_pos hji]
          exact hv.fr hF3
        · rw [if_neg hji]
          exact (h.E (i := j) (by omega)).fr hF3
    rcases hno with ⟨a, b, _⟩ | ⟨a, b, c, g⟩
    · rw [a] at hmid
      refine wv_pre h1 hm h2 a gl_r7 rv ?_
      rw [ly_378_0, ly_378_1 gl_r7, ly_378_2E, ly_378_3 (by omega) (by omega) (by omega) (by omega)]
      simp only [show (n : Int) = 0 by omega, not_true_eq_false, false_implies, true_implies, and_true]
      simp only [show (n : Int) = 0 by omega] at hmid
      exact hmid
    · obtain ⟨c1, c2, c3, c4, c5, c6, c7⟩ := c
      have k4 : ((w.1, gy_up w.2.1 l 0 (0, io_add m 1), w.2.2) : gy_W).1 e = (5, 10, 24) := c4
      rw [c2] at hmid
      refine wv_pre h1 hm h2 c2 gl_gr rv ?_
      rw [ly_378_0, ly_378_1 gl_gr, ly_378_2 (by omega) k4 (by decide) (by decide) (fun _ => rfl), ly_378_3 (by omega) (by omega) (by omega) (by omega)]
      simp only [show (n : Int) = ((10 : Nat) : Int) by omega, not_true_eq_false, false_implies, true_implies, and_true]
      simp only [show (n : Int) = ((10 : Nat) : Int) by omega] at hmid
      exact hmid
end LV3
