/-! the law's Graph: the constructors, copy -/
section LK
variable {N : Nat} {xs : Nat → Int32} {d : Nat} {w : gy_W} {Q : gy_O → Prop} {O : Nat → Nat} {g : Nat} {G : q_G} {la ea lp ep t : Nat} {b : Nat → Nat}
theorem ly_368_123 {a n c : Nat} {L : List gg_V} {u : Nat} (ha : w.1 a = (1, n, c)) : wy N xs d 368 123 L [gr a, gr u] w Q ↔ wy N xs d 368 126 L [gr (w.2.2.1 + 1), gr u] (gy_mk w (1, n, 0) (w.2.1 a) n) Q := wl_cln (show gg_dt 368 123 = some (.invokevirtual 77, 3) by decide +kernel) (show gg_lm (gg_mt 368).1 77 = some (1004, 0) by decide +kernel) ha (Nat.le_of_ble_eq_true rfl)
theorem gl_c112 {n c a : Nat} (h : w.1 a = (1, n, c)) : gy_cst 112 (gr a) w = true := by
  show (decide (w.1 a = (0, 0, 112) ∧ gy_ob 112 = true) || decide (112 = 110 ∧ (w.1 a).1 = 3) || decide (112 = 112 ∧ (w.1 a).1 = 1)) = true
  rw [h]
  simp
theorem wy_arc {a : Nat} {f tt ga wa : Int} (h : w.1 a = (0, 0, 7)) : wy N xs d 344 0 [gr a, (0, f), (0, tt), (0, ga), (0, wa)] [] w Q ↔ Q ((0, (3, 0)), (w.1, gy_up (gy_up (gy_up (gy_up w.2.1 a 0 (0, f)) a 1 (0, tt)) a 2 (0, ga)) a 3 (0, wa), w.2.2)) := by
  have k1 : ((w.1, gy_up w.2.1 a 0 (0, f), w.2.2) : gy_W).1 a = (0, 0, 7) := h
  have k2 : ((w.1, gy_up (gy_up w.2.1 a 0 (0, f)) a 1 (0, tt), w.2.2) : gy_W).1 a = (0, 0, 7) := h
  have k3 : ((w.1, gy_up (gy_up (gy_up w.2.1 a 0 (0, f)) a 1 (0, tt)) a 2 (0, ga), w.2.2) : gy_W).1 a = (0, 0, 7) := h
  rw [ly_344_0 (by first | exact gl_gr | exact gl_r6 | exact gl_r7 | assumption | rfl), ly_344_1, ly_344_4 (by first | exact gl_gr | exact gl_r6 | exact gl_r7 | assumption | rfl), ly_344_5, ly_344_6 h, ly_344_9 (by first | exact gl_gr | exact gl_r6 | exact gl_r7 | assumption | rfl), ly_344_10, ly_344_11 k1, ly_344_14 (by first | exact gl_gr | exact gl_r6 | exact gl_r7 | assumption | rfl), ly_344_15, ly_344_16 k2, ly_344_19 (by first | exact gl_gr | exact gl_r6 | exact gl_r7 | assumption | rfl), ly_344_20, ly_344_22 k3, ly_344_25]
/-- the world with a new arc -/
theorem yF.new {P : Nat → Prop} {c s cl n : Nat} {w w1 : gy_W} {g : Nat → gg_V} (h : yF P c s w w1) (hn : n ≤ 12) : yF P (c + 1) (s + 12) w (gy_mk w1 (0, 0, cl) g n) := (h.mk (x := (0, 0, cl)) (g := g) (n := n)).wk (fun _ _ z => z) (Nat.le_refl _) (by omega)
theorem nf_7 : gg_nf 7 ≤ 12 := by decide +kernel
theorem nf_14 : gg_nf 14 ≤ 12 := by decide +kernel
theorem nf_15 : gg_nf 15 ≤ 12 := by decide +kernel
/-- what stands behind new Graph() -/
def yGn (w0 w : gy_W) (g : Nat) : Prop := (w.1 g = (0, 0, 14) ∧ w.2.1 g 0 = (0, 2) ∧ w.2.1 g 1 = (0, 2) ∧ w.2.1 g 2 = (0, 1) ∧ w.2.1 g 3 = gr (w0.2.2.1 + 1) ∧ w.2.1 g 4 = gr (w0.2.2.1 + 2) ∧ w.2.1 g 5 = gr (w0.2.2.1 + 3)) ∧
  (∀ f, yV w (w0.2.2.1 + 1) (w0.2.2.1 + 1) 0 f) ∧ w.2.1 (w0.2.2.1 + 1) 1 = (7, 1) ∧ (∀ f, yV w (w0.2.2.1 + 2) (w0.2.2.1 + 2) 0 f) ∧ w.2.1 (w0.2.2.1 + 2) 1 = (7, 1) ∧ w.1 (w0.2.2.1 + 3) = (1, 4, 0) ∧ ∀ k, w.2.1 (w0.2.2.1 + 3) k = (0, 0)
theorem yy_new (hg : w.1 g = (0, 0, 14)) (h141 : 141 ≤ w.2.2.1) (hgc : g ≤ w.2.2.1) (hQ : ∀ w', yF (fun x => x = g) 3 28 w w' → w'.2.2.1 = w.2.2.1 + 3 → yGn w w' g → Q ((0, (3, 0)), w')) : wy N xs (d + 3) 361 0 [gr g] [] w Q := by
  have k1 : ((w.1, gy_up w.2.1 g 0 (0, 2), w.2.2) : gy_W).1 g = (0, 0, 14) := hg
  have k2 : ((w.1, gy_up (gy_up w.2.1 g 0 (0, 2)) g 1 (0, 2), w.2.2) : gy_W).1 g = (0, 0, 14) := hg
  rw [ly_361_0 (by first | exact gl_gr | exact gl_r6 | exact gl_r7 | assumption | rfl), ly_361_1, ly_361_4 (by first | exact gl_gr | exact gl_r6 | exact gl_r7 | assumption | rfl), ly_361_5, ly_361_6 hg, ly_361_9 (by first | exact gl_gr | exact gl_r6 | exact gl_r7 | assumption | rfl), ly_361_10, ly_361_11 k1, ly_361_14 (by first | exact gl_gr | exact gl_r6 | exact gl_r7 | assumption | rfl), ly_361_15, ly_361_16 k2, ly_361_19 (by first | exact gl_gr | exact gl_r6 | exact gl_r7 | assumption | rfl)]
  have hF1 : yF (fun x => x = g) 0 0 w (w.1, gy_up (gy_up (gy_up w.2.1 g 0 (0, 2)) g 1 (0, 2)) g 2 (0, 1), w.2.2) := yF.u (yF.u (yF.u yF.rf fun _ => rfl) fun _ => rfl) fun _ => rfl
  have c1 : ((w.1, gy_up (gy_up (gy_up w.2.1 g 0 (0, 2)) g 1 (0, 2)) g 2 (0, 1), w.2.2) : gy_W).2.2.1 = w.2.2.1 := rfl
  have m0 : ((w.1, gy_up (gy_up (gy_up w.2.1 g 0 (0, 2)) g 1 (0, 2)) g 2 (0, 1), w.2.2) : gy_W).2.1 g 0 = (0, 2) := by
    show gy_up _ g 2 _ g 0 = _
    rw [gy_up_k (by decide), gy_up_k (by decide), gy_up_at]
  have m1 : ((w.1, gy_up (gy_up (gy_up w.2.1 g 0 (0, 2)) g 1 (0, 2)) g 2 (0, 1), w.2.2) : gy_W).2.1 g 1 = (0, 2) := by
    show gy_up _ g 2 _ g 1 = _
    rw [gy_up_k (by decide), gy_up_at]
  have m2 : ((w.1, gy_up (gy_up (gy_up w.2.1 g 0 (0, 2)) g 1 (0, 2)) g 2 (0, 1), w.2.2) : gy_W).2.1 g 2 = (0, 1) := gy_up_at
  generalize ((w.1, gy_up (gy_up (gy_up w.2.1 g 0 (0, 2)) g 1 (0, 2)) g 2 (0, 1), w.2.2) : gy_W) = w1 at hF1 c1 m0 m1 m2
  have g1 : w1.1 g = (0, 0, 14) := (hF1.sh hgc).trans hg
  rw [ly_361_20]
  have hF2 := hF1.new (cl := 15) (g := fun j => gy_df (gg_ft 15 j)) nf_15
  have s2 : (gy_mk w1 (0, 0, 15) (fun j => gy_df (gg_ft 15 j)) (gg_nf 15)).1 (w1.2.2.1 + 1) = (0, 0, 15) := gy_mk_s
  have z2 : (gy_mk w1 (0, 0, 15) (fun j => gy_df (gg_ft 15 j)) (gg_nf 15)).2.1 (w1.2.2.1 + 1) 2 = (0, 0) := gy_mk_m
  have c2 : (gy_mk w1 (0, 0, 15) (fun j => gy_df (gg_ft 15 j)) (gg_nf 15)).2.2.1 = w.2.2.1 + 1 := by
    show w1.2.2.1 + 1 = _
    omega
  have f2 : (gy_mk w1 (0, 0, 15) (fun j => gy_df (gg_ft 15 j)) (gg_nf 15)).2.1 g = w1.2.1 g := gy_mk_mo (by omega)
  rw [c1] at s2 z2
  rw [c1]
  generalize gy_mk w1 (0, 0, 15) (fun j => gy_df (gg_ft 15 j)) (gg_nf 15) = w2 at hF2 s2 z2 c2 f2
  rw [ly_361_23 (by first | exact gl_gr | exact gl_r6 | exact gl_r7 | assumption | rfl), ly_361_24]
  refine wv_ctor s2 z2 (by omega) (by omega) fun w3 hF3 c3 hV3 h73 => ?_
  have c3' : w3.2.2.1 = w.2.2.1 + 1 := by rw [c3]; exact c2
  have hF3' := hF2.tr hF3 fun x hx z => by
    have e : x = w.2.2.1 + 1 := z
    omega
  have g3 : w3.1 g = (0, 0, 14) := (hF3'.sh hgc).trans hg
  have f3 : w3.2.1 g = w1.2.1 g := by
    rw [hF3.me (by omega) (by omega), f2]
  have k3 : w3.1 (w.2.2.1 + 1) = (0, 0, 15) := (hV3 (fun _ => (0, 0))).1
  rw [wz_0, ly_361_27 (by assumption) (by first | exact gl_rg | exact gl_s6 | assumption | rfl), ly_361_30 (by first | exact gl_gr | exact gl_r6 | exact gl_r7 | assumption | rfl), ly_361_31]
  have hF4 : yF (fun x => x = g) 1 12 w (w3.1, gy_up w3.2.1 g 3 (gr (w.2.2.1 + 1)), w3.2.2) := yF.u (hF3'.wk (fun _ _ z => z) (by omega) (by omega)) fun _ => rfl
  have hF34 : yF (fun x => x = g) 0 0 w3 (w3.1, gy_up w3.2.1 g 3 (gr (w.2.2.1 + 1)), w3.2.2) := yF.u yF.rf fun _ => rfl
  have hV4 : ∀ f, yV (w3.1, gy_up w3.2.1 g 3 (gr (w.2.2.1 + 1)), w3.2.2) (w.2.2.1 + 1) (w.2.2.1 + 1) 0 f := fun f => (hV3 f).fr hF34 (by omega) (by omega)
  have h74 : ((w3.1, gy_up w3.2.1 g 3 (gr (w.2.2.1 + 1)), w3.2.2) : gy_W).2.1 (w.2.2.1 + 1) 1 = (7, 1) := by rw [hF34.me (by omega) (by omega)]; exact h73
  have n0 : ((w3.1, gy_up w3.2.1 g 3 (gr (w.2.2.1 + 1)), w3.2.2) : gy_W).2.1 g 0 = (0, 2) := (gy_up_k (by decide)).trans (by rw [f3]; exact m0)
  have n1 : ((w3.1, gy_up w3.2.1 g 3 (gr (w.2.2.1 + 1)), w3.2.2) : gy_W).2.1 g 1 = (0, 2) := (gy_up_k (by decide)).trans (by rw [f3]; exact m1)
  have n2 : ((w3.1, gy_up w3.2.1 g 3 (gr (w.2.2.1 + 1)), w3.2.2) : gy_W).2.1 g 2 = (0, 1) := (gy_up_k (by decide)).trans (by rw [f3]; exact m2)
  have n3 : ((w3.1, gy_up w3.2.1 g 3 (gr (w.2.2.1 + 1)), w3.2.2) : gy_W).2.1 g 3 = gr (w.2.2.1 + 1) := gy_up_at
  have c4 : ((w3.1, gy_up w3.2.1 g 3 (gr (w.2.2.1 + 1)), w3.2.2) : gy_W).2.2.1 = w.2.2.1 + 1 := c3'
  generalize ((w3.1, gy_up w3.2.1 g 3 (gr (w.2.2.1 + 1)), w3.2.2) : gy_W) = w4 at hF4 hV4 h74 n0 n1 n2 n3 c4
  rw [c4]
  have hF5 := hF4.new (cl := 15) (g := fun j => gy_df (gg_ft 15 j)) nf_15
  have hF45 := (yF.rf (P := fun _ => False) (w := w4)).new (cl := 15) (g := fun j => gy_df (gg_ft 15 j)) nf_15
  have s5 : (gy_mk w4 (0, 0, 15) (fun j => gy_df (gg_ft 15 j)) (gg_nf 15)).1 (w4.2.2.1 + 1) = (0, 0, 15) := gy_mk_s
  have z5 : (gy_mk w4 (0, 0, 15) (fun j => gy_df (gg_ft 15 j)) (gg_nf 15)).2.1 (w4.2.2.1 + 1) 2 = (0, 0) := gy_mk_m
  have c5 : (gy_mk w4 (0, 0, 15) (fun j => gy_df (gg_ft 15 j)) (gg_nf 15)).2.2.1 = w.2.2.1 + 2 := by
    show w4.2.2.1 + 1 = _
    omega
  rw [c4] at s5 z5
  generalize gy_mk w4 (0, 0, 15) (fun j => gy_df (gg_ft 15 j)) (gg_nf 15) = w5 at hF5 hF45 s5 z5 c5
  rw [ly_361_34 (by first | exact gl_gr | exact gl_r6 | exact gl_r7 | assumption | rfl), ly_361_35]
  refine wv_ctor s5 z5 (by omega) (by omega) fun w6 hF6 c6 hV6 h76 => ?_
  have c6' : w6.2.2.1 = w.2.2.1 + 2 := by rw [c6]; exact c5
  have hF6' := hF5.tr hF6 fun x hx z => by
    have e : x = w.2.2.1 + 1 + 1 := z
    omega
  have hF46 := hF45.tr hF6 fun x hx z => by
    have e : x = w.2.2.1 + 1 + 1 := z
    omega
  have g6 : w6.1 g = (0, 0, 14) := (hF6'.sh hgc).trans hg
  have f6 : w6.2.1 g = w4.2.1 g := hF46.me (by omega) id
  rw [wz_0, ly_361_38 (by assumption) (by first | exact gl_rg | exact gl_s6 | assumption | rfl), ly_361_41 (by first | exact gl_gr | exact gl_r6 | exact gl_r7 | assumption | rfl), ly_361_42]
  have hF7 : yF (fun x => x = g) 2 24 w (w6.1, gy_up w6.2.1 g 4 (gr (w.2.2.1 + 1 + 1)), w6.2.2) := yF.u (hF6'.wk (fun _ _ z => z) (by omega) (by omega)) fun _ => rfl
  have hF67 : yF (fun x => x = g) 0 0 w6 (w6.1, gy_up w6.2.1 g 4 (gr (w.2.2.1 + 1 + 1)), w6.2.2) := yF.u yF.rf fun _ => rfl
  have hV7 : ∀ f, yV (w6.1, gy_up w6.2.1 g 4 (gr (w.2.2.1 + 1 + 1)), w6.2.2) (w.2.2.1 + 2) (w.2.2.1 + 2) 0 f := fun f => (hV6 f).fr hF67 (by omega) (by omega)
  have h77 : ((w6.1, gy_up w6.2.1 g 4 (gr (w.2.2.1 + 1 + 1)), w6.2.2) : gy_W).2.1 (w.2.2.1 + 2) 1 = (7, 1) := by rw [hF67.me (by omega) (by omega)]; exact h76
  have hV7a : ∀ f, yV (w6.1, gy_up w6.2.1 g 4 (gr (w.2.2.1 + 1 + 1)), w6.2.2) (w.2.2.1 + 1) (w.2.2.1 + 1) 0 f := fun f => ((hV4 f).fr hF46 id id).fr hF67 (by omega) (by omega)
  have h77a : ((w6.1, gy_up w6.2.1 g 4 (gr (w.2.2.1 + 1 + 1)), w6.2.2) : gy_W).2.1 (w.2.2.1 + 1) 1 = (7, 1) := by rw [hF67.me (by omega) (by omega), hF46.me (by omega) id]; exact h74
  have p0 : ((w6.1, gy_up w6.2.1 g 4 (gr (w.2.2.1 + 1 + 1)), w6.2.2) : gy_W).2.1 g 0 = (0, 2) := (gy_up_k (by decide)).trans (by rw [f6]; exact n0)
  have p1 : ((w6.1, gy_up w6.2.1 g 4 (gr (w.2.2.1 + 1 + 1)), w6.2.2) : gy_W).2.1 g 1 = (0, 2) := (gy_up_k (by decide)).trans (by rw [f6]; exact n1)
  have p2 : ((w6.1, gy_up w6.2.1 g 4 (gr (w.2.2.1 + 1 + 1)), w6.2.2) : gy_W).2.1 g 2 = (0, 1) := (gy_up_k (by decide)).trans (by rw [f6]; exact n2)
  have p3 : ((w6.1, gy_up w6.2.1 g 4 (gr (w.2.2.1 + 1 + 1)), w6.2.2) : gy_W).2.1 g 3 = gr (w.2.2.1 + 1) := (gy_up_k (by decide)).trans (by rw [f6]; exact n3)
  have p4 : ((w6.1, gy_up w6.2.1 g 4 (gr (w.2.2.1 + 1 + 1)), w6.2.2) : gy_W).2.1 g 4 = gr (w.2.2.1 + 2) := gy_up_at
  have c7 : ((w6.1, gy_up w6.2.1 g 4 (gr (w.2.2.1 + 1 + 1)), w6.2.2) : gy_W).2.2.1 = w.2.2.1 + 2 := c6'
  generalize ((w6.1, gy_up w6.2.1 g 4 (gr (w.2.2.1 + 1 + 1)), w6.2.2) : gy_W) = w7 at hF7 hV7 h77 hV7a h77a p0 p1 p2 p3 p4 c7
  have g8 : (gy_mk w7 (1, 4, 0) (fun _ => gy_de 1) 4).1 g = (0, 0, 14) := (gy_mk_so (by omega)).trans ((hF7.sh hgc).trans hg)
  have hF8 := hF7.mk (x := (1, 4, 0)) (g := fun _ => gy_de 1) (n := 4)
  have hF78 := (yF.rf (P := fun _ => False) (w := w7)).mk (x := (1, 4, 0)) (g := fun _ => gy_de 1) (n := 4)
  have f8 : (gy_mk w7 (1, 4, 0) (fun _ => gy_de 1) 4).2.1 g = w7.2.1 g := gy_mk_mo (by omega)
  have s8 : (gy_mk w7 (1, 4, 0) (fun _ => gy_de 1) 4).1 (w7.2.2.1 + 1) = (1, 4, 0) := gy_mk_s
  have z8 : ∀ k, (gy_mk w7 (1, 4, 0) (fun _ => gy_de 1) 4).2.1 (w7.2.2.1 + 1) k = (0, 0) := fun k => gy_mk_m
  rw [ly_361_43 (by omega) (by omega), show (4 : Int).toNat = 4 from rfl]
  have c8 : (gy_mk w7 (1, 4, 0) (fun _ => gy_de 1) 4).2.2.1 = w.2.2.1 + 3 := by
    show w7.2.2.1 + 1 = _
    omega
  rw [c7] at s8 z8
  rw [c7]
  generalize gy_mk w7 (1, 4, 0) (fun _ => gy_de 1) 4 = w8 at hF8 hF78 g8 f8 s8 z8 c8
  rw [ly_361_45 (by assumption) (by first | exact gl_rg | exact gl_s6 | assumption | rfl), ly_361_48]
  have hF89 : yF (fun x => x = g) 0 0 w8 (w8.1, gy_up w8.2.1 g 5 (gr (w.2.2.1 + 2 + 1)), w8.2.2) := yF.u yF.rf fun _ => rfl
  refine hQ _ (yF.u (hF8.wk (fun _ _ z => z) (by omega) (by omega)) fun _ => rfl) c8 ⟨⟨g8, ?_, ?_, ?_, ?_, ?_, gy_up_at⟩, fun f => ((hV7a f).fr hF78 id id).fr hF89 (by omega) (by omega), ?_, fun f => ((hV7 f).fr hF78 id id).fr hF89 (by omega) (by omega), ?_, s8, fun k => ?_⟩
  · exact (gy_up_k (by decide)).trans (by rw [f8]; exact p0)
  · exact (gy_up_k (by decide)).trans (by rw [f8]; exact p1)
  · exact (gy_up_k (by decide)).trans (by rw [f8]; exact p2)
  · exact (gy_up_k (by decide)).trans (by rw [f8]; exact p3)
  · exact (gy_up_k (by decide)).trans (by rw [f8]; exact p4)
  · rw [hF89.me (by omega) (by omega), hF78.me (by omega) id]
    exact h77a
  · rw [hF89.me (by omega) (by omega), hF78.me (by omega) id]
    exact h77
  · rw [hF89.me (by omega) (by omega)]
    exact z8 k
end LK
