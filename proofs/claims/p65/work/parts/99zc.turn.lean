/-! the law's Graph: an arc's field, a vertex's paint; turn -/
section LT
variable {N : Nat} {xs : Nat → Int32} {d : Nat} {w : gy_W} {Q : gy_O → Prop} {O : Nat → Nat} {g : Nat} {G : q_G} {la ea lp ep t : Nat} {b : Nat → Nat}
theorem yGx.ba (h : yGx w O g G la ea lp ep t b) {a : Nat} (ha : a < qK G) : b a ≠ g ∧ b a ≠ la ∧ b a ≠ ea ∧ b a ≠ lp ∧ b a ≠ ep ∧ b a ≠ t := by
  obtain ⟨⟨g0, g1, g2, g3, g4, g5, g6⟩, ⟨v1, v2⟩, ⟨t1, t2⟩, hA, hI, hD, hO⟩ := h
  have a1 := (hA a ha).1
  obtain ⟨x1, x2⟩ := v1.ne a1 (by decide) (by decide)
  obtain ⟨x3, x4⟩ := v2.ne a1 (by decide) (by decide)
  refine ⟨fun z => ?_, x1, x2, x3, x4, fun z => ?_⟩
  · rw [z, g0] at a1
    exact absurd a1 (by decide)
  · rw [z, t1] at a1
    exact absurd a1 (by decide)
theorem yGx.gt (h : yGx w O g G la ea lp ep t b) : (g ≠ la ∧ g ≠ ea ∧ g ≠ lp ∧ g ≠ ep ∧ g ≠ t) ∧ t ≠ la ∧ t ≠ ea ∧ t ≠ lp ∧ t ≠ ep := by
  obtain ⟨⟨g0, g1, g2, g3, g4, g5, g6⟩, ⟨v1, v2⟩, ⟨t1, t2⟩, hA, hI, hD, hO⟩ := h
  obtain ⟨x1, x2⟩ := v1.ne g0 (by decide) (by decide)
  obtain ⟨x3, x4⟩ := v2.ne g0 (by decide) (by decide)
  obtain ⟨y1, y2⟩ := v1.ne t1 (by decide) (by decide)
  obtain ⟨y3, y4⟩ := v2.ne t1 (by decide) (by decide)
  refine ⟨⟨x1, x2, x3, x4, fun z => ?_⟩, y1, y2, y3, y4⟩
  rw [z, t1] at g0
  exact absurd g0 (by decide)
theorem yGx.arc {G' : q_G} {a k : Nat} {v : gg_V} (h : yGx w O g G la ea lp ep t b) (ha : a < qK G) (e1 : qN G' = qN G) (e2 : qM G' = qM G) (e3 : qK G' = qK G) (e4 : qL G' = qL G) (e5 : qP G' = qP G) (e6 : qO G' = qO G)
    (e7 : ∀ c, c < qK G → c ≠ a → qF G' c = qF G c ∧ qT G' c = qT G c ∧ qA G' c = qA G c ∧ qW G' c = qW G c ∧ (qS G').testBit c = (qS G).testBit c) (hA' : yA (w.1, gy_up w.2.1 (b a) k v, w.2.2) (b a) (qF G' a) (qT G' a) (qA G' a) (qW G' a) ((qS G').testBit a)) : yGx (w.1, gy_up w.2.1 (b a) k v, w.2.2) O g G' la ea lp ep t b := by
  obtain ⟨n1, n2, n3, n4, n5, n6⟩ := h.ba ha
  obtain ⟨⟨g0, g1, g2, g3, g4, g5, g6⟩, ⟨v1, v2⟩, ⟨t1, t2⟩, hA, hI, hD, o1, o2, o3, o4, o5, o6, o7⟩ := h
  have hF : yF (fun x => x = b a) 0 0 w (w.1, gy_up w.2.1 (b a) k v, w.2.2) := yF.rf.up fun _ => rfl
  have m0 := hF.me o1.2.2 (Ne.symm n1)
  have m1 := hF.me o6.2.2 (Ne.symm n6)
  have hO : ∀ x, x ≤ w.2.2.1 → O x = g → O x = g := fun _ _ z => z
  rw [← e1] at g1 v2
  rw [← e2] at g2
  rw [← e4] at g3
  rw [← e5] at v2
  rw [← e6] at t2
  rw [← e3] at v1 hA hI o7
  refine ⟨⟨g0, ?_, ?_, ?_, ?_, ?_, ?_⟩, ⟨v1.fr hF (Ne.symm n2) (Ne.symm n3), v2.fr hF (Ne.symm n4) (Ne.symm n5)⟩, ⟨t1, fun j hj => by rw [m1]; exact t2 j hj⟩, fun c hc => ?_, hI, hD, o1.fr hF hO, o2.fr hF hO, o3.fr hF hO, o4.fr hF hO, o5.fr hF hO, o6.fr hF hO, fun c hc => (o7 c hc).fr hF hO⟩
  · rw [m0]; exact g1
  · rw [m0]; exact g2
  · rw [m0]; exact g3
  · rw [m0]; exact g4
  · rw [m0]; exact g5
  · rw [m0]; exact g6
  · by_cases hca : c = a
    · rw [hca]
      exact hA'
    · obtain ⟨b1, b2, b3, b4, b5⟩ := e7 c (e3 ▸ hc) hca
      rw [b1, b2, b3, b4, b5]
      exact (hA c hc).fr hF (fun z => hca (hI c a hc (e3.symm ▸ ha) z)) (o7 c hc).2.2
/-- one of an arc's numbers -/
theorem yA.s0 {a f tt ga wa x : Nat} {k : Bool} (h : yA w a f tt ga wa k) : yA (w.1, gy_up w.2.1 a 0 (0, (x : Int)), w.2.2) a x tt ga wa k := by
  obtain ⟨a1, a2, a3, a4, a5, a6⟩ := h
  exact ⟨a1, gy_up_at, (gy_up_k (by decide)).trans a3, (gy_up_k (by decide)).trans a4, (gy_up_k (by decide)).trans a5, (gy_up_k (by decide)).trans a6⟩
theorem yA.s1 {a f tt ga wa x : Nat} {k : Bool} (h : yA w a f tt ga wa k) : yA (w.1, gy_up w.2.1 a 1 (0, (x : Int)), w.2.2) a f x ga wa k := by
  obtain ⟨a1, a2, a3, a4, a5, a6⟩ := h
  exact ⟨a1, (gy_up_k (by decide)).trans a2, gy_up_at, (gy_up_k (by decide)).trans a4, (gy_up_k (by decide)).trans a5, (gy_up_k (by decide)).trans a6⟩
theorem yA.s2 {a f tt ga wa x : Nat} {k : Bool} (h : yA w a f tt ga wa k) : yA (w.1, gy_up w.2.1 a 2 (0, (x : Int)), w.2.2) a f tt x wa k := by
  obtain ⟨a1, a2, a3, a4, a5, a6⟩ := h
  exact ⟨a1, (gy_up_k (by decide)).trans a2, (gy_up_k (by decide)).trans a3, gy_up_at, (gy_up_k (by decide)).trans a5, (gy_up_k (by decide)).trans a6⟩
theorem yA.s3 {a f tt ga wa x : Nat} {k : Bool} (h : yA w a f tt ga wa k) : yA (w.1, gy_up w.2.1 a 3 (0, (x : Int)), w.2.2) a f tt ga x k := by
  obtain ⟨a1, a2, a3, a4, a5, a6⟩ := h
  exact ⟨a1, (gy_up_k (by decide)).trans a2, (gy_up_k (by decide)).trans a3, (gy_up_k (by decide)).trans a4, gy_up_at, (gy_up_k (by decide)).trans a6⟩
theorem yA.s4 {a f tt ga wa : Nat} {k k' : Bool} (h : yA w a f tt ga wa k) : yA (w.1, gy_up w.2.1 a 4 (0, (k'.toNat : Int)), w.2.2) a f tt ga wa k' := by
  obtain ⟨a1, a2, a3, a4, a5, a6⟩ := h
  exact ⟨a1, (gy_up_k (by decide)).trans a2, (gy_up_k (by decide)).trans a3, (gy_up_k (by decide)).trans a4, (gy_up_k (by decide)).trans a5, gy_up_at⟩
/-- the paint has changed -/
theorem yGx.pnt {w2 : gy_W} {G' : q_G} {f : Nat → gg_V} (h : yGx w O g G la ea lp ep t b) (hF : yF (fun x => x = ep) 0 0 w w2) (hV : yV w2 lp ep (qN G) f) (e1 : qN G' = qN G) (e2 : qM G' = qM G) (e3 : qK G' = qK G) (e4 : qL G' = qL G) (e5 : ∀ j, j < qN G → (6, qP G' j) = f j) (e6 : qO G' = qO G)
    (e7 : ∀ c, c < qK G → qF G' c = qF G c ∧ qT G' c = qT G c ∧ qA G' c = qA G c ∧ qW G' c = qW G c ∧ (qS G').testBit c = (qS G).testBit c) : yGx w2 O g G' la ea lp ep t b := by
  obtain ⟨⟨n1, n2, n3, n4, n5⟩, n6, n7, n8, n9⟩ := h.gt
  have hba := fun a ha => (h.ba (a := a) ha).2.2.2.2.1
  obtain ⟨⟨g0, g1, g2, g3, g4, g5, g6⟩, ⟨v1, v2⟩, ⟨t1, t2⟩, hA, hI, hD, o1, o2, o3, o4, o5, o6, o7⟩ := h
  have m0 := hF.me o1.2.2 n4
  have m1 := hF.me o6.2.2 n9
  have hO : ∀ x, x ≤ w.2.2.1 → O x = g → O x = g := fun _ _ z => z
  refine ⟨⟨(hF.sh o1.2.2).trans g0, ?_, ?_, ?_, ?_, ?_, ?_⟩, ⟨?_, ?_⟩, ⟨(hF.sh o6.2.2).trans t1, fun j hj => by rw [m1, e6]; exact t2 j hj⟩, fun c hc => ?_, ?_, hD, o1.fr hF hO, o2.fr hF hO, o3.fr hF hO, o4.fr hF hO, o5.fr hF hO, o6.fr hF hO, fun c hc => (o7 c (e3 ▸ hc)).fr hF hO⟩
  · rw [m0, e1]; exact g1
  · rw [m0, e2]; exact g2
  · rw [m0, e4]; exact g3
  · rw [m0]; exact g4
  · rw [m0]; exact g5
  · rw [m0]; exact g6
  · rw [e3]
    exact v1.fr hF hD.2.1 hD.2.2.2
  · rw [e1]
    exact hV.cg e5
  · rw [e3] at hc
    obtain ⟨b1, b2, b3, b4, b5⟩ := e7 c hc
    rw [b1, b2, b3, b4, b5]
    exact (hA c hc).fr hF (hba c hc) (o7 c hc).2.2
  · rw [e3]
    exact hI
theorem yz_pl {m a c : Nat} (hm : 1 ≤ m) (ha : a < m) (hc : c < m) : ((a : Int) + (c : Int)) % (m : Int) = ((qpl m a c : Nat) : Int) := by
  rw [← Int.natCast_add, ← Int.natCast_emod]
  unfold qpl
  by_cases h : m ≤ a + c
  · rw [if_pos h, Nat.mod_eq_sub_mod h, Nat.mod_eq_of_lt (by omega)]
  · rw [if_neg h, Nat.mod_eq_of_lt (by omega)]
theorem yz_mi {m a c : Nat} (hm : 1 ≤ m) (ha : a < m) (hc : c < m) : ((a : Int) - (c : Int)) % (m : Int) = ((qmi m a c : Nat) : Int) := by
  unfold qmi
  by_cases h : a < c
  · rw [if_pos h, ← Int.add_emod_right, show (a : Int) - (c : Int) + (m : Int) = ((a + m - c : Nat) : Int) by omega, ← Int.natCast_emod, Nat.mod_eq_of_lt (by omega)]
  · rw [if_neg h, show (a : Int) - (c : Int) = ((a - c : Nat) : Int) by omega, ← Int.natCast_emod, Nat.mod_eq_of_lt (by omega)]
theorem qmi_ne {m a c : Nat} (ha : a < m) (hc : c < m) : qmi m a c = a ↔ c = 0 := by
  unfold qmi
  split <;> omega
/-- the gains of the first k arcs have been turned -/
def qswk (G : q_G) (v y k : Nat) : q_G := qmk (qN G) (qM G) (qK G) (qS G) (qL G) (qF G) (qT G) (fun a => if a < k then qswg G v y a else qA G a) (qW G) (qP G) (qO G)
theorem yy_turn (h : yGx w O g G la ea lp ep t b) (hG : q_ok G) {v y : Nat} (hv : v < qN G) (hy : y < qM G) (hQ : ∀ w', yF (fun x => O x = g) 1 8 w w' → yGx w' O g (qsw G v y) la ea lp ep t b → Q ((1, (0, ((qcnt (qswc G v y) (qK G) : Nat) : Int))), w')) :
    wy N xs (d + 3) 375 0 [gr g, (0, (v : Int)), (0, (y : Int)), (3, 0), (3, 0), (3, 0), (3, 0)] [] w Q := by
  obtain ⟨⟨g0, g1, g2, g3, g4, g5, g6⟩, ⟨v1, v2⟩, ⟨t1, t2⟩, hA, hI, hD, o1, o2, o3, o4, o5, o6, o7⟩ := id h
  obtain ⟨⟨k1, k2, k3, k4, k5, k6, k7, k8⟩, hk, hp, hp2⟩ := id hG
  have hla := v1.1
  rw [ly_375_0, ly_375_1, ly_375_2 (by first | exact gl_gr | exact gl_r6 | exact gl_r7 | assumption | rfl), ly_375_3 (by assumption), g4, ly_375_6 (by first | exact gl_gr | exact gl_r6 | exact gl_r7 | assumption | rfl) (by first | exact gl_cl (by assumption) rfl | exact gl_l6 (by omega) (by omega))]
  refine wv_iter hla v1.2.2.2.2.1 v1.2.2.2.1 (fun w1 hF1 hc1 hI1 => ?_) (by obtain ⟨m, hm, _⟩ := v1.2.2.1; exact ⟨m, hm⟩)
  rw [wz_1, ly_375_9 (by first | exact gl_gr | exact gl_r6 | exact gl_r7 | assumption | rfl)]
  have hG0 : yGx w1 O g (qswk G v y 0) la ea lp ep t b := (h.fr0 hF1).cg rfl rfl rfl rfl (fun _ _ => rfl) (fun _ _ => rfl) fun a _ => ⟨rfl, rfl, if_neg (Nat.not_lt_zero a), rfl, rfl⟩
  refine wl_for (P := fun k => ∀ (w' : gy_W) (l5 l6 : gg_V), yF (fun x => O x = g) 1 8 w w' → yI w' (w.2.2.1 + 1) la k → yGx w' O g (qswk G v y k) la ea lp ep t b → wy N xs (d + 3) 375 11 [gr g, (0, (v : Int)), (0, (y : Int)), (0, ((qcnt (qswc G v y) k : Nat) : Int)), gr (w.2.2.1 + 1), l5, l6] [] w' Q) (qK G) (fun k hk ih w' l5 l6 hF hI' hGk => ?_) (fun w' l5 l6 hF hI' hGk => ?_) w1 (3, 0) (3, 0) (hF1.wk (fun _ _ z => z.elim) (Nat.le_refl _) (Nat.le_refl _)) hI1 hG0
  · sorry
  · sorry
end LT
