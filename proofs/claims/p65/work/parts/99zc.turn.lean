/-! the law's Graph: an arc's field, a vertex's paint; turn -/
section LT
variable {N : Nat} {xs : Nat → Int32} {d : Nat} {w : gy_W} {Q : gy_O → Prop} {O : Nat → Nat} {g : Nat} {G : q_G} {la ea lp ep t : Nat} {b : Nat → Nat}
theorem yGx.ba (h : yGx w O g G la ea lp ep t b) {a : Nat} (ha : a < qK G) : b a ≠ g ∧ b a ≠ la ∧ b a ≠ ea ∧ b a ≠ lp ∧ b a ≠ ep ∧ b a ≠ t := by
  obtain ⟨⟨g0, g1, g2, g3, g4, g5, g6⟩, ⟨v1, v2⟩, ⟨t1, t2⟩, hA, hI, hD, hO⟩ := h
  have a1 := (hA a ha).1
  obtain ⟨x1, x2⟩ := v1.ne a1 (by decide) (by decide)
  obtain ⟨x3, x4⟩ := v2.ne a1 (by decide) (by decide)
  refine ⟨fun z => ?_, x1, x2, x3, x4, fun z => ?_⟩
  · rw [z, g0] at a1
    exact absurd a1 (by decide)
  · rw [z, t1] at a1
    exact absurd a1 (by decide)
theorem yGx.gt (h : yGx w O g G la ea lp ep t b) : (g ≠ la ∧ g ≠ ea ∧ g ≠ lp ∧ g ≠ ep ∧ g ≠ t) ∧ t ≠ la ∧ t ≠ ea ∧ t ≠ lp ∧ t ≠ ep := by
  obtain ⟨⟨g0, g1, g2, g3, g4, g5, g6⟩, ⟨v1, v2⟩, ⟨t1, t2⟩, hA, hI, hD, hO⟩ := h
  obtain ⟨x1, x2⟩ := v1.ne g0 (by decide) (by decide)
  obtain ⟨x3, x4⟩ := v2.ne g0 (by decide) (by decide)
  obtain ⟨y1, y2⟩ := v1.ne t1 (by decide) (by decide)
  obtain ⟨y3, y4⟩ := v2.ne t1 (by decide) (by decide)
  refine ⟨⟨x1, x2, x3, x4, fun z => ?_⟩, y1, y2, y3, y4⟩
  rw [z, t1] at g0
  exact absurd g0 (by decide)
theorem yGx.arc {G' : q_G} {a k : Nat} {v : gg_V} (h : yGx w O g G la ea lp ep t b) (ha : a < qK G) (e1 : qN G' = qN G) (e2 : qM G' = qM G) (e3 : qK G' = qK G) (e4 : qL G' = qL G) (e5 : qP G' = qP G) (e6 : qO G' = qO G)
    (e7 : ∀ c, c < qK G → c ≠ a → qF G' c = qF G c ∧ qT G' c = qT G c ∧ qA G' c = qA G c ∧ qW G' c = qW G c ∧ (qS G').testBit c = (qS G).testBit c) (hA' : yA (w.1, gy_up w.2.1 (b a) k v, w.2.2) (b a) (qF G' a) (qT G' a) (qA G' a) (qW G' a) ((qS G').testBit a)) : yGx (w.1, gy_up w.2.1 (b a) k v, w.2.2) O g G' la ea lp ep t b := by
  obtain ⟨n1, n2, n3, n4, n5, n6⟩ := h.ba ha
  obtain ⟨⟨g0, g1, g2, g3, g4, g5, g6⟩, ⟨v1, v2⟩, ⟨t1, t2⟩, hA, hI, hD, o1, o2, o3, o4, o5, o6, o7⟩ := h
  have hF : yF (fun x => x = b a) 0 0 w (w.1, gy_up w.2.1 (b a) k v, w.2.2) := yF.rf.up fun _ => rfl
  have m0 := hF.me o1.2.2 (Ne.symm n1)
  have m1 := hF.me o6.2.2 (Ne.symm n6)
  have hO : ∀ x, x ≤ w.2.2.1 → O x = g → O x = g := fun _ _ z => z
  rw [← e1] at g1 v2
  rw [← e2] at g2
  rw [← e4] at g3
  rw [← e5] at v2
  rw [← e6] at t2
  rw [← e3] at v1 hA hI o7
  refine ⟨⟨g0, ?_, ?_, ?_, ?_, ?_, ?_⟩, ⟨v1.fr hF (Ne.symm n2) (Ne.symm n3), v2.fr hF (Ne.symm n4) (Ne.symm n5)⟩, ⟨t1, fun j hj => by rw [m1]; exact t2 j hj⟩, fun c hc => ?_, hI, hD, o1.fr hF hO, o2.fr hF hO, o3.fr hF hO, o4.fr hF hO, o5.fr hF hO, o6.fr hF hO, fun c hc => (o7 c hc).fr hF hO⟩
  · rw [m0]; exact g1
  · rw [m0]; exact g2
  · rw [m0]; exact g3
  · rw [m0]; exact g4
  · rw [m0]; exact g5
  · rw [m0]; exact g6
  · by_cases hca : c = a
    · rw [hca]
      exact hA'
    · obtain ⟨b1, b2, b3, b4, b5⟩ := e7 c (e3 ▸ hc) hca
      rw [b1, b2, b3, b4, b5]
      exact (hA c hc).fr hF (fun z => hca (hI c a hc (e3.symm ▸ ha) z)) (o7 c hc).2.2
/-- one of an arc's numbers -/
theorem yA.s0 {a f tt ga wa x : Nat} {k : Bool} (h : yA w a f tt ga wa k) : yA (w.1, gy_up w.2.1 a 0 (0, (x : Int)), w.2.2) a x tt ga wa k := by
  obtain ⟨a1, a2, a3, a4, a5, a6⟩ := h
  exact ⟨a1, gy_up_at, (gy_up_k (by decide)).trans a3, (gy_up_k (by decide)).trans a4, (gy_up_k (by decide)).trans a5, (gy_up_k (by decide)).trans a6⟩
theorem yA.s1 {a f tt ga wa x : Nat} {k : Bool} (h : yA w a f tt ga wa k) : yA (w.1, gy_up w.2.1 a 1 (0, (x : Int)), w.2.2) a f x ga wa k := by
  obtain ⟨a1, a2, a3, a4, a5, a6⟩ := h
  exact ⟨a1, (gy_up_k (by decide)).trans a2, gy_up_at, (gy_up_k (by decide)).trans a4, (gy_up_k (by decide)).trans a5, (gy_up_k (by decide)).trans a6⟩
theorem yA.s2 {a f tt ga wa x : Nat} {k : Bool} (h : yA w a f tt ga wa k) : yA (w.1, gy_up w.2.1 a 2 (0, (x : Int)), w.2.2) a f tt x wa k := by
  obtain ⟨a1, a2, a3, a4, a5, a6⟩ := h
  exact ⟨a1, (gy_up_k (by decide)).trans a2, (gy_up_k (by decide)).trans a3, gy_up_at, (gy_up_k (by decide)).trans a5, (gy_up_k (by decide)).trans a6⟩
theorem yA.s3 {a f tt ga wa x : Nat} {k : Bool} (h : yA w a f tt ga wa k) : yA (w.1, gy_up w.2.1 a 3 (0, (x : Int)), w.2.2) a f tt ga x k := by
  obtain ⟨a1, a2, a3, a4, a5, a6⟩ := h
  exact ⟨a1, (gy_up_k (by decide)).trans a2, (gy_up_k (by decide)).trans a3, (gy_up_k (by decide)).trans a4, gy_up_at, (gy_up_k (by decide)).trans a6⟩
theorem yA.s4 {a f tt ga wa : Nat} {k k' : Bool} (h : yA w a f tt ga wa k) : yA (w.1, gy_up w.2.1 a 4 (0, (k'.toNat : Int)), w.2.2) a f tt ga wa k' := by
  obtain ⟨a1, a2, a3, a4, a5, a6⟩ := h
  exact ⟨a1, (gy_up_k (by decide)).trans a2, (gy_up_k (by decide)).trans a3, (gy_up_k (by decide)).trans a4, (gy_up_k (by decide)).trans a5, gy_up_at⟩
/-- the paint has changed -/
theorem yGx.pnt {w2 : gy_W} {G' : q_G} {f : Nat → gg_V} (h : yGx w O g G la ea lp ep t b) (hF : yF (fun x => x = ep) 0 0 w w2) (hV : yV w2 lp ep (qN G) f) (e1 : qN G' = qN G) (e2 : qM G' = qM G) (e3 : qK G' = qK G) (e4 : qL G' = qL G) (e5 : ∀ j, j < qN G → (6, qP G' j) = f j) (e6 : qO G' = qO G)
    (e7 : ∀ c, c < qK G → qF G' c = qF G c ∧ qT G' c = qT G c ∧ qA G' c = qA G c ∧ qW G' c = qW G c ∧ (qS G').testBit c = (qS G).testBit c) : yGx w2 O g G' la ea lp ep t b := by
  obtain ⟨⟨n1, n2, n3, n4, n5⟩, n6, n7, n8, n9⟩ := h.gt
  have hba := fun a ha => (h.ba (a := a) ha).2.2.2.2.1
  obtain ⟨⟨g0, g1, g2, g3, g4, g5, g6⟩, ⟨v1, v2⟩, ⟨t1, t2⟩, hA, hI, hD, o1, o2, o3, o4, o5, o6, o7⟩ := h
  have m0 := hF.me o1.2.2 n4
  have m1 := hF.me o6.2.2 n9
  have hO : ∀ x, x ≤ w.2.2.1 → O x = g → O x = g := fun _ _ z => z
  refine ⟨⟨(hF.sh o1.2.2).trans g0, ?_, ?_, ?_, ?_, ?_, ?_⟩, ⟨?_, ?_⟩, ⟨(hF.sh o6.2.2).trans t1, fun j hj => by rw [m1, e6]; exact t2 j hj⟩, fun c hc => ?_, ?_, hD, o1.fr hF hO, o2.fr hF hO, o3.fr hF hO, o4.fr hF hO, o5.fr hF hO, o6.fr hF hO, fun c hc => (o7 c (e3 ▸ hc)).fr hF hO⟩
  · rw [m0, e1]; exact g1
  · rw [m0, e2]; exact g2
  · rw [m0, e4]; exact g3
  · rw [m0]; exact g4
  · rw [m0]; exact g5
  · rw [m0]; exact g6
  · rw [e3]
    exact v1.fr hF hD.2.1 hD.2.2.2
  · rw [e1]
    exact hV.cg e5
  · rw [e3] at hc
    obtain ⟨b1, b2, b3, b4, b5⟩ := e7 c hc
    rw [b1, b2, b3, b4, b5]
    exact (hA c hc).fr hF (hba c hc) (o7 c hc).2.2
  · rw [e3]
    exact hI
theorem yz_pl {m a c : Nat} (hm : 1 ≤ m) (ha : a < m) (hc : c < m) : ((a : Int) + (c : Int)) % (m : Int) = ((qpl m a c : Nat) : Int) := by
  rw [← Int.natCast_add, ← Int.natCast_emod]
  unfold qpl
  by_cases h : m ≤ a + c
  · rw [if_pos h, Nat.mod_eq_sub_mod h, Nat.mod_eq_of_lt (by omega)]
  · rw [if_neg h, Nat.mod_eq_of_lt (by omega)]
theorem yz_mi {m a c : Nat} (hm : 1 ≤ m) (ha : a < m) (hc : c < m) : ((a : Int) - (c : Int)) % (m : Int) = ((qmi m a c : Nat) : Int) := by
  unfold qmi
  by_cases h : a < c
  · rw [if_pos h, ← Int.add_emod_right, show (a : Int) - (c : Int) + (m : Int) = ((a + m - c : Nat) : Int) by omega, ← Int.natCast_emod, Nat.mod_eq_of_lt (by omega)]
  · rw [if_neg h, show (a : Int) - (c : Int) = ((a - c : Nat) : Int) by omega, ← Int.natCast_emod, Nat.mod_eq_of_lt (by omega)]
theorem qmi_ne {m a c : Nat} (ha : a < m) (hc : c < m) : qmi m a c = a ↔ c = 0 := by
  unfold qmi
  split <;> omega
/-- the gains of the first k arcs have been turned -/
def qswk (G : q_G) (v y k : Nat) : q_G := qmk (qN G) (qM G) (qK G) (qS G) (qL G) (qF G) (qT G) (fun a => if a < k then qswg G v y a else qA G a) (qW G) (qP G) (qO G)
theorem qswk_n {v y k c : Nat} (h : c ≠ k) : qA (qswk G v y (k + 1)) c = qA (qswk G v y k) c := by
  show (if c < k + 1 then qswg G v y c else qA G c) = if c < k then qswg G v y c else qA G c
  by_cases hc : c < k
  · rw [if_pos hc, if_pos (by omega)]
  · rw [if_neg hc, if_neg (by omega)]
theorem qswk_e {v y k : Nat} : qA (qswk G v y k) k = qA G k := if_neg (Nat.lt_irrefl k)
theorem qswk_s {v y k : Nat} : qA (qswk G v y (k + 1)) k = qswg G v y k := if_pos (Nat.lt_succ_self k)
theorem qswg_iff {v y k : Nat} (ha : qA G k < qM G) (hy : y < qM G) : qswg G v y k = qA G k ↔ qswc G v y k = false := by
  have h1 := qg_3 ha hy
  have h2 := qmi_ne ha hy
  unfold qswg qswc
  by_cases a1 : qF G k = qT G k
  · rw [if_pos a1]
    simp [a1]
  · rw [if_neg a1]
    by_cases a2 : qT G k = v
    · rw [if_pos a2, h1]
      simp [a1, a2]
      exact Or.inl fun h3 => a1 (h3.trans a2.symm)
    · rw [if_neg a2]
      by_cases a3 : qF G k = v
      · rw [if_pos a3, h2]
        simp [a1, a2, a3]
        exact Or.inl fun h3 => a2 h3.symm
      · rw [if_neg a3]
        simp [a1, a2, a3]
/-- what comes after w is nobody's -/
theorem yGx.lo {c s : Nat} {w1 : gy_W} (h : yGx w O g G la ea lp ep t b) (hF : yF (fun _ => False) c s w w1) : yGx w1 (yN w O 0) g G la ea lp ep t b := h.fr hF (fun _ _ => id) fun x hx z => (yN_le hx).trans z
theorem yO.hi {w1 : gy_W} {x : Nat} (h : yO w1 (yN w O 0) g x) (hg : 141 < g) : O x = g ∧ x ≤ w.2.2.1 := by
  have h1 := h.1
  by_cases hx : x ≤ w.2.2.1
  · rw [yN_le hx] at h1
    exact ⟨h1, hx⟩
  · rw [yN_gt (by omega)] at h1
    omega
theorem yGx.hi {w1 : gy_W} (h : yGx w1 (yN w O 0) g G la ea lp ep t b) : yGx w1 O g G la ea lp ep t b := by
  have hg := h.2.2.2.2.2.2.1.2.1
  refine h.fr (yF.rf (P := fun _ => False)) (fun _ _ => id) fun x hx z => ?_
  by_cases hx : x ≤ w.2.2.1
  · rw [yN_le hx] at z
    exact z
  · rw [yN_gt (by omega)] at z
    omega
theorem yy_turn (h : yGx w O g G la ea lp ep t b) (hG : q_ok G) {v y : Nat} (hv : v < qN G) (hy : y < qM G) (hQ : ∀ w', yF (fun x => O x = g) 1 8 w w' → yGx w' O g (qsw G v y) la ea lp ep t b → Q ((1, (0, ((qcnt (qswc G v y) (qK G) : Nat) : Int))), w')) :
    wy N xs (d + 3) 375 0 [gr g, (0, (v : Int)), (0, (y : Int)), (3, 0), (3, 0), (3, 0), (3, 0)] [] w Q := by
  have hg141 := h.2.2.2.2.2.2.1.2.1
  obtain ⟨⟨g0, g1, g2, g3, g4, g5, g6⟩, ⟨v1, v2⟩, ⟨t1, t2⟩, hA, hI, hD, o1, o2, o3, o4, o5, o6, o7⟩ := id h
  obtain ⟨⟨k1, k2, k3, k4, k5, k6, k7, k8⟩, hk, hp, hp2⟩ := id hG
  have hla := v1.1
  rw [ly_375_0, ly_375_1, ly_375_2 (by first | exact gl_gr | exact gl_r6 | exact gl_r7 | assumption | rfl), ly_375_3 (by assumption), g4, ly_375_6 (by first | exact gl_gr | exact gl_r6 | exact gl_r7 | assumption | rfl) (by first | exact gl_cl (by assumption) rfl | exact gl_l6 (by omega) (by omega) | exact gl_l4 (by omega))]
  refine wv_iter hla v1.2.2.2.2.1 v1.2.2.2.1 (fun w1 hF1 hc1 hI1 => ?_) (by obtain ⟨m, hm, _⟩ := v1.2.2.1; exact ⟨m, hm⟩)
  rw [wz_1, ly_375_9 (by first | exact gl_gr | exact gl_r6 | exact gl_r7 | assumption | rfl)]
  have hG0 : yGx w1 (yN w O 0) g (qswk G v y 0) la ea lp ep t b := (h.lo hF1).cg rfl rfl rfl rfl (fun _ _ => rfl) (fun _ _ => rfl) fun a _ => ⟨rfl, rfl, rfl, rfl, rfl⟩
  refine wl_for (P := fun k => ∀ (w' : gy_W) (l5 l6 : gg_V), yF (fun x => O x = g) 1 8 w w' → yI w' (w.2.2.1 + 1) la k → yGx w' (yN w O 0) g (qswk G v y k) la ea lp ep t b → wy N xs (d + 3) 375 11 [gr g, (0, (v : Int)), (0, (y : Int)), (0, ((qcnt (qswc G v y) k : Nat) : Int)), gr (w.2.2.1 + 1), l5, l6] [] w' Q) (qK G) (fun k hkk ih w' l5 l6 hF hI' hGk => ?_) (fun w' l5 l6 hF hI' hGk => ?_) w1 (3, 0) (3, 0) (hF1.wk (fun _ _ z => z.elim) (Nat.le_refl _) (Nat.le_refl _)) hI1 hG0
  · have hY := hGk.2.1.1
    have hi1 := hI'.1
    have hq := qcnt_le (qswc G v y) k
    obtain ⟨f1, f2, f3, f4⟩ := hk k hkk
    have hea : w.2.2.1 + 1 ≠ ea := by have := o3.2.2; omega
    rw [ly_375_11 (by first | exact gl_gr | exact gl_r6 | exact gl_r7 | assumption | rfl), ly_375_13 (by first | exact gl_gr | exact gl_r6 | exact gl_r7 | assumption | rfl) (by first | exact gl_cl (by assumption) rfl | exact gl_l6 (by omega) (by omega) | exact gl_l4 (by omega)), wv_hasNext hI' hY (by show k ≤ qK G; omega) (by show qK G ≤ 1000; omega), if_neg (by show ¬ k = qK G; omega), wz_1, ly_375_18 (by omega) (by omega)]
    simp only [show ¬ ((1 : Int) = 0) by omega, not_false_eq_true, true_implies, false_implies, and_true, true_and]
    rw [ly_375_21 (by first | exact gl_gr | exact gl_r6 | exact gl_r7 | assumption | rfl), ly_375_23 (by first | exact gl_gr | exact gl_r6 | exact gl_r7 | assumption | rfl) (by first | exact gl_cl (by assumption) rfl | exact gl_l6 (by omega) (by omega) | exact gl_l4 (by omega))]
    refine wv_next hI' hY hkk hea fun w2 hF2 hc2 hI2 => ?_
    have hF2' : yF (fun x => O x = g) 1 8 w w2 := hF.tr hF2 fun x hx z => by
      have e : x = w.2.2.1 + 1 := z
      omega
    have hG2 : yGx w2 (yN w O 0) g (qswk G v y k) la ea lp ep t b := hGk.fr hF2 (fun x hx z => by
      have e : x = w.2.2.1 + 1 := z
      have := (yO.hi hx hg141).2
      omega) fun _ _ z => z
    have hAk : yA w2 (b k) (qF G k) (qT G k) (qA G k) (qW G k) ((qS G).testBit k) := by
      have := hG2.2.2.2.1 k hkk
      rw [qswk_e] at this
      exact this
    have hob := yO.hi (hG2.2.2.2.2.2.2.2.2.2.2.2.2 k hkk) hg141
    obtain ⟨a1, a2, a3, a4, a5, a6⟩ := id hAk
    have gg0 : w2.1 g = (0, 0, 14) := hG2.1.1
    have gg2 : w2.2.1 g 1 = (0, (qM G : Int)) := hG2.1.2.2.1
    have hml : qM G ≤ 12 := k4
    -- from 116 on
    have tail : ∀ w3, yF (fun x => O x = g) 1 8 w w3 → yI w3 (w.2.2.1 + 1) la (k + 1) → yGx w3 (yN w O 0) g (qswk G v y (k + 1)) la ea lp ep t b → wy N xs (d + 3) 375 116 [gr g, (0, (v : Int)), (0, (y : Int)), (0, ((qcnt (qswc G v y) k : Nat) : Int)), gr (w.2.2.1 + 1), gr (b k), (0, (qA G k : Int))] [] w3 Q := by
      intro w3 hF3 hI3 hG3
      have hA3 := hG3.2.2.2.1 k hkk
      rw [qswk_s] at hA3
      obtain ⟨c1, c2, c3, c4, c5, c6⟩ := hA3
      have hlt := qswg_lt hG (v := v) hy hkk
      have hiff := qswg_iff (G := G) (v := v) f3 hy
      rw [ly_375_116, ly_375_117 (by first | exact gl_gr | exact gl_r6 | exact gl_r7 | assumption | rfl), ly_375_119 (by assumption), c4, ly_375_122, ly_375_124 (by omega) (by omega) (by omega) (by omega)]
      have this := ih w3 (gr (b k)) (0, (qA G k : Int)) hF3 hI3 hG3
      rw [show qcnt (qswc G v y) (k + 1) = qcnt (qswc G v y) k + (qswc G v y k).toNat from rfl] at this
      by_cases he : qswg G v y k = qA G k
      · rw [hiff.1 he] at this
        simp only [show (qswg G v y k : Int) = (qA G k : Int) by omega, not_true_eq_false, true_implies, false_implies, and_true, true_and]
        rw [ly_375_127, ly_375_128, ly_375_132, io_add_o (by omega) (by omega), Int.add_zero, ly_375_133, ly_375_134]
        exact this
      · have hc : qswc G v y k = true := by
          cases hb : qswc G v y k
          · exact absurd (hiff.2 hb) he
          · rfl
        rw [hc] at this
        simp only [show ¬ ((qswg G v y k : Int) = (qA G k : Int)) by omega, not_false_eq_true, true_implies, false_implies, and_true, true_and]
        rw [ly_375_131, ly_375_132, io_add_o (by omega) (by omega), ly_375_133, ly_375_134]
        exact this
    have same : qswg G v y k = qA G k → wy N xs (d + 3) 375 116 [gr g, (0, (v : Int)), (0, (y : Int)), (0, ((qcnt (qswc G v y) k : Nat) : Int)), gr (w.2.2.1 + 1), gr (b k), (0, (qA G k : Int))] [] w2 Q := by
      intro he
      refine tail w2 hF2' hI2 (hG2.cg rfl rfl rfl rfl (fun _ _ => rfl) (fun _ _ => rfl) fun c hc => ⟨rfl, rfl, ?_, rfl, rfl⟩)
      by_cases hck : c = k
      · rw [hck, qswk_s, qswk_e, he]
      · rw [qswk_n hck]
    have other : ∀ x : Nat, qswg G v y k = x → wy N xs (d + 3) 375 116 [gr g, (0, (v : Int)), (0, (y : Int)), (0, ((qcnt (qswc G v y) k : Nat) : Int)), gr (w.2.2.1 + 1), gr (b k), (0, (qA G k : Int))] [] (w2.1, gy_up w2.2.1 (b k) 2 (0, (x : Int)), w2.2.2) Q := by
      intro x he
      have hbk := hG2.ba (a := k) hkk
      refine tail _ (yF.u hF2' fun _ => hob.1) ?_ ?_
      · refine hI2.fr (yF.u (P := fun z => z = b k) yF.rf fun _ => rfl) (fun z => ?_) (fun z => hbk.2.1 z.symm) (by have := o2.2.2; have := hF2'.le; omega)
        have := hob.2
        omega
      · refine hG2.arc hkk rfl rfl rfl rfl rfl rfl (fun c hc hck => ⟨rfl, rfl, qswk_n hck, rfl, rfl⟩) ?_
        rw [qswk_s, he]
        exact hAk.s2
    rw [wz_1, ly_375_28 (by first | exact gl_c7 (by assumption) | exact gl_c14 (by assumption) | exact gl_c12 (by omega) (by omega)), ly_375_31 (by first | exact gl_gr | exact gl_r6 | exact gl_r7 | assumption | rfl) (by first | exact gl_gr | exact gl_r6 | exact gl_r7 | assumption | rfl), ly_375_33 (by first | exact gl_gr | exact gl_r6 | exact gl_r7 | assumption | rfl), ly_375_35 (by assumption), a4, ly_375_38 (by first | exact gl_gr | exact gl_r6 | exact gl_r7 | assumption | rfl), ly_375_40 (by first | exact gl_gr | exact gl_r6 | exact gl_r7 | assumption | rfl), ly_375_42 (by assumption), a2, ly_375_45 (by first | exact gl_gr | exact gl_r6 | exact gl_r7 | assumption | rfl), ly_375_47 (by assumption), a3, ly_375_50 (by omega) (by omega) (by omega) (by omega)]
    by_cases c1 : qF G k = qT G k
    · simp only [show (qF G k : Int) = (qT G k : Int) by omega, not_true_eq_false, true_implies, false_implies, and_true, true_and]
      rw [ly_375_78 (by first | exact gl_gr | exact gl_r6 | exact gl_r7 | assumption | rfl), ly_375_80 (by assumption), a2, ly_375_83 (by first | exact gl_gr | exact gl_r6 | exact gl_r7 | assumption | rfl), ly_375_85 (by assumption), a3, ly_375_88 (by omega) (by omega) (by omega) (by omega)]
      simp only [show (qF G k : Int) = (qT G k : Int) by omega, not_true_eq_false, true_implies, false_implies, and_true, true_and]
      exact same (by unfold qswg; rw [if_pos c1])
    · simp only [show ¬ ((qF G k : Int) = (qT G k : Int)) by omega, not_false_eq_true, true_implies, false_implies, and_true, true_and]
      rw [ly_375_53 (by first | exact gl_gr | exact gl_r6 | exact gl_r7 | assumption | rfl), ly_375_55 (by assumption), a3, ly_375_58, ly_375_59 (by omega) (by omega) (by omega) (by omega)]
      by_cases c2 : qT G k = v
      · simp only [show (qT G k : Int) = (v : Int) by omega, not_true_eq_false, true_implies, false_implies, and_true, true_and]
        have e1 : io_add (qA G k : Int) (y : Int) = (qA G k : Int) + (y : Int) := io_add_o (by omega) (by omega)
        rw [ly_375_62 (by first | exact gl_gr | exact gl_r6 | exact gl_r7 | assumption | rfl), ly_375_64 (by first | exact gl_gr | exact gl_r6 | exact gl_r7 | assumption | rfl), ly_375_65 (by first | exact gl_gr | exact gl_r6 | exact gl_r7 | assumption | rfl), ly_375_67 (by assumption), a4, ly_375_70, ly_375_71, e1, ly_375_72 (by first | exact gl_gr | exact gl_r6 | exact gl_r7 | assumption | rfl) (by first | exact gl_cl (by assumption) rfl | exact gl_l6 (by omega) (by omega) | exact gl_l4 (by omega)), wy_rest gg0 gg2 k3 (by omega) (by omega) (by omega), wz_1, yz_pl k3 f3 hy, ly_375_75 (by assumption)]
        have he : qswg G v y k = qpl (qM G) (qA G k) y := by unfold qswg; rw [if_neg c1, if_pos c2]
        have hoth := other _ he
        have z1 : ((w2.1, gy_up w2.2.1 (b k) 2 (0, ((qpl (qM G) (qA G k) y : Nat) : Int)), w2.2.2) : gy_W).1 (b k) = (0, 0, 7) := a1
        have z2 : ((w2.1, gy_up w2.2.1 (b k) 2 (0, ((qpl (qM G) (qA G k) y : Nat) : Int)), w2.2.2) : gy_W).2.1 (b k) 0 = (0, (qF G k : Int)) := (gy_up_k (by decide)).trans a2
        have z3 : ((w2.1, gy_up w2.2.1 (b k) 2 (0, ((qpl (qM G) (qA G k) y : Nat) : Int)), w2.2.2) : gy_W).2.1 (b k) 1 = (0, (qT G k : Int)) := (gy_up_k (by decide)).trans a3
        generalize ((w2.1, gy_up w2.2.1 (b k) 2 (0, ((qpl (qM G) (qA G k) y : Nat) : Int)), w2.2.2) : gy_W) = w3 at hoth z1 z2 z3
        rw [ly_375_78 (by first | exact gl_gr | exact gl_r6 | exact gl_r7 | assumption | rfl), ly_375_80 (by assumption), z2, ly_375_83 (by first | exact gl_gr | exact gl_r6 | exact gl_r7 | assumption | rfl), ly_375_85 (by assumption), z3, ly_375_88 (by omega) (by omega) (by omega) (by omega)]
        simp only [show ¬ ((qF G k : Int) = (qT G k : Int)) by omega, not_false_eq_true, true_implies, false_implies, and_true, true_and]
        rw [ly_375_91 (by first | exact gl_gr | exact gl_r6 | exact gl_r7 | assumption | rfl), ly_375_93 (by assumption), z2, ly_375_96, ly_375_97 (by omega) (by omega) (by omega) (by omega)]
        simp only [show ¬ ((qF G k : Int) = (v : Int)) by omega, not_false_eq_true, true_implies, false_implies, and_true, true_and]
        exact hoth
      · simp only [show ¬ ((qT G k : Int) = (v : Int)) by omega, not_false_eq_true, true_implies, false_implies, and_true, true_and]
        rw [ly_375_78 (by first | exact gl_gr | exact gl_r6 | exact gl_r7 | assumption | rfl), ly_375_80 (by assumption), a2, ly_375_83 (by first | exact gl_gr | exact gl_r6 | exact gl_r7 | assumption | rfl), ly_375_85 (by assumption), a3, ly_375_88 (by omega) (by omega) (by omega) (by omega)]
        simp only [show ¬ ((qF G k : Int) = (qT G k : Int)) by omega, not_false_eq_true, true_implies, false_implies, and_true, true_and]
        rw [ly_375_91 (by first | exact gl_gr | exact gl_r6 | exact gl_r7 | assumption | rfl), ly_375_93 (by assumption), a2, ly_375_96, ly_375_97 (by omega) (by omega) (by omega) (by omega)]
        by_cases c3 : qF G k = v
        · simp only [show (qF G k : Int) = (v : Int) by omega, not_true_eq_false, true_implies, false_implies, and_true, true_and]
          have e1 : io_sub (qA G k : Int) (y : Int) = (qA G k : Int) - (y : Int) := io_sub_o (by omega) (by omega)
          rw [ly_375_100 (by first | exact gl_gr | exact gl_r6 | exact gl_r7 | assumption | rfl), ly_375_102 (by first | exact gl_gr | exact gl_r6 | exact gl_r7 | assumption | rfl), ly_375_103 (by first | exact gl_gr | exact gl_r6 | exact gl_r7 | assumption | rfl), ly_375_105 (by assumption), a4, ly_375_108, ly_375_109, e1, ly_375_110 (by first | exact gl_gr | exact gl_r6 | exact gl_r7 | assumption | rfl) (by first | exact gl_cl (by assumption) rfl | exact gl_l6 (by omega) (by omega) | exact gl_l4 (by omega)), wy_rest gg0 gg2 k3 (by omega) (by omega) (by omega), wz_1, yz_mi k3 f3 hy, ly_375_113 (by assumption)]
          exact other _ (by unfold qswg; rw [if_neg c1, if_neg c2, if_pos c3])
        · simp only [show ¬ ((qF G k : Int) = (v : Int)) by omega, not_false_eq_true, true_implies, false_implies, and_true, true_and]
          exact same (by unfold qswg; rw [if_neg c1, if_neg c2, if_neg c3])
  · have hY := hGk.2.1.1
    have hi1 := hI'.1
    have hPv : yV w' lp ep (qN G) (fun v => (6, qP G v)) := hGk.2.1.2
    have gg0 : w'.1 g = (0, 0, 14) := hGk.1.1
    have gg2 : w'.2.1 g 1 = (0, (qM G : Int)) := hGk.1.2.2.1
    have gg5 : w'.2.1 g 4 = gr lp := hGk.1.2.2.2.2.2.1
    have hlp := hPv.1
    obtain ⟨p1, p2⟩ := yz_P hG (v := v) (by omega)
    obtain ⟨p3, p4⟩ := hp v (by omega)
    have hml : qM G * qL G ≤ 12 * 5 := Nat.mul_le_mul k4 k8
    rw [ly_375_11 (by first | exact gl_gr | exact gl_r6 | exact gl_r7 | assumption | rfl), ly_375_13 (by first | exact gl_gr | exact gl_r6 | exact gl_r7 | assumption | rfl) (by first | exact gl_cl (by assumption) rfl | exact gl_l6 (by omega) (by omega) | exact gl_l4 (by omega)), wv_hasNext hI' hY (by show qK G ≤ qK G; omega) (by show qK G ≤ 1000; omega), if_pos (by show qK G = qK G; rfl), wz_1, ly_375_18 (by omega) (by omega)]
    simp only [not_true_eq_false, true_implies, false_implies, and_true]
    rw [ly_375_137 (by first | exact gl_gr | exact gl_r6 | exact gl_r7 | assumption | rfl), ly_375_138 (by assumption), gg5, ly_375_141, ly_375_142 (by first | exact gl_gr | exact gl_r6 | exact gl_r7 | assumption | rfl) (by first | exact gl_cl (by assumption) rfl | exact gl_l6 (by omega) (by omega) | exact gl_l4 (by omega)), wv_get hPv hv, wz_1, ly_375_145 (by first | exact gl_c7 (by assumption) | exact gl_c14 (by assumption) | exact gl_c12 (by omega) (by omega)), ly_375_148 (by first | exact gl_gr | exact gl_r6 | exact gl_r7 | assumption | rfl) (by first | exact gl_cl (by assumption) rfl | exact gl_l6 (by omega) (by omega) | exact gl_l4 (by omega))]
    rw [wy_int p1 p2, wz_1, ly_375_151, ly_375_153, ly_375_155 (by omega) (by omega)]
    have hgain : ∀ c, c < qK G → qA (qsw G v y) c = qA (qswk G v y (qK G)) c := fun c hc => (show qswg G v y c = if c < qK G then qswg G v y c else qA G c by rw [if_pos hc])
    by_cases hc0 : 0 < qP G v
    · simp only [hc0, not_true_eq_false, true_implies, false_implies, and_true]
      obtain ⟨x, hx⟩ : ∃ x : Nat, qP G v = (x : Int) := ⟨(qP G v).toNat, by omega⟩
      have hx1 : 1 ≤ x := by omega
      have e1 : io_sub (x : Int) 1 = ((x - 1 : Nat) : Int) := by rw [io_sub_o (by omega) (by omega)]; omega
      have e2 : (((x - 1 : Nat) : Int)).tdiv (qM G : Int) = (((x - 1) / qM G : Nat) : Int) := rfl
      have hd1 : (x - 1) / qM G ≤ x - 1 := Nat.div_le_self _ _
      have hd2 : (x - 1) / qM G * qM G ≤ x - 1 := Nat.div_mul_le_self _ _
      have e3 : io_mul (((x - 1) / qM G : Nat) : Int) (qM G : Int) = (((x - 1) / qM G * qM G : Nat) : Int) := by rw [io_mul_o (by rw [← Int.natCast_mul]; omega) (by rw [← Int.natCast_mul]; omega), ← Int.natCast_mul]
      have e4 : io_add 1 (((x - 1) / qM G * qM G : Nat) : Int) = ((1 + (x - 1) / qM G * qM G : Nat) : Int) := by rw [io_add_o (by omega) (by omega)]; omega
      have e5 : (((x - 1 : Nat) : Int)).tmod (qM G : Int) = (((x - 1) % qM G : Nat) : Int) := rfl
      have hm3 : (x - 1) % qM G < qM G := Nat.mod_lt _ k3
      have e6 : io_add (((x - 1) % qM G : Nat) : Int) (y : Int) = (((x - 1) % qM G + y : Nat) : Int) := by rw [io_add_o (by omega) (by omega)]; omega
      have hqq := qpl_lt (m := qM G) hm3 hy
      have e7 : io_add ((1 + (x - 1) / qM G * qM G : Nat) : Int) ((qpl (qM G) ((x - 1) % qM G) y : Nat) : Int) = ((1 + (x - 1) / qM G * qM G + qpl (qM G) ((x - 1) % qM G) y : Nat) : Int) := by rw [io_add_o (by omega) (by omega)]; omega
      have e8 : 1 + (x - 1) / qM G * qM G + qpl (qM G) ((x - 1) % qM G) y = qsh (qM G) x y := by
        unfold qsh
        rw [if_neg (by omega)]
        have := Nat.div_add_mod (x - 1) (qM G)
        rw [Nat.mul_comm] at this
        omega
      have hsh : qsh (qM G) x y ≤ 60 := by
        have := qsh_lt hG (x := x) (b := y) (by omega) hy
        omega
      rw [hx, ly_375_158, ly_375_160, ly_375_161, e1, ly_375_162 (by first | exact gl_gr | exact gl_r6 | exact gl_r7 | assumption | rfl), ly_375_163 (by assumption), gg2, ly_375_166 (by omega) (by omega) (by omega) (by omega), e2, ly_375_167, ly_375_169 (by first | exact gl_gr | exact gl_r6 | exact gl_r7 | assumption | rfl), ly_375_170 (by assumption), gg5, ly_375_173, ly_375_174, ly_375_175, ly_375_177 (by first | exact gl_gr | exact gl_r6 | exact gl_r7 | assumption | rfl), ly_375_178 (by assumption), gg2, ly_375_181, e3, ly_375_182, e4, ly_375_183 (by first | exact gl_gr | exact gl_r6 | exact gl_r7 | assumption | rfl), ly_375_184, ly_375_186, ly_375_187, e1, ly_375_188 (by first | exact gl_gr | exact gl_r6 | exact gl_r7 | assumption | rfl), ly_375_189 (by assumption), gg2, ly_375_192 (by omega) (by omega) (by omega) (by omega), e5, ly_375_193, ly_375_194, e6, ly_375_195 (by first | exact gl_gr | exact gl_r6 | exact gl_r7 | assumption | rfl) (by first | exact gl_cl (by assumption) rfl | exact gl_l6 (by omega) (by omega) | exact gl_l4 (by omega)), wy_rest gg0 gg2 k3 (by omega) (by omega) (by omega), wz_1, yz_mod hx1 k3 hy, ly_375_198, e7, e8, ly_375_199, wy_val (by omega) (by omega), wz_1, ly_375_202 (by first | exact gl_gr | exact gl_r6 | exact gl_r7 | assumption | rfl) (by first | exact gl_gr | exact gl_r6 | exact gl_r7 | assumption | rfl) (by first | exact gl_cl (by assumption) rfl | exact gl_l6 (by omega) (by omega) | exact gl_l4 (by omega))]
      refine wv_set hPv hv (yE.i (by omega) (by omega)) fun w3 hF3 hc3 hV3 => ?_
      rw [wz_1, ly_375_205 (by first | exact gl_c7 (by assumption) | exact gl_c14 (by assumption) | exact gl_c12 (by omega) (by omega)), ly_375_208 (by first | exact gl_gr | exact gl_r6 | exact gl_r7 | assumption | rfl) (by first | exact gl_cl (by assumption) rfl | exact gl_l6 (by omega) (by omega) | exact gl_l4 (by omega)), wy_int p1 p2, wz_1, ly_375_211, ly_375_213, ly_375_214]
      have hPs : qswp G v y = ((qsh (qM G) x y : Nat) : Int) := by
        unfold qswp
        rw [if_neg (by omega), hx, Int.toNat_natCast]
      have hG3 : yGx w3 (yN w O 0) g (qsw G v y) la ea lp ep t b := by
        refine hGk.pnt hF3 hV3 rfl rfl rfl rfl (fun j hj => ?_) rfl fun c hc => ⟨rfl, rfl, hgain c hc, rfl, rfl⟩
        show (6, qup (qP G) v (qswp G v y) j) = (if j = v then (6, ((qsh (qM G) x y : Nat) : Int)) else (6, qP G j))
        by_cases hjv : j = v
        · rw [if_pos hjv, hjv, qup_e, hPs]
        · rw [if_neg hjv, qup_n hjv]
      refine hQ w3 (hF.tr hF3 fun z hz e => ?_) hG3.hi
      rw [show z = ep from e]
      exact o5.1
    · simp only [hc0, not_false_eq_true, true_implies, false_implies, true_and]
      rw [ly_375_213, ly_375_214]
      refine hQ w' hF (yGx.hi (hGk.cg (G' := qsw G v y) rfl rfl rfl rfl (fun j hj => ?_) (fun _ _ => rfl) fun c hc => ⟨rfl, rfl, hgain c hc, rfl, rfl⟩))
      show qup (qP G) v (qswp G v y) j = qP G j
      by_cases hjv : j = v
      · rw [hjv, qup_e]
        unfold qswp
        by_cases hm1 : qP G v = -1
        · rw [if_pos hm1, hm1]
        · rw [if_neg hm1, show qP G v = 0 by omega]
          rfl
      · rw [qup_n hjv]
end LT
