/-! the law's Graph: contract -/
def qren1 (kept gone v : Nat) : Nat := if v = gone then kept else v
theorem qren_1 {kept gone v : Nat} (h : kept ≠ gone) : qren kept gone v = qren1 kept gone v - (if gone < qren1 kept gone v then 1 else 0) := by
  unfold qren qren1
  by_cases h1 : v = gone
  · rw [if_pos h1, if_pos h1]
    split <;> omega
  · rw [if_neg h1, if_neg h1]
    split <;> omega
section LC
variable {N : Nat} {xs : Nat → Int32} {d : Nat} {w : gy_W} {Q : gy_O → Prop} {O : Nat → Nat} {g : Nat} {G : q_G} {la ea lp ep t : Nat} {b : Nat → Nat}
theorem yGx.arcF {G' : q_G} {a : Nat} {w2 : gy_W} (h : yGx w O g G la ea lp ep t b) (ha : a < qK G) (hF : yF (fun x => x = b a) 0 0 w w2) (e1 : qN G' = qN G) (e2 : qM G' = qM G) (e3 : qK G' = qK G) (e4 : qL G' = qL G) (e5 : qP G' = qP G) (e6 : qO G' = qO G)
    (e7 : ∀ c, c < qK G → c ≠ a → qF G' c = qF G c ∧ qT G' c = qT G c ∧ qA G' c = qA G c ∧ qW G' c = qW G c ∧ (qS G').testBit c = (qS G).testBit c) (hA' : yA w2 (b a) (qF G' a) (qT G' a) (qA G' a) (qW G' a) ((qS G').testBit a)) : yGx w2 O g G' la ea lp ep t b := by
  obtain ⟨n1, n2, n3, n4, n5, n6⟩ := h.ba ha
  obtain ⟨⟨g0, g1, g2, g3, g4, g5, g6⟩, ⟨v1, v2⟩, ⟨t1, t2⟩, hA, hI, hD, o1, o2, o3, o4, o5, o6, o7⟩ := h
  have m0 := hF.me o1.2.2 (Ne.symm n1)
  have m1 := hF.me o6.2.2 (Ne.symm n6)
  have hO : ∀ x, x ≤ w.2.2.1 → O x = g → O x = g := fun _ _ z => z
  rw [← e1] at g1 v2
  rw [← e2] at g2
  rw [← e4] at g3
  rw [← e5] at v2
  rw [← e6] at t2
  rw [← e3] at v1 hA hI o7
  refine ⟨⟨(hF.sh o1.2.2).trans g0, ?_, ?_, ?_, ?_, ?_, ?_⟩, ⟨v1.fr hF (Ne.symm n2) (Ne.symm n3), v2.fr hF (Ne.symm n4) (Ne.symm n5)⟩, ⟨(hF.sh o6.2.2).trans t1, fun j hj => by rw [m1]; exact t2 j hj⟩, fun c hc => ?_, hI, hD, o1.fr hF hO, o2.fr hF hO, o3.fr hF hO, o4.fr hF hO, o5.fr hF hO, o6.fr hF hO, fun c hc => (o7 c hc).fr hF hO⟩
  · rw [m0]; exact g1
  · rw [m0]; exact g2
  · rw [m0]; exact g3
  · rw [m0]; exact g4
  · rw [m0]; exact g5
  · rw [m0]; exact g6
  · by_cases hca : c = a
    · rw [hca]
      exact hA'
    · obtain ⟨b1, b2, b3, b4, b5⟩ := e7 c (e3 ▸ hc) hca
      rw [b1, b2, b3, b4, b5]
      exact (hA c hc).fr hF (fun z => hca (hI c a hc (e3.symm ▸ ha) z)) (o7 c hc).2.2
/-- an arc is gone -/
theorem yGx.rem {w2 : gy_W} {k : Nat} {f : Nat → gg_V} (h : yGx w O g G la ea lp ep t b) (hk : k < qK G) (hF : yF (fun x => x = la ∨ x = ea) 0 0 w w2) (hV : yV w2 la ea (qK G - 1) f) (hf : ∀ j, f j = if j < k then gr (b j) else gr (b (j + 1))) : yGx w2 O g (qdrop G k) la ea lp ep t (fun j => if j < k then b j else b (j + 1)) := by
  have hba := fun a ha => h.ba (a := a) ha
  obtain ⟨⟨n1, n2, n3, n4, n5⟩, n6, n7, n8, n9⟩ := h.gt
  obtain ⟨⟨g0, g1, g2, g3, g4, g5, g6⟩, ⟨v1, v2⟩, ⟨t1, t2⟩, hA, hI, hD, o1, o2, o3, o4, o5, o6, o7⟩ := h
  have m0 := hF.me o1.2.2 (fun z => z.elim n1 n2)
  have m1 := hF.me o6.2.2 (fun z => z.elim n6 n7)
  have hO : ∀ x, x ≤ w.2.2.1 → O x = g → O x = g := fun _ _ z => z
  have hK : qK (qdrop G k) = qK G - 1 := rfl
  have hbit : ∀ c, c < qK G - 1 → (qS (qdrop G k)).testBit c = if c < k then (qS G).testBit c else (qS G).testBit (c + 1) := by
    intro c hc
    show (qbits (qov (qS G).testBit k) (qK G - 1)).testBit c = _
    rw [qbits_bit, decide_eq_true hc, Bool.true_and]
    rfl
  refine ⟨⟨(hF.sh o1.2.2).trans g0, ?_, ?_, ?_, ?_, ?_, ?_⟩, ⟨?_, ?_⟩, ⟨(hF.sh o6.2.2).trans t1, fun j hj => by rw [m1]; exact t2 j hj⟩, fun c hc => ?_, fun a c ha hc hac => ?_, hD, o1.fr hF hO, o2.fr hF hO, o3.fr hF hO, o4.fr hF hO, o5.fr hF hO, o6.fr hF hO, fun c hc => ?_⟩
  · rw [m0]; exact g1
  · rw [m0]; exact g2
  · rw [m0]; exact g3
  · rw [m0]; exact g4
  · rw [m0]; exact g5
  · rw [m0]; exact g6
  · rw [hK]
    refine hV.cg fun j hj => ?_
    rw [hf j]
    dsimp only
    by_cases hjk : j < k
    · rw [if_pos hjk, if_pos hjk]
    · rw [if_neg hjk, if_neg hjk]
  · exact v2.fr hF (fun z => z.elim (Ne.symm hD.1) (Ne.symm hD.2.2.1)) (fun z => z.elim (Ne.symm hD.2.1) (Ne.symm hD.2.2.2))
  · rw [hK] at hc
    rw [hbit c hc]
    show yA w2 (if c < k then b c else b (c + 1)) (if c < k then qF G c else qF G (c + 1)) (if c < k then qT G c else qT G (c + 1)) (if c < k then qA G c else qA G (c + 1)) (if c < k then qW G c else qW G (c + 1)) _
    by_cases hck : c < k
    · simp only [if_pos hck]
      have := hba c (by omega)
      exact (hA c (by omega)).fr hF (fun z => z.elim this.2.1 this.2.2.1) (o7 c (by omega)).2.2
    · simp only [if_neg hck]
      have := hba (c + 1) (by omega)
      exact (hA (c + 1) (by omega)).fr hF (fun z => z.elim this.2.1 this.2.2.1) (o7 (c + 1) (by omega)).2.2
  · rw [hK] at ha hc
    dsimp only at hac
    by_cases h1 : a < k <;> by_cases h2 : c < k
    · rw [if_pos h1, if_pos h2] at hac
      exact hI a c (by omega) (by omega) hac
    · rw [if_pos h1, if_neg h2] at hac
      have := hI a (c + 1) (by omega) (by omega) hac
      omega
    · rw [if_neg h1, if_pos h2] at hac
      have := hI (a + 1) c (by omega) (by omega) hac
      omega
    · rw [if_neg h1, if_neg h2] at hac
      have := hI (a + 1) (c + 1) (by omega) (by omega) hac
      omega
  · rw [hK] at hc
    dsimp only
    split
    · exact (o7 c (by omega)).fr hF hO
    · exact (o7 (c + 1) (by omega)).fr hF hO
/-- a vertex is gone: its paint, and one less -/
theorem yGx.vrem {w2 : gy_W} {v : Nat} {f : Nat → gg_V} {G' : q_G} (h : yGx w O g G la ea lp ep t b) (hF : yF (fun x => x = lp ∨ x = ep) 0 0 w w2) (hV : yV w2 lp ep (qN G - 1) f) (hf : ∀ j, j < qN G - 1 → (6, qP G' j) = f j)
    (e1 : qN G' = qN G - 1) (e2 : qM G' = qM G) (e3 : qK G' = qK G) (e4 : qL G' = qL G) (e6 : qO G' = qO G) (e7 : ∀ c, c < qK G → qF G' c = qF G c ∧ qT G' c = qT G c ∧ qA G' c = qA G c ∧ qW G' c = qW G c ∧ (qS G').testBit c = (qS G).testBit c) :
    yGx (w2.1, gy_up w2.2.1 g 0 (0, ((qN G - 1 : Nat) : Int)), w2.2.2) O g G' la ea lp ep t b := by
  have hba := fun a ha => h.ba (a := a) ha
  obtain ⟨⟨n1, n2, n3, n4, n5⟩, n6, n7, n8, n9⟩ := h.gt
  obtain ⟨⟨g0, g1, g2, g3, g4, g5, g6⟩, ⟨v1, v2⟩, ⟨t1, t2⟩, hA, hI, hD, o1, o2, o3, o4, o5, o6, o7⟩ := h
  have m0 := hF.me o1.2.2 (fun z => z.elim n3 n4)
  have hF2 : yF (fun x => (x = lp ∨ x = ep) ∨ x = g) 0 0 w (w2.1, gy_up w2.2.1 g 0 (0, ((qN G - 1 : Nat) : Int)), w2.2.2) := yF.u (hF.wk (fun _ _ z => Or.inl z) (Nat.le_refl _) (Nat.le_refl _)) fun _ => Or.inr rfl
  have hF3 : yF (fun x => x = g) 0 0 w2 (w2.1, gy_up w2.2.1 g 0 (0, ((qN G - 1 : Nat) : Int)), w2.2.2) := yF.u yF.rf fun _ => rfl
  have m1 := hF2.me o6.2.2 (fun z => z.elim (fun z => z.elim n8 n9) (Ne.symm n5))
  have hO : ∀ x, x ≤ w.2.2.1 → O x = g → O x = g := fun _ _ z => z
  refine ⟨⟨(hF.sh o1.2.2).trans g0, ?_, ?_, ?_, ?_, ?_, ?_⟩, ⟨?_, ?_⟩, ⟨(hF.sh o6.2.2).trans t1, fun j hj => by rw [m1, e6]; exact t2 j hj⟩, fun c hc => ?_, ?_, hD, o1.fr hF2 hO, o2.fr hF2 hO, o3.fr hF2 hO, o4.fr hF2 hO, o5.fr hF2 hO, o6.fr hF2 hO, fun c hc => (o7 c (e3 ▸ hc)).fr hF2 hO⟩
  · rw [e1]
    exact gy_up_at
  · refine (gy_up_k (by decide)).trans ?_
    rw [m0, e2]; exact g2
  · refine (gy_up_k (by decide)).trans ?_
    rw [m0, e4]; exact g3
  · refine (gy_up_k (by decide)).trans ?_
    rw [m0]; exact g4
  · refine (gy_up_k (by decide)).trans ?_
    rw [m0]; exact g5
  · refine (gy_up_k (by decide)).trans ?_
    rw [m0]; exact g6
  · rw [e3]
    exact v1.fr hF2 (fun z => z.elim (fun z => z.elim hD.1 hD.2.1) (Ne.symm n1)) (fun z => z.elim (fun z => z.elim hD.2.2.1 hD.2.2.2) (Ne.symm n2))
  · rw [e1]
    exact (hV.fr hF3 (Ne.symm n3) (Ne.symm n4)).cg hf
  · rw [e3] at hc
    obtain ⟨b1, b2, b3, b4, b5⟩ := e7 c hc
    rw [b1, b2, b3, b4, b5]
    have := hba c hc
    exact (hA c hc).fr hF2 (fun z => z.elim (fun z => z.elim this.2.2.2.1 this.2.2.2.2.1) this.1) (o7 c hc).2.2
  · rw [e3]
    exact hI
theorem yc_1 {k0 f0 t0 a f tt ga wa it its : Nat} {bb : Bool} {l5 l6 : gg_V} (h : yA w a f tt ga wa bb) (hf : f ≤ 100) (ht : t0 ≤ 100) : wy N xs d 367 84 [gr g, (0, (k0 : Int)), gr its, (0, (f0 : Int)), (0, (t0 : Int)), l5, l6, gr it, gr a] [] w Q ↔ wy N xs d 367 108 [gr g, (0, (k0 : Int)), gr its, (0, (f0 : Int)), (0, (t0 : Int)), l5, l6, gr it, gr a] [] (w.1, gy_up w.2.1 a 0 (0, (qren1 f0 t0 f : Int)), w.2.2) Q := by
  obtain ⟨a1, a2, a3, a4, a5, a6⟩ := h
  unfold qren1
  rw [ly_367_84 (by first | exact gl_gr | exact gl_r6 | exact gl_r7 | assumption | rfl), ly_367_86 (by first | exact gl_gr | exact gl_r6 | exact gl_r7 | assumption | rfl), ly_367_88 (by assumption), a2, ly_367_91, ly_367_93 (by omega) (by omega) (by omega) (by omega)]
  by_cases e : f = t0
  · simp only [show (f : Int) = (t0 : Int) by omega, not_true_eq_false, true_implies, false_implies, and_true, true_and]
    rw [if_pos e, ly_367_96, ly_367_97, ly_367_105 (by assumption)]
  · simp only [show ¬ ((f : Int) = (t0 : Int)) by omega, not_false_eq_true, true_implies, false_implies, and_true, true_and]
    rw [if_neg e, ly_367_100 (by first | exact gl_gr | exact gl_r6 | exact gl_r7 | assumption | rfl), ly_367_102 (by assumption), a2, ly_367_105 (by assumption)]
theorem yc_2 {k0 f0 t0 a f tt ga wa it its : Nat} {bb : Bool} {l5 l6 : gg_V} (h : yA w a f tt ga wa bb) (hf : tt ≤ 100) (ht : t0 ≤ 100) : wy N xs d 367 108 [gr g, (0, (k0 : Int)), gr its, (0, (f0 : Int)), (0, (t0 : Int)), l5, l6, gr it, gr a] [] w Q ↔ wy N xs d 367 132 [gr g, (0, (k0 : Int)), gr its, (0, (f0 : Int)), (0, (t0 : Int)), l5, l6, gr it, gr a] [] (w.1, gy_up w.2.1 a 1 (0, (qren1 f0 t0 tt : Int)), w.2.2) Q := by
  obtain ⟨a1, a2, a3, a4, a5, a6⟩ := h
  unfold qren1
  rw [ly_367_108 (by first | exact gl_gr | exact gl_r6 | exact gl_r7 | assumption | rfl), ly_367_110 (by first | exact gl_gr | exact gl_r6 | exact gl_r7 | assumption | rfl), ly_367_112 (by assumption), a3, ly_367_115, ly_367_117 (by omega) (by omega) (by omega) (by omega)]
  by_cases e : tt = t0
  · simp only [show (tt : Int) = (t0 : Int) by omega, not_true_eq_false, true_implies, false_implies, and_true, true_and]
    rw [if_pos e, ly_367_120, ly_367_121, ly_367_129 (by assumption)]
  · simp only [show ¬ ((tt : Int) = (t0 : Int)) by omega, not_false_eq_true, true_implies, false_implies, and_true, true_and]
    rw [if_neg e, ly_367_124 (by first | exact gl_gr | exact gl_r6 | exact gl_r7 | assumption | rfl), ly_367_126 (by assumption), a3, ly_367_129 (by assumption)]
theorem yc_3 {k0 f0 t0 a f tt ga wa it its : Nat} {bb : Bool} {l5 l6 : gg_V} (h : yA w a f tt ga wa bb) (hf : f ≤ 100) (ht : t0 ≤ 100) : wy N xs d 367 132 [gr g, (0, (k0 : Int)), gr its, (0, (f0 : Int)), (0, (t0 : Int)), l5, l6, gr it, gr a] [] w Q ↔ wy N xs d 367 157 [gr g, (0, (k0 : Int)), gr its, (0, (f0 : Int)), (0, (t0 : Int)), l5, l6, gr it, gr a] [] (w.1, gy_up w.2.1 a 0 (0, ((f - (if t0 < f then 1 else 0) : Nat) : Int)), w.2.2) Q := by
  obtain ⟨a1, a2, a3, a4, a5, a6⟩ := h
  rw [ly_367_132 (by first | exact gl_gr | exact gl_r6 | exact gl_r7 | assumption | rfl), ly_367_134 (by first | exact gl_gr | exact gl_r6 | exact gl_r7 | assumption | rfl), ly_367_135 (by assumption), a2, ly_367_138 (by first | exact gl_gr | exact gl_r6 | exact gl_r7 | assumption | rfl), ly_367_140 (by assumption), a2, ly_367_143, ly_367_145 (by omega) (by omega) (by omega) (by omega)]
  by_cases e : t0 < f
  · simp only [show (t0 : Int) < (f : Int) by omega, not_true_eq_false, true_implies, false_implies, and_true, true_and]
    rw [if_pos e, ly_367_148, ly_367_149, ly_367_153, io_sub_o (by omega) (by omega), show (f : Int) - 1 = ((f - 1 : Nat) : Int) by omega, ly_367_154 (by assumption)]
  · simp only [show ¬ ((t0 : Int) < (f : Int)) by omega, not_false_eq_true, true_implies, false_implies, and_true, true_and]
    rw [if_neg e, ly_367_152, ly_367_153, io_sub_o (by omega) (by omega), show (f : Int) - 0 = ((f - 0 : Nat) : Int) by omega, ly_367_154 (by assumption)]
theorem yc_4 {k0 f0 t0 a f tt ga wa it its : Nat} {bb : Bool} {l5 l6 : gg_V} (h : yA w a f tt ga wa bb) (hf : tt ≤ 100) (ht : t0 ≤ 100) : wy N xs d 367 157 [gr g, (0, (k0 : Int)), gr its, (0, (f0 : Int)), (0, (t0 : Int)), l5, l6, gr it, gr a] [] w Q ↔ wy N xs d 367 182 [gr g, (0, (k0 : Int)), gr its, (0, (f0 : Int)), (0, (t0 : Int)), l5, l6, gr it, gr a] [] (w.1, gy_up w.2.1 a 1 (0, ((tt - (if t0 < tt then 1 else 0) : Nat) : Int)), w.2.2) Q := by
  obtain ⟨a1, a2, a3, a4, a5, a6⟩ := h
  rw [ly_367_157 (by first | exact gl_gr | exact gl_r6 | exact gl_r7 | assumption | rfl), ly_367_159 (by first | exact gl_gr | exact gl_r6 | exact gl_r7 | assumption | rfl), ly_367_160 (by assumption), a3, ly_367_163 (by first | exact gl_gr | exact gl_r6 | exact gl_r7 | assumption | rfl), ly_367_165 (by assumption), a3, ly_367_168, ly_367_170 (by omega) (by omega) (by omega) (by omega)]
  by_cases e : t0 < tt
  · simp only [show (t0 : Int) < (tt : Int) by omega, not_true_eq_false, true_implies, false_implies, and_true, true_and]
    rw [if_pos e, ly_367_173, ly_367_174, ly_367_178, io_sub_o (by omega) (by omega), show (tt : Int) - 1 = ((tt - 1 : Nat) : Int) by omega, ly_367_179 (by assumption)]
  · simp only [show ¬ ((t0 : Int) < (tt : Int)) by omega, not_false_eq_true, true_implies, false_implies, and_true, true_and]
    rw [if_neg e, ly_367_177, ly_367_178, io_sub_o (by omega) (by omega), show (tt : Int) - 0 = ((tt - 0 : Nat) : Int) by omega, ly_367_179 (by assumption)]
/-- the first j arcs are renamed -/
def qrenk (G : q_G) (kept gone j : Nat) : q_G := qmk (qN G) (qM G) (qK G) (qS G) (qL G) (fun c => if c < j then qren kept gone (qF G c) else qF G c) (fun c => if c < j then qren kept gone (qT G c) else qT G c) (qA G) (qW G) (qP G) (qO G)
end LC
