/-! the law's Graph: parts, one arc one way -/
/-- int[3][k] -/
def yMna (w : gy_W) (k : Nat) : gy_W := ((fun o => if o = w.2.2.1 + 1 then (5, 3, 25) else if w.2.2.1 + 1 < o ∧ o ≤ w.2.2.1 + 1 + 3 then (1, k, 0) else w.1 o), (fun o j => if o = w.2.2.1 + 1 then (2, if j < 3 then ((w.2.2.1 + 2 + j : Nat) : Int) else -1) else if w.2.2.1 + 1 < o ∧ o ≤ w.2.2.1 + 1 + 3 then (0, 0) else w.2.1 o j), w.2.2.1 + 1 + 3, w.2.2.2 + 3 + 3 * k)
theorem yF_Mna {w : gy_W} {k : Nat} : yF (fun _ => False) 4 (3 + 3 * k) w (yMna w k) := by
  refine ⟨?_, ?_, ?_, fun x hx => ⟨?_, fun _ => ?_⟩⟩
  · show w.2.2.1 ≤ w.2.2.1 + 1 + 3
    omega
  · show w.2.2.1 + 1 + 3 ≤ _
    omega
  · show w.2.2.2 + 3 + 3 * k ≤ _
    omega
  · show (if x = w.2.2.1 + 1 then _ else _) = _
    rw [if_neg (by omega), if_neg (by omega)]
  · funext j
    show (if x = w.2.2.1 + 1 then _ else _) = _
    rw [if_neg (by omega), if_neg (by omega)]
section LPA
variable {N : Nat} {xs : Nat → Int32} {d : Nat} {w : gy_W} {Q : gy_O → Prop}
theorem ly_372_5 {L st : List gg_V} {k : Nat} (hk : k ≤ 1000) : wy N xs d 372 5 L ((0, (k : Int)) :: (0, 3) :: st) w Q ↔ wy N xs d 372 9 L (gr (w.2.2.1 + 1) :: st) (yMna w k) Q := by
  refine wy_eq (show gg_dt 372 5 = some (.multianewarray 89 2, 4) by decide +kernel) fun f => ?_
  have e1 : gg_k (k : Int) = k := gk_nat (by omega)
  have e2 : gg_k (3 : Int) = 3 := gk_nat (z := 3) (by decide)
  have hc : ¬ gg_i (3 : Int) < 0 ∧ ¬ gg_i (k : Int) < 0 ∧ gg_k (3 : Int) ≤ 1000 ∧ gg_k (k : Int) ≤ 1000 := ⟨gl_n0 (by decide) (by decide), gl_n0 (by omega) (by omega), by omega, by omega⟩
  have hm : (gg_mt 372).1 = 14 ∧ 89 = 89 ∧ 2 = 2 := ⟨by decide +kernel, rfl, rfl⟩
  show gg_q 4 4 (if (gg_mt 372).1 = 14 ∧ 89 = 89 ∧ 2 = 2 then gy_mna ((0, (k : Int)) :: (0, 3) :: st) w fun st w => gy_ex N xs f d 372 9 L st w else none) = _
  unfold gg_q
  rw [if_pos rfl, if_pos hm]
  refine (if_pos hc).trans ?_
  rw [e1, e2]
  rfl
end LPA
/-- the rows of parts: p (c + 1), its three (c + 2 ..), met (c + 5) -/
def yB (w : gy_W) (c n : Nat) (lo po ba : Nat → Nat) (me : Nat → Bool) : Prop :=
  (w.1 (c + 1) = (5, 3, 25) ∧ w.2.1 (c + 1) 0 = gr (c + 2) ∧ w.2.1 (c + 1) 1 = gr (c + 3) ∧ w.2.1 (c + 1) 2 = gr (c + 4)) ∧ (w.1 (c + 2) = (1, n, 0) ∧ w.1 (c + 3) = (1, n, 0) ∧ w.1 (c + 4) = (1, n, 0) ∧ w.1 (c + 5) = (2, n, 0)) ∧
  (∀ u, u < n → w.2.1 (c + 2) u = (0, (lo u : Int))) ∧ (∀ u, u < n → w.2.1 (c + 3) u = (0, (po u : Int))) ∧ (∀ u, u < n → w.2.1 (c + 4) u = (0, (ba u : Int))) ∧ ∀ u, u < n → w.2.1 (c + 5) u = (0, ((me u).toNat : Int))
section YB
variable {w w' : gy_W} {c n i x : Nat} {lo po ba : Nat → Nat} {me : Nat → Bool}
theorem yB.fr {P : Nat → Prop} {k s : Nat} (h : yB w c n lo po ba me) (hF : yF P k s w w') (hc : c + 5 ≤ w.2.2.1) (hP : ∀ x, c < x → x ≤ c + 5 → ¬ P x) : yB w' c n lo po ba me := by
  have s1 := fun j (h1 : c < j) (h2 : j ≤ c + 5) => hF.sh (x := j) (by omega)
  have m1 := fun j (h1 : c < j) (h2 : j ≤ c + 5) => hF.me (x := j) (by omega) (hP j h1 h2)
  unfold yB
  rw [s1 (c + 1) (by omega) (by omega), s1 (c + 2) (by omega) (by omega), s1 (c + 3) (by omega) (by omega), s1 (c + 4) (by omega) (by omega), s1 (c + 5) (by omega) (by omega), m1 (c + 1) (by omega) (by omega), m1 (c + 2) (by omega) (by omega), m1 (c + 3) (by omega) (by omega), m1 (c + 4) (by omega) (by omega), m1 (c + 5) (by omega) (by omega)]
  exact h
theorem yB.cg {po' : Nat → Nat} {me' : Nat → Bool} {lo' ba' : Nat → Nat} (h : yB w c n lo po ba me) (h1 : ∀ u, u < n → lo' u = lo u) (h2 : ∀ u, u < n → po' u = po u) (h3 : ∀ u, u < n → ba' u = ba u) (h4 : ∀ u, u < n → me' u = me u) : yB w c n lo' po' ba' me' := by
  obtain ⟨a, b, q1, q2, q3, q4⟩ := h
  exact ⟨a, b, fun u hu => by rw [h1 u hu]; exact q1 u hu, fun u hu => by rw [h2 u hu]; exact q2 u hu, fun u hu => by rw [h3 u hu]; exact q3 u hu, fun u hu => by rw [h4 u hu]; exact q4 u hu⟩
theorem yB.slo (h : yB w c n lo po ba me) : yB (w.1, gy_up w.2.1 (c + 2) i (0, (x : Int)), w.2.2) c n (qup lo i x) po ba me := by
  obtain ⟨⟨a1, a2, a3, a4⟩, b, q1, q2, q3, q4⟩ := h
  have o := fun j (hj : j ≠ c + 2) => gy_up_o (m := w.2.1) (a := c + 2) (k := i) (v := (0, (x : Int))) hj
  refine ⟨⟨a1, ?_, ?_, ?_⟩, b, fun u hu => ?_, fun u hu => ?_, fun u hu => ?_, fun u hu => ?_⟩
  · exact (congrFun (o (c + 1) (by omega)) _).trans a2
  · exact (congrFun (o (c + 1) (by omega)) _).trans a3
  · exact (congrFun (o (c + 1) (by omega)) _).trans a4
  · by_cases e : u = i
    · rw [e, qup_e]
      exact gy_up_at
    · rw [qup_n e]
      exact (gy_up_k e).trans (q1 u hu)
  · exact (congrFun (o (c + 3) (by omega)) _).trans (q2 u hu)
  · exact (congrFun (o (c + 4) (by omega)) _).trans (q3 u hu)
  · exact (congrFun (o (c + 5) (by omega)) _).trans (q4 u hu)
theorem yB.spo (h : yB w c n lo po ba me) : yB (w.1, gy_up w.2.1 (c + 3) i (0, (x : Int)), w.2.2) c n lo (qup po i x) ba me := by
  obtain ⟨⟨a1, a2, a3, a4⟩, b, q1, q2, q3, q4⟩ := h
  have o := fun j (hj : j ≠ c + 3) => gy_up_o (m := w.2.1) (a := c + 3) (k := i) (v := (0, (x : Int))) hj
  refine ⟨⟨a1, ?_, ?_, ?_⟩, b, fun u hu => ?_, fun u hu => ?_, fun u hu => ?_, fun u hu => ?_⟩
  · exact (congrFun (o (c + 1) (by omega)) _).trans a2
  · exact (congrFun (o (c + 1) (by omega)) _).trans a3
  · exact (congrFun (o (c + 1) (by omega)) _).trans a4
  · exact (congrFun (o (c + 2) (by omega)) _).trans (q1 u hu)
  · by_cases e : u = i
    · rw [e, qup_e]
      exact gy_up_at
    · rw [qup_n e]
      exact (gy_up_k e).trans (q2 u hu)
  · exact (congrFun (o (c + 4) (by omega)) _).trans (q3 u hu)
  · exact (congrFun (o (c + 5) (by omega)) _).trans (q4 u hu)
theorem yB.sba (h : yB w c n lo po ba me) : yB (w.1, gy_up w.2.1 (c + 4) i (0, (x : Int)), w.2.2) c n lo po (qup ba i x) me := by
  obtain ⟨⟨a1, a2, a3, a4⟩, b, q1, q2, q3, q4⟩ := h
  have o := fun j (hj : j ≠ c + 4) => gy_up_o (m := w.2.1) (a := c + 4) (k := i) (v := (0, (x : Int))) hj
  refine ⟨⟨a1, ?_, ?_, ?_⟩, b, fun u hu => ?_, fun u hu => ?_, fun u hu => ?_, fun u hu => ?_⟩
  · exact (congrFun (o (c + 1) (by omega)) _).trans a2
  · exact (congrFun (o (c + 1) (by omega)) _).trans a3
  · exact (congrFun (o (c + 1) (by omega)) _).trans a4
  · exact (congrFun (o (c + 2) (by omega)) _).trans (q1 u hu)
  · exact (congrFun (o (c + 3) (by omega)) _).trans (q2 u hu)
  · by_cases e : u = i
    · rw [e, qup_e]
      exact gy_up_at
    · rw [qup_n e]
      exact (gy_up_k e).trans (q3 u hu)
  · exact (congrFun (o (c + 5) (by omega)) _).trans (q4 u hu)
theorem yB.sme (h : yB w c n lo po ba me) : yB (w.1, gy_up w.2.1 (c + 5) i (0, 1), w.2.2) c n lo po ba (qup me i true) := by
  obtain ⟨⟨a1, a2, a3, a4⟩, b, q1, q2, q3, q4⟩ := h
  have o := fun j (hj : j ≠ c + 5) => gy_up_o (m := w.2.1) (a := c + 5) (k := i) (v := (0, 1)) hj
  refine ⟨⟨a1, ?_, ?_, ?_⟩, b, fun u hu => ?_, fun u hu => ?_, fun u hu => ?_, fun u hu => ?_⟩
  · exact (congrFun (o (c + 1) (by omega)) _).trans a2
  · exact (congrFun (o (c + 1) (by omega)) _).trans a3
  · exact (congrFun (o (c + 1) (by omega)) _).trans a4
  · exact (congrFun (o (c + 2) (by omega)) _).trans (q1 u hu)
  · exact (congrFun (o (c + 3) (by omega)) _).trans (q2 u hu)
  · exact (congrFun (o (c + 4) (by omega)) _).trans (q3 u hu)
  · by_cases e : u = i
    · rw [e, qup_e]
      exact gy_up_at
    · rw [qup_n e]
      exact (gy_up_k e).trans (q4 u hu)
end YB
/-- where the way through the component of v stands -/
def yS (w0 w : gy_W) (G : q_G) (C S s v rl re l : Nat) (r : Nat → Nat) (rb : Nat → Bool) (po : Nat → Nat) (bal : Bool) (lo ba : Nat → Nat) : Prop :=
  yF (fun _ => False) (C + l) (S + 15 * l) w0 w ∧ bI G s v l r rb po bal ∧ yB w w0.2.2.1 (qN G) lo po ba (fun u => decide (pl (qPs G s) u < v) || rb u) ∧ yV w rl re l (fun i => (6, ((r i : Nat) : Int))) ∧ (w0.2.2.1 + 5 < rl ∧ w0.2.2.1 + 5 < re) ∧ w0.2.2.1 + 5 ≤ w.2.2.1
section LPB
variable {N : Nat} {xs : Nat → Int32} {d : Nat} {w0 w : gy_W} {Q : gy_O → Prop} {O : Nat → Nat} {g : Nat} {G : q_G} {la ea lp ep t : Nat} {b : Nat → Nat} {C S s v rl re l k u a way : Nat} {r : Nat → Nat} {rb : Nat → Bool} {po lo ba : Nat → Nat} {bal : Bool} {l12 l13 l14 : gg_V}
/-- the locals of parts -/
def yLo (g s c v rl bal k u a its way : Nat) (l12 l13 l14 : gg_V) : List gg_V := [gr g, (0, (s : Int)), gr (c + 1), gr (c + 5), (0, (v : Int)), gr rl, (0, (bal : Int)), (0, (k : Int)), (0, (u : Int)), (0, (a : Int)), gr its, (0, (way : Int)), l12, l13, l14]
theorem qcnt_le2 (f : Nat → Bool) (n : Nat) : qcnt f n ≤ n := qcnt_le f n
theorem bI.len (h : bI G s v l r rb po bal) : l ≤ qN G := by
  rw [← h.2.2.2.1]
  exact qcnt_le _ _
theorem yb_step (h : yGx w0 O g G la ea lp ep t b) (hG : q_ok G) (hs : s < 4096) (hS : yS w0 w G C S s v rl re l r rb po bal lo ba) (hu : rb u = true) (ha : a < qK G) (hway : way < 2) (hv : v ≤ 8) (hkk : k ≤ 8)
    (hQ : ∀ w' re' l' r' rb' po' bal' l12 l13 l14, yS w0 w' G C S s v rl re' l' r' rb' po' bal' lo ba → bT G s rb' po' bal' u a way → (∀ u' a' way', rb u' = true → bT G s rb po bal u' a' way' → bT G s rb' po' bal' u' a' way') → (∀ x, rb x = true → rb' x = true) → l ≤ l' → (∀ i, i < l → r' i = r i) →
      wy N xs (d + 6) 372 272 (yLo g s w0.2.2.1 v rl bal'.toNat k u a (b a) way l12 l13 l14) [] w' Q) : wy N xs (d + 6) 372 133 (yLo g s w0.2.2.1 v rl bal.toNat k u a (b a) way l12 l13 l14) [] w Q := by
  obtain ⟨hF, hI, hB, hV, hsep, hc5⟩ := id hS
  have hg := h.fr0 hF
  obtain ⟨⟨g0, g1, g2, g3, g4, g5, g6⟩, ⟨v1, v2⟩, ⟨t1, t2⟩, hA, _, hD, o1, o2, o3, o4, o5, o6, o7⟩ := id hg
  obtain ⟨⟨k1, k2, k3, k4, k5, k6, k7, k8⟩, hk, hp, hp2⟩ := id hG
  obtain ⟨⟨b1, b2, b3, b4⟩, ⟨b5, b6, b7, b8⟩, m1, m2, m3, m4⟩ := id hB
  obtain ⟨a1, a2, a3, a4, a5, a6⟩ := hA a ha
  obtain ⟨f1, f2, f3, f4⟩ := hk a ha
  have hlen := hI.len
  have hrl := hV.1
  obtain ⟨i0, hi0, ri0⟩ := (hI.2.2.1 u).1 hu
  have hun : u < qN G := by rw [← ri0]; exact (hI.2.1 i0 hi0).1
  have hpu : po u < qM G := by rw [← ri0]; exact (hI.2.1 i0 hi0).2.2
  have hYn := bYn hG (a := a) (way := way) ha
  have hXn : bX G a way < qN G := by unfold bX; split <;> omega
  -- nothing to be done
  have skip : ∀ l12 l13 l14, bT G s rb po bal u a way → wy N xs (d + 6) 372 272 (yLo g s w0.2.2.1 v rl bal.toNat k u a (b a) way l12 l13 l14) [] w Q := fun l12 l13 l14 ht => hQ w re l r rb po bal l12 l13 l14 hS ht (fun _ _ _ _ z => z) (fun _ z => z) (Nat.le_refl _) fun _ _ => rfl
  have s1 : wy N xs (d + 6) 372 133 (yLo g s w0.2.2.1 v rl bal.toNat k u a (b a) way l12 l13 l14) [] w Q ↔ wy N xs (d + 6) 372 173 (yLo g s w0.2.2.1 v rl bal.toNat k u a (b a) way (0, (bX G a way : Int)) (0, (bY G a way : Int)) l14) [] w Q := by
    unfold yLo bX bY
    rcases (show way = 0 ∨ way = 1 by omega) with e | e
    · subst e
      rw [ly_372_133, ly_372_135 (by omega) (by omega)]
      simp only [show ((0 : Nat) : Int) = 0 by omega, not_true_eq_false, true_implies, false_implies, and_true, true_and]
      rw [ly_372_138 (by first | exact gl_gr | exact gl_r6 | exact gl_r7 | assumption | rfl), ly_372_140 (by assumption), a2, ly_372_143, ly_372_151, ly_372_153, ly_372_155 (by omega) (by omega)]
      simp only [show ((0 : Nat) : Int) = 0 by omega, not_true_eq_false, true_implies, false_implies, and_true, true_and]
      rw [ly_372_158 (by first | exact gl_gr | exact gl_r6 | exact gl_r7 | assumption | rfl), ly_372_160 (by assumption), a3, ly_372_163, ly_372_171]
      rfl
    · subst e
      rw [ly_372_133, ly_372_135 (by omega) (by omega)]
      simp only [show ¬ (((1 : Nat) : Int) = 0) by omega, not_false_eq_true, true_implies, false_implies, and_true, true_and]
      rw [ly_372_146 (by first | exact gl_gr | exact gl_r6 | exact gl_r7 | assumption | rfl), ly_372_148 (by assumption), a3, ly_372_151, ly_372_153, ly_372_155 (by omega) (by omega)]
      simp only [show ¬ (((1 : Nat) : Int) = 0) by omega, not_false_eq_true, true_implies, false_implies, and_true, true_and]
      rw [ly_372_166 (by first | exact gl_gr | exact gl_r6 | exact gl_r7 | assumption | rfl), ly_372_168 (by assumption), a2, ly_372_171]
      rfl
  rw [s1]
  unfold yLo
  rw [ly_372_173, ly_372_174, ly_372_176, wy_has (by omega) (by omega), wz_1]
  by_cases hbit : s.testBit a = true
  · rw [hbit, Bool.toNat_true, ly_372_179 (by omega) (by omega)]
    simp only [show ¬ (((1 : Nat) : Int) = 0) by omega, not_false_eq_true, true_implies, false_implies, and_true, true_and]
    rw [ly_372_182, ly_372_184, ly_372_186 (by omega) (by omega) (by omega) (by omega)]
    by_cases hx : bX G a way = u
    · simp only [show (bX G a way : Int) = (u : Int) by omega, not_true_eq_false, true_implies, false_implies, and_true, true_and]
      have hdm := bDm hG (po := po) (u := u) (way := way) ha hpu
      -- what is due
      have s2 : wy N xs (d + 6) 372 192 (yLo g s w0.2.2.1 v rl bal.toNat k u a (b a) way (0, (bX G a way : Int)) (0, (bY G a way : Int)) l14) [] w Q ↔ wy N xs (d + 6) 372 224 (yLo g s w0.2.2.1 v rl bal.toNat k u a (b a) way (0, (bX G a way : Int)) (0, (bY G a way : Int)) (0, (bD G po u a way : Int))) [] w Q := by
        unfold yLo
        have e1 : ((u : Int)).toNat = u := Int.toNat_natCast u
        have e2 : (w.2.1 (w0.2.2.1 + 3) u).2 = (po u : Int) := by rw [m2 u hun]
        rw [ly_372_192 (by first | exact gl_gr | exact gl_r6 | exact gl_r7 | assumption | rfl), ly_372_193 (by first | exact gl_gr | exact gl_r6 | exact gl_r7 | assumption | rfl), ly_372_194, ly_372_195 b1 rfl (by decide) (by decide) (by decide) (by show gy_rr (w.2.1 (w0.2.2.1 + 1) 1) = true; rw [b3]; rfl), show (1 : Int).toNat = 1 from rfl, b3, ly_372_196, ly_372_198 (by omega) b6 (by omega) (by omega) (by omega), e1, e2, ly_372_199, ly_372_201 (by omega) (by omega)]
        unfold bD
        rcases (show way = 0 ∨ way = 1 by omega) with e | e
        · subst e
          simp only [show ((0 : Nat) : Int) = 0 by omega, not_true_eq_false, true_implies, false_implies, and_true, true_and]
          rw [ly_372_204 (by first | exact gl_gr | exact gl_r6 | exact gl_r7 | assumption | rfl), ly_372_206 (by assumption), a4, ly_372_209, ly_372_218, io_add_o (by omega) (by omega), ly_372_219 (by first | exact gl_gr | exact gl_r6 | exact gl_r7 | assumption | rfl) (by first | exact gl_cl (by assumption) rfl | exact gl_l6 (by omega) (by omega) | exact gl_l4 (by omega)), wy_rest g0 g2 k3 (by omega) (by omega) (by omega), wz_1, yz_pl k3 hpu f3, ly_372_222]
          rfl
        · subst e
          simp only [show ¬ (((1 : Nat) : Int) = 0) by omega, not_false_eq_true, true_implies, false_implies, and_true, true_and]
          rw [ly_372_212 (by first | exact gl_gr | exact gl_r6 | exact gl_r7 | assumption | rfl), ly_372_214 (by assumption), a4, ly_372_217, io_neg_o (by omega) (by omega), ly_372_218, io_add_o (by omega) (by omega), ← Int.sub_eq_add_neg, ly_372_219 (by first | exact gl_gr | exact gl_r6 | exact gl_r7 | assumption | rfl) (by first | exact gl_cl (by assumption) rfl | exact gl_l6 (by omega) (by omega) | exact gl_l4 (by omega)), wy_rest g0 g2 k3 (by omega) (by omega) (by omega), wz_1, yz_mi k3 hpu f3, ly_372_222]
          rfl
      have s2' := s2
      unfold yLo at s2'
      rw [hx] at s2'
      rw [s2']
      have e3 : ((bY G a way : Int)).toNat = bY G a way := Int.toNat_natCast _
      have hL : pl (qPs G s) (bY G a way) = v := by rw [← bL hG ha hbit, hx, ← ri0]; exact (hI.2.1 i0 hi0).2.1
      have e4 : (w.2.1 (w0.2.2.1 + 5) (bY G a way)).2 = ((rb (bY G a way)).toNat : Int) := by
        rw [m4 _ hYn]
        show (((decide (pl (qPs G s) (bY G a way) < v) || rb (bY G a way)).toNat : Nat) : Int) = _
        rw [hL, decide_eq_false (Nat.lt_irrefl v), Bool.false_or]
      rw [ly_372_224 (by first | exact gl_gr | exact gl_r6 | exact gl_r7 | assumption | rfl), ly_372_225, ly_372_227 (by omega) b8 (by omega) (by omega) (by omega), e3, e4]
      cases hy : rb (bY G a way)
      · rw [Bool.toNat_false, ly_372_228 (by omega) (by omega)]
        simp only [show ((0 : Nat) : Int) = 0 by omega, not_true_eq_false, true_implies, false_implies, and_true, true_and]
        rw [ly_372_231 (by first | exact gl_gr | exact gl_r6 | exact gl_r7 | assumption | rfl), ly_372_232, ly_372_234, ly_372_235 b8 (by omega) (by omega) (by omega) (Or.inr rfl), e3]
        have hB1 := hB.sme (i := bY G a way)
        have hF1 : yF (fun x => x = w0.2.2.1 + 5) 0 0 w (w.1, gy_up w.2.1 (w0.2.2.1 + 5) (bY G a way) (0, 1), w.2.2) := yF.u yF.rf fun _ => rfl
        have hc1 : ((w.1, gy_up w.2.1 (w0.2.2.1 + 5) (bY G a way) (0, 1), w.2.2) : gy_W).2.2 = w.2.2 := rfl
        generalize ((w.1, gy_up w.2.1 (w0.2.2.1 + 5) (bY G a way) (0, 1), w.2.2) : gy_W) = w1 at hB1 hF1 hc1
        obtain ⟨⟨x1, x2, x3, x4⟩, ⟨x5, x6, x7, x8⟩, _⟩ := id hB1
        rw [ly_372_236 (by first | exact gl_gr | exact gl_r6 | exact gl_r7 | assumption | rfl), ly_372_237, ly_372_238 x1 rfl (by decide) (by decide) (by decide) (by show gy_rr (w1.2.1 (w0.2.2.1 + 1) 1) = true; rw [x3]; rfl), show (1 : Int).toNat = 1 from rfl, x3, ly_372_239, ly_372_241, ly_372_243 x6 (by omega) (by omega) (by omega), e3]
        have hB2 := hB1.spo (i := bY G a way) (x := bD G po u a way)
        have hF2 : yF (fun x => x = w0.2.2.1 + 5 ∨ x = w0.2.2.1 + 3) 0 0 w (w1.1, gy_up w1.2.1 (w0.2.2.1 + 3) (bY G a way) (0, (bD G po u a way : Int)), w1.2.2) := yF.u (hF1.wk (fun _ _ z => Or.inl z) (Nat.le_refl _) (Nat.le_refl _)) fun _ => Or.inr rfl
        have hc2 : ((w1.1, gy_up w1.2.1 (w0.2.2.1 + 3) (bY G a way) (0, (bD G po u a way : Int)), w1.2.2) : gy_W).2.2 = w.2.2 := hc1
        generalize ((w1.1, gy_up w1.2.1 (w0.2.2.1 + 3) (bY G a way) (0, (bD G po u a way : Int)), w1.2.2) : gy_W) = w2 at hB2 hF2 hc2
        have hV2 := hV.fr hF2 (by omega) (by omega)
        have hrl2 := hV2.1
        rw [ly_372_244 (by first | exact gl_gr | exact gl_r6 | exact gl_r7 | assumption | rfl), ly_372_246, ly_372_248, wy_val (by omega) (by omega), wz_1, ly_372_251 (by first | exact gl_gr | exact gl_r6 | exact gl_r7 | assumption | rfl) (by first | exact gl_gr | exact gl_r6 | exact gl_r7 | assumption | rfl) (by first | exact gl_cl (by assumption) rfl | exact gl_l6 (by omega) (by omega) | exact gl_l4 (by omega))]
        refine wv_add hV2 (by omega) (yE.i (by omega) (by omega)) fun w3 re3 hre3 hF3 hV3 => ?_
        rw [wz_1, ly_372_254, ly_372_255]
        have hI3 := hI.add hG hu ha hbit hx hy
        have hcc : w2.2.2.1 = w.2.2.1 := by rw [hc2]
        have hF03 : yF (fun _ => False) (C + (l + 1)) (S + 15 * (l + 1)) w0 w3 := ((hF.tr hF2 fun x hx z => by omega).tr hF3 fun x hx z => by
          rcases z with z | z <;> omega).wk (fun _ _ z => z) (by omega) (by omega)
        have hle3 := hF3.le
        have hB3 := hB2.fr hF3 (by omega) fun x h1 h2 z => by
          rcases z with z | z <;> omega
        refine hQ w3 re3 (l + 1) _ _ _ bal _ _ _ ⟨hF03, hI3, hB3.cg (fun _ _ => rfl) (fun _ _ => rfl) (fun _ _ => rfl) (fun x hx => ?_), hV3.cg (fun j hj => ?_), ⟨hsep.1, by omega⟩, by omega⟩ ?_ (fun u' a' way' h1 h2 => h2.add hy h1) (fun x hx => ?_) (by omega) (fun i hi => qup_n (by omega))
        · by_cases e : x = bY G a way
          · rw [e, qup_e, qup_e, Bool.or_true]
          · rw [qup_n e, qup_n e]
        · show (6, ((qup r l (bY G a way) j : Nat) : Int)) = if j = l then (6, (bY G a way : Int)) else (6, ((r j : Nat) : Int))
          by_cases e : j = l
          · rw [if_pos e, e, qup_e]
          · rw [if_neg e, qup_n e]
        · intro _ _
          have n2 : u ≠ bY G a way := by
            intro z
            rw [← z, hu] at hy
            exact absurd hy (by decide)
          refine ⟨qup_e _ _ _, fun _ => ?_⟩
          rw [qup_e]
          unfold bD
          rw [qup_n n2]
        · by_cases e : x = bY G a way
          · rw [e, qup_e]
          · rw [qup_n e]
            exact hx
      · rw [Bool.toNat_true, ly_372_228 (by omega) (by omega)]
        simp only [show ¬ (((1 : Nat) : Int) = 0) by omega, not_false_eq_true, true_implies, false_implies, and_true, true_and]
        have e5 : (w.2.1 (w0.2.2.1 + 3) (bY G a way)).2 = (po (bY G a way) : Int) := by rw [m2 _ hYn]
        have hpy : po (bY G a way) < qM G := by
          obtain ⟨j, hj, rj⟩ := (hI.2.2.1 _).1 hy
          rw [← rj]
          exact (hI.2.1 j hj).2.2
        rw [ly_372_258 (by first | exact gl_gr | exact gl_r6 | exact gl_r7 | assumption | rfl), ly_372_259, ly_372_260 b1 rfl (by decide) (by decide) (by decide) (by show gy_rr (w.2.1 (w0.2.2.1 + 1) 1) = true; rw [b3]; rfl), show (1 : Int).toNat = 1 from rfl, b3, ly_372_261, ly_372_263 (by omega) b6 (by omega) (by omega) (by omega), e3, e5, ly_372_264, ly_372_266 (by omega) (by omega) (by omega) (by omega)]
        by_cases hne : po (bY G a way) = bD G po u a way
        · simp only [show (po (bY G a way) : Int) = (bD G po u a way : Int) by omega, not_true_eq_false, true_implies, false_implies, and_true, true_and]
          exact skip _ _ _ fun _ _ => ⟨hy, fun _ => hne⟩
        · simp only [show ¬ ((po (bY G a way) : Int) = (bD G po u a way : Int)) by omega, not_false_eq_true, true_implies, false_implies, and_true, true_and]
          rw [ly_372_269, ly_372_270 (by first | exact gl_gr | exact gl_r6 | exact gl_r7 | assumption | rfl)]
          exact hQ w re l r rb po false _ _ _ ⟨hF, hI.hit hG hu ha hbit hx hy hne, hB, hV, hsep, hc5⟩ (fun _ _ => ⟨hy, fun z => absurd z (by decide)⟩) (fun _ _ _ _ z => z.hit) (fun _ z => z) (Nat.le_refl _) fun _ _ => rfl
    · simp only [show ¬ ((bX G a way : Int) = (u : Int)) by omega, not_false_eq_true, true_implies, false_implies, and_true, true_and]
      rw [ly_372_189]
      exact skip _ _ _ fun _ z => absurd z hx
  · have hb0 : s.testBit a = false := by simpa using hbit
    rw [hb0, Bool.toNat_false, ly_372_179 (by omega) (by omega)]
    simp only [show ((0 : Nat) : Int) = 0 by omega, not_true_eq_false, true_implies, false_implies, and_true, true_and]
    exact skip _ _ _ fun z _ => absurd z hbit
end LPB
