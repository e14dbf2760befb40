/-! act: rules by hand; what the cases do to the law's graph -/
section AR
variable {N : Nat} {xs : Nat → Int32} {d : Nat} {w : gy_W} {Q : gy_O → Prop} {L st : List gg_V}
theorem ly_345_156_0 : wy N xs d 345 156 L ((0, ((0 : Nat) : Int)) :: st) w Q ↔ wy N xs d 345 224 L st w Q := wy_eq (show gg_dt 345 156 = some (.tableswitch 923 0 12 #[68, 68, 176, 266, 299, 410, 458, 505, 544, 580, 638, 709, 775], 68) by decide +kernel) (fun _ => rfl)
theorem ly_345_156_1 : wy N xs d 345 156 L ((0, ((1 : Nat) : Int)) :: st) w Q ↔ wy N xs d 345 224 L st w Q := wy_eq (show gg_dt 345 156 = some (.tableswitch 923 0 12 #[68, 68, 176, 266, 299, 410, 458, 505, 544, 580, 638, 709, 775], 68) by decide +kernel) (fun _ => rfl)
theorem ly_345_156_2 : wy N xs d 345 156 L ((0, ((2 : Nat) : Int)) :: st) w Q ↔ wy N xs d 345 332 L st w Q := wy_eq (show gg_dt 345 156 = some (.tableswitch 923 0 12 #[68, 68, 176, 266, 299, 410, 458, 505, 544, 580, 638, 709, 775], 68) by decide +kernel) (fun _ => rfl)
theorem ly_345_156_3 : wy N xs d 345 156 L ((0, ((3 : Nat) : Int)) :: st) w Q ↔ wy N xs d 345 422 L st w Q := wy_eq (show gg_dt 345 156 = some (.tableswitch 923 0 12 #[68, 68, 176, 266, 299, 410, 458, 505, 544, 580, 638, 709, 775], 68) by decide +kernel) (fun _ => rfl)
theorem ly_345_156_4 : wy N xs d 345 156 L ((0, ((4 : Nat) : Int)) :: st) w Q ↔ wy N xs d 345 455 L st w Q := wy_eq (show gg_dt 345 156 = some (.tableswitch 923 0 12 #[68, 68, 176, 266, 299, 410, 458, 505, 544, 580, 638, 709, 775], 68) by decide +kernel) (fun _ => rfl)
theorem ly_345_156_5 : wy N xs d 345 156 L ((0, ((5 : Nat) : Int)) :: st) w Q ↔ wy N xs d 345 566 L st w Q := wy_eq (show gg_dt 345 156 = some (.tableswitch 923 0 12 #[68, 68, 176, 266, 299, 410, 458, 505, 544, 580, 638, 709, 775], 68) by decide +kernel) (fun _ => rfl)
theorem ly_345_156_6 : wy N xs d 345 156 L ((0, ((6 : Nat) : Int)) :: st) w Q ↔ wy N xs d 345 614 L st w Q := wy_eq (show gg_dt 345 156 = some (.tableswitch 923 0 12 #[68, 68, 176, 266, 299, 410, 458, 505, 544, 580, 638, 709, 775], 68) by decide +kernel) (fun _ => rfl)
theorem ly_345_156_7 : wy N xs d 345 156 L ((0, ((7 : Nat) : Int)) :: st) w Q ↔ wy N xs d 345 661 L st w Q := wy_eq (show gg_dt 345 156 = some (.tableswitch 923 0 12 #[68, 68, 176, 266, 299, 410, 458, 505, 544, 580, 638, 709, 775], 68) by decide +kernel) (fun _ => rfl)
theorem ly_345_156_8 : wy N xs d 345 156 L ((0, ((8 : Nat) : Int)) :: st) w Q ↔ wy N xs d 345 700 L st w Q := wy_eq (show gg_dt 345 156 = some (.tableswitch 923 0 12 #[68, 68, 176, 266, 299, 410, 458, 505, 544, 580, 638, 709, 775], 68) by decide +kernel) (fun _ => rfl)
theorem ly_345_156_9 : wy N xs d 345 156 L ((0, ((9 : Nat) : Int)) :: st) w Q ↔ wy N xs d 345 736 L st w Q := wy_eq (show gg_dt 345 156 = some (.tableswitch 923 0 12 #[68, 68, 176, 266, 299, 410, 458, 505, 544, 580, 638, 709, 775], 68) by decide +kernel) (fun _ => rfl)
theorem ly_345_156_10 : wy N xs d 345 156 L ((0, ((10 : Nat) : Int)) :: st) w Q ↔ wy N xs d 345 794 L st w Q := wy_eq (show gg_dt 345 156 = some (.tableswitch 923 0 12 #[68, 68, 176, 266, 299, 410, 458, 505, 544, 580, 638, 709, 775], 68) by decide +kernel) (fun _ => rfl)
theorem ly_345_156_11 : wy N xs d 345 156 L ((0, ((11 : Nat) : Int)) :: st) w Q ↔ wy N xs d 345 865 L st w Q := wy_eq (show gg_dt 345 156 = some (.tableswitch 923 0 12 #[68, 68, 176, 266, 299, 410, 458, 505, 544, 580, 638, 709, 775], 68) by decide +kernel) (fun _ => rfl)
theorem ly_345_156_12 : wy N xs d 345 156 L ((0, ((12 : Nat) : Int)) :: st) w Q ↔ wy N xs d 345 931 L st w Q := wy_eq (show gg_dt 345 156 = some (.tableswitch 923 0 12 #[68, 68, 176, 266, 299, 410, 458, 505, 544, 580, 638, 709, 775], 68) by decide +kernel) (fun _ => rfl)
theorem ly_345_156_13 : wy N xs d 345 156 L ((0, ((13 : Nat) : Int)) :: st) w Q ↔ wy N xs d 345 1079 L st w Q := wy_eq (show gg_dt 345 156 = some (.tableswitch 923 0 12 #[68, 68, 176, 266, 299, 410, 458, 505, 544, 580, 638, 709, 775], 68) by decide +kernel) (fun _ => rfl)
theorem ly_345_298 {i : Int} {t : Nat} : wy N xs d 345 298 L ((0, i) :: gr t :: st) w Q ↔ wy N xs d 345 299 L ((0, i) :: gr t :: (0, i) :: gr t :: st) w Q := wy_eq (show gg_dt 345 298 = some (.dup2, 1) by decide +kernel) (fun _ => rfl)
theorem ly_345_596 {i : Int} {t : Nat} : wy N xs d 345 596 L ((0, i) :: gr t :: st) w Q ↔ wy N xs d 345 597 L ((0, i) :: gr t :: (0, i) :: gr t :: st) w Q := wy_eq (show gg_dt 345 596 = some (.dup2, 1) by decide +kernel) (fun _ => rfl)
theorem ly_345_635 {i : Int} {t : Nat} : wy N xs d 345 635 L ((0, i) :: gr t :: st) w Q ↔ wy N xs d 345 636 L ((0, i) :: gr t :: (0, i) :: gr t :: st) w Q := wy_eq (show gg_dt 345 635 = some (.dup2, 1) by decide +kernel) (fun _ => rfl)
theorem ly_345_832 {i : Int} {t : Nat} : wy N xs d 345 832 L ((0, i) :: gr t :: st) w Q ↔ wy N xs d 345 833 L ((0, i) :: gr t :: (0, i) :: gr t :: st) w Q := wy_eq (show gg_dt 345 832 = some (.dup2, 1) by decide +kernel) (fun _ => rfl)
end AR
def yTo (G : q_G) : Prop := ∀ k, -2147483648 ≤ qO G k ∧ qO G k ≤ 2147483647
theorem yTo.tot {G : q_G} (h : yTo G) (t : Nat) : yTo (qtot G t) := fun k => by
  show -2147483648 ≤ qup (qO G) t (io_add (qO G t) 1) k ∧ qup (qO G) t (io_add (qO G t) 1) k ≤ 2147483647
  by_cases e : k = t
  · rw [e, qup_e]
    exact io_add_rg _ _
  · rw [qup_n e]
    exact h k
section AG
variable {w : gy_W} {O : Nat → Nat} {g : Nat} {G : q_G} {la ea lp ep t : Nat} {b : Nat → Nat}
/-- a field of the graph, or one of its totals -/
theorem yGx.gf {w2 : gy_W} {G' : q_G} (h : yGx w O g G la ea lp ep t b) (hF : yF (fun x => x = g ∨ x = t) 0 0 w w2) (h0 : w2.2.1 g 0 = (0, (qN G' : Int))) (h1 : w2.2.1 g 1 = (0, (qM G' : Int))) (h2 : w2.2.1 g 2 = (0, (qL G' : Int))) (h3 : ∀ j, 3 ≤ j → w2.2.1 g j = w.2.1 g j) (ht : ∀ k, k < 4 → w2.2.1 t k = (0, qO G' k)) (eN : qN G' = qN G) (eK : qK G' = qK G) (eP : ∀ v, v < qN G → qP G' v = qP G v)
    (e7 : ∀ c, c < qK G → qF G' c = qF G c ∧ qT G' c = qT G c ∧ qA G' c = qA G c ∧ qW G' c = qW G c ∧ (qS G').testBit c = (qS G).testBit c) : yGx w2 O g G' la ea lp ep t b := by
  have hba := fun a ha => h.ba (a := a) ha
  obtain ⟨⟨n1, n2, n3, n4, n5⟩, n6, n7, n8, n9⟩ := h.gt
  obtain ⟨⟨g0, g1, g2, g3, g4, g5, g6⟩, ⟨v1, v2⟩, ⟨t1, t2⟩, hA, hI, hD, o1, o2, o3, o4, o5, o6, o7⟩ := h
  have hO : ∀ x, x ≤ w.2.2.1 → O x = g → O x = g := fun _ _ z => z
  have no : ∀ x, x ≠ g → x ≠ t → ¬ (x = g ∨ x = t) := fun x a c z => z.elim a c
  refine ⟨⟨(hF.sh o1.2.2).trans g0, h0, h1, h2, (h3 3 (by decide)).trans g4, (h3 4 (by decide)).trans g5, (h3 5 (by decide)).trans g6⟩, ⟨?_, ?_⟩, ⟨(hF.sh o6.2.2).trans t1, ht⟩, fun c hc => ?_, ?_, hD, o1.fr hF hO, o2.fr hF hO, o3.fr hF hO, o4.fr hF hO, o5.fr hF hO, o6.fr hF hO, fun c hc => (o7 c (eK ▸ hc)).fr hF hO⟩
  · rw [eK]
    exact v1.fr hF (no _ (Ne.symm n1) (Ne.symm n6)) (no _ (Ne.symm n2) (Ne.symm n7))
  · rw [eN]
    exact (v2.fr hF (no _ (Ne.symm n3) (Ne.symm n8)) (no _ (Ne.symm n4) (Ne.symm n9))).cg fun j hj => by rw [eP j hj]
  · rw [eK] at hc
    obtain ⟨b1, b2, b3, b4, b5⟩ := e7 c hc
    rw [b1, b2, b3, b4, b5]
    have := hba c hc
    exact (hA c hc).fr hF (no _ this.1 this.2.2.2.2.2) (o7 c hc).2.2
  · rw [eK]
    exact hI
theorem yGx.tot {k : Nat} (h : yGx w O g G la ea lp ep t b) (hk : k < 4) : yGx (w.1, gy_up w.2.1 t k (0, io_add (qO G k) 1), w.2.2) O g (qtot G k) la ea lp ep t b := by
  have hgt := h.gt
  have h' := id h
  obtain ⟨⟨g0, g1, g2, g3, g4, g5, g6⟩, _, ⟨t1, t2⟩, _⟩ := h'
  have o := gy_up_o (m := w.2.1) (a := t) (k := k) (v := (0, io_add (qO G k) 1)) hgt.1.2.2.2.2
  refine h.gf (yF.u yF.rf fun _ => Or.inr rfl) ?_ ?_ ?_ (fun j _ => congrFun o j) (fun j hj => ?_) rfl rfl (fun _ _ => rfl) fun c _ => ⟨rfl, rfl, rfl, rfl, rfl⟩
  · exact (congrFun o 0).trans g1
  · exact (congrFun o 1).trans g2
  · exact (congrFun o 2).trans g3
  · show _ = (0, qup (qO G) k (io_add (qO G k) 1) j)
    by_cases e : j = k
    · rw [e, qup_e]
      exact gy_up_at
    · rw [qup_n e]
      exact (gy_up_k e).trans (t2 j hj)
/-- another arc -/
theorem yGx.addA {w3 : gy_W} {na ea' x y ga c s : Nat} {f : Nat → gg_V} (h : yGx w O g G la ea lp ep t b) (hS : qS G < 2 ^ qK G) (hF : yF (fun x => x = la ∨ x = ea) c s w w3) (hna : w.2.2.1 < na) (hna2 : na ≤ w3.2.2.1) (hea : ea' = ea ∨ w.2.2.1 < ea') (hV : yV w3 la ea' (qK G + 1) f) (hf : ∀ j, f j = if j = qK G then gr na else gr (b j)) (hA' : yA w3 na x y ga 1 false) :
    yGx w3 (yN w O g) g (qput G x y ga 1) la ea' lp ep t (qup b (qK G) na) := by
  have hba := fun a ha => h.ba (a := a) ha
  obtain ⟨⟨n1, n2, n3, n4, n5⟩, n6, n7, n8, n9⟩ := h.gt
  obtain ⟨⟨g0, g1, g2, g3, g4, g5, g6⟩, ⟨v1, v2⟩, ⟨t1, t2⟩, hA, hI, hD, o1, o2, o3, o4, o5, o6, o7⟩ := h
  have hle := hF.le
  have hO : ∀ x, x ≤ w.2.2.1 → O x = g → yN w O g x = g := fun x hx z => (yN_le hx).trans z
  have m0 := hF.me o1.2.2 (fun z => z.elim n1 n2)
  have m1 := hF.me o6.2.2 (fun z => z.elim n6 n7)
  have hVe := hV.2.2.2.2.2.2.1
  have oe : yO w3 (yN w O g) g ea' := by
    rcases hea with e | e
    · rw [e]
      exact o3.fr hF hO
    · exact ⟨yN_gt e, hV.2.2.2.2.2.1, hVe⟩
  have hK : qK (qput G x y ga 1) = qK G + 1 := rfl
  have hbit : (qS G).testBit (qK G) = false := Nat.testBit_lt_two_pow hS
  have lpc := o4.2.2
  have epc := o5.2.2
  refine ⟨⟨(hF.sh o1.2.2).trans g0, ?_, ?_, ?_, ?_, ?_, ?_⟩, ⟨?_, v2.fr hF (fun z => z.elim (Ne.symm hD.1) (Ne.symm hD.2.2.1)) (fun z => z.elim (Ne.symm hD.2.1) (Ne.symm hD.2.2.2))⟩, ⟨(hF.sh o6.2.2).trans t1, fun j hj => by rw [m1]; exact t2 j hj⟩, fun a ha => ?_, fun a a' ha ha' hab => ?_, ⟨hD.1, hD.2.1, ?_, ?_⟩, o1.fr hF hO, o2.fr hF hO, oe, o4.fr hF hO, o5.fr hF hO, o6.fr hF hO, fun a ha => ?_⟩
  · rw [m0]; exact g1
  · rw [m0]; exact g2
  · rw [m0]; exact g3
  · rw [m0]; exact g4
  · rw [m0]; exact g5
  · rw [m0]; exact g6
  · rw [hK]
    refine hV.cg fun j _ => ?_
    rw [hf j]
    show gr (if j = qK G then na else b j) = _
    split <;> rfl
  · rw [hK] at ha
    show yA w3 (if a = qK G then na else b a) (if a = qK G then x else qF G a) (if a = qK G then y else qT G a) (if a = qK G then ga else qA G a) (if a = qK G then 1 else qW G a) ((qS G).testBit a)
    by_cases e : a = qK G
    · simp only [if_pos e]
      rw [e, hbit]
      exact hA'
    · simp only [if_neg e]
      have := hba a (by omega)
      exact (hA a (by omega)).fr hF (fun z => z.elim this.2.1 this.2.2.1) (o7 a (by omega)).2.2
  · rw [hK] at ha ha'
    have hab' : (if a = qK G then na else b a) = (if a' = qK G then na else b a') := hab
    by_cases e1 : a = qK G <;> by_cases e2 : a' = qK G
    · omega
    · rw [if_pos e1, if_neg e2] at hab'
      have := (o7 a' (by omega)).2.2
      omega
    · rw [if_neg e1, if_pos e2] at hab'
      have := (o7 a (by omega)).2.2
      omega
    · rw [if_neg e1, if_neg e2] at hab'
      exact hI a a' (by omega) (by omega) hab'
  · rcases hea with e | e
    · rw [e]
      exact hD.2.2.1
    · omega
  · rcases hea with e | e
    · rw [e]
      exact hD.2.2.2
    · omega
  · rw [hK] at ha
    show yO w3 (yN w O g) g (if a = qK G then na else b a)
    by_cases e : a = qK G
    · rw [if_pos e]
      exact ⟨yN_gt hna, by have := o1.2.1; have := o1.2.2; omega, hna2⟩
    · rw [if_neg e]
      exact (o7 a (by omega)).fr hF hO
/-- another vertex -/
theorem yGx.addV {w3 : gy_W} {ep' c s : Nat} {f : Nat → gg_V} (h : yGx w O g G la ea lp ep t b) (hF : yF (fun x => (x = lp ∨ x = ep) ∨ x = g) c s w w3) (h0 : w3.2.1 g 0 = (0, ((qN G + 1 : Nat) : Int))) (h1 : ∀ j, 1 ≤ j → w3.2.1 g j = w.2.1 g j) (hea : ep' = ep ∨ w.2.2.1 < ep') (hV : yV w3 lp ep' (qN G + 1) f) (hf : ∀ j, f j = if j = qN G then (6, -1) else (6, qP G j)) :
    yGx w3 (yN w O g) g (qaddV G) la ea lp ep' t b := by
  have hba := fun a ha => h.ba (a := a) ha
  obtain ⟨⟨n1, n2, n3, n4, n5⟩, n6, n7, n8, n9⟩ := h.gt
  obtain ⟨⟨g0, g1, g2, g3, g4, g5, g6⟩, ⟨v1, v2⟩, ⟨t1, t2⟩, hA, hI, hD, o1, o2, o3, o4, o5, o6, o7⟩ := h
  have hle := hF.le
  have hO : ∀ x, x ≤ w.2.2.1 → O x = g → yN w O g x = g := fun x hx z => (yN_le hx).trans z
  have no : ∀ x, x ≠ lp → x ≠ ep → x ≠ g → ¬ ((x = lp ∨ x = ep) ∨ x = g) := fun x a c e z => z.elim (fun z => z.elim a c) e
  have m1 := hF.me o6.2.2 (no _ n8 n9 (Ne.symm n5))
  have hVe := hV.2.2.2.2.2.2.1
  have oe : yO w3 (yN w O g) g ep' := by
    rcases hea with e | e
    · rw [e]
      exact o5.fr hF hO
    · exact ⟨yN_gt e, hV.2.2.2.2.2.1, hVe⟩
  have lac := o2.2.2
  have eac := o3.2.2
  refine ⟨⟨(hF.sh o1.2.2).trans g0, h0, (h1 1 (by decide)).trans g2, (h1 2 (by decide)).trans g3, (h1 3 (by decide)).trans g4, (h1 4 (by decide)).trans g5, (h1 5 (by decide)).trans g6⟩, ⟨v1.fr hF (no _ hD.1 hD.2.1 (Ne.symm n1)) (no _ hD.2.2.1 hD.2.2.2 (Ne.symm n2)), ?_⟩, ⟨(hF.sh o6.2.2).trans t1, fun j hj => by rw [m1]; exact t2 j hj⟩, fun a ha => ?_, hI, ⟨hD.1, ?_, hD.2.2.1, ?_⟩, o1.fr hF hO, o2.fr hF hO, o3.fr hF hO, o4.fr hF hO, oe, o6.fr hF hO, fun a ha => (o7 a ha).fr hF hO⟩
  · refine hV.cg fun j _ => ?_
    rw [hf j]
    show (6, if j = qN G then -1 else qP G j) = _
    split <;> rfl
  · have := hba a ha
    exact (hA a ha).fr hF (no _ this.2.2.2.1 this.2.2.2.2.1 this.1) (o7 a ha).2.2
  · rcases hea with e | e
    · rw [e]
      exact hD.2.1
    · omega
  · rcases hea with e | e
    · rw [e]
      exact hD.2.2.2
    · omega
end AG
/-- what a case of act comes to -/
def yR (w0 : gy_W) (O : Nat → Nat) (g : Nat) (A A' : q_A) (is : Nat) (w' : gy_W) : Prop := yF (fun x => yK x ∨ O x = g) 2200 30000 w0 w' ∧ yG w' (yN w0 O g) g (aG A') ∧ cI w' A' ∧ ((is = 1 ∧ ∃ G', A' = a_act A G' ∧ q_ok G' ∧ yTo G') ∨ (is = 0 ∧ A' = A))
/-- the locals of act in a case -/
def yLa (ar pl v g what wv K bg : Nat) (is : Nat) (due got : gg_V) (l12 l13 l14 l15 l16 l17 : gg_V) : List gg_V := [gr 1, gr ar, gr pl, (0, (v : Int)), gr g, (0, (what : Int)), (0, (wv : Int)), (0, (K : Int)), gr bg, (0, (is : Int)), due, got, l12, l13, l14, l15, l16, l17]
/-- the whole graph changes hands: from yGx at hand to yG with what is new its own -/
theorem yGx.toN {w w' : gy_W} {O : Nat → Nat} {g : Nat} {G : q_G} {la ea lp ep t : Nat} {b : Nat → Nat} (h : yGx w' O g G la ea lp ep t b) : yGx w' (yN w O g) g G la ea lp ep t b := h.fr (yF.rf (P := fun _ => False)) (fun _ _ => id) fun x _ z => by
  unfold yN
  split
  · exact z
  · rfl
