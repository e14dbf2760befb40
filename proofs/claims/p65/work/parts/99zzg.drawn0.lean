/-! drawn: the graph that is made while its text is written -/
def Vq (N : Nat) (xs : Nat → Int32) (k : Nat) : Nat := (ql_at N xs k).toNat
theorem Vq_e (N : Nat) (xs : Nat → Int32) (k : Nat) : ql_at N xs k = ((Vq N xs k : Nat) : Int) ∧ Vq N xs k ≤ 2147483647 := by
  have := ql_at_r (N := N) (xs := xs) k
  unfold Vq
  omega
/-- the graph so far: no vertex is painted yet; all of it is younger than c0 -/
def yGq (w : gy_W) (c0 g n m la ea lp t : Nat) (b : Nat → Nat) (G : q_G) : Prop :=
  (w.1 g = (0, 0, 14) ∧ w.2.1 g 0 = (0, (n : Int)) ∧ w.2.1 g 1 = (0, (m : Int)) ∧ w.2.1 g 2 = (0, 1) ∧ w.2.1 g 3 = gr la ∧ w.2.1 g 4 = gr lp ∧ w.2.1 g 5 = gr t) ∧ yV w la ea (qK G) (fun a => gr (b a)) ∧ (∀ f, yV w lp lp 0 f) ∧ (w.1 t = (1, 4, 0) ∧ ∀ k, w.2.1 t k = (0, 0)) ∧
  (∀ a, a < qK G → yA w (b a) (qF G a) (qT G a) (qA G a) (qW G a) ((qS G).testBit a) ∧ c0 < b a ∧ b a ≤ w.2.2.1) ∧ (∀ a c, a < qK G → c < qK G → b a = b c → a = c) ∧ (la ≠ lp ∧ ea ≠ lp) ∧ (c0 < g ∧ g ≤ w.2.2.1 ∧ c0 < la ∧ c0 < ea ∧ c0 < lp ∧ c0 < t ∧ t ≤ w.2.2.1) ∧ 141 ≤ c0
section DQ
variable {w w' : gy_W} {c0 g n m la ea lp t : Nat} {b : Nat → Nat} {G : q_G}
theorem yGq.fr {P : Nat → Prop} {c s : Nat} (h : yGq w c0 g n m la ea lp t b G) (hF : yF P c s w w') (h1 : ¬ P g) (h2 : ¬ P la) (h3 : ¬ P ea) (h4 : ¬ P lp) (h5 : ¬ P t) (h6 : ∀ a, a < qK G → ¬ P (b a)) : yGq w' c0 g n m la ea lp t b G := by
  obtain ⟨hg, hV, hL, ⟨t1, t2⟩, hA, hI, hD, ⟨o1, o2, o3, o4, o5, o6, o7⟩, o8⟩ := h
  have hle := hF.le
  refine ⟨?_, hV.fr hF h2 h3, fun f => (hL f).fr hF h4 h4, ⟨(hF.sh o7).trans t1, fun k => by rw [hF.me o7 h5]; exact t2 k⟩, fun a ha => ⟨(hA a ha).1.fr hF (h6 a ha) (hA a ha).2.2, (hA a ha).2.1, by have := (hA a ha).2.2; omega⟩, hI, hD, ⟨o1, by omega, o3, o4, o5, o6, by omega⟩, o8⟩
  rw [hF.sh o2, hF.me o2 h1]
  exact hg
/-- what is of another kind is not of the graph -/
theorem yGq.sep (h : yGq w c0 g n m la ea lp t b G) {x k z c : Nat} (hx : w.1 x = (k, z, c)) (hk : k ≠ 5) (hk1 : k ≠ 1) (hc : c ≠ 15) (hc1 : c ≠ 14) : x ≠ g ∧ x ≠ la ∧ x ≠ ea ∧ x ≠ lp ∧ x ≠ t := by
  obtain ⟨hg, hV, hL, ⟨t1, t2⟩, _⟩ := h
  obtain ⟨a1, a2⟩ := hV.ne hx hk hc
  obtain ⟨a3, _⟩ := (hL fun _ => (0, 0)).ne hx hk hc
  refine ⟨?_, a1, a2, a3, ?_⟩
  · rintro rfl
    rw [hg.1] at hx
    exact hc1 (congrArg (fun z => z.2.2) hx).symm
  · rintro rfl
    rw [t1] at hx
    exact hk1 (congrArg Prod.fst hx).symm
theorem yA.ne {x a f tt ga wa : Nat} {kk : Bool} {k z c : Nat} (h : yA w a f tt ga wa kk) (hx : w.1 x = (k, z, c)) (hc : c ≠ 7) : x ≠ a := by
  rintro rfl
  rw [h.1] at hx
  exact hc (congrArg (fun z => z.2.2) hx).symm
/-- a text is written: the graph stays -/
theorem yGq.tx {sb vb cap c s : Nat} {l : List Nat} (h : yGq w c0 g n m la ea lp t b G) (hT : yTx w sb vb cap l) (hF : yF (fun x => x = sb ∨ x = vb) c s w w') : yGq w' c0 g n m la ea lp t b G := by
  obtain ⟨a1, a2, a3, a4, a5⟩ := h.sep hT.1.1 (by decide) (by decide) (by decide) (by decide)
  obtain ⟨b1, b2, b3, b4, b5⟩ := h.sep hT.2.1 (by decide) (by decide) (by decide) (by decide)
  refine h.fr hF (fun z => z.elim (Ne.symm a1) (Ne.symm b1)) (fun z => z.elim (Ne.symm a2) (Ne.symm b2)) (fun z => z.elim (Ne.symm a3) (Ne.symm b3)) (fun z => z.elim (Ne.symm a4) (Ne.symm b4)) (fun z => z.elim (Ne.symm a5) (Ne.symm b5)) fun a ha z => ?_
  have := (h.2.2.2.2.1 a ha).1
  rcases z with z | z
  · exact this.ne hT.1.1 (by decide) z.symm
  · exact this.ne hT.2.1 (by decide) z.symm
theorem yA.tx {a f tt ga wa : Nat} {kk : Bool} {sb vb cap c s : Nat} {l : List Nat} (h : yA w a f tt ga wa kk) (ha : a ≤ w.2.2.1) (hT : yTx w sb vb cap l) (hF : yF (fun x => x = sb ∨ x = vb) c s w w') : yA w' a f tt ga wa kk := by
  refine h.fr hF (fun z => ?_) ha
  rcases z with z | z
  · exact h.ne hT.1.1 (by decide) z.symm
  · exact h.ne hT.2.1 (by decide) z.symm
end DQ
/-- both: the text l, the graph G; E what else stands -/
def yD (w0 w : gy_W) (C S sb vb0 g n m la ea lp t : Nat) (b : Nat → Nat) (G : q_G) (E : gy_W → Prop) (l : List Nat) : Prop := ∃ vb cap, yTx w sb vb cap l ∧ (vb = vb0 ∨ w0.2.2.1 < vb) ∧ yF (fun x => x = sb ∨ x = vb0) C S w0 w ∧ yGq w w0.2.2.1 g n m la ea lp t b G ∧ E w
/-- it stands while a text is written -/
def yStab (sb : Nat) (E : gy_W → Prop) : Prop := ∀ (w w' : gy_W) (vb cap c s : Nat) (l : List Nat), yTx w sb vb cap l → yF (fun x => x = sb ∨ x = vb) c s w w' → E w → E w'
section DR
variable {N : Nat} {xs : Nat → Int32} {d : Nat} {w0 w : gy_W} {Q : gy_O → Prop} {C S sb vb0 g n m la ea lp t : Nat} {b : Nat → Nat} {G : q_G} {E : gy_W → Prop} {l : List Nat}
theorem yD.step {w' : gy_W} {l' : List Nat} {vb vb' cap cap' : Nat} (hT : yTx w sb vb cap l) (hvb : vb = vb0 ∨ w0.2.2.1 < vb) (hF : yF (fun x => x = sb ∨ x = vb0) C S w0 w) (hG : yGq w w0.2.2.1 g n m la ea lp t b G) (hE : E w) (hst : yStab sb E) (hT' : yTx w' sb vb' cap' l') (hF' : yF (fun x => x = sb ∨ x = vb) 1 1300 w w') (hvb' : vb' = vb ∨ w.2.2.1 < vb') : yD w0 w' (C + 1) (S + 1300) sb vb0 g n m la ea lp t b G E l' := by
  have := hF.le
  refine ⟨vb', cap', hT', by omega, hF.tr hF' fun x hx z => ?_, hG.tx hT hF', hst w w' vb cap 1 1300 l hT hF' hE⟩
  rcases z with z | z
  · exact Or.inl z
  · rcases hvb with e | e
    · exact Or.inr (z.trans e)
    · omega
theorem yd_str (h : yD w0 w C S sb vb0 g n m la ea lp t b G E l) (hst : yStab sb E) {s : Nat} (hs : s < 7) (hl : l.length ≤ 500) (hQ : ∀ w', yD w0 w' (C + 1) (S + 1300) sb vb0 g n m la ea lp t b G E (l ++ txl s) → Q ((1, gr sb), w')) : wy N xs (d + 5) 397 0 [gr sb, (4, (s : Int))] [] w Q := by
  obtain ⟨vb, cap, hT, hvb, hF, hG, hE⟩ := h
  exact yw_str hT hs hl fun w' vb' cap' hT' hF' hvb' => hQ w' (yD.step hT hvb hF hG hE hst hT' hF' hvb')
theorem yd_num (h : yD w0 w C S sb vb0 g n m la ea lp t b G E l) (hst : yStab sb E) {i : Nat} (hi : i < 100) (hl : l.length ≤ 500) (hQ : ∀ w', yD w0 w' (C + 1) (S + 1300) sb vb0 g n m la ea lp t b G E (l ++ dig i) → Q ((1, gr sb), w')) : wy N xs (d + 5) 396 0 [gr sb, (0, (i : Int))] [] w Q := by
  obtain ⟨vb, cap, hT, hvb, hF, hG, hE⟩ := h
  exact yw_num hT hi hl fun w' vb' cap' hT' hF' hvb' => hQ w' (yD.step hT hvb hF hG hE hst hT' hF' hvb')
theorem yd_sp (h : yD w0 w C S sb vb0 g n m la ea lp t b G E l) (hst : yStab sb E) (hl : l.length ≤ 500) (hQ : ∀ w', yD w0 w' (C + 1) (S + 1300) sb vb0 g n m la ea lp t b G E (l ++ [32]) → Q ((1, gr sb), w')) : wy N xs (d + 5) 395 0 [gr sb, (0, 32)] [] w Q := by
  obtain ⟨vb, cap, hT, hvb, hF, hG, hE⟩ := h
  exact yw_chr (c := 32) hT (by decide) hl fun w' vb' cap' hT' hF' hvb' => hQ w' (yD.step hT hvb hF hG hE hst hT' hF' hvb')
theorem st_True : yStab sb (fun _ => True) := fun _ _ _ _ _ _ _ _ _ _ => trivial
/-- an arc that is not yet among the graph's -/
def yEa (a f tt ga wa : Nat) (kk : Bool) (K : Nat) (b : Nat → Nat) (c0 : Nat) : gy_W → Prop := fun w => yA w a f tt ga wa kk ∧ a ≤ w.2.2.1 ∧ (∀ j, j < K → b j ≠ a) ∧ c0 < a
theorem st_arc {a f tt ga wa K c0 : Nat} {kk : Bool} : yStab sb (yEa a f tt ga wa kk K b c0) := fun w w' vb cap c s l hT hF hE => ⟨hE.1.tx hE.2.1 hT hF, by have := hF.le; have := hE.2.1; omega, hE.2.2.1, hE.2.2.2⟩
theorem yD.sb1 (h : yD w0 w C S sb vb0 g n m la ea lp t b G E l) : w.1 sb = (0, 0, 17) := by
  obtain ⟨vb, cap, hT, _⟩ := h
  exact hT.1.1
theorem yD.gG (h : yD w0 w C S sb vb0 g n m la ea lp t b G E l) : yGq w w0.2.2.1 g n m la ea lp t b G := by
  obtain ⟨vb, cap, hT, _, _, hG, _⟩ := h
  exact hG
theorem yD.gE (h : yD w0 w C S sb vb0 g n m la ea lp t b G E l) : E w := by
  obtain ⟨vb, cap, hT, _, _, hG, hE⟩ := h
  exact hE
end DR
