/-! drawn: an arc more; marked; how long the text is -/
section DS
variable {w : gy_W} {c0 g n m la ea lp t : Nat} {b : Nat → Nat} {G : q_G}
theorem yGq.add {w3 : gy_W} {na ea' x y ga wa c s : Nat} {f : Nat → gg_V} (h : yGq w c0 g n m la ea lp t b G) (hS : qS G < 2 ^ qK G) (hF : yF (fun x => x = la ∨ x = ea) c s w w3) (hna : c0 < na) (hna2 : na ≤ w3.2.2.1) (hnb : ∀ j, j < qK G → b j ≠ na) (hea : ea' = ea ∨ w.2.2.1 < ea') (hV : yV w3 la ea' (qK G + 1) f) (hf : ∀ j, f j = if j = qK G then gr na else gr (b j)) (hA' : yA w3 na x y ga wa false) :
    yGq w3 c0 g n m la ea' lp t (qup b (qK G) na) (qput G x y ga wa) := by
  have hsep := fun (x : Nat) (hx : w.1 x = (0, 0, 14) ∨ w.1 x = (1, 4, 0) ∨ w.1 x = (0, 0, 7)) => (show ¬ (x = la ∨ x = ea) from by
    rcases hx with hx | hx | hx
    · exact fun z => z.elim (h.2.1.ne hx (by decide) (by decide)).1 (h.2.1.ne hx (by decide) (by decide)).2
    · exact fun z => z.elim (h.2.1.ne hx (by decide) (by decide)).1 (h.2.1.ne hx (by decide) (by decide)).2
    · exact fun z => z.elim (h.2.1.ne hx (by decide) (by decide)).1 (h.2.1.ne hx (by decide) (by decide)).2)
  obtain ⟨hg, hVl, hL, ⟨t1, t2⟩, hA, hI, hD, ⟨o1, o2, o3, o4, o5, o6, o7⟩, o8⟩ := h
  have hle := hF.le
  have hlp := hL fun _ => (0, 0)
  have hK : qK (qput G x y ga wa) = qK G + 1 := rfl
  have hbit : (qS G).testBit (qK G) = false := Nat.testBit_lt_two_pow hS
  have lpc := hlp.2.2.2.2.1
  have hVe := hV.2.2.2.2.2.2.1
  refine ⟨?_, ?_, fun f => (hL f).fr hF (fun z => z.elim (Ne.symm hD.1) (Ne.symm hD.2)) (fun z => z.elim (Ne.symm hD.1) (Ne.symm hD.2)), ⟨(hF.sh o7).trans t1, fun k => by rw [hF.me o7 (hsep t (Or.inr (Or.inl t1)))]; exact t2 k⟩, fun a ha => ?_, fun a a' ha ha' hab => ?_, ⟨hD.1, ?_⟩, ⟨o1, by omega, o3, ?_, o5, o6, by omega⟩, o8⟩
  · rw [hF.sh o2, hF.me o2 (hsep g (Or.inl hg.1))]
    exact hg
  · rw [hK]
    refine hV.cg fun j _ => ?_
    rw [hf j]
    show gr (if j = qK G then na else b j) = _
    split <;> rfl
  · rw [hK] at ha
    show yA w3 (if a = qK G then na else b a) (if a = qK G then x else qF G a) (if a = qK G then y else qT G a) (if a = qK G then ga else qA G a) (if a = qK G then wa else qW G a) ((qS G).testBit a) ∧ c0 < (if a = qK G then na else b a) ∧ (if a = qK G then na else b a) ≤ w3.2.2.1
    by_cases e : a = qK G
    · simp only [if_pos e]
      rw [e, hbit]
      exact ⟨hA', hna, hna2⟩
    · simp only [if_neg e]
      obtain ⟨d1, d2, d3⟩ := hA a (by omega)
      exact ⟨d1.fr hF (hsep _ (Or.inr (Or.inr d1.1))) d3, d2, by omega⟩
  · rw [hK] at ha ha'
    have hab' : (if a = qK G then na else b a) = (if a' = qK G then na else b a') := hab
    by_cases e1 : a = qK G <;> by_cases e2 : a' = qK G
    · omega
    · rw [if_pos e1, if_neg e2] at hab'
      exact absurd hab'.symm (hnb a' (by omega))
    · rw [if_neg e1, if_pos e2] at hab'
      exact absurd hab' (hnb a (by omega))
    · rw [if_neg e1, if_neg e2] at hab'
      exact hI a a' (by omega) (by omega) hab'
  · rcases hea with e | e
    · rw [e]
      exact hD.2
    · omega
  · rcases hea with e | e
    · rw [e]
      exact o4
    · omega
theorem yGq.mk {w3 : gy_W} {k : Nat} (h : yGq w c0 g n m la ea lp t b G) (hk : k < qK G) (hF : yF (fun x => x = b k) 0 0 w w3) (hA' : yA w3 (b k) (qF G k) (qT G k) (qA G k) (qW G k) true) : yGq w3 c0 g n m la ea lp t b (qsetS G (qS G ||| 2 ^ k)) := by
  have hbk := (h.2.2.2.2.1 k hk)
  obtain ⟨s1, s2, s3, s4, s5⟩ := h.sep hbk.1.1 (by decide) (by decide) (by decide) (by decide)
  obtain ⟨hg, hVl, hL, ⟨t1, t2⟩, hA, hI, hD, ⟨o1, o2, o3, o4, o5, o6, o7⟩, o8⟩ := h
  have hle := hF.le
  refine ⟨?_, hVl.fr hF (Ne.symm s2) (Ne.symm s3), fun f => (hL f).fr hF (Ne.symm s4) (Ne.symm s4), ⟨(hF.sh o7).trans t1, fun j => by rw [hF.me o7 (Ne.symm s5)]; exact t2 j⟩, fun a ha => ?_, hI, hD, ⟨o1, by omega, o3, o4, o5, o6, by omega⟩, o8⟩
  · rw [hF.sh o2, hF.me o2 (Ne.symm s1)]
    exact hg
  · have ha' : a < qK G := ha
    show yA w3 (b a) (qF G a) (qT G a) (qA G a) (qW G a) ((qS G ||| 2 ^ k).testBit a) ∧ _
    obtain ⟨d1, d2, d3⟩ := hA a ha'
    refine ⟨?_, d2, by omega⟩
    rw [Nat.testBit_or, Nat.testBit_two_pow]
    by_cases e : a = k
    · rw [e, decide_eq_true rfl, Bool.or_true]
      exact hA'
    · rw [decide_eq_false (Ne.symm e), Bool.or_false]
      exact d1.fr hF (fun z => e (hI a k ha' hk z)) d3
end DS
theorem dig_l2 (i : Nat) : (dig i).length ≤ 2 := by
  rw [dig_len]
  split <;> omega
theorem stx_len (f t a w : Nat → Nat) (hw mk : Nat → Bool) (k : Nat) : (stx f t a w hw mk k).length ≤ 26 := by
  unfold stx stM
  have h1 := dig_l2 (f k)
  have h2 := dig_l2 (t k)
  have h3 := dig_l2 (a k)
  have h4 := dig_l2 (w k)
  have h5 := dig_l2 k
  have e4 : (txl 4).length = 5 := by decide
  have e5 : (txl 5).length = 7 := by decide
  have e6 : (txl 6).length = 6 := by decide
  split <;> split <;> split <;> simp only [List.length_append, List.length_cons, List.length_nil] <;> omega
/-- the statements before k -/
def pre (f t a w : Nat → Nat) (hw mk : Nat → Bool) : Nat → List Nat
  | 0 => []
  | k + 1 => pre f t a w hw mk k ++ stx f t a w hw mk k
theorem pre_len (f t a w : Nat → Nat) (hw mk : Nat → Bool) (k : Nat) : (pre f t a w hw mk k).length ≤ 26 * k := by
  induction k with
  | zero => exact Nat.le_refl _
  | succ k ih =>
    have := stx_len f t a w hw mk k
    show (pre f t a w hw mk k ++ stx f t a w hw mk k).length ≤ _
    rw [List.length_append]
    omega
theorem pre_rst (f t a w : Nat → Nat) (hw mk : Nat → Bool) (j : Nat) : ∀ k, pre f t a w hw mk k ++ rst f t a w hw mk k j = pre f t a w hw mk (k + j) := by
  induction j with
  | zero =>
    intro k
    exact List.append_nil _
  | succ j ih =>
    intro k
    show pre f t a w hw mk k ++ (stx f t a w hw mk k ++ rst f t a w hw mk (k + 1) j) = _
    rw [← List.append_assoc]
    have := ih (k + 1)
    rw [show k + (j + 1) = k + 1 + j by omega, ← this]
    rfl
/-- the characters are no zeros -/
theorem tx_pos (f t a w : Nat → Nat) (hw mk : Nat → Bool) (k : Nat) : ∀ c, c ∈ stx f t a w hw mk k → 1 ≤ c := by
  have hd : ∀ i c, c ∈ dig i → 1 ≤ c := by
    intro i c hc
    unfold dig at hc
    split at hc
    · simp at hc
      omega
    · simp at hc
      omega
  have ht : ∀ s, s = 4 ∨ s = 5 ∨ s = 6 → ∀ c, c ∈ txl s → 1 ≤ c := by
    intro s hs c hc
    rcases hs with rfl | rfl | rfl
    · rw [tx4] at hc
      simp at hc
      omega
    · rw [tx5] at hc
      simp at hc
      omega
    · rw [tx6] at hc
      simp at hc
      omega
  intro c hc
  unfold stx stM at hc
  simp only [List.mem_append, List.mem_cons] at hc
  rcases hc with hc | hc | hc | hc | hc | hc | hc | hc
  · split at hc
    · exact ht 4 (Or.inl rfl) c hc
    · exact ht 5 (Or.inr (Or.inl rfl)) c hc
  · exact hd _ _ hc
  · omega
  · exact hd _ _ hc
  · omega
  · exact hd _ _ hc
  · split at hc
    · rcases List.mem_cons.1 hc with e | e
      · omega
      · exact hd _ _ e
    · exact absurd hc (List.not_mem_nil)
  · split at hc
    · rcases List.mem_append.1 hc with e | e
      · exact ht 6 (Or.inr (Or.inr rfl)) c e
      · exact hd _ _ e
    · exact absurd hc (List.not_mem_nil)
theorem pre_pos (f t a w : Nat → Nat) (hw mk : Nat → Bool) (k : Nat) : ∀ c, c ∈ pre f t a w hw mk k → 1 ≤ c := by
  induction k with
  | zero => exact fun c hc => absurd hc (List.not_mem_nil)
  | succ k ih =>
    intro c hc
    rcases List.mem_append.1 hc with e | e
    · exact ih c e
    · exact tx_pos f t a w hw mk k c e
