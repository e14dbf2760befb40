/-! the actions -/
def a_act (A : q_A) (G : q_G) : q_A := (G, (min (aN A + 1) 8, qkeep (aG A) (aH A)), A.2.2)
def sa (A : q_A) (o : Nat) (G : q_G) : q_A := if o = 0 then a_act A G else A
def sc (A : q_A) (o : Nat) (c : Bool) (G : q_G) : q_A := if o = 0 then (if c = true then a_act A G else A) else A
section SC
variable {M1 : gg_M} {G : q_G}
theorem q_C_tot {t : Nat} (h : q_C M1 2 G) (ht : t < 4) : q_C (gg_up M1 8 t (io_add (M1 8 t) 1)) 2 (qtot G t) := by
  obtain ⟨⟨h1, h2, h3, h4, h5⟩, hF, hT, hA, hW, hP, hO⟩ := h
  refine ⟨⟨?_, ?_, ?_, ?_, ?_⟩, fun b hb => ?_, fun b hb => ?_, fun b hb => ?_, fun b hb => ?_, fun v hv => ?_, fun u hu => ?_⟩
  · rw [gu_n (by decide)]; exact h1
  · rw [gu_n (by decide)]; exact h2
  · rw [gu_n (by decide)]; exact h3
  · rw [gu_n (by decide)]; exact h4
  · rw [gu_n (by decide)]; exact h5
  · rw [gu_n (by decide)]; exact hF b hb
  · rw [gu_n (by decide)]; exact hT b hb
  · rw [gu_n (by decide)]; exact hA b hb
  · rw [gu_n (by decide)]; exact hW b hb
  · rw [gu_n (by decide)]; exact hP v hv
  · show gg_up M1 8 t _ 8 u = qup (qO G) t _ u
    unfold qup
    by_cases e : u = t
    · rw [if_pos e, e, gu_e, show M1 8 t = qO G t from hO t ht]
    · rw [if_neg e, gu_s e]
      exact hO u hu
theorem q_C_setP {a : Nat} {x : Int} (h : q_C M1 2 G) : q_C (gg_up M1 7 a x) 2 (qsetP G a x) := by
  obtain ⟨⟨h1, h2, h3, h4, h5⟩, hF, hT, hA, hW, hP, hO⟩ := h
  refine ⟨⟨?_, ?_, ?_, ?_, ?_⟩, fun b hb => ?_, fun b hb => ?_, fun b hb => ?_, fun b hb => ?_, fun v hv => ?_, fun u hu => ?_⟩
  · rw [gu_n (by decide)]; exact h1
  · rw [gu_n (by decide)]; exact h2
  · rw [gu_n (by decide)]; exact h3
  · rw [gu_n (by decide)]; exact h4
  · rw [gu_n (by decide)]; exact h5
  · rw [gu_n (by decide)]; exact hF b hb
  · rw [gu_n (by decide)]; exact hT b hb
  · rw [gu_n (by decide)]; exact hA b hb
  · rw [gu_n (by decide)]; exact hW b hb
  · show gg_up M1 7 a _ 7 v = qup (qP G) a _ v
    unfold qup
    by_cases e : v = a
    · rw [if_pos e, e, gu_e]
    · rw [if_neg e, gu_s e]
      exact hP v hv
  · rw [gu_n (by decide)]; exact hO u hu
theorem q_C_setS {s : Nat} (h : q_C M1 2 G) : q_C (gg_up M1 2 3 (s : Int)) 2 (qsetS G s) := by
  obtain ⟨⟨h1, h2, h3, h4, h5⟩, hF, hT, hA, hW, hP, hO⟩ := h
  refine ⟨⟨?_, ?_, ?_, ?_, ?_⟩, fun b hb => ?_, fun b hb => ?_, fun b hb => ?_, fun b hb => ?_, fun v hv => ?_, fun u hu => ?_⟩
  · rw [gu_s (by decide)]; exact h1
  · rw [gu_s (by decide)]; exact h2
  · rw [gu_s (by decide)]; exact h3
  · rw [gu_e]; rfl
  · rw [gu_s (by decide)]; exact h5
  · rw [gu_n (by decide)]; exact hF b hb
  · rw [gu_n (by decide)]; exact hT b hb
  · rw [gu_n (by decide)]; exact hA b hb
  · rw [gu_n (by decide)]; exact hW b hb
  · rw [gu_n (by decide)]; exact hP v hv
  · rw [gu_n (by decide)]; exact hO u hu
theorem q_C_setA {a x : Nat} (h : q_C M1 2 G) : q_C (gg_up M1 5 a (x : Int)) 2 (qsetA G a x) := by
  obtain ⟨⟨h1, h2, h3, h4, h5⟩, hF, hT, hA, hW, hP, hO⟩ := h
  refine ⟨⟨?_, ?_, ?_, ?_, ?_⟩, fun b hb => ?_, fun b hb => ?_, fun b hb => ?_, fun b hb => ?_, fun v hv => ?_, fun u hu => ?_⟩
  · rw [gu_n (by decide)]; exact h1
  · rw [gu_n (by decide)]; exact h2
  · rw [gu_n (by decide)]; exact h3
  · rw [gu_n (by decide)]; exact h4
  · rw [gu_n (by decide)]; exact h5
  · rw [gu_n (by decide)]; exact hF b hb
  · rw [gu_n (by decide)]; exact hT b hb
  · show gg_up M1 5 a _ 5 b = ((qup (qA G) a x b : Nat) : Int)
    unfold qup
    by_cases e : b = a
    · rw [if_pos e, e, gu_e]
    · rw [if_neg e, gu_s e]
      exact hA b hb
  · rw [gu_n (by decide)]; exact hW b hb
  · rw [gu_n (by decide)]; exact hP v hv
  · rw [gu_n (by decide)]; exact hO u hu
theorem q_C_setW {a x : Nat} (h : q_C M1 2 G) : q_C (gg_up M1 6 a (x : Int)) 2 (qsetW G a x) := by
  obtain ⟨⟨h1, h2, h3, h4, h5⟩, hF, hT, hA, hW, hP, hO⟩ := h
  refine ⟨⟨?_, ?_, ?_, ?_, ?_⟩, fun b hb => ?_, fun b hb => ?_, fun b hb => ?_, fun b hb => ?_, fun v hv => ?_, fun u hu => ?_⟩
  · rw [gu_n (by decide)]; exact h1
  · rw [gu_n (by decide)]; exact h2
  · rw [gu_n (by decide)]; exact h3
  · rw [gu_n (by decide)]; exact h4
  · rw [gu_n (by decide)]; exact h5
  · rw [gu_n (by decide)]; exact hF b hb
  · rw [gu_n (by decide)]; exact hT b hb
  · rw [gu_n (by decide)]; exact hA b hb
  · show gg_up M1 6 a _ 6 b = ((qup (qW G) a x b : Nat) : Int)
    unfold qup
    by_cases e : b = a
    · rw [if_pos e, e, gu_e]
    · rw [if_neg e, gu_s e]
      exact hW b hb
  · rw [gu_n (by decide)]; exact hP v hv
  · rw [gu_n (by decide)]; exact hO u hu
theorem q_C_addV (h : q_C M1 2 G) (hG : q_ok G) (hN : qN G < 8) : q_C (gg_up M1 2 0 ((qN G : Int) + 1)) 2 (qaddV G) := by
  obtain ⟨⟨h1, h2, h3, h4, h5⟩, hF, hT, hA, hW, hP, hO⟩ := h
  refine ⟨⟨?_, ?_, ?_, ?_, ?_⟩, fun b hb => ?_, fun b hb => ?_, fun b hb => ?_, fun b hb => ?_, fun v hv => ?_, fun u hu => ?_⟩
  · rw [gu_e]; rfl
  · rw [gu_s (by decide)]; exact h2
  · rw [gu_s (by decide)]; exact h3
  · rw [gu_s (by decide)]; exact h4
  · rw [gu_s (by decide)]; exact h5
  · rw [gu_n (by decide)]; exact hF b hb
  · rw [gu_n (by decide)]; exact hT b hb
  · rw [gu_n (by decide)]; exact hA b hb
  · rw [gu_n (by decide)]; exact hW b hb
  · show gg_up M1 2 0 _ 7 v = qup (qP G) (qN G) (-1) v
    unfold qup
    rw [gu_n (by decide)]
    by_cases e : v = qN G
    · rw [if_pos e, e, show M1 7 (qN G) = qP G (qN G) from hP _ hN, hG.2.2.2 (qN G) (Nat.le_refl _) hN]
    · rw [if_neg e]
      exact hP v hv
  · rw [gu_n (by decide)]; exact hO u hu
theorem q_C_setL {M2 : gg_M} {l : Nat} (h : q_C M1 2 G) (hM : ∀ j, j ≠ 7 → M2 j = gg_up M1 2 4 (l : Int) j) (hv : ∀ v, v < 8 → M2 7 v = -1) : q_C M2 2 (qsetL G l) := by
  obtain ⟨⟨h1, h2, h3, h4, h5⟩, hF, hT, hA, hW, hP, hO⟩ := h
  refine ⟨⟨?_, ?_, ?_, ?_, ?_⟩, fun b hb => ?_, fun b hb => ?_, fun b hb => ?_, fun b hb => ?_, fun v hv' => ?_, fun u hu => ?_⟩
  · rw [hM _ (by decide), gu_s (by decide)]; exact h1
  · rw [hM _ (by decide), gu_s (by decide)]; exact h2
  · rw [hM _ (by decide), gu_s (by decide)]; exact h3
  · rw [hM _ (by decide), gu_s (by decide)]; exact h4
  · rw [hM _ (by decide), gu_e]; rfl
  · rw [hM _ (by decide), gu_n (by decide)]; exact hF b hb
  · rw [hM _ (by decide), gu_n (by decide)]; exact hT b hb
  · rw [hM _ (by decide), gu_n (by decide)]; exact hA b hb
  · rw [hM _ (by decide), gu_n (by decide)]; exact hW b hb
  · exact hv v hv'
  · rw [hM _ (by decide), gu_n (by decide)]; exact hO u hu
end SC
section SR
variable {R R' : Nat → Int} {G : q_G}
end SR
section SG
variable {N : Nat} {xs : Nat → Int32} {d : Nat} {M : gg_M} {cc cs : Nat} {A : q_A}
theorem qs_H_e {M' : gg_M} {n : Nat} {Hs : Nat → q_G} (h : qs_H M n Hs) (he : ∀ j, 9 ≤ j → j ≤ 73 → M' j = M j) : qs_H M' n Hs := by
  obtain ⟨x, hx, g1, g2, g3, g4⟩ := h
  refine ⟨x, hx, by rw [he 16 (by decide) (by decide)]; exact g1, by rw [he 16 (by decide) (by decide)]; exact g2, g3, fun j hj => q_C_e (g4 j hj) fun i i1 i2 => he i ?_ ?_⟩
  · omega
  · have : (x + 7 - j) % 8 < 8 := Nat.mod_lt _ (by decide)
    omega
def q_r (M M1 : gg_M) (A : q_A) : Prop := (∀ j, 73 < j → j ≠ 78 → M1 j = M j) ∧ M1 78 4 = 0 ∧ qs_H M1 (min (aN A + 1) 8) (qkeep (aG A) (aH A)) ∧ (∀ j, j < 16 → M1 j = M j)
theorem wp_remember {Q : gg_O → Prop} (hI : q_I M A) (hA : a_ok A) (hQ : ∀ M1, q_r M M1 A → Q ((0, (3, 0)), (gk_R, M1, 142, cc, cs))) : wp N xs (d + 2) 150 0 [gr 1] [] (gk_R, M, 142, cc, cs) Q := by
  simp (disch := first | assumption | omega | exact il_cqA _ _ | exact il_cqB _ _) only [wi_150_0, wi_150_1, wi_150_4, wi_150_5, wi_150_8, wi_150_11, wi_150_12, wi_150_15, wi_150_18, io_add_o, io_sub_o, io_mul_o, io_neg_o, io_and_r, io_or_r, io_xor_r, io_nd_r, io_shr_r, io_shl1, io_i2b_r, io_i2l_o, io_l2i_o, il_add_o, il_sub_o, il_mul_o, il_neg_o, ib_bit, Int.toNat_natCast, true_implies, false_implies, implies_true, and_true, true_and, and_self, not_true_eq_false, not_false_eq_true, wa_0, wa_1, il_cmp_o, il_cmp0, il_cmp1, il_cmp2, io_bit1, ibt0, ibt1, ibt00, ibt11, ibt10, ibt01, Int.ofNat_lt, Int.ofNat_le, Int.ofNat_inj, Nat.lt_irrefl, Int.lt_irrefl, Int.toNat_one, Int.toNat_zero, Bool.false_eq_true, reduceIte, reduceCtorEq, Nat.reduceAdd, Nat.reduceMul, Nat.reduceSub, Nat.reduceLT, Nat.reduceLeDiff, Nat.reduceEqDiff, Int.reduceNeg, Int.reduceAdd, Int.reduceMul, Int.reduceSub, Int.reduceLT, Int.reduceLE, Int.reduceEq, Int.reduceToNat, Int.reduceNatCast, icl, ico, inz, Nat.not_lt_zero]
  refine wp_hkeep hA.1 hI.1 hI.2.2.1 (fun M1 hM hH => ?_)
  simp (disch := first | assumption | omega | exact il_cqA _ _ | exact il_cqB _ _) only [wi_150_0, wi_150_1, wi_150_4, wi_150_5, wi_150_8, wi_150_11, wi_150_12, wi_150_15, wi_150_18, wi_61_0, wi_61_1, wi_61_2, wi_61_5, io_add_o, io_sub_o, io_mul_o, io_neg_o, io_and_r, io_or_r, io_xor_r, io_nd_r, io_shr_r, io_shl1, io_i2b_r, io_i2l_o, io_l2i_o, il_add_o, il_sub_o, il_mul_o, il_neg_o, ib_bit, Int.toNat_natCast, true_implies, false_implies, implies_true, and_true, true_and, and_self, not_true_eq_false, not_false_eq_true, wa_0, wa_1, il_cmp_o, il_cmp0, il_cmp1, il_cmp2, io_bit1, ibt0, ibt1, ibt00, ibt11, ibt10, ibt01, Int.ofNat_lt, Int.ofNat_le, Int.ofNat_inj, Nat.lt_irrefl, Int.lt_irrefl, Int.toNat_one, Int.toNat_zero, Bool.false_eq_true, reduceIte, reduceCtorEq, Nat.reduceAdd, Nat.reduceMul, Nat.reduceSub, Nat.reduceLT, Nat.reduceLeDiff, Nat.reduceEqDiff, Int.reduceNeg, Int.reduceAdd, Int.reduceMul, Int.reduceSub, Int.reduceLT, Int.reduceLE, Int.reduceEq, Int.reduceToNat, Int.reduceNatCast, icl, ico, inz, Nat.not_lt_zero]
  exact hQ _ ⟨fun j j1 j2 => by rw [gu_n j2, hM j (by omega)], gu_e, qs_H_e hH (fun j j1 j2 => gu_n (by omega)), fun j hj => by rw [gu_n (by omega), hM j (by omega)]⟩
theorem q_r_C {M1 : gg_M} {G : q_G} (hr : q_r M M1 A) (hC : q_C M 2 G) : q_C M1 2 G := q_C_e hC fun j j1 j2 => hr.2.2.2 j (by omega)
theorem q_I_act {M1 M2 : gg_M} {G : q_G} (hI : q_I M A) (hr : q_r M M1 A) (hM : ∀ j, j < 2 ∨ 8 < j → M2 j = M1 j) (hC : q_C M2 2 G) : q_I M2 (a_act A G) := by
  obtain ⟨h1, h2, h3, h4, h5, h6, h7⟩ := hI
  obtain ⟨r1, r2, r3, r4⟩ := hr
  have hF : ∀ j, 73 < j → j ≠ 78 → M2 j = M j := fun j j1 j2 => by rw [hM j (by omega), r1 j j1 j2]
  refine ⟨hC, Or.inl (by rw [hM 78 (by decide)]; exact r2), qs_H_e r3 (fun j j1 j2 => hM j (by omega)), fun s hs => ?_, qt_C_e h5 (by rw [hF 76 (by decide) (by decide)]) (hF 77 (by decide) (by decide)), by rw [hF 76 (by decide) (by decide)]; exact h6, fun h => by rw [hF 76 (by decide) (by decide)]; exact h7 h⟩
  have := h4 s hs
  show match aV A s with | some G => M2 75 s = 1 ∧ q_C M2 (128 + 7 * s) G | none => M2 75 s = 0
  cases hv : aV A s with
  | none =>
    rw [hv] at this
    rw [hF 75 (by decide) (by decide)]
    exact this
  | some G =>
    rw [hv] at this
    exact ⟨by rw [hF 75 (by decide) (by decide)]; exact this.1, q_C_e this.2 fun i i1 i2 => hF i (by omega) (by omega)⟩
theorem fr_act {M1 M2 : gg_M} (hr : q_r M M1 A) (hM : ∀ j, j < 2 ∨ 8 < j → M2 j = M1 j) : ∀ j, 142 ≤ j → M2 j = M j := fun j hj => by rw [hM j (by omega), hr.1 j (by omega) (by omega)]
theorem q_cact {M1 M2 : gg_M} {Q : gg_O → Prop} {t : Nat} {v : Int} {G : q_G} (h0 : ∀ M' : gg_M, (∀ j, 142 ≤ j → M' j = M j) → q_I M' (a_act A G) → Q ((1, (t, v)), (gk_R, M', 142, cc, cs))) (hI : q_I M A) (hr : q_r M M1 A) (hM : ∀ j, j < 2 ∨ 8 < j → M2 j = M1 j) (hC : q_C M2 2 G) : Q ((1, (t, v)), (gk_R, M2, 142, cc, cs)) := h0 M2 (fr_act hr hM) (q_I_act hI hr hM hC)
end SG
