/-! the class reads marks, statements, all -/
/-- the marks behind those that are read: a number is to follow -/
def qmk2 (X : Nat → Nat) (B : Nat) (G : q_G) (r k S p : Nat) : Except (Nat × Nat) (q_G × Nat) :=
  if r = 0 then qp_marks X B G k S p else if qws X B p < B ∧ qdi X (qws X B p) = true then qp_marks X B G k S p else .ok (qsetS G S, qws X B p)
section SG
variable {N : Nat} {xs : Nat → Int32} {d : Nat} {cc cs : Nat} {Q : gg_O → Prop} {X : Nat → Nat} {B : Nat} {G : q_G}
theorem qres_weak {M M1 : gg_M} {p p1 : Nat} {r : Except (Nat × Nat) (q_G × Nat)} (h : qres M cc cs B p r Q) (hf : qf9 M M1) (h2 : M1 76 2 = M 76 2) (hp : p ≤ p1) : qres M1 cc cs B p1 r Q := by
  cases r with
  | ok a =>
    obtain ⟨G', p'⟩ := a
    exact fun M' g1 g2 g3 g4 g5 g6 g7 => h M' (qf9_t hf g1) (by rw [g2, h2]) g3 g4 g5 (by omega) g7
  | error a =>
    obtain ⟨k, q⟩ := a
    exact fun M' g1 g2 g3 => h M' (qf9_t hf g1) g2 g3
theorem wp_readMarks (k : Nat) : ∀ (r S p : Nat) (M : gg_M) (Q : gg_O → Prop), r + k = 401 → 1 ≤ p → (r ≠ 0 → r < p) → q_ok G → S < 2 ^ qK G → q_C M 9 (qsetS G S) → qt_C M X B → p ≤ B → M 76 5 = (p : Int) → (r = 0 → qres M cc cs B p (qp_marks X B G k S p) Q) → (r ≠ 0 → qres M cc cs B (p - 1) (qmk2 X B G r k S p) Q) →
    wp N xs (d + 5) 43 2 [gr 76, gr 9, (0, (r : Int))] [] (gk_R, M, 142, cc, cs) Q := by
  induction k with
  | zero =>
    intro r S p M Q hrk hp1_ hrp2 hG hS hD hC hpB hat hQ0 hQ1
    have := hC.2.1
    have := hrp2 (by omega)
    omega
  | succ k ih =>
    intro r S p M Q hrk hp1_ hrp2 hG hS hD hC hpB hat hQ0 hQ1
    have hg9 := gs_G9
    have hB := hC.2.1
    have hr4 : ¬ (400 : Int) < (r : Int) := by omega
    obtain ⟨⟨h1, h2, h3, h4, h5⟩, hF, hT, hA, hW, hP, hO⟩ := id hD
    obtain ⟨⟨k1, k2, k3, k4, k5, k6, k7, k8⟩, hk, hp, hp2⟩ := id hG
    have h3' : M 9 2 = (qK G : Int) := h3
    have h4' : M 9 3 = (S : Int) := h4
    have hp2 := two_le k5
    have hws := qws_rg (X := X) hpB
    -- a number is read
    have hread : ∀ (M1 : gg_M) (p1 : Nat), qnumb X B p1 0 ((qK G : Int) - 1) = qnumb X B p 0 ((qK G : Int) - 1) → p ≤ p1 → p1 ≤ B → M1 76 5 = (p1 : Int) → (∀ j, j ≠ 76 → M1 j = M j) → (∀ f, f ≠ 5 → M1 76 f = M 76 f) → qres M cc cs B (p - (if r = 0 then 0 else 1)) (qp_marks X B G (k + 1) S p) Q →
        wp N xs (d + 4) 45 0 [gr 76, (0, 0), (0, (qK G : Int) - 1), (3, 0)] [] (gk_R, M1, 142, cc, cs) (wa N xs (d + 4 + 1) 43 30 [gr 76, gr 9, (0, (r : Int))] [] Q) := by
      intro M1 p1 hnum hp1 hp1B hat1 g1 g2 hQ
      have hC1 : qt_C M1 X B := qt_C_e hC (g2 1 (by decide)) (g1 77 (by decide))
      have hf1 : qf9 M M1 := qf9_76 g1 (g2 1 (by decide)) (g2 4 (by decide))
      unfold qp_marks at hQ
      rw [← hnum] at hQ
      refine wp_readNumber (p := p1) (lo := 0) (hi := (qK G : Int) - 1) (by omega) (by omega) (by omega) (by omega) hC1 hp1B hat1 (fun v e hok l1 l2 M2 a1 a2 a3 a4 => ?_) (fun kd q herr M2 a1 a2 a3 a4 => ?_)
      · simp only [hok] at hQ
        obtain ⟨v1, v2⟩ := qnumb_rg hok
        have hv : v < qK G := by omega
        have hS' := or_lt hS hv
        have x1 : 2 ^ v ≤ 2 ^ 12 := Nat.pow_le_pow_right (by decide) (by omega)
        have x1p : 1 ≤ 2 ^ v := Nat.one_le_two_pow
        have hC2 : qt_C M2 X B := qt_C_e hC1 (a2 1 (by decide) (by decide)) (a1 77 (by decide))
        have hf2 : qf9 M M2 := qf9_t hf1 (qf9_76 a1 (a2 1 (by decide) (by decide)) (a2 4 (by decide) (by decide)))
        have hD2 : q_C M2 9 (qsetS G S) := q_C_e hD fun j j1 j2 => by rw [a1 j (by omega), g1 j (by omega)]
        have s2 : M2 9 3 = (S : Int) := hD2.1.2.2.2.1
        have z22 : M2 76 2 = M 76 2 := by rw [a2 2 (by decide) (by decide), g2 2 (by decide)]
        have hD3 : q_C (gg_up M2 9 3 ((S ||| 2 ^ v : Nat) : Int)) 9 (qsetS G (S ||| 2 ^ v)) := by
          obtain ⟨⟨i1, i2, i3, i4, i5⟩, iF, iT, iA, iW, iP, iO⟩ := hD2
          refine ⟨⟨?_, ?_, ?_, ?_, ?_⟩, fun a ha => ?_, fun a ha => ?_, fun a ha => ?_, fun a ha => ?_, fun w hw => ?_, fun t ht => ?_⟩
          · rw [gu_s (by decide)]; exact i1
          · rw [gu_s (by decide)]; exact i2
          · rw [gu_s (by decide)]; exact i3
          · rw [gu_e]; rfl
          · rw [gu_s (by decide)]; exact i5
          · rw [gu_n (by decide)]; exact iF a ha
          · rw [gu_n (by decide)]; exact iT a ha
          · rw [gu_n (by decide)]; exact iA a ha
          · rw [gu_n (by decide)]; exact iW a ha
          · rw [gu_n (by decide)]; exact iP w hw
          · rw [gu_n (by decide)]; exact iO t ht
        have hf3 : qf9 M (gg_up M2 9 3 ((S ||| 2 ^ v : Nat) : Int)) := qf9_t hf2 ⟨fun j hj _ => gu_n (by omega), by rw [gu_n (by decide)], by rw [gu_n (by decide)]⟩
        have hnx := ih (r + 1) (S ||| 2 ^ v) e (gg_up M2 9 3 ((S ||| 2 ^ v : Nat) : Int)) Q (by omega) (by omega) (fun _ => by
          have := hrp2
          by_cases e0 : r = 0
          · omega
          · have := this e0
            omega) hG hS' hD3 (qt_C_e hC2 (by rw [gu_n (by decide)]) (by rw [gu_n (by decide)])) l2 (by rw [gu_n (by decide)]; exact a3) (fun h => by omega) (fun _ => by
          have hw2 : qres M cc cs B (p - if r = 0 then 0 else 1) (qmk2 X B G (r + 1) k (S ||| 2 ^ v) e) Q := by
            unfold qmk2
            rw [if_neg (Nat.succ_ne_zero r)]
            exact hQ
          exact qres_weak hw2 hf3 (by rw [gu_n (by decide), z22]) (by split <;> omega))
        simp (disch := first | assumption | omega | exact il_cqA _ _ | exact il_cqB _ _) only [wi_43_0, wi_43_1, wi_43_3, wi_43_6, wi_43_9, wi_43_10, wi_43_13, wi_43_14, wi_43_17, wi_43_20, wi_43_21, wi_43_22, wi_43_23, wi_43_24, wi_43_25, wi_43_28, wi_43_29, wi_43_30, wi_43_33, wi_43_36, wi_43_37, wi_43_38, wi_43_39, wi_43_40, wi_43_43, wi_43_44, wi_43_45, wi_43_48, wi_43_49, wi_43_50, wi_43_53, wi_43_56, wi_43_59, wi_43_60, io_add_o, io_sub_o, io_mul_o, io_neg_o, io_and_r, io_or_r, io_xor_r, io_nd_r, io_shr_r, io_shl1, io_i2b_r, io_i2l_o, io_l2i_o, il_add_o, il_sub_o, il_mul_o, il_neg_o, ib_bit, Int.toNat_natCast, true_implies, false_implies, implies_true, and_true, true_and, and_self, not_true_eq_false, not_false_eq_true, wa_0, wa_1, il_cmp_o, il_cmp0, il_cmp1, il_cmp2, io_bit1, ibt0, ibt1, ibt00, ibt11, ibt10, ibt01, Int.ofNat_lt, Int.ofNat_le, Int.ofNat_inj, Nat.lt_irrefl, Int.lt_irrefl, Int.toNat_one, Int.toNat_zero, Bool.false_eq_true, reduceIte, reduceCtorEq, Nat.reduceAdd, Nat.reduceMul, Nat.reduceSub, Nat.reduceLT, Nat.reduceLeDiff, Nat.reduceEqDiff, Int.reduceNeg, Int.reduceAdd, Int.reduceMul, Int.reduceSub, Int.reduceLT, Int.reduceLE, Int.reduceEq, Int.reduceToNat, Int.reduceNatCast, icl, ico, inz, Nat.not_lt_zero, a4, s2]
        exact hnx
      · simp only [herr] at hQ
        have := hQ M2 (qf9_t hf1 (qf9_76 a1 (a2 1 (by decide) (by decide) (by decide) (by decide)) (a2 4 (by decide) (by decide) (by decide) (by decide)))) a3 a4
        simp (disch := first | assumption | omega | exact il_cqA _ _ | exact il_cqB _ _) only [wi_43_0, wi_43_1, wi_43_3, wi_43_6, wi_43_9, wi_43_10, wi_43_13, wi_43_14, wi_43_17, wi_43_20, wi_43_21, wi_43_22, wi_43_23, wi_43_24, wi_43_25, wi_43_28, wi_43_29, wi_43_30, wi_43_33, wi_43_36, wi_43_37, wi_43_38, wi_43_39, wi_43_40, wi_43_43, wi_43_44, wi_43_45, wi_43_48, wi_43_49, wi_43_50, wi_43_53, wi_43_56, wi_43_59, wi_43_60, io_add_o, io_sub_o, io_mul_o, io_neg_o, io_and_r, io_or_r, io_xor_r, io_nd_r, io_shr_r, io_shl1, io_i2b_r, io_i2l_o, io_l2i_o, il_add_o, il_sub_o, il_mul_o, il_neg_o, ib_bit, Int.toNat_natCast, true_implies, false_implies, implies_true, and_true, true_and, and_self, not_true_eq_false, not_false_eq_true, wa_0, wa_1, il_cmp_o, il_cmp0, il_cmp1, il_cmp2, io_bit1, ibt0, ibt1, ibt00, ibt11, ibt10, ibt01, Int.ofNat_lt, Int.ofNat_le, Int.ofNat_inj, Nat.lt_irrefl, Int.lt_irrefl, Int.toNat_one, Int.toNat_zero, Bool.false_eq_true, reduceIte, reduceCtorEq, Nat.reduceAdd, Nat.reduceMul, Nat.reduceSub, Nat.reduceLT, Nat.reduceLeDiff, Nat.reduceEqDiff, Int.reduceNeg, Int.reduceAdd, Int.reduceMul, Int.reduceSub, Int.reduceLT, Int.reduceLE, Int.reduceEq, Int.reduceToNat, Int.reduceNatCast, icl, ico, inz, Nat.not_lt_zero]
        exact this
    rw [wi_43_2]
    by_cases e0 : r = 0
    · have hQ := hQ0 e0
      have hz : ¬ (0 : Int) < (r : Int) := by omega
      have := hread M p rfl (Nat.le_refl _) hpB hat (fun _ _ => rfl) (fun _ _ => rfl) (by rw [if_pos e0, Nat.sub_zero]; exact hQ)
      revert this
      simp (disch := first | assumption | omega | exact il_cqA _ _ | exact il_cqB _ _) only [wi_43_0, wi_43_1, wi_43_3, wi_43_6, wi_43_9, wi_43_10, wi_43_13, wi_43_14, wi_43_17, wi_43_20, wi_43_21, wi_43_22, wi_43_23, wi_43_24, wi_43_25, wi_43_28, wi_43_29, wi_43_30, wi_43_33, wi_43_36, wi_43_37, wi_43_38, wi_43_39, wi_43_40, wi_43_43, wi_43_44, wi_43_45, wi_43_48, wi_43_49, wi_43_50, wi_43_53, wi_43_56, wi_43_59, wi_43_60, io_add_o, io_sub_o, io_mul_o, io_neg_o, io_and_r, io_or_r, io_xor_r, io_nd_r, io_shr_r, io_shl1, io_i2b_r, io_i2l_o, io_l2i_o, il_add_o, il_sub_o, il_mul_o, il_neg_o, ib_bit, Int.toNat_natCast, true_implies, false_implies, implies_true, and_true, true_and, and_self, not_true_eq_false, not_false_eq_true, wa_0, wa_1, il_cmp_o, il_cmp0, il_cmp1, il_cmp2, io_bit1, ibt0, ibt1, ibt00, ibt11, ibt10, ibt01, Int.ofNat_lt, Int.ofNat_le, Int.ofNat_inj, Nat.lt_irrefl, Int.lt_irrefl, Int.toNat_one, Int.toNat_zero, Bool.false_eq_true, reduceIte, reduceCtorEq, Nat.reduceAdd, Nat.reduceMul, Nat.reduceSub, Nat.reduceLT, Nat.reduceLeDiff, Nat.reduceEqDiff, Int.reduceNeg, Int.reduceAdd, Int.reduceMul, Int.reduceSub, Int.reduceLT, Int.reduceLE, Int.reduceEq, Int.reduceToNat, Int.reduceNatCast, icl, ico, inz, Nat.not_lt_zero, hr4, hz, h3']
      exact id
    · have hQ := hQ1 e0
      have hz : (0 : Int) < (r : Int) := by omega
      unfold qmk2 at hQ
      rw [if_neg e0] at hQ
      by_cases hdg : qws X B p < B ∧ qdi X (qws X B p) = true
      · have hb : (decide (qws X B p < B) && qdi X (qws X B p)) = true := by rw [hdg.2, decide_eq_true hdg.1]; rfl
        rw [if_pos hdg] at hQ
        have := hread (gg_up M 76 5 (qws X B p : Int)) (qws X B p) (qnumb_ws hpB) hws.1 hws.2 gu_e (fun j hj => gu_n hj) (fun f hf => gu_s hf) (by rw [if_neg e0]; exact hQ)
        revert this
        simp (disch := first | assumption | omega | exact il_cqA _ _ | exact il_cqB _ _) only [wi_43_0, wi_43_1, wi_43_3, wi_43_6, wi_43_9, wi_43_10, wi_43_13, wi_43_14, wi_43_17, wi_43_20, wi_43_21, wi_43_22, wi_43_23, wi_43_24, wi_43_25, wi_43_28, wi_43_29, wi_43_30, wi_43_33, wi_43_36, wi_43_37, wi_43_38, wi_43_39, wi_43_40, wi_43_43, wi_43_44, wi_43_45, wi_43_48, wi_43_49, wi_43_50, wi_43_53, wi_43_56, wi_43_59, wi_43_60, io_add_o, io_sub_o, io_mul_o, io_neg_o, io_and_r, io_or_r, io_xor_r, io_nd_r, io_shr_r, io_shl1, io_i2b_r, io_i2l_o, io_l2i_o, il_add_o, il_sub_o, il_mul_o, il_neg_o, ib_bit, Int.toNat_natCast, true_implies, false_implies, implies_true, and_true, true_and, and_self, not_true_eq_false, not_false_eq_true, wa_0, wa_1, il_cmp_o, il_cmp0, il_cmp1, il_cmp2, io_bit1, ibt0, ibt1, ibt00, ibt11, ibt10, ibt01, Int.ofNat_lt, Int.ofNat_le, Int.ofNat_inj, Nat.lt_irrefl, Int.lt_irrefl, Int.toNat_one, Int.toNat_zero, Bool.false_eq_true, reduceIte, reduceCtorEq, Nat.reduceAdd, Nat.reduceMul, Nat.reduceSub, Nat.reduceLT, Nat.reduceLeDiff, Nat.reduceEqDiff, Int.reduceNeg, Int.reduceAdd, Int.reduceMul, Int.reduceSub, Int.reduceLT, Int.reduceLE, Int.reduceEq, Int.reduceToNat, Int.reduceNatCast, icl, ico, inz, Nat.not_lt_zero, hr4, hz, wp_isAtDigit hC hpB hat, hb, gu_n, h3']
        exact id
      · have hb : (decide (qws X B p < B) && qdi X (qws X B p)) = false := by
          cases h1 : qdi X (qws X B p)
          · exact Bool.and_false _
          · rw [decide_eq_false (fun h => hdg ⟨h, h1⟩)]
            rfl
        rw [if_neg hdg] at hQ
        have hpp := hrp2 e0
        have := hQ (gg_up M 76 5 (qws X B p : Int)) (qf9_76 (fun j hj => gu_n hj) (gu_s (by decide)) (gu_s (by decide))) (gu_s (by decide)) gu_e (q_C_e hD fun j j1 j2 => gu_n (by omega)) (qok_setS hG hS) (by omega) hws.2
        simp (disch := first | assumption | omega | exact il_cqA _ _ | exact il_cqB _ _) only [wi_43_0, wi_43_1, wi_43_3, wi_43_6, wi_43_9, wi_43_10, wi_43_13, wi_43_14, wi_43_17, wi_43_20, wi_43_21, wi_43_22, wi_43_23, wi_43_24, wi_43_25, wi_43_28, wi_43_29, wi_43_30, wi_43_33, wi_43_36, wi_43_37, wi_43_38, wi_43_39, wi_43_40, wi_43_43, wi_43_44, wi_43_45, wi_43_48, wi_43_49, wi_43_50, wi_43_53, wi_43_56, wi_43_59, wi_43_60, io_add_o, io_sub_o, io_mul_o, io_neg_o, io_and_r, io_or_r, io_xor_r, io_nd_r, io_shr_r, io_shl1, io_i2b_r, io_i2l_o, io_l2i_o, il_add_o, il_sub_o, il_mul_o, il_neg_o, ib_bit, Int.toNat_natCast, true_implies, false_implies, implies_true, and_true, true_and, and_self, not_true_eq_false, not_false_eq_true, wa_0, wa_1, il_cmp_o, il_cmp0, il_cmp1, il_cmp2, io_bit1, ibt0, ibt1, ibt00, ibt11, ibt10, ibt01, Int.ofNat_lt, Int.ofNat_le, Int.ofNat_inj, Nat.lt_irrefl, Int.lt_irrefl, Int.toNat_one, Int.toNat_zero, Bool.false_eq_true, reduceIte, reduceCtorEq, Nat.reduceAdd, Nat.reduceMul, Nat.reduceSub, Nat.reduceLT, Nat.reduceLeDiff, Nat.reduceEqDiff, Int.reduceNeg, Int.reduceAdd, Int.reduceMul, Int.reduceSub, Int.reduceLT, Int.reduceLE, Int.reduceEq, Int.reduceToNat, Int.reduceNatCast, icl, ico, inz, Nat.not_lt_zero, hr4, hz, wp_isAtDigit hC hpB hat, hb]
        exact this
theorem wp_readStmt {M : gg_M} {p : Nat} (hG : q_ok G) (hD : q_C M 9 G) (hC : qt_C M X B) (hpB : p ≤ B) (hat : M 76 5 = (p : Int)) (hQ : qres M cc cs B p (qp_stmt X B G p) Q) :
    wp N xs (d + 6) 41 0 [gr 76, gr 9] [] (gk_R, M, 142, cc, cs) Q := by
  have hg9 := gs_G9
  obtain ⟨⟨h1, h2, h3, h4, h5⟩, hF, hT, hA, hW, hP, hO⟩ := id hD
  obtain ⟨⟨k1, k2, k3, k4, k5, k6, k7, k8⟩, hk, hp, hp2⟩ := id hG
  obtain ⟨r1, r2⟩ := qwe_rg (X := X) hpB
  obtain ⟨r3, r4⟩ := qws_rg (X := X) hpB
  have hmk : ∀ M1 : gg_M, (∀ j, j ≠ 76 → M1 j = M j) → (∀ f, f ≠ 5 → f ≠ 6 → M1 76 f = M 76 f) → M1 76 6 = (qws X B p : Int) → qp_stmt X B G p = .error (1, qws X B p) → Q ((1, (0, 0)), (gk_R, gg_up (gg_up M1 76 2 1) 76 3 (qws X B p : Int), 142, cc, cs)) := fun M1 g1 g2 g4 he => by
    rw [he] at hQ
    exact hQ _ (qf9_t (qf9_76 g1 (g2 1 (by decide) (by decide)) (g2 4 (by decide) (by decide))) ⟨fun j _ hj => by rw [gu_n hj, gu_n hj], by rw [gu_s (by decide), gu_s (by decide)], by rw [gu_s (by decide), gu_s (by decide)]⟩) (by rw [gu_s (by decide), gu_e]; rfl) gu_e
  simp (disch := first | assumption | omega | exact il_cqA _ _ | exact il_cqB _ _) only [wi_41_0, wi_41_1, wi_41_4, wi_41_7, wi_41_8, wi_41_9, wi_41_10, wi_41_12, wi_41_15, wi_41_18, wi_41_19, wi_41_22, wi_41_24, wi_41_27, wi_41_28, wi_41_29, wi_41_32, wi_41_35, wi_41_36, wi_41_37, wi_41_38, wi_41_41, wi_41_44, wi_41_45, wi_41_46, wi_41_48, wi_41_51, wi_41_54, wi_41_55, wi_41_56, wi_41_59, wi_41_62, wi_41_63, wi_41_64, wi_41_65, wi_41_68, wi_41_71, io_add_o, io_sub_o, io_mul_o, io_neg_o, io_and_r, io_or_r, io_xor_r, io_nd_r, io_shr_r, io_shl1, io_i2b_r, io_i2l_o, io_l2i_o, il_add_o, il_sub_o, il_mul_o, il_neg_o, ib_bit, Int.toNat_natCast, true_implies, false_implies, implies_true, and_true, true_and, and_self, not_true_eq_false, not_false_eq_true, wa_0, wa_1, il_cmp_o, il_cmp0, il_cmp1, il_cmp2, io_bit1, ibt0, ibt1, ibt00, ibt11, ibt10, ibt01, Int.ofNat_lt, Int.ofNat_le, Int.ofNat_inj, Nat.lt_irrefl, Int.lt_irrefl, Int.toNat_one, Int.toNat_zero, Bool.false_eq_true, reduceIte, reduceCtorEq, Nat.reduceAdd, Nat.reduceMul, Nat.reduceSub, Nat.reduceLT, Nat.reduceLeDiff, Nat.reduceEqDiff, Int.reduceNeg, Int.reduceAdd, Int.reduceMul, Int.reduceSub, Int.reduceLT, Int.reduceLE, Int.reduceEq, Int.reduceToNat, Int.reduceNatCast, icl, ico, inz, Nat.not_lt_zero]
  refine wp_readWord (p := p) hC hpB hat (fun e1 e2 M1 g1 g2 g3 g4 => ?_) (fun hn M1 g1 g2 g3 g4 => ?_)
  · have hC1 : qt_C M1 X B := qt_C_e hC (g2 1 (by decide) (by decide)) (g1 77 (by decide))
    have hf1 : qf9 M M1 := qf9_76 g1 (g2 1 (by decide) (by decide)) (g2 4 (by decide) (by decide))
    have hD1 : q_C M1 9 G := q_C_e hD fun j j1 j2 => g1 j (by omega)
    have n3 := hD1.1.2.2.1
    have hlt : qws X B p < qwe X B p := by
      unfold qwe
      rw [qend_s e1 e2]
      have := (qend_rg (f := qle X) (B := B) (p := qws X B p + 1) (by omega)).1
      omega
    cases hw : qword X (qws X B p) (qwe X B p) 1
    · cases hw2 : qword X (qws X B p) (qwe X B p) 2
      · have he : qp_stmt X B G p = .error (1, qws X B p) := by
          unfold qp_stmt
          rw [if_neg (by rw [hw]; decide), if_neg (by rw [hw2]; decide)]
        have := hmk M1 g1 g2 g4 he
        simp (disch := first | assumption | omega | exact il_cqA _ _ | exact il_cqB _ _) only [wi_41_0, wi_41_1, wi_41_4, wi_41_7, wi_41_8, wi_41_9, wi_41_10, wi_41_12, wi_41_15, wi_41_18, wi_41_19, wi_41_22, wi_41_24, wi_41_27, wi_41_28, wi_41_29, wi_41_32, wi_41_35, wi_41_36, wi_41_37, wi_41_38, wi_41_41, wi_41_44, wi_41_45, wi_41_46, wi_41_48, wi_41_51, wi_41_54, wi_41_55, wi_41_56, wi_41_59, wi_41_62, wi_41_63, wi_41_64, wi_41_65, wi_41_68, wi_41_71, io_add_o, io_sub_o, io_mul_o, io_neg_o, io_and_r, io_or_r, io_xor_r, io_nd_r, io_shr_r, io_shl1, io_i2b_r, io_i2l_o, io_l2i_o, il_add_o, il_sub_o, il_mul_o, il_neg_o, ib_bit, Int.toNat_natCast, true_implies, false_implies, implies_true, and_true, true_and, and_self, not_true_eq_false, not_false_eq_true, wa_0, wa_1, il_cmp_o, il_cmp0, il_cmp1, il_cmp2, io_bit1, ibt0, ibt1, ibt00, ibt11, ibt10, ibt01, Int.ofNat_lt, Int.ofNat_le, Int.ofNat_inj, Nat.lt_irrefl, Int.lt_irrefl, Int.toNat_one, Int.toNat_zero, Bool.false_eq_true, reduceIte, reduceCtorEq, Nat.reduceAdd, Nat.reduceMul, Nat.reduceSub, Nat.reduceLT, Nat.reduceLeDiff, Nat.reduceEqDiff, Int.reduceNeg, Int.reduceAdd, Int.reduceMul, Int.reduceSub, Int.reduceLT, Int.reduceLE, Int.reduceEq, Int.reduceToNat, Int.reduceNatCast, icl, ico, inz, Nat.not_lt_zero, wp_isWord (s := 1) (by decide) hC1 r1 r2 g3 g4, hw, wp_isWord (s := 2) (by decide) hC1 r1 r2 g3 g4, hw2, g4, wp_fail]
        exact this
      · have he : qp_stmt X B G p = qp_marks X B G 401 (qS G) (qwe X B p) := by
          unfold qp_stmt
          rw [if_neg (by rw [hw]; decide), if_pos hw2]
        rw [he] at hQ
        have hQ' := qres_weak hQ hf1 (g2 2 (by decide) (by decide)) (show p ≤ qwe X B p by omega)
        have hDS : q_C M1 9 (qsetS G (qS G)) := hD1
        simp (disch := first | assumption | omega | exact il_cqA _ _ | exact il_cqB _ _) only [wi_41_0, wi_41_1, wi_41_4, wi_41_7, wi_41_8, wi_41_9, wi_41_10, wi_41_12, wi_41_15, wi_41_18, wi_41_19, wi_41_22, wi_41_24, wi_41_27, wi_41_28, wi_41_29, wi_41_32, wi_41_35, wi_41_36, wi_41_37, wi_41_38, wi_41_41, wi_41_44, wi_41_45, wi_41_46, wi_41_48, wi_41_51, wi_41_54, wi_41_55, wi_41_56, wi_41_59, wi_41_62, wi_41_63, wi_41_64, wi_41_65, wi_41_68, wi_41_71, io_add_o, io_sub_o, io_mul_o, io_neg_o, io_and_r, io_or_r, io_xor_r, io_nd_r, io_shr_r, io_shl1, io_i2b_r, io_i2l_o, io_l2i_o, il_add_o, il_sub_o, il_mul_o, il_neg_o, ib_bit, Int.toNat_natCast, true_implies, false_implies, implies_true, and_true, true_and, and_self, not_true_eq_false, not_false_eq_true, wa_0, wa_1, il_cmp_o, il_cmp0, il_cmp1, il_cmp2, io_bit1, ibt0, ibt1, ibt00, ibt11, ibt10, ibt01, Int.ofNat_lt, Int.ofNat_le, Int.ofNat_inj, Nat.lt_irrefl, Int.lt_irrefl, Int.toNat_one, Int.toNat_zero, Bool.false_eq_true, reduceIte, reduceCtorEq, Nat.reduceAdd, Nat.reduceMul, Nat.reduceSub, Nat.reduceLT, Nat.reduceLeDiff, Nat.reduceEqDiff, Int.reduceNeg, Int.reduceAdd, Int.reduceMul, Int.reduceSub, Int.reduceLT, Int.reduceLE, Int.reduceEq, Int.reduceToNat, Int.reduceNatCast, icl, ico, inz, Nat.not_lt_zero, wp_isWord (s := 1) (by decide) hC1 r1 r2 g3 g4, hw, wp_isWord (s := 2) (by decide) hC1 r1 r2 g3 g4, hw2]
        rw [wi_43_0, wi_43_1]
        refine wp_readMarks (G := G) 401 0 (qS G) (qwe X B p) M1 _ (by decide) (by omega) (fun h => absurd rfl h) hG k6 hDS hC1 r2 g3 (fun _ => ?_) (fun h => absurd rfl h)
        revert hQ'
        cases qp_marks X B G 401 (qS G) (qwe X B p) with
        | ok a =>
          obtain ⟨G', p'⟩ := a
          intro hQ' M' i1 i2 i3 i4 i5 i6 i7
          have := hQ' M' i1 i2 i3 i4 i5 i6 i7
          simp (disch := first | assumption | omega | exact il_cqA _ _ | exact il_cqB _ _) only [wi_41_0, wi_41_1, wi_41_4, wi_41_7, wi_41_8, wi_41_9, wi_41_10, wi_41_12, wi_41_15, wi_41_18, wi_41_19, wi_41_22, wi_41_24, wi_41_27, wi_41_28, wi_41_29, wi_41_32, wi_41_35, wi_41_36, wi_41_37, wi_41_38, wi_41_41, wi_41_44, wi_41_45, wi_41_46, wi_41_48, wi_41_51, wi_41_54, wi_41_55, wi_41_56, wi_41_59, wi_41_62, wi_41_63, wi_41_64, wi_41_65, wi_41_68, wi_41_71, io_add_o, io_sub_o, io_mul_o, io_neg_o, io_and_r, io_or_r, io_xor_r, io_nd_r, io_shr_r, io_shl1, io_i2b_r, io_i2l_o, io_l2i_o, il_add_o, il_sub_o, il_mul_o, il_neg_o, ib_bit, Int.toNat_natCast, true_implies, false_implies, implies_true, and_true, true_and, and_self, not_true_eq_false, not_false_eq_true, wa_0, wa_1, il_cmp_o, il_cmp0, il_cmp1, il_cmp2, io_bit1, ibt0, ibt1, ibt00, ibt11, ibt10, ibt01, Int.ofNat_lt, Int.ofNat_le, Int.ofNat_inj, Nat.lt_irrefl, Int.lt_irrefl, Int.toNat_one, Int.toNat_zero, Bool.false_eq_true, reduceIte, reduceCtorEq, Nat.reduceAdd, Nat.reduceMul, Nat.reduceSub, Nat.reduceLT, Nat.reduceLeDiff, Nat.reduceEqDiff, Int.reduceNeg, Int.reduceAdd, Int.reduceMul, Int.reduceSub, Int.reduceLT, Int.reduceLE, Int.reduceEq, Int.reduceToNat, Int.reduceNatCast, icl, ico, inz, Nat.not_lt_zero]
          exact this
        | error a =>
          obtain ⟨kd, q⟩ := a
          intro hQ' M' i1 i2 i3
          have := hQ' M' i1 i2 i3
          simp (disch := first | assumption | omega | exact il_cqA _ _ | exact il_cqB _ _) only [wi_41_0, wi_41_1, wi_41_4, wi_41_7, wi_41_8, wi_41_9, wi_41_10, wi_41_12, wi_41_15, wi_41_18, wi_41_19, wi_41_22, wi_41_24, wi_41_27, wi_41_28, wi_41_29, wi_41_32, wi_41_35, wi_41_36, wi_41_37, wi_41_38, wi_41_41, wi_41_44, wi_41_45, wi_41_46, wi_41_48, wi_41_51, wi_41_54, wi_41_55, wi_41_56, wi_41_59, wi_41_62, wi_41_63, wi_41_64, wi_41_65, wi_41_68, wi_41_71, io_add_o, io_sub_o, io_mul_o, io_neg_o, io_and_r, io_or_r, io_xor_r, io_nd_r, io_shr_r, io_shl1, io_i2b_r, io_i2l_o, io_l2i_o, il_add_o, il_sub_o, il_mul_o, il_neg_o, ib_bit, Int.toNat_natCast, true_implies, false_implies, implies_true, and_true, true_and, and_self, not_true_eq_false, not_false_eq_true, wa_0, wa_1, il_cmp_o, il_cmp0, il_cmp1, il_cmp2, io_bit1, ibt0, ibt1, ibt00, ibt11, ibt10, ibt01, Int.ofNat_lt, Int.ofNat_le, Int.ofNat_inj, Nat.lt_irrefl, Int.lt_irrefl, Int.toNat_one, Int.toNat_zero, Bool.false_eq_true, reduceIte, reduceCtorEq, Nat.reduceAdd, Nat.reduceMul, Nat.reduceSub, Nat.reduceLT, Nat.reduceLeDiff, Nat.reduceEqDiff, Int.reduceNeg, Int.reduceAdd, Int.reduceMul, Int.reduceSub, Int.reduceLT, Int.reduceLE, Int.reduceEq, Int.reduceToNat, Int.reduceNatCast, icl, ico, inz, Nat.not_lt_zero]
          exact this
    · have he : qp_stmt X B G p = qp_arc X B G (qws X B p) (qwe X B p) := by
        unfold qp_stmt
        rw [if_pos hw]
      rw [he] at hQ
      by_cases hK : qK G < 12
      · have hQ' := qres_weak hQ hf1 (g2 2 (by decide) (by decide)) (show p ≤ qwe X B p by omega)
        simp (disch := first | assumption | omega | exact il_cqA _ _ | exact il_cqB _ _) only [wi_41_0, wi_41_1, wi_41_4, wi_41_7, wi_41_8, wi_41_9, wi_41_10, wi_41_12, wi_41_15, wi_41_18, wi_41_19, wi_41_22, wi_41_24, wi_41_27, wi_41_28, wi_41_29, wi_41_32, wi_41_35, wi_41_36, wi_41_37, wi_41_38, wi_41_41, wi_41_44, wi_41_45, wi_41_46, wi_41_48, wi_41_51, wi_41_54, wi_41_55, wi_41_56, wi_41_59, wi_41_62, wi_41_63, wi_41_64, wi_41_65, wi_41_68, wi_41_71, io_add_o, io_sub_o, io_mul_o, io_neg_o, io_and_r, io_or_r, io_xor_r, io_nd_r, io_shr_r, io_shl1, io_i2b_r, io_i2l_o, io_l2i_o, il_add_o, il_sub_o, il_mul_o, il_neg_o, ib_bit, Int.toNat_natCast, true_implies, false_implies, implies_true, and_true, true_and, and_self, not_true_eq_false, not_false_eq_true, wa_0, wa_1, il_cmp_o, il_cmp0, il_cmp1, il_cmp2, io_bit1, ibt0, ibt1, ibt00, ibt11, ibt10, ibt01, Int.ofNat_lt, Int.ofNat_le, Int.ofNat_inj, Nat.lt_irrefl, Int.lt_irrefl, Int.toNat_one, Int.toNat_zero, Bool.false_eq_true, reduceIte, reduceCtorEq, Nat.reduceAdd, Nat.reduceMul, Nat.reduceSub, Nat.reduceLT, Nat.reduceLeDiff, Nat.reduceEqDiff, Int.reduceNeg, Int.reduceAdd, Int.reduceMul, Int.reduceSub, Int.reduceLT, Int.reduceLE, Int.reduceEq, Int.reduceToNat, Int.reduceNatCast, icl, ico, inz, Nat.not_lt_zero, wp_isWord (s := 1) (by decide) hC1 r1 r2 g3 g4, hw, n3, hK]
        refine wp_readArc (b := qws X B p) (p := qwe X B p) hK hG hD1 hC1 r2 g3 ?_
        revert hQ'
        cases qp_arc X B G (qws X B p) (qwe X B p) with
        | ok a =>
          obtain ⟨G', p'⟩ := a
          intro hQ' M' i1 i2 i3 i4 i5 i6 i7
          have := hQ' M' i1 i2 i3 i4 i5 i6 i7
          simp (disch := first | assumption | omega | exact il_cqA _ _ | exact il_cqB _ _) only [wi_41_0, wi_41_1, wi_41_4, wi_41_7, wi_41_8, wi_41_9, wi_41_10, wi_41_12, wi_41_15, wi_41_18, wi_41_19, wi_41_22, wi_41_24, wi_41_27, wi_41_28, wi_41_29, wi_41_32, wi_41_35, wi_41_36, wi_41_37, wi_41_38, wi_41_41, wi_41_44, wi_41_45, wi_41_46, wi_41_48, wi_41_51, wi_41_54, wi_41_55, wi_41_56, wi_41_59, wi_41_62, wi_41_63, wi_41_64, wi_41_65, wi_41_68, wi_41_71, io_add_o, io_sub_o, io_mul_o, io_neg_o, io_and_r, io_or_r, io_xor_r, io_nd_r, io_shr_r, io_shl1, io_i2b_r, io_i2l_o, io_l2i_o, il_add_o, il_sub_o, il_mul_o, il_neg_o, ib_bit, Int.toNat_natCast, true_implies, false_implies, implies_true, and_true, true_and, and_self, not_true_eq_false, not_false_eq_true, wa_0, wa_1, il_cmp_o, il_cmp0, il_cmp1, il_cmp2, io_bit1, ibt0, ibt1, ibt00, ibt11, ibt10, ibt01, Int.ofNat_lt, Int.ofNat_le, Int.ofNat_inj, Nat.lt_irrefl, Int.lt_irrefl, Int.toNat_one, Int.toNat_zero, Bool.false_eq_true, reduceIte, reduceCtorEq, Nat.reduceAdd, Nat.reduceMul, Nat.reduceSub, Nat.reduceLT, Nat.reduceLeDiff, Nat.reduceEqDiff, Int.reduceNeg, Int.reduceAdd, Int.reduceMul, Int.reduceSub, Int.reduceLT, Int.reduceLE, Int.reduceEq, Int.reduceToNat, Int.reduceNatCast, icl, ico, inz, Nat.not_lt_zero]
          exact this
        | error a =>
          obtain ⟨kd, q⟩ := a
          intro hQ' M' i1 i2 i3
          have := hQ' M' i1 i2 i3
          simp (disch := first | assumption | omega | exact il_cqA _ _ | exact il_cqB _ _) only [wi_41_0, wi_41_1, wi_41_4, wi_41_7, wi_41_8, wi_41_9, wi_41_10, wi_41_12, wi_41_15, wi_41_18, wi_41_19, wi_41_22, wi_41_24, wi_41_27, wi_41_28, wi_41_29, wi_41_32, wi_41_35, wi_41_36, wi_41_37, wi_41_38, wi_41_41, wi_41_44, wi_41_45, wi_41_46, wi_41_48, wi_41_51, wi_41_54, wi_41_55, wi_41_56, wi_41_59, wi_41_62, wi_41_63, wi_41_64, wi_41_65, wi_41_68, wi_41_71, io_add_o, io_sub_o, io_mul_o, io_neg_o, io_and_r, io_or_r, io_xor_r, io_nd_r, io_shr_r, io_shl1, io_i2b_r, io_i2l_o, io_l2i_o, il_add_o, il_sub_o, il_mul_o, il_neg_o, ib_bit, Int.toNat_natCast, true_implies, false_implies, implies_true, and_true, true_and, and_self, not_true_eq_false, not_false_eq_true, wa_0, wa_1, il_cmp_o, il_cmp0, il_cmp1, il_cmp2, io_bit1, ibt0, ibt1, ibt00, ibt11, ibt10, ibt01, Int.ofNat_lt, Int.ofNat_le, Int.ofNat_inj, Nat.lt_irrefl, Int.lt_irrefl, Int.toNat_one, Int.toNat_zero, Bool.false_eq_true, reduceIte, reduceCtorEq, Nat.reduceAdd, Nat.reduceMul, Nat.reduceSub, Nat.reduceLT, Nat.reduceLeDiff, Nat.reduceEqDiff, Int.reduceNeg, Int.reduceAdd, Int.reduceMul, Int.reduceSub, Int.reduceLT, Int.reduceLE, Int.reduceEq, Int.reduceToNat, Int.reduceNatCast, icl, ico, inz, Nat.not_lt_zero]
          exact this
      · have he2 : qp_arc X B G (qws X B p) (qwe X B p) = .error (3, qws X B p) := by
          unfold qp_arc
          rw [if_neg hK]
        rw [he2] at hQ
        have := hQ (gg_up (gg_up M1 76 2 3) 76 3 (qws X B p : Int)) (qf9_t hf1 ⟨fun j _ hj => by rw [gu_n hj, gu_n hj], by rw [gu_s (by decide), gu_s (by decide)], by rw [gu_s (by decide), gu_s (by decide)]⟩) (by rw [gu_s (by decide), gu_e]; rfl) gu_e
        simp (disch := first | assumption | omega | exact il_cqA _ _ | exact il_cqB _ _) only [wi_41_0, wi_41_1, wi_41_4, wi_41_7, wi_41_8, wi_41_9, wi_41_10, wi_41_12, wi_41_15, wi_41_18, wi_41_19, wi_41_22, wi_41_24, wi_41_27, wi_41_28, wi_41_29, wi_41_32, wi_41_35, wi_41_36, wi_41_37, wi_41_38, wi_41_41, wi_41_44, wi_41_45, wi_41_46, wi_41_48, wi_41_51, wi_41_54, wi_41_55, wi_41_56, wi_41_59, wi_41_62, wi_41_63, wi_41_64, wi_41_65, wi_41_68, wi_41_71, io_add_o, io_sub_o, io_mul_o, io_neg_o, io_and_r, io_or_r, io_xor_r, io_nd_r, io_shr_r, io_shl1, io_i2b_r, io_i2l_o, io_l2i_o, il_add_o, il_sub_o, il_mul_o, il_neg_o, ib_bit, Int.toNat_natCast, true_implies, false_implies, implies_true, and_true, true_and, and_self, not_true_eq_false, not_false_eq_true, wa_0, wa_1, il_cmp_o, il_cmp0, il_cmp1, il_cmp2, io_bit1, ibt0, ibt1, ibt00, ibt11, ibt10, ibt01, Int.ofNat_lt, Int.ofNat_le, Int.ofNat_inj, Nat.lt_irrefl, Int.lt_irrefl, Int.toNat_one, Int.toNat_zero, Bool.false_eq_true, reduceIte, reduceCtorEq, Nat.reduceAdd, Nat.reduceMul, Nat.reduceSub, Nat.reduceLT, Nat.reduceLeDiff, Nat.reduceEqDiff, Int.reduceNeg, Int.reduceAdd, Int.reduceMul, Int.reduceSub, Int.reduceLT, Int.reduceLE, Int.reduceEq, Int.reduceToNat, Int.reduceNatCast, icl, ico, inz, Nat.not_lt_zero, wp_isWord (s := 1) (by decide) hC1 r1 r2 g3 g4, hw, n3, hK, g4, wp_fail]
        exact this
  · have hq := qwe_none hn
    have hw : qword X (qws X B p) (qwe X B p) 1 = false := by rw [hq]; exact qword_0 X _ (by decide)
    have hw2 : qword X (qws X B p) (qwe X B p) 2 = false := by rw [hq]; exact qword_0 X _ (by decide)
    have he : qp_stmt X B G p = .error (1, qws X B p) := by
      unfold qp_stmt
      rw [if_neg (by rw [hw]; decide), if_neg (by rw [hw2]; decide)]
    rw [he] at hQ
    have := hQ M1 (qf9_76 g1 (g2 1 (by decide) (by decide) (by decide)) (g2 4 (by decide) (by decide) (by decide))) g3 g4
    simp (disch := first | assumption | omega | exact il_cqA _ _ | exact il_cqB _ _) only [wi_41_0, wi_41_1, wi_41_4, wi_41_7, wi_41_8, wi_41_9, wi_41_10, wi_41_12, wi_41_15, wi_41_18, wi_41_19, wi_41_22, wi_41_24, wi_41_27, wi_41_28, wi_41_29, wi_41_32, wi_41_35, wi_41_36, wi_41_37, wi_41_38, wi_41_41, wi_41_44, wi_41_45, wi_41_46, wi_41_48, wi_41_51, wi_41_54, wi_41_55, wi_41_56, wi_41_59, wi_41_62, wi_41_63, wi_41_64, wi_41_65, wi_41_68, wi_41_71, io_add_o, io_sub_o, io_mul_o, io_neg_o, io_and_r, io_or_r, io_xor_r, io_nd_r, io_shr_r, io_shl1, io_i2b_r, io_i2l_o, io_l2i_o, il_add_o, il_sub_o, il_mul_o, il_neg_o, ib_bit, Int.toNat_natCast, true_implies, false_implies, implies_true, and_true, true_and, and_self, not_true_eq_false, not_false_eq_true, wa_0, wa_1, il_cmp_o, il_cmp0, il_cmp1, il_cmp2, io_bit1, ibt0, ibt1, ibt00, ibt11, ibt10, ibt01, Int.ofNat_lt, Int.ofNat_le, Int.ofNat_inj, Nat.lt_irrefl, Int.lt_irrefl, Int.toNat_one, Int.toNat_zero, Bool.false_eq_true, reduceIte, reduceCtorEq, Nat.reduceAdd, Nat.reduceMul, Nat.reduceSub, Nat.reduceLT, Nat.reduceLeDiff, Nat.reduceEqDiff, Int.reduceNeg, Int.reduceAdd, Int.reduceMul, Int.reduceSub, Int.reduceLT, Int.reduceLE, Int.reduceEq, Int.reduceToNat, Int.reduceNatCast, icl, ico, inz, Nat.not_lt_zero]
    exact this
end SG
