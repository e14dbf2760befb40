/-! the model reads marks, statements, all -/
theorem qp_marks_ws2 {X : Nat → Nat} {B : Nat} {G : q_G} {k S p : Nat} (hp : p ≤ B) (hk : 1 ≤ k) : qp_marks X B G k S (qws X B p) = qp_marks X B G k S p := by
  cases k with
  | zero => omega
  | succ k => exact qp_marks_ws hp
section SG
variable {N : Nat} {xs : Nat → Int32} {d : Nat} {cc cs : Nat} {Q : gg_O → Prop} {X : Nat → Nat} {B : Nat} {G : q_G}
theorem qresV_weak {M M1 : gg_M} {p p1 : Nat} {r : Except (Nat × Nat) (q_G × Nat)} (h : qresV M cc cs B p r Q) (hf : qfm M M1) (hp : p ≤ p1) : qresV M1 cc cs B p1 r Q := by
  cases r with
  | ok a =>
    obtain ⟨G', p'⟩ := a
    exact fun M' g1 g2 g3 g4 g5 g6 g7 => h M' (qfm_t hf g1) g2 g3 g4 g5 (by omega) g7
  | error a =>
    obtain ⟨k, q⟩ := a
    exact fun M' g1 g2 g3 g4 g5 => h M' (qfm_t hf g1) g2 g3 g4 g5
theorem q_R_setS {R R' : Nat → Int} {G : q_G} {S : Nat} (hG : q_ok G) (h : q_R R G) (h3 : R' 3 = (S : Int)) (ho : ∀ p, p ≠ 3 → R' p = R p) : q_R R' (qsetS G S) := by
  obtain ⟨⟨g1, g2, g3, g4, g5⟩, hF, hT, hA, hW, hPa, hO⟩ := h
  refine ⟨⟨?_, ?_, ?_, ?_, ?_⟩, fun b hb => ?_, fun b hb => ?_, fun b hb => ?_, fun b hb => ?_, fun u hu => ?_, fun t ht => ?_⟩
  · rw [ho 0 (by decide)]; exact g1
  · rw [ho 1 (by decide)]; exact g2
  · rw [ho 2 (by decide)]; exact g3
  · rw [h3]; rfl
  · rw [ho 4 (by decide)]; exact g5
  · rw [ho _ (by omega)]; exact hF b hb
  · rw [ho _ (by omega)]; exact hT b hb
  · rw [ho _ (by omega)]; exact hA b hb
  · rw [ho _ (by omega)]; exact hW b hb
  · rw [ho _ (by omega)]; exact hPa u hu
  · rw [ho _ (by omega)]; exact hO t ht
theorem wp_mmarkPart (k : Nat) : ∀ (S p p0 : Nat) (M : gg_M) (Q : gg_O → Prop) (l1 : gg_V), B < p + k → q_ok G → S < 2 ^ qK G → q_R (M 144) (qsetS G S) → qt_V M X B → p ≤ B → p0 ≤ p → M 142 10 = (p : Int) → M 142 12 = 0 → qresV M cc cs B p0 (qp_marks X B G k S p) Q →
    wp N xs (d + 3) 185 0 [gr 142, l1] [] (gk_R, M, 158, cc, cs) Q := by
  induction k with
  | zero =>
    intro S p p0 M Q l1 hk hG hS hR hV hpB
    omega
  | succ k ih =>
    intro S p p0 M Q l1 hk hG hS hR hV hpB hp0 hat he hQ
    have h3' := hR.1.2.2.1
    have h3 : M 144 2 = (qK G : Int) := h3'
    have k5 := hG.1.2.2.2.2.1
    have hp2 := two_le k5
    unfold qp_marks at hQ
    rw [wi_185_0]
    simp (disch := first | assumption | omega | exact il_cqA _ _ | exact il_cqB _ _) only [wi_185_1, wi_185_2, wi_185_3, wi_185_6, wi_185_7, wi_185_8, wi_185_9, wi_185_10, wi_185_13, wi_185_14, wi_185_15, wi_185_18, wi_185_21, wi_185_22, wi_185_25, wi_185_26, wi_185_27, wi_185_28, wi_185_29, wi_185_30, wi_185_31, wi_185_32, wi_185_33, wi_185_34, wi_185_37, wi_185_40, wi_185_41, wi_185_44, wi_185_45, wi_185_48, wi_185_51, wi_185_54, wi_185_57, io_add_o, io_sub_o, io_mul_o, io_neg_o, io_and_r, io_or_r, io_xor_r, io_nd_r, io_shr_r, io_shl1, io_i2b_r, io_i2l_o, io_l2i_o, il_add_o, il_sub_o, il_mul_o, il_neg_o, ib_bit, Int.toNat_natCast, true_implies, false_implies, implies_true, and_true, true_and, and_self, not_true_eq_false, not_false_eq_true, wa_0, wa_1, il_cmp_o, il_cmp0, il_cmp1, il_cmp2, io_bit1, ibt0, ibt1, ibt00, ibt11, ibt10, ibt01, Int.ofNat_lt, Int.ofNat_le, Int.ofNat_inj, Nat.lt_irrefl, Int.lt_irrefl, Int.toNat_one, Int.toNat_zero, Bool.false_eq_true, reduceIte, reduceCtorEq, Nat.reduceAdd, Nat.reduceMul, Nat.reduceSub, Nat.reduceLT, Nat.reduceLeDiff, Nat.reduceEqDiff, Int.reduceNeg, Int.reduceAdd, Int.reduceMul, Int.reduceSub, Int.reduceLT, Int.reduceLE, Int.reduceEq, Int.reduceToNat, Int.reduceNatCast, icl, ico, inz, Nat.not_lt_zero, h3]
    refine wp_number (p := p) (lo := 0) (hi := (qK G : Int) - 1) (by decide) (by decide) (by omega) (by omega) hV hpB hat he (fun v e hok l1 l2 M1 a1 a2 a3 => ?_) (fun kd q herr M1 a1 a2 a3 a4 a5 a6 => ?_)
    · simp only [hok] at hQ
      obtain ⟨v1, v2⟩ := qnumb_rg hok
      have hv : v < qK G := by omega
      have hS' := or_lt hS hv
      have x1 : 2 ^ v ≤ 2 ^ 12 := Nat.pow_le_pow_right (by decide) (by omega)
      have x1p : 1 ≤ 2 ^ v := Nat.one_le_two_pow
      have hV1 : qt_V M1 X B := qt_V_e hV (a2 9 (by decide) (by decide)) (a1 149 (by decide))
      have he1 : M1 142 12 = 0 := by rw [a2 12 (by decide) (by decide)]; exact he
      have s1 : M1 144 3 = (S : Int) := by rw [a1 144 (by decide)]; exact hR.1.2.2.2.1
      have hf1 : qfm M M1 := ⟨fun j a _ => a1 j a, fun f a b _ _ => a2 f a b⟩
      have hR2 : q_R (gg_up M1 144 3 ((S ||| 2 ^ v : Nat) : Int) 144) (qsetS G (S ||| 2 ^ v)) := q_R_setS (G := qsetS G S) (S := S ||| 2 ^ v) (qok_setS hG hS) hR gu_e (fun p hp => by rw [gu_s hp, a1 144 (by decide)])
      have hV2 : qt_V (gg_up M1 144 3 ((S ||| 2 ^ v : Nat) : Int)) X B := qt_V_e hV1 (by rw [gu_n (by decide)]) (gu_n (by decide))
      have hf2 : qfm M (gg_up M1 144 3 ((S ||| 2 ^ v : Nat) : Int)) := qfm_t hf1 qfm_144
      have he2 : gg_up M1 144 3 ((S ||| 2 ^ v : Nat) : Int) 142 12 = 0 := by rw [gu_n (by decide)]; exact he1
      have hat2 : gg_up M1 144 3 ((S ||| 2 ^ v : Nat) : Int) 142 10 = (e : Int) := by rw [gu_n (by decide)]; exact a3
      have hrw := qhv_rg (B := B) hV.2.2.1 (qws X B e)
      obtain ⟨w1, w2⟩ := qws_rg (X := X) l2
      simp (disch := first | assumption | omega | exact il_cqA _ _ | exact il_cqB _ _) only [wi_185_1, wi_185_2, wi_185_3, wi_185_6, wi_185_7, wi_185_8, wi_185_9, wi_185_10, wi_185_13, wi_185_14, wi_185_15, wi_185_18, wi_185_21, wi_185_22, wi_185_25, wi_185_26, wi_185_27, wi_185_28, wi_185_29, wi_185_30, wi_185_31, wi_185_32, wi_185_33, wi_185_34, wi_185_37, wi_185_40, wi_185_41, wi_185_44, wi_185_45, wi_185_48, wi_185_51, wi_185_54, wi_185_57, io_add_o, io_sub_o, io_mul_o, io_neg_o, io_and_r, io_or_r, io_xor_r, io_nd_r, io_shr_r, io_shl1, io_i2b_r, io_i2l_o, io_l2i_o, il_add_o, il_sub_o, il_mul_o, il_neg_o, ib_bit, Int.toNat_natCast, true_implies, false_implies, implies_true, and_true, true_and, and_self, not_true_eq_false, not_false_eq_true, wa_0, wa_1, il_cmp_o, il_cmp0, il_cmp1, il_cmp2, io_bit1, ibt0, ibt1, ibt00, ibt11, ibt10, ibt01, Int.ofNat_lt, Int.ofNat_le, Int.ofNat_inj, Nat.lt_irrefl, Int.lt_irrefl, Int.toNat_one, Int.toNat_zero, Bool.false_eq_true, reduceIte, reduceCtorEq, Nat.reduceAdd, Nat.reduceMul, Nat.reduceSub, Nat.reduceLT, Nat.reduceLeDiff, Nat.reduceEqDiff, Int.reduceNeg, Int.reduceAdd, Int.reduceMul, Int.reduceSub, Int.reduceLT, Int.reduceLE, Int.reduceEq, Int.reduceToNat, Int.reduceNatCast, icl, ico, inz, Nat.not_lt_zero, he1, s1]
      generalize gg_up M1 144 3 ((S ||| 2 ^ v : Nat) : Int) = W1 at *
      by_cases hdg : qws X B e < B ∧ qdi X (qws X B e) = true
      · have e1' : (48 : Int) ≤ qhv X B (qws X B e) ∧ qhv X B (qws X B e) ≤ 57 := qhv_di.2 hdg
        rw [if_pos hdg] at hQ
        rw [← qp_marks_ws2 l2 (by omega)] at hQ
        have hnx := ih (S ||| 2 ^ v) (qws X B e) p0 (gg_up (gg_up W1 142 10 (qws X B e : Int)) 142 11 (qws X B e : Int)) Q (0, (v : Int)) (by omega) hG hS' (by rw [gu_n (by decide), gu_n (by decide)]; exact hR2) (qt_V_u (qt_V_u hV2 (by decide)) (by decide)) w2 (by omega) (by rw [gu_s (by decide), gu_e]) (by rw [gu_s (by decide), gu_s (by decide)]; exact he2) (qresV_weak hQ (qfm_t hf2 (qfm_t (qfm_142 (by decide)) (qfm_142 (by decide)))) (Nat.le_refl _))
        simp (disch := first | assumption | omega | exact il_cqA _ _ | exact il_cqB _ _) only [wi_185_1, wi_185_2, wi_185_3, wi_185_6, wi_185_7, wi_185_8, wi_185_9, wi_185_10, wi_185_13, wi_185_14, wi_185_15, wi_185_18, wi_185_21, wi_185_22, wi_185_25, wi_185_26, wi_185_27, wi_185_28, wi_185_29, wi_185_30, wi_185_31, wi_185_32, wi_185_33, wi_185_34, wi_185_37, wi_185_40, wi_185_41, wi_185_44, wi_185_45, wi_185_48, wi_185_51, wi_185_54, wi_185_57, io_add_o, io_sub_o, io_mul_o, io_neg_o, io_and_r, io_or_r, io_xor_r, io_nd_r, io_shr_r, io_shl1, io_i2b_r, io_i2l_o, io_l2i_o, il_add_o, il_sub_o, il_mul_o, il_neg_o, ib_bit, Int.toNat_natCast, true_implies, false_implies, implies_true, and_true, true_and, and_self, not_true_eq_false, not_false_eq_true, wa_0, wa_1, il_cmp_o, il_cmp0, il_cmp1, il_cmp2, io_bit1, ibt0, ibt1, ibt00, ibt11, ibt10, ibt01, Int.ofNat_lt, Int.ofNat_le, Int.ofNat_inj, Nat.lt_irrefl, Int.lt_irrefl, Int.toNat_one, Int.toNat_zero, Bool.false_eq_true, reduceIte, reduceCtorEq, Nat.reduceAdd, Nat.reduceMul, Nat.reduceSub, Nat.reduceLT, Nat.reduceLeDiff, Nat.reduceEqDiff, Int.reduceNeg, Int.reduceAdd, Int.reduceMul, Int.reduceSub, Int.reduceLT, Int.reduceLE, Int.reduceEq, Int.reduceToNat, Int.reduceNatCast, icl, ico, inz, Nat.not_lt_zero, he2, wp_next _ e W1 _ hV2 l2 rfl hat2, wp_in, if_pos e1']
        exact hnx
      · have e1' : ¬ ((48 : Int) ≤ qhv X B (qws X B e) ∧ qhv X B (qws X B e) ≤ 57) := fun h => hdg (qhv_di.1 h)
        rw [if_neg hdg] at hQ
        have := hQ (gg_up (gg_up W1 142 10 (qws X B e : Int)) 142 11 (qws X B e : Int)) (qfm_t hf2 (qfm_t (qfm_142 (by decide)) (qfm_142 (by decide)))) (by rw [gu_s (by decide), gu_s (by decide)]; exact he2) (by rw [gu_s (by decide), gu_e]) (by rw [gu_n (by decide), gu_n (by decide)]; exact hR2) (qok_setS hG hS') (by omega) w2
        simp (disch := first | assumption | omega | exact il_cqA _ _ | exact il_cqB _ _) only [wi_185_1, wi_185_2, wi_185_3, wi_185_6, wi_185_7, wi_185_8, wi_185_9, wi_185_10, wi_185_13, wi_185_14, wi_185_15, wi_185_18, wi_185_21, wi_185_22, wi_185_25, wi_185_26, wi_185_27, wi_185_28, wi_185_29, wi_185_30, wi_185_31, wi_185_32, wi_185_33, wi_185_34, wi_185_37, wi_185_40, wi_185_41, wi_185_44, wi_185_45, wi_185_48, wi_185_51, wi_185_54, wi_185_57, io_add_o, io_sub_o, io_mul_o, io_neg_o, io_and_r, io_or_r, io_xor_r, io_nd_r, io_shr_r, io_shl1, io_i2b_r, io_i2l_o, io_l2i_o, il_add_o, il_sub_o, il_mul_o, il_neg_o, ib_bit, Int.toNat_natCast, true_implies, false_implies, implies_true, and_true, true_and, and_self, not_true_eq_false, not_false_eq_true, wa_0, wa_1, il_cmp_o, il_cmp0, il_cmp1, il_cmp2, io_bit1, ibt0, ibt1, ibt00, ibt11, ibt10, ibt01, Int.ofNat_lt, Int.ofNat_le, Int.ofNat_inj, Nat.lt_irrefl, Int.lt_irrefl, Int.toNat_one, Int.toNat_zero, Bool.false_eq_true, reduceIte, reduceCtorEq, Nat.reduceAdd, Nat.reduceMul, Nat.reduceSub, Nat.reduceLT, Nat.reduceLeDiff, Nat.reduceEqDiff, Int.reduceNeg, Int.reduceAdd, Int.reduceMul, Int.reduceSub, Int.reduceLT, Int.reduceLE, Int.reduceEq, Int.reduceToNat, Int.reduceNatCast, icl, ico, inz, Nat.not_lt_zero, he2, wp_next _ e W1 _ hV2 l2 rfl hat2, wp_in, if_neg e1']
        exact this
    · simp only [herr] at hQ
      have kk0 : ¬ (kd : Int) = 0 := by omega
      have := hQ M1 ⟨fun j a _ => a1 j a, fun f a b c d => a2 f a b c d⟩ a3 a4 a5 (by omega)
      simp (disch := first | assumption | omega | exact il_cqA _ _ | exact il_cqB _ _) only [wi_185_1, wi_185_2, wi_185_3, wi_185_6, wi_185_7, wi_185_8, wi_185_9, wi_185_10, wi_185_13, wi_185_14, wi_185_15, wi_185_18, wi_185_21, wi_185_22, wi_185_25, wi_185_26, wi_185_27, wi_185_28, wi_185_29, wi_185_30, wi_185_31, wi_185_32, wi_185_33, wi_185_34, wi_185_37, wi_185_40, wi_185_41, wi_185_44, wi_185_45, wi_185_48, wi_185_51, wi_185_54, wi_185_57, io_add_o, io_sub_o, io_mul_o, io_neg_o, io_and_r, io_or_r, io_xor_r, io_nd_r, io_shr_r, io_shl1, io_i2b_r, io_i2l_o, io_l2i_o, il_add_o, il_sub_o, il_mul_o, il_neg_o, ib_bit, Int.toNat_natCast, true_implies, false_implies, implies_true, and_true, true_and, and_self, not_true_eq_false, not_false_eq_true, wa_0, wa_1, il_cmp_o, il_cmp0, il_cmp1, il_cmp2, io_bit1, ibt0, ibt1, ibt00, ibt11, ibt10, ibt01, Int.ofNat_lt, Int.ofNat_le, Int.ofNat_inj, Nat.lt_irrefl, Int.lt_irrefl, Int.toNat_one, Int.toNat_zero, Bool.false_eq_true, reduceIte, reduceCtorEq, Nat.reduceAdd, Nat.reduceMul, Nat.reduceSub, Nat.reduceLT, Nat.reduceLeDiff, Nat.reduceEqDiff, Int.reduceNeg, Int.reduceAdd, Int.reduceMul, Int.reduceSub, Int.reduceLT, Int.reduceLE, Int.reduceEq, Int.reduceToNat, Int.reduceNatCast, icl, ico, inz, Nat.not_lt_zero, a3, kk0]
      exact this
theorem wp_mstmt {M : gg_M} {p : Nat} (hG : q_ok G) (hR : q_R (M 144) G) (hV : qt_V M X B) (hpB : p ≤ B) (hp1 : 1 ≤ p) (hat : M 142 10 = (p : Int)) (he : M 142 12 = 0) (hQ : qresV M cc cs B p (qp_stmt X B G p) Q) :
    wp N xs (d + 5) 186 0 [gr 142] [] (gk_R, M, 158, cc, cs) Q := by
  obtain ⟨r1, r2⟩ := qwe_rg (X := X) hpB
  obtain ⟨r3, r4⟩ := qws_rg (X := X) hpB
  have hB := hV.2.1
  simp (disch := first | assumption | omega | exact il_cqA _ _ | exact il_cqB _ _) only [wi_186_0, wi_186_1, wi_186_4, wi_186_5, wi_186_7, wi_186_10, wi_186_13, wi_186_14, wi_186_17, wi_186_20, wi_186_21, wi_186_23, wi_186_26, wi_186_29, wi_186_30, wi_186_33, wi_186_36, wi_186_37, wi_186_38, wi_186_41, io_add_o, io_sub_o, io_mul_o, io_neg_o, io_and_r, io_or_r, io_xor_r, io_nd_r, io_shr_r, io_shl1, io_i2b_r, io_i2l_o, io_l2i_o, il_add_o, il_sub_o, il_mul_o, il_neg_o, ib_bit, Int.toNat_natCast, true_implies, false_implies, implies_true, and_true, true_and, and_self, not_true_eq_false, not_false_eq_true, wa_0, wa_1, il_cmp_o, il_cmp0, il_cmp1, il_cmp2, io_bit1, ibt0, ibt1, ibt00, ibt11, ibt10, ibt01, Int.ofNat_lt, Int.ofNat_le, Int.ofNat_inj, Nat.lt_irrefl, Int.lt_irrefl, Int.toNat_one, Int.toNat_zero, Bool.false_eq_true, reduceIte, reduceCtorEq, Nat.reduceAdd, Nat.reduceMul, Nat.reduceSub, Nat.reduceLT, Nat.reduceLeDiff, Nat.reduceEqDiff, Int.reduceNeg, Int.reduceAdd, Int.reduceMul, Int.reduceSub, Int.reduceLT, Int.reduceLE, Int.reduceEq, Int.reduceToNat, Int.reduceNatCast, icl, ico, inz, Nat.not_lt_zero]
  refine wp_reads (p := p) hV hpB hat (fun M1 g1 g2 g3 g4 => ?_)
  have hV1 : qt_V M1 X B := qt_V_e hV (g2 9 (by decide) (by decide)) (g1 149 (by decide))
  have he1 : M1 142 12 = 0 := by rw [g2 12 (by decide) (by decide)]; exact he
  have hf1 : qfm M M1 := ⟨fun j a _ => g1 j a, fun f a b _ _ => g2 f a b⟩
  have hR1 : q_R (M1 144) G := by rw [g1 144 (by decide)]; exact hR
  cases hw : qword X (qws X B p) (qwe X B p) 1
  · cases hw2 : qword X (qws X B p) (qwe X B p) 2
    · have hp : qp_stmt X B G p = .error (1, qws X B p) := by
        unfold qp_stmt
        rw [if_neg (by rw [hw]; decide), if_neg (by rw [hw2]; decide)]
      rw [hp] at hQ
      have := hQ (gg_up (gg_up M1 142 12 1) 142 13 (qws X B p : Int)) (qfm_t hf1 (qfm_t (qfm_142 (by decide)) (qfm_142 (by decide)))) (by rw [gu_s (by decide), gu_e]; rfl) gu_e (by decide) (by decide)
      simp (disch := first | assumption | omega | exact il_cqA _ _ | exact il_cqB _ _) only [wi_186_0, wi_186_1, wi_186_4, wi_186_5, wi_186_7, wi_186_10, wi_186_13, wi_186_14, wi_186_17, wi_186_20, wi_186_21, wi_186_23, wi_186_26, wi_186_29, wi_186_30, wi_186_33, wi_186_36, wi_186_37, wi_186_38, wi_186_41, io_add_o, io_sub_o, io_mul_o, io_neg_o, io_and_r, io_or_r, io_xor_r, io_nd_r, io_shr_r, io_shl1, io_i2b_r, io_i2l_o, io_l2i_o, il_add_o, il_sub_o, il_mul_o, il_neg_o, ib_bit, Int.toNat_natCast, true_implies, false_implies, implies_true, and_true, true_and, and_self, not_true_eq_false, not_false_eq_true, wa_0, wa_1, il_cmp_o, il_cmp0, il_cmp1, il_cmp2, io_bit1, ibt0, ibt1, ibt00, ibt11, ibt10, ibt01, Int.ofNat_lt, Int.ofNat_le, Int.ofNat_inj, Nat.lt_irrefl, Int.lt_irrefl, Int.toNat_one, Int.toNat_zero, Bool.false_eq_true, reduceIte, reduceCtorEq, Nat.reduceAdd, Nat.reduceMul, Nat.reduceSub, Nat.reduceLT, Nat.reduceLeDiff, Nat.reduceEqDiff, Int.reduceNeg, Int.reduceAdd, Int.reduceMul, Int.reduceSub, Int.reduceLT, Int.reduceLE, Int.reduceEq, Int.reduceToNat, Int.reduceNatCast, icl, ico, inz, Nat.not_lt_zero, wp_misWord (s := 1) (by decide) hV1 r1 r2 g3 g4, hw, wp_misWord (s := 2) (by decide) hV1 r1 r2 g3 g4, hw2, wp_fails he1, g4]
      exact this
    · have hp : qp_stmt X B G p = qp_marks X B G 401 (qS G) (qwe X B p) := by
        unfold qp_stmt
        rw [if_neg (by rw [hw]; decide), if_pos hw2]
      rw [hp] at hQ
      have hRS : q_R (M1 144) (qsetS G (qS G)) := hR1
      have hQ' := qresV_weak hQ hf1 (show p ≤ qwe X B p by omega)
      simp (disch := first | assumption | omega | exact il_cqA _ _ | exact il_cqB _ _) only [wi_186_0, wi_186_1, wi_186_4, wi_186_5, wi_186_7, wi_186_10, wi_186_13, wi_186_14, wi_186_17, wi_186_20, wi_186_21, wi_186_23, wi_186_26, wi_186_29, wi_186_30, wi_186_33, wi_186_36, wi_186_37, wi_186_38, wi_186_41, io_add_o, io_sub_o, io_mul_o, io_neg_o, io_and_r, io_or_r, io_xor_r, io_nd_r, io_shr_r, io_shl1, io_i2b_r, io_i2l_o, io_l2i_o, il_add_o, il_sub_o, il_mul_o, il_neg_o, ib_bit, Int.toNat_natCast, true_implies, false_implies, implies_true, and_true, true_and, and_self, not_true_eq_false, not_false_eq_true, wa_0, wa_1, il_cmp_o, il_cmp0, il_cmp1, il_cmp2, io_bit1, ibt0, ibt1, ibt00, ibt11, ibt10, ibt01, Int.ofNat_lt, Int.ofNat_le, Int.ofNat_inj, Nat.lt_irrefl, Int.lt_irrefl, Int.toNat_one, Int.toNat_zero, Bool.false_eq_true, reduceIte, reduceCtorEq, Nat.reduceAdd, Nat.reduceMul, Nat.reduceSub, Nat.reduceLT, Nat.reduceLeDiff, Nat.reduceEqDiff, Int.reduceNeg, Int.reduceAdd, Int.reduceMul, Int.reduceSub, Int.reduceLT, Int.reduceLE, Int.reduceEq, Int.reduceToNat, Int.reduceNatCast, icl, ico, inz, Nat.not_lt_zero, wp_misWord (s := 1) (by decide) hV1 r1 r2 g3 g4, hw, wp_misWord (s := 2) (by decide) hV1 r1 r2 g3 g4, hw2]
      refine wp_mmarkPart (G := G) 401 (qS G) (qwe X B p) (qwe X B p) M1 _ _ (by omega) hG hG.1.2.2.2.2.2.1 hRS hV1 r2 (Nat.le_refl _) g3 he1 ?_
      revert hQ'
      cases qp_marks X B G 401 (qS G) (qwe X B p) with
      | ok a =>
        obtain ⟨G', p'⟩ := a
        intro hQ' M' i1 i2 i3 i4 i5 i6 i7
        have := hQ' M' i1 i2 i3 i4 i5 i6 i7
        simp (disch := first | assumption | omega | exact il_cqA _ _ | exact il_cqB _ _) only [wi_186_0, wi_186_1, wi_186_4, wi_186_5, wi_186_7, wi_186_10, wi_186_13, wi_186_14, wi_186_17, wi_186_20, wi_186_21, wi_186_23, wi_186_26, wi_186_29, wi_186_30, wi_186_33, wi_186_36, wi_186_37, wi_186_38, wi_186_41, io_add_o, io_sub_o, io_mul_o, io_neg_o, io_and_r, io_or_r, io_xor_r, io_nd_r, io_shr_r, io_shl1, io_i2b_r, io_i2l_o, io_l2i_o, il_add_o, il_sub_o, il_mul_o, il_neg_o, ib_bit, Int.toNat_natCast, true_implies, false_implies, implies_true, and_true, true_and, and_self, not_true_eq_false, not_false_eq_true, wa_0, wa_1, il_cmp_o, il_cmp0, il_cmp1, il_cmp2, io_bit1, ibt0, ibt1, ibt00, ibt11, ibt10, ibt01, Int.ofNat_lt, Int.ofNat_le, Int.ofNat_inj, Nat.lt_irrefl, Int.lt_irrefl, Int.toNat_one, Int.toNat_zero, Bool.false_eq_true, reduceIte, reduceCtorEq, Nat.reduceAdd, Nat.reduceMul, Nat.reduceSub, Nat.reduceLT, Nat.reduceLeDiff, Nat.reduceEqDiff, Int.reduceNeg, Int.reduceAdd, Int.reduceMul, Int.reduceSub, Int.reduceLT, Int.reduceLE, Int.reduceEq, Int.reduceToNat, Int.reduceNatCast, icl, ico, inz, Nat.not_lt_zero]
        exact this
      | error a =>
        obtain ⟨kd, q⟩ := a
        intro hQ' M' i1 i2 i3 i4 i5
        have := hQ' M' i1 i2 i3 i4 i5
        simp (disch := first | assumption | omega | exact il_cqA _ _ | exact il_cqB _ _) only [wi_186_0, wi_186_1, wi_186_4, wi_186_5, wi_186_7, wi_186_10, wi_186_13, wi_186_14, wi_186_17, wi_186_20, wi_186_21, wi_186_23, wi_186_26, wi_186_29, wi_186_30, wi_186_33, wi_186_36, wi_186_37, wi_186_38, wi_186_41, io_add_o, io_sub_o, io_mul_o, io_neg_o, io_and_r, io_or_r, io_xor_r, io_nd_r, io_shr_r, io_shl1, io_i2b_r, io_i2l_o, io_l2i_o, il_add_o, il_sub_o, il_mul_o, il_neg_o, ib_bit, Int.toNat_natCast, true_implies, false_implies, implies_true, and_true, true_and, and_self, not_true_eq_false, not_false_eq_true, wa_0, wa_1, il_cmp_o, il_cmp0, il_cmp1, il_cmp2, io_bit1, ibt0, ibt1, ibt00, ibt11, ibt10, ibt01, Int.ofNat_lt, Int.ofNat_le, Int.ofNat_inj, Nat.lt_irrefl, Int.lt_irrefl, Int.toNat_one, Int.toNat_zero, Bool.false_eq_true, reduceIte, reduceCtorEq, Nat.reduceAdd, Nat.reduceMul, Nat.reduceSub, Nat.reduceLT, Nat.reduceLeDiff, Nat.reduceEqDiff, Int.reduceNeg, Int.reduceAdd, Int.reduceMul, Int.reduceSub, Int.reduceLT, Int.reduceLE, Int.reduceEq, Int.reduceToNat, Int.reduceNatCast, icl, ico, inz, Nat.not_lt_zero]
        exact this
  · have hp : qp_stmt X B G p = qp_arc X B G (qws X B p) (qwe X B p) := by
      unfold qp_stmt
      rw [if_pos hw]
    rw [hp] at hQ
    have hQ' := qresV_weak hQ hf1 (show p ≤ qwe X B p by omega)
    simp (disch := first | assumption | omega | exact il_cqA _ _ | exact il_cqB _ _) only [wi_186_0, wi_186_1, wi_186_4, wi_186_5, wi_186_7, wi_186_10, wi_186_13, wi_186_14, wi_186_17, wi_186_20, wi_186_21, wi_186_23, wi_186_26, wi_186_29, wi_186_30, wi_186_33, wi_186_36, wi_186_37, wi_186_38, wi_186_41, io_add_o, io_sub_o, io_mul_o, io_neg_o, io_and_r, io_or_r, io_xor_r, io_nd_r, io_shr_r, io_shl1, io_i2b_r, io_i2l_o, io_l2i_o, il_add_o, il_sub_o, il_mul_o, il_neg_o, ib_bit, Int.toNat_natCast, true_implies, false_implies, implies_true, and_true, true_and, and_self, not_true_eq_false, not_false_eq_true, wa_0, wa_1, il_cmp_o, il_cmp0, il_cmp1, il_cmp2, io_bit1, ibt0, ibt1, ibt00, ibt11, ibt10, ibt01, Int.ofNat_lt, Int.ofNat_le, Int.ofNat_inj, Nat.lt_irrefl, Int.lt_irrefl, Int.toNat_one, Int.toNat_zero, Bool.false_eq_true, reduceIte, reduceCtorEq, Nat.reduceAdd, Nat.reduceMul, Nat.reduceSub, Nat.reduceLT, Nat.reduceLeDiff, Nat.reduceEqDiff, Int.reduceNeg, Int.reduceAdd, Int.reduceMul, Int.reduceSub, Int.reduceLT, Int.reduceLE, Int.reduceEq, Int.reduceToNat, Int.reduceNatCast, icl, ico, inz, Nat.not_lt_zero, wp_misWord (s := 1) (by decide) hV1 r1 r2 g3 g4, hw]
    refine wp_marcPart (b := qws X B p) (p := qwe X B p) hG hR1 hV1 r2 g3 g4 he1 ?_
    revert hQ'
    cases qp_arc X B G (qws X B p) (qwe X B p) with
    | ok a =>
      obtain ⟨G', p'⟩ := a
      intro hQ' M' i1 i2 i3 i4 i5 i6 i7
      have := hQ' M' i1 i2 i3 i4 i5 i6 i7
      simp (disch := first | assumption | omega | exact il_cqA _ _ | exact il_cqB _ _) only [wi_186_0, wi_186_1, wi_186_4, wi_186_5, wi_186_7, wi_186_10, wi_186_13, wi_186_14, wi_186_17, wi_186_20, wi_186_21, wi_186_23, wi_186_26, wi_186_29, wi_186_30, wi_186_33, wi_186_36, wi_186_37, wi_186_38, wi_186_41, io_add_o, io_sub_o, io_mul_o, io_neg_o, io_and_r, io_or_r, io_xor_r, io_nd_r, io_shr_r, io_shl1, io_i2b_r, io_i2l_o, io_l2i_o, il_add_o, il_sub_o, il_mul_o, il_neg_o, ib_bit, Int.toNat_natCast, true_implies, false_implies, implies_true, and_true, true_and, and_self, not_true_eq_false, not_false_eq_true, wa_0, wa_1, il_cmp_o, il_cmp0, il_cmp1, il_cmp2, io_bit1, ibt0, ibt1, ibt00, ibt11, ibt10, ibt01, Int.ofNat_lt, Int.ofNat_le, Int.ofNat_inj, Nat.lt_irrefl, Int.lt_irrefl, Int.toNat_one, Int.toNat_zero, Bool.false_eq_true, reduceIte, reduceCtorEq, Nat.reduceAdd, Nat.reduceMul, Nat.reduceSub, Nat.reduceLT, Nat.reduceLeDiff, Nat.reduceEqDiff, Int.reduceNeg, Int.reduceAdd, Int.reduceMul, Int.reduceSub, Int.reduceLT, Int.reduceLE, Int.reduceEq, Int.reduceToNat, Int.reduceNatCast, icl, ico, inz, Nat.not_lt_zero]
      exact this
    | error a =>
      obtain ⟨kd, q⟩ := a
      intro hQ' M' i1 i2 i3 i4 i5
      have := hQ' M' i1 i2 i3 i4 i5
      simp (disch := first | assumption | omega | exact il_cqA _ _ | exact il_cqB _ _) only [wi_186_0, wi_186_1, wi_186_4, wi_186_5, wi_186_7, wi_186_10, wi_186_13, wi_186_14, wi_186_17, wi_186_20, wi_186_21, wi_186_23, wi_186_26, wi_186_29, wi_186_30, wi_186_33, wi_186_36, wi_186_37, wi_186_38, wi_186_41, io_add_o, io_sub_o, io_mul_o, io_neg_o, io_and_r, io_or_r, io_xor_r, io_nd_r, io_shr_r, io_shl1, io_i2b_r, io_i2l_o, io_l2i_o, il_add_o, il_sub_o, il_mul_o, il_neg_o, ib_bit, Int.toNat_natCast, true_implies, false_implies, implies_true, and_true, true_and, and_self, not_true_eq_false, not_false_eq_true, wa_0, wa_1, il_cmp_o, il_cmp0, il_cmp1, il_cmp2, io_bit1, ibt0, ibt1, ibt00, ibt11, ibt10, ibt01, Int.ofNat_lt, Int.ofNat_le, Int.ofNat_inj, Nat.lt_irrefl, Int.lt_irrefl, Int.toNat_one, Int.toNat_zero, Bool.false_eq_true, reduceIte, reduceCtorEq, Nat.reduceAdd, Nat.reduceMul, Nat.reduceSub, Nat.reduceLT, Nat.reduceLeDiff, Nat.reduceEqDiff, Int.reduceNeg, Int.reduceAdd, Int.reduceMul, Int.reduceSub, Int.reduceLT, Int.reduceLE, Int.reduceEq, Int.reduceToNat, Int.reduceNatCast, icl, ico, inz, Nat.not_lt_zero]
      exact this
/-- what is left as it was by all of the reading -/
def qfl (M M' : gg_M) : Prop := (∀ j, j ≠ 142 → j ≠ 144 → M' j = M j) ∧ ∀ f, f ≠ 10 → f ≠ 11 → f ≠ 12 → f ≠ 13 → f ≠ 14 → M' 142 f = M 142 f
theorem qfl_t {M M1 M2 : gg_M} (h1 : qfl M M1) (h2 : qfl M1 M2) : qfl M M2 := ⟨fun j a b => by rw [h2.1 j a b, h1.1 j a b], fun f a b c d e => by rw [h2.2 f a b c d e, h1.2 f a b c d e]⟩
theorem qfl_m {M M1 : gg_M} (h : qfm M M1) : qfl M M1 := ⟨h.1, fun f a b c d _ => h.2 f a b c d⟩
theorem wp_mloop (k : Nat) : ∀ (r p : Nat) (G : q_G) (M : gg_M) (Q : gg_O → Prop), B < p + k → 1 ≤ p → r ≤ 1000 - k → k ≤ 401 → q_ok G → q_R (M 144) G → qt_V M X B → p ≤ B → M 142 10 = (p : Int) → M 142 12 = 0 → M 142 14 = (r : Int) →
    (match qp_rest X B k G r p with
      | .ok G' => ∀ M' : gg_M, qfl M M' → M' 142 12 = 0 → q_R (M' 144) G' → q_ok G' → wp N xs (d + 7) 188 45 [gr 142] [] (gk_R, M', 158, cc, cs) Q
      | .error ((kd, q), s) => ∀ M' : gg_M, qfl M M' → M' 142 12 = (kd : Int) → M' 142 13 = (q : Int) → M' 142 14 = (s : Int) → 1 ≤ kd → kd ≤ 3 → wp N xs (d + 7) 188 45 [gr 142] [] (gk_R, M', 158, cc, cs) Q) →
    wp N xs (d + 7) 188 31 [gr 142] [] (gk_R, M, 158, cc, cs) Q := by
  induction k with
  | zero =>
    intro r p G M Q hk _ _ _ _ _ _ hpB
    omega
  | succ k ih =>
    intro r p G M Q hk hp1 hr hk4 hG hR hV hpB hat he h14 hQ
    have hB := hV.2.1
    obtain ⟨w1, w2⟩ := qws_rg (X := X) hpB
    have hrw := qhv_rg (B := B) hV.2.2.1 (qws X B p)
    have hV1 : qt_V (gg_up (gg_up M 142 10 (qws X B p : Int)) 142 11 (qws X B p : Int)) X B := qt_V_u (qt_V_u hV (by decide)) (by decide)
    have hat1 : gg_up (gg_up M 142 10 (qws X B p : Int)) 142 11 (qws X B p : Int) 142 10 = (qws X B p : Int) := by rw [gu_s (by decide), gu_e]
    have hf1 : qfl M (gg_up (gg_up M 142 10 (qws X B p : Int)) 142 11 (qws X B p : Int)) := qfl_m (qfm_t (qfm_142 (by decide)) (qfm_142 (by decide)))
    have he1 : gg_up (gg_up M 142 10 (qws X B p : Int)) 142 11 (qws X B p : Int) 142 12 = 0 := by rw [gu_s (by decide), gu_s (by decide)]; exact he
    unfold qp_rest at hQ
    rw [wi_188_31]
    by_cases e : qws X B p < B
    · have hhv : qhv X B (qws X B p) = (X (qws X B p) : Int) := if_pos e
      have hx2 := hV.2.2.1 (qws X B p)
      have hneg : ¬ ((X (qws X B p) : Int)) < 0 := by omega
      rw [if_pos e] at hQ
      by_cases e2 : X (qws X B p) = 59
      · have e3 : (X (qws X B p) : Int) = 59 := by omega
        rw [if_pos e2] at hQ
        have n59 : ¬ (59 : Int) < 0 := by decide
        simp (disch := first | assumption | omega | exact il_cqA _ _ | exact il_cqB _ _) only [wi_188_0, wi_188_1, wi_188_2, wi_188_5, wi_188_6, wi_188_7, wi_188_10, wi_188_11, wi_188_12, wi_188_15, wi_188_16, wi_188_17, wi_188_20, wi_188_21, wi_188_24, wi_188_27, wi_188_28, wi_188_32, wi_188_35, wi_188_38, wi_188_39, wi_188_42, wi_188_45, wi_188_46, wi_188_47, wi_188_50, wi_188_51, wi_188_52, wi_188_55, wi_188_58, wi_188_59, wi_188_60, wi_188_63, wi_188_66, wi_188_67, wi_188_70, wi_188_71, wi_188_74, wi_188_77, wi_188_78, wi_188_81, wi_188_84, wi_188_86, wi_188_87, wi_188_90, wi_188_91, wi_188_92, wi_188_93, wi_188_96, wi_188_97, wi_188_98, wi_188_101, wi_188_102, wi_188_105, wi_188_106, wi_188_107, wi_188_110, wi_188_111, wi_188_114, wi_188_115, wi_188_116, wi_187_0, wi_187_1, wi_187_4, wi_187_7, wi_187_8, wi_187_11, wi_187_14, wi_187_15, wi_187_16, wi_187_17, wi_187_20, wi_187_22, wi_187_25, wi_187_26, wi_187_27, wi_187_30, wi_187_31, wi_187_32, wi_187_33, wi_187_34, wi_187_37, wi_187_38, wi_187_39, wi_187_42, wi_187_43, wi_187_44, wi_187_47, wi_187_48, wi_187_49, wi_187_52, wi_187_53, io_add_o, io_sub_o, io_mul_o, io_neg_o, io_and_r, io_or_r, io_xor_r, io_nd_r, io_shr_r, io_shl1, io_i2b_r, io_i2l_o, io_l2i_o, il_add_o, il_sub_o, il_mul_o, il_neg_o, ib_bit, Int.toNat_natCast, true_implies, false_implies, implies_true, and_true, true_and, and_self, not_true_eq_false, not_false_eq_true, wa_0, wa_1, il_cmp_o, il_cmp0, il_cmp1, il_cmp2, io_bit1, ibt0, ibt1, ibt00, ibt11, ibt10, ibt01, Int.ofNat_lt, Int.ofNat_le, Int.ofNat_inj, Nat.lt_irrefl, Int.lt_irrefl, Int.toNat_one, Int.toNat_zero, Bool.false_eq_true, reduceIte, reduceCtorEq, Nat.reduceAdd, Nat.reduceMul, Nat.reduceSub, Nat.reduceLT, Nat.reduceLeDiff, Nat.reduceEqDiff, Int.reduceNeg, Int.reduceAdd, Int.reduceMul, Int.reduceSub, Int.reduceLT, Int.reduceLE, Int.reduceEq, Int.reduceToNat, Int.reduceNatCast, icl, ico, inz, Nat.not_lt_zero, he, wp_next _ p M _ hV hpB rfl hat, hhv, e3, n59, wp_here hV1 (show qws X B p ≤ 1000 by omega) hat1, gu_s, gu_e, h14]
        have hf2 : qfl M (gg_up (gg_up (gg_up (gg_up M 142 10 (qws X B p : Int)) 142 11 (qws X B p : Int)) 142 10 ((qws X B p : Int) + 1)) 142 14 ((r : Int) + 1)) := qfl_t hf1 ⟨fun j j1 _ => by rw [gu_n j1, gu_n j1], fun f f1 f2 f3 f4 f5 => by rw [gu_s f5, gu_s f1]⟩
        have hst14 : gg_up (gg_up (gg_up (gg_up M 142 10 (qws X B p : Int)) 142 11 (qws X B p : Int)) 142 10 ((qws X B p : Int) + 1)) 142 14 ((r : Int) + 1) 142 14 = (r : Int) + 1 := gu_e
        have hV2 : qt_V (gg_up (gg_up (gg_up (gg_up M 142 10 (qws X B p : Int)) 142 11 (qws X B p : Int)) 142 10 ((qws X B p : Int) + 1)) 142 14 ((r : Int) + 1)) X B := qt_V_u (qt_V_u hV1 (by decide)) (by decide)
        have hat2 : gg_up (gg_up (gg_up (gg_up M 142 10 (qws X B p : Int)) 142 11 (qws X B p : Int)) 142 10 ((qws X B p : Int) + 1)) 142 14 ((r : Int) + 1) 142 10 = ((qws X B p + 1 : Nat) : Int) := by rw [gu_s (by decide), gu_e]; rfl
        have he2 : gg_up (gg_up (gg_up (gg_up M 142 10 (qws X B p : Int)) 142 11 (qws X B p : Int)) 142 10 ((qws X B p : Int) + 1)) 142 14 ((r : Int) + 1) 142 12 = 0 := by rw [gu_s (by decide), gu_s (by decide)]; exact he1
        have hR2 : q_R (gg_up (gg_up (gg_up (gg_up M 142 10 (qws X B p : Int)) 142 11 (qws X B p : Int)) 142 10 ((qws X B p : Int) + 1)) 142 14 ((r : Int) + 1) 144) G := by rw [gu_n (by decide), gu_n (by decide), gu_n (by decide), gu_n (by decide)]; exact hR
        generalize gg_up (gg_up (gg_up (gg_up M 142 10 (qws X B p : Int)) 142 11 (qws X B p : Int)) 142 10 ((qws X B p : Int) + 1)) 142 14 ((r : Int) + 1) = W at *
        refine wp_mstmt (p := qws X B p + 1) hG hR2 hV2 (by omega) (by omega) hat2 he2 ?_
        cases hst : qp_stmt X B G (qws X B p + 1) with
        | ok a =>
          obtain ⟨G', p'⟩ := a
          simp only [hst] at hQ
          intro M3 i1 i2 i3 i4 i5 i6 i7
          have hf3 : qfl M M3 := qfl_t hf2 (qfl_m i1)
          have z14 : M3 142 14 = ((r + 1 : Nat) : Int) := by rw [i1.2 14 (by decide) (by decide) (by decide) (by decide), hst14]; rfl
          have hV3 : qt_V M3 X B := qt_V_e hV2 (i1.2 9 (by decide) (by decide) (by decide) (by decide)) (i1.1 149 (by decide) (by decide))
          have hnx := ih (r + 1) p' G' M3 Q (by omega) (by omega) (by omega) (by omega) i5 i4 hV3 i7 i3 i2 z14 (by
            revert hQ
            cases qp_rest X B k G' (r + 1) p' with
            | ok G2 => exact fun hQ M' a1 a2 a3 a4 => hQ M' (qfl_t hf3 a1) a2 a3 a4
            | error er =>
              obtain ⟨⟨kd, q⟩, s⟩ := er
              exact fun hQ M' a1 a2 a3 a4 a5 a6 => hQ M' (qfl_t hf3 a1) a2 a3 a4 a5 a6)
          simp (disch := first | assumption | omega | exact il_cqA _ _ | exact il_cqB _ _) only [wi_188_0, wi_188_1, wi_188_2, wi_188_5, wi_188_6, wi_188_7, wi_188_10, wi_188_11, wi_188_12, wi_188_15, wi_188_16, wi_188_17, wi_188_20, wi_188_21, wi_188_24, wi_188_27, wi_188_28, wi_188_32, wi_188_35, wi_188_38, wi_188_39, wi_188_42, wi_188_45, wi_188_46, wi_188_47, wi_188_50, wi_188_51, wi_188_52, wi_188_55, wi_188_58, wi_188_59, wi_188_60, wi_188_63, wi_188_66, wi_188_67, wi_188_70, wi_188_71, wi_188_74, wi_188_77, wi_188_78, wi_188_81, wi_188_84, wi_188_86, wi_188_87, wi_188_90, wi_188_91, wi_188_92, wi_188_93, wi_188_96, wi_188_97, wi_188_98, wi_188_101, wi_188_102, wi_188_105, wi_188_106, wi_188_107, wi_188_110, wi_188_111, wi_188_114, wi_188_115, wi_188_116, io_add_o, io_sub_o, io_mul_o, io_neg_o, io_and_r, io_or_r, io_xor_r, io_nd_r, io_shr_r, io_shl1, io_i2b_r, io_i2l_o, io_l2i_o, il_add_o, il_sub_o, il_mul_o, il_neg_o, ib_bit, Int.toNat_natCast, true_implies, false_implies, implies_true, and_true, true_and, and_self, not_true_eq_false, not_false_eq_true, wa_0, wa_1, il_cmp_o, il_cmp0, il_cmp1, il_cmp2, io_bit1, ibt0, ibt1, ibt00, ibt11, ibt10, ibt01, Int.ofNat_lt, Int.ofNat_le, Int.ofNat_inj, Nat.lt_irrefl, Int.lt_irrefl, Int.toNat_one, Int.toNat_zero, Bool.false_eq_true, reduceIte, reduceCtorEq, Nat.reduceAdd, Nat.reduceMul, Nat.reduceSub, Nat.reduceLT, Nat.reduceLeDiff, Nat.reduceEqDiff, Int.reduceNeg, Int.reduceAdd, Int.reduceMul, Int.reduceSub, Int.reduceLT, Int.reduceLE, Int.reduceEq, Int.reduceToNat, Int.reduceNatCast, icl, ico, inz, Nat.not_lt_zero]
          exact hnx
        | error a =>
          obtain ⟨kd, q⟩ := a
          simp only [hst] at hQ
          intro M3 i1 i2 i3 i4 i5
          have hf3 : qfl M M3 := qfl_t hf2 (qfl_m i1)
          have z14 : M3 142 14 = ((r + 1 : Nat) : Int) := by rw [i1.2 14 (by decide) (by decide) (by decide) (by decide), hst14]; rfl
          have kk0 : ¬ (kd : Int) = 0 := by omega
          have := hQ M3 hf3 i2 i3 z14 i4 i5
          simp (disch := first | assumption | omega | exact il_cqA _ _ | exact il_cqB _ _) only [wi_188_0, wi_188_1, wi_188_2, wi_188_5, wi_188_6, wi_188_7, wi_188_10, wi_188_11, wi_188_12, wi_188_15, wi_188_16, wi_188_17, wi_188_20, wi_188_21, wi_188_24, wi_188_27, wi_188_28, wi_188_32, wi_188_35, wi_188_38, wi_188_39, wi_188_42, wi_188_45, wi_188_46, wi_188_47, wi_188_50, wi_188_51, wi_188_52, wi_188_55, wi_188_58, wi_188_59, wi_188_60, wi_188_63, wi_188_66, wi_188_67, wi_188_70, wi_188_71, wi_188_74, wi_188_77, wi_188_78, wi_188_81, wi_188_84, wi_188_86, wi_188_87, wi_188_90, wi_188_91, wi_188_92, wi_188_93, wi_188_96, wi_188_97, wi_188_98, wi_188_101, wi_188_102, wi_188_105, wi_188_106, wi_188_107, wi_188_110, wi_188_111, wi_188_114, wi_188_115, wi_188_116, io_add_o, io_sub_o, io_mul_o, io_neg_o, io_and_r, io_or_r, io_xor_r, io_nd_r, io_shr_r, io_shl1, io_i2b_r, io_i2l_o, io_l2i_o, il_add_o, il_sub_o, il_mul_o, il_neg_o, ib_bit, Int.toNat_natCast, true_implies, false_implies, implies_true, and_true, true_and, and_self, not_true_eq_false, not_false_eq_true, wa_0, wa_1, il_cmp_o, il_cmp0, il_cmp1, il_cmp2, io_bit1, ibt0, ibt1, ibt00, ibt11, ibt10, ibt01, Int.ofNat_lt, Int.ofNat_le, Int.ofNat_inj, Nat.lt_irrefl, Int.lt_irrefl, Int.toNat_one, Int.toNat_zero, Bool.false_eq_true, reduceIte, reduceCtorEq, Nat.reduceAdd, Nat.reduceMul, Nat.reduceSub, Nat.reduceLT, Nat.reduceLeDiff, Nat.reduceEqDiff, Int.reduceNeg, Int.reduceAdd, Int.reduceMul, Int.reduceSub, Int.reduceLT, Int.reduceLE, Int.reduceEq, Int.reduceToNat, Int.reduceNatCast, icl, ico, inz, Nat.not_lt_zero]
          rw [wi_188_31]
          revert this
          simp (disch := first | assumption | omega | exact il_cqA _ _ | exact il_cqB _ _) only [wi_188_0, wi_188_1, wi_188_2, wi_188_5, wi_188_6, wi_188_7, wi_188_10, wi_188_11, wi_188_12, wi_188_15, wi_188_16, wi_188_17, wi_188_20, wi_188_21, wi_188_24, wi_188_27, wi_188_28, wi_188_32, wi_188_35, wi_188_38, wi_188_39, wi_188_42, wi_188_45, wi_188_46, wi_188_47, wi_188_50, wi_188_51, wi_188_52, wi_188_55, wi_188_58, wi_188_59, wi_188_60, wi_188_63, wi_188_66, wi_188_67, wi_188_70, wi_188_71, wi_188_74, wi_188_77, wi_188_78, wi_188_81, wi_188_84, wi_188_86, wi_188_87, wi_188_90, wi_188_91, wi_188_92, wi_188_93, wi_188_96, wi_188_97, wi_188_98, wi_188_101, wi_188_102, wi_188_105, wi_188_106, wi_188_107, wi_188_110, wi_188_111, wi_188_114, wi_188_115, wi_188_116, wi_187_0, wi_187_1, wi_187_4, wi_187_7, wi_187_8, wi_187_11, wi_187_14, wi_187_15, wi_187_16, wi_187_17, wi_187_20, wi_187_22, wi_187_25, wi_187_26, wi_187_27, wi_187_30, wi_187_31, wi_187_32, wi_187_33, wi_187_34, wi_187_37, wi_187_38, wi_187_39, wi_187_42, wi_187_43, wi_187_44, wi_187_47, wi_187_48, wi_187_49, wi_187_52, wi_187_53, io_add_o, io_sub_o, io_mul_o, io_neg_o, io_and_r, io_or_r, io_xor_r, io_nd_r, io_shr_r, io_shl1, io_i2b_r, io_i2l_o, io_l2i_o, il_add_o, il_sub_o, il_mul_o, il_neg_o, ib_bit, Int.toNat_natCast, true_implies, false_implies, implies_true, and_true, true_and, and_self, not_true_eq_false, not_false_eq_true, wa_0, wa_1, il_cmp_o, il_cmp0, il_cmp1, il_cmp2, io_bit1, ibt0, ibt1, ibt00, ibt11, ibt10, ibt01, Int.ofNat_lt, Int.ofNat_le, Int.ofNat_inj, Nat.lt_irrefl, Int.lt_irrefl, Int.toNat_one, Int.toNat_zero, Bool.false_eq_true, reduceIte, reduceCtorEq, Nat.reduceAdd, Nat.reduceMul, Nat.reduceSub, Nat.reduceLT, Nat.reduceLeDiff, Nat.reduceEqDiff, Int.reduceNeg, Int.reduceAdd, Int.reduceMul, Int.reduceSub, Int.reduceLT, Int.reduceLE, Int.reduceEq, Int.reduceToNat, Int.reduceNatCast, icl, ico, inz, Nat.not_lt_zero, i2, kk0]
          exact id
      · have e3 : ¬ (X (qws X B p) : Int) = 59 := by omega
        rw [if_neg e2] at hQ
        have := hQ (gg_up (gg_up (gg_up (gg_up M 142 10 (qws X B p : Int)) 142 11 (qws X B p : Int)) 142 12 1) 142 13 (gg_up (gg_up M 142 10 (qws X B p : Int)) 142 11 (qws X B p : Int) 142 11)) (qfl_t hf1 (qfl_m (qfm_t (qfm_142 (by decide)) (qfm_142 (by decide))))) (by rw [gu_s (by decide), gu_e]; rfl) (by rw [gu_e, gu_e]) (by rw [gu_s (by decide), gu_s (by decide), gu_s (by decide), gu_s (by decide)]; exact h14) (by decide) (by decide)
        revert this
        simp (disch := first | assumption | omega | exact il_cqA _ _ | exact il_cqB _ _) only [wi_188_0, wi_188_1, wi_188_2, wi_188_5, wi_188_6, wi_188_7, wi_188_10, wi_188_11, wi_188_12, wi_188_15, wi_188_16, wi_188_17, wi_188_20, wi_188_21, wi_188_24, wi_188_27, wi_188_28, wi_188_32, wi_188_35, wi_188_38, wi_188_39, wi_188_42, wi_188_45, wi_188_46, wi_188_47, wi_188_50, wi_188_51, wi_188_52, wi_188_55, wi_188_58, wi_188_59, wi_188_60, wi_188_63, wi_188_66, wi_188_67, wi_188_70, wi_188_71, wi_188_74, wi_188_77, wi_188_78, wi_188_81, wi_188_84, wi_188_86, wi_188_87, wi_188_90, wi_188_91, wi_188_92, wi_188_93, wi_188_96, wi_188_97, wi_188_98, wi_188_101, wi_188_102, wi_188_105, wi_188_106, wi_188_107, wi_188_110, wi_188_111, wi_188_114, wi_188_115, wi_188_116, wi_187_0, wi_187_1, wi_187_4, wi_187_7, wi_187_8, wi_187_11, wi_187_14, wi_187_15, wi_187_16, wi_187_17, wi_187_20, wi_187_22, wi_187_25, wi_187_26, wi_187_27, wi_187_30, wi_187_31, wi_187_32, wi_187_33, wi_187_34, wi_187_37, wi_187_38, wi_187_39, wi_187_42, wi_187_43, wi_187_44, wi_187_47, wi_187_48, wi_187_49, wi_187_52, wi_187_53, io_add_o, io_sub_o, io_mul_o, io_neg_o, io_and_r, io_or_r, io_xor_r, io_nd_r, io_shr_r, io_shl1, io_i2b_r, io_i2l_o, io_l2i_o, il_add_o, il_sub_o, il_mul_o, il_neg_o, ib_bit, Int.toNat_natCast, true_implies, false_implies, implies_true, and_true, true_and, and_self, not_true_eq_false, not_false_eq_true, wa_0, wa_1, il_cmp_o, il_cmp0, il_cmp1, il_cmp2, io_bit1, ibt0, ibt1, ibt00, ibt11, ibt10, ibt01, Int.ofNat_lt, Int.ofNat_le, Int.ofNat_inj, Nat.lt_irrefl, Int.lt_irrefl, Int.toNat_one, Int.toNat_zero, Bool.false_eq_true, reduceIte, reduceCtorEq, Nat.reduceAdd, Nat.reduceMul, Nat.reduceSub, Nat.reduceLT, Nat.reduceLeDiff, Nat.reduceEqDiff, Int.reduceNeg, Int.reduceAdd, Int.reduceMul, Int.reduceSub, Int.reduceLT, Int.reduceLE, Int.reduceEq, Int.reduceToNat, Int.reduceNatCast, icl, ico, inz, Nat.not_lt_zero, he, wp_next _ p M _ hV hpB rfl hat, hhv, hneg, e3, wp_here hV1 (show qws X B p ≤ 1000 by omega) hat1, wp_fails he1]
        exact id
    · have hhv : qhv X B (qws X B p) = -1 := if_neg e
      have hneg : (-1 : Int) < 0 := by decide
      rw [if_neg e] at hQ
      have := hQ (gg_up (gg_up M 142 10 (qws X B p : Int)) 142 11 (qws X B p : Int)) hf1 he1 (by rw [gu_n (by decide), gu_n (by decide)]; exact hR) hG
      revert this
      simp (disch := first | assumption | omega | exact il_cqA _ _ | exact il_cqB _ _) only [wi_188_0, wi_188_1, wi_188_2, wi_188_5, wi_188_6, wi_188_7, wi_188_10, wi_188_11, wi_188_12, wi_188_15, wi_188_16, wi_188_17, wi_188_20, wi_188_21, wi_188_24, wi_188_27, wi_188_28, wi_188_32, wi_188_35, wi_188_38, wi_188_39, wi_188_42, wi_188_45, wi_188_46, wi_188_47, wi_188_50, wi_188_51, wi_188_52, wi_188_55, wi_188_58, wi_188_59, wi_188_60, wi_188_63, wi_188_66, wi_188_67, wi_188_70, wi_188_71, wi_188_74, wi_188_77, wi_188_78, wi_188_81, wi_188_84, wi_188_86, wi_188_87, wi_188_90, wi_188_91, wi_188_92, wi_188_93, wi_188_96, wi_188_97, wi_188_98, wi_188_101, wi_188_102, wi_188_105, wi_188_106, wi_188_107, wi_188_110, wi_188_111, wi_188_114, wi_188_115, wi_188_116, wi_187_0, wi_187_1, wi_187_4, wi_187_7, wi_187_8, wi_187_11, wi_187_14, wi_187_15, wi_187_16, wi_187_17, wi_187_20, wi_187_22, wi_187_25, wi_187_26, wi_187_27, wi_187_30, wi_187_31, wi_187_32, wi_187_33, wi_187_34, wi_187_37, wi_187_38, wi_187_39, wi_187_42, wi_187_43, wi_187_44, wi_187_47, wi_187_48, wi_187_49, wi_187_52, wi_187_53, io_add_o, io_sub_o, io_mul_o, io_neg_o, io_and_r, io_or_r, io_xor_r, io_nd_r, io_shr_r, io_shl1, io_i2b_r, io_i2l_o, io_l2i_o, il_add_o, il_sub_o, il_mul_o, il_neg_o, ib_bit, Int.toNat_natCast, true_implies, false_implies, implies_true, and_true, true_and, and_self, not_true_eq_false, not_false_eq_true, wa_0, wa_1, il_cmp_o, il_cmp0, il_cmp1, il_cmp2, io_bit1, ibt0, ibt1, ibt00, ibt11, ibt10, ibt01, Int.ofNat_lt, Int.ofNat_le, Int.ofNat_inj, Nat.lt_irrefl, Int.lt_irrefl, Int.toNat_one, Int.toNat_zero, Bool.false_eq_true, reduceIte, reduceCtorEq, Nat.reduceAdd, Nat.reduceMul, Nat.reduceSub, Nat.reduceLT, Nat.reduceLeDiff, Nat.reduceEqDiff, Int.reduceNeg, Int.reduceAdd, Int.reduceMul, Int.reduceSub, Int.reduceLT, Int.reduceLE, Int.reduceEq, Int.reduceToNat, Int.reduceNatCast, icl, ico, inz, Nat.not_lt_zero, he, wp_next _ p M _ hV hpB rfl hat, hhv, hneg]
      exact id
end SG
