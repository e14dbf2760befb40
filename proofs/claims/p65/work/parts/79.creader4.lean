/-! the class reads all; it takes bytes -/
/-- what a reading of all has to show -/
def qresA (M : gg_M) (cc cs : Nat) (r : Except ((Nat × Nat) × Nat) q_G) (Q : gg_O → Prop) : Prop := match r with
  | .ok G => ∀ M' : gg_M, (∀ j, j < 9 ∨ 15 < j → j ≠ 76 → M' j = M j) → M' 76 1 = M 76 1 → M' 76 2 = 0 → q_C M' 9 G → q_ok G → Q ((1, (0, 1)), (gk_R, M', 142, cc, cs))
  | .error ((k, q), s) => ∀ M' : gg_M, (∀ j, j < 9 ∨ 15 < j → j ≠ 76 → M' j = M j) → M' 76 1 = M 76 1 → M' 76 2 = (k : Int) → M' 76 3 = (q : Int) → M' 76 4 = (s : Int) → Q ((1, (0, 0)), (gk_R, M', 142, cc, cs))
/-- the byte at a place of eight -/
def qbn (w : Int) (k : Nat) : Nat := (il_and (il_shr w (56 - 8 * (k : Int))) 255).toNat
theorem il_and255 (x : Int) : 0 ≤ il_and x 255 ∧ il_and x 255 ≤ 255 := by
  have e : il_and x 255 = (((gg_l x).toBitVec.toNat &&& 255 : Nat) : Int) := by
    unfold il_and
    refine lb_z ?_ (Nat.lt_of_le_of_lt Nat.and_le_right (by decide))
    rw [Int64.toBitVec_and, BitVec.toNat_and]
    congr 1
  have : (gg_l x).toBitVec.toNat &&& 255 ≤ 255 := Nat.and_le_right
  rw [e]
  omega
theorem qbn_eq (w : Int) (k : Nat) : il_and (il_shr w (56 - 8 * (k : Int))) 255 = (qbn w k : Int) ∧ qbn w k ≤ 255 := by
  have := il_and255 (il_shr w (56 - 8 * (k : Int)))
  unfold qbn
  omega
/-- the text with the bytes before k -/
def qapp (X : Nat → Nat) (B : Nat) (w : Int) : Nat → Nat × (Nat → Nat)
  | 0 => (B, X)
  | k + 1 => if qbn w k = 0 then qapp X B w k else ((qapp X B w k).1 + 1, fun i => if i = (qapp X B w k).1 then qbn w k else (qapp X B w k).2 i)
def qmore (w : Int) (k : Nat) : Nat := qcnt (fun k => decide (qbn w k ≠ 0)) k
theorem qapp_B (X : Nat → Nat) (B : Nat) (w : Int) (k : Nat) : (qapp X B w k).1 = B + qmore w k := by
  induction k with
  | zero => rfl
  | succ k ih =>
    unfold qapp qmore qcnt
    split
    · rename_i h
      rw [decide_eq_false (fun h2 => h2 h)]
      exact ih
    · rename_i h
      rw [decide_eq_true h]
      show (qapp X B w k).1 + 1 = B + (qmore w k + 1)
      omega
theorem qapp_X {X : Nat → Nat} {B : Nat} {w : Int} (h : ∀ i, X i ≤ 255) (k : Nat) : ∀ i, (qapp X B w k).2 i ≤ 255 := by
  induction k with
  | zero => exact h
  | succ k ih =>
    unfold qapp
    split
    · exact ih
    · intro i
      show (if i = (qapp X B w k).1 then qbn w k else (qapp X B w k).2 i) ≤ 255
      split
      · exact (qbn_eq w k).2
      · exact ih i
section SG
variable {N : Nat} {xs : Nat → Int32} {d : Nat} {cc cs : Nat} {Q : gg_O → Prop} {X : Nat → Nat} {B : Nat} {G : q_G}
theorem wp_readRest (k : Nat) : ∀ (r p : Nat) (G : q_G) (M : gg_M) (Q : gg_O → Prop), r + k = 401 → r < p → q_ok G → q_C M 9 G → qt_C M X B → p ≤ B → M 76 5 = (p : Int) → M 76 2 = 0 → M 76 4 = (r : Int) → qresA M cc cs (qp_rest X B k G r p) Q →
    wp N xs (d + 7) 39 27 [gr 76, gr 9, (0, (r : Int))] [] (gk_R, M, 142, cc, cs) Q := by
  induction k with
  | zero =>
    intro r p G M Q hrk hrp hG hD hC hpB
    have := hC.2.1
    omega
  | succ k ih =>
    intro r p G M Q hrk hrp hG hD hC hpB hat h2 h4 hQ
    have hg9 := gs_G9
    have hB := hC.2.1
    have hr4 : ¬ (400 : Int) < (r : Int) := by omega
    obtain ⟨w1, w2⟩ := qws_rg (X := X) hpB
    unfold qp_rest at hQ
    rw [wi_39_27]
    by_cases e : qws X B p < B
    · have e1 : decide (B ≤ qws X B p) = false := decide_eq_false (by omega)
      have hx := hC.2.2.2 _ e
      have hx2 := hC.2.2.1 (qws X B p)
      rw [if_pos e] at hQ
      by_cases e2 : X (qws X B p) = 59
      · have e3 : (X (qws X B p) : Int) = 59 := by omega
        rw [if_pos e2] at hQ
        simp (disch := first | assumption | omega | exact il_cqA _ _ | exact il_cqB _ _) only [wi_39_0, wi_39_1, wi_39_2, wi_39_5, wi_39_6, wi_39_7, wi_39_10, wi_39_11, wi_39_12, wi_39_15, wi_39_16, wi_39_17, wi_39_20, wi_39_23, wi_39_24, wi_39_25, wi_39_26, wi_39_28, wi_39_31, wi_39_34, wi_39_35, wi_39_38, wi_39_41, wi_39_42, wi_39_43, wi_39_44, wi_39_47, wi_39_48, wi_39_51, wi_39_52, wi_39_54, wi_39_57, wi_39_58, wi_39_59, wi_39_60, wi_39_63, wi_39_66, wi_39_67, wi_39_68, wi_39_69, wi_39_72, wi_39_73, wi_39_74, wi_39_77, wi_39_78, wi_39_79, wi_39_82, wi_39_83, wi_39_84, wi_39_87, wi_39_88, wi_39_89, wi_39_92, wi_39_95, wi_39_96, wi_39_97, wi_39_100, wi_39_103, wi_39_104, io_add_o, io_sub_o, io_mul_o, io_neg_o, io_and_r, io_or_r, io_xor_r, io_nd_r, io_shr_r, io_shl1, io_i2b_r, io_i2l_o, io_l2i_o, il_add_o, il_sub_o, il_mul_o, il_neg_o, ib_bit, Int.toNat_natCast, true_implies, false_implies, implies_true, and_true, true_and, and_self, not_true_eq_false, not_false_eq_true, wa_0, wa_1, il_cmp_o, il_cmp0, il_cmp1, il_cmp2, io_bit1, ibt0, ibt1, ibt00, ibt11, ibt10, ibt01, Int.ofNat_lt, Int.ofNat_le, Int.ofNat_inj, Nat.lt_irrefl, Int.lt_irrefl, Int.toNat_one, Int.toNat_zero, Bool.false_eq_true, reduceIte, reduceCtorEq, Nat.reduceAdd, Nat.reduceMul, Nat.reduceSub, Nat.reduceLT, Nat.reduceLeDiff, Nat.reduceEqDiff, Int.reduceNeg, Int.reduceAdd, Int.reduceMul, Int.reduceSub, Int.reduceLT, Int.reduceLE, Int.reduceEq, Int.reduceToNat, Int.reduceNatCast, icl, ico, inz, Nat.not_lt_zero, hr4, wp_isAtEnd _ p M _ hC hpB rfl hat, e1, gu_n, gu_s, gu_e, gu_gu, hx, e3, h4]
        have hC1 : qt_C (gg_up (gg_up M 76 5 ((qws X B p : Int) + 1)) 76 4 ((r : Int) + 1)) X B := qt_C_u (qt_C_u hC (by decide)) (by decide)
        have hD1 : q_C (gg_up (gg_up M 76 5 ((qws X B p : Int) + 1)) 76 4 ((r : Int) + 1)) 9 G := q_C_e hD fun j j1 j2 => by rw [gu_n (by omega), gu_n (by omega)]
        refine wp_readStmt (p := qws X B p + 1) hG hD1 hC1 (by omega) (by rw [gu_s (by decide), gu_e]; rfl) ?_
        cases hst : qp_stmt X B G (qws X B p + 1) with
        | ok a =>
          obtain ⟨G', p'⟩ := a
          simp only [hst] at hQ
          intro M2 g1 g2 g3 g4 g5 g6 g7
          have z2 : M2 76 2 = 0 := by rw [g2, gu_s (by decide), gu_s (by decide)]; exact h2
          have z4 : M2 76 4 = ((r + 1 : Nat) : Int) := by rw [g1.2.2, gu_e]; rfl
          have hF2 : ∀ j, j < 9 ∨ 15 < j → j ≠ 76 → M2 j = M j := fun j j1 j2 => by rw [g1.1 j j1 j2, gu_n j2, gu_n j2]
          have z1 : M2 76 1 = M 76 1 := by rw [g1.2.1, gu_s (by decide), gu_s (by decide)]
          have hC2 : qt_C M2 X B := qt_C_e hC z1 (hF2 77 (by decide) (by decide))
          have hnx := ih (r + 1) p' G' M2 Q (by omega) (by omega) g5 g4 hC2 g7 g3 z2 z4 (by
            revert hQ
            cases qp_rest X B k G' (r + 1) p' with
            | ok G2 =>
              intro hQ M3 i1 i2 i3 i4 i5
              exact hQ M3 (fun j j1 j2 => by rw [i1 j j1 j2, hF2 j j1 j2]) (by rw [i2, z1]) i3 i4 i5
            | error er =>
              obtain ⟨⟨kd, q⟩, s⟩ := er
              intro hQ M3 i1 i2 i3 i4 i5
              exact hQ M3 (fun j j1 j2 => by rw [i1 j j1 j2, hF2 j j1 j2]) (by rw [i2, z1]) i3 i4 i5)
          simp (disch := first | assumption | omega | exact il_cqA _ _ | exact il_cqB _ _) only [wi_39_0, wi_39_1, wi_39_2, wi_39_5, wi_39_6, wi_39_7, wi_39_10, wi_39_11, wi_39_12, wi_39_15, wi_39_16, wi_39_17, wi_39_20, wi_39_23, wi_39_24, wi_39_25, wi_39_26, wi_39_28, wi_39_31, wi_39_34, wi_39_35, wi_39_38, wi_39_41, wi_39_42, wi_39_43, wi_39_44, wi_39_47, wi_39_48, wi_39_51, wi_39_52, wi_39_54, wi_39_57, wi_39_58, wi_39_59, wi_39_60, wi_39_63, wi_39_66, wi_39_67, wi_39_68, wi_39_69, wi_39_72, wi_39_73, wi_39_74, wi_39_77, wi_39_78, wi_39_79, wi_39_82, wi_39_83, wi_39_84, wi_39_87, wi_39_88, wi_39_89, wi_39_92, wi_39_95, wi_39_96, wi_39_97, wi_39_100, wi_39_103, wi_39_104, io_add_o, io_sub_o, io_mul_o, io_neg_o, io_and_r, io_or_r, io_xor_r, io_nd_r, io_shr_r, io_shl1, io_i2b_r, io_i2l_o, io_l2i_o, il_add_o, il_sub_o, il_mul_o, il_neg_o, ib_bit, Int.toNat_natCast, true_implies, false_implies, implies_true, and_true, true_and, and_self, not_true_eq_false, not_false_eq_true, wa_0, wa_1, il_cmp_o, il_cmp0, il_cmp1, il_cmp2, io_bit1, ibt0, ibt1, ibt00, ibt11, ibt10, ibt01, Int.ofNat_lt, Int.ofNat_le, Int.ofNat_inj, Nat.lt_irrefl, Int.lt_irrefl, Int.toNat_one, Int.toNat_zero, Bool.false_eq_true, reduceIte, reduceCtorEq, Nat.reduceAdd, Nat.reduceMul, Nat.reduceSub, Nat.reduceLT, Nat.reduceLeDiff, Nat.reduceEqDiff, Int.reduceNeg, Int.reduceAdd, Int.reduceMul, Int.reduceSub, Int.reduceLT, Int.reduceLE, Int.reduceEq, Int.reduceToNat, Int.reduceNatCast, icl, ico, inz, Nat.not_lt_zero]
          exact hnx
        | error a =>
          obtain ⟨kd, q⟩ := a
          simp only [hst] at hQ
          intro M2 g1 g2 g3
          have := hQ M2 (fun j j1 j2 => by rw [g1.1 j j1 j2, gu_n j2, gu_n j2]) (by rw [g1.2.1, gu_s (by decide), gu_s (by decide)]) g2 g3 (by rw [g1.2.2, gu_e]; rfl)
          simp (disch := first | assumption | omega | exact il_cqA _ _ | exact il_cqB _ _) only [wi_39_0, wi_39_1, wi_39_2, wi_39_5, wi_39_6, wi_39_7, wi_39_10, wi_39_11, wi_39_12, wi_39_15, wi_39_16, wi_39_17, wi_39_20, wi_39_23, wi_39_24, wi_39_25, wi_39_26, wi_39_28, wi_39_31, wi_39_34, wi_39_35, wi_39_38, wi_39_41, wi_39_42, wi_39_43, wi_39_44, wi_39_47, wi_39_48, wi_39_51, wi_39_52, wi_39_54, wi_39_57, wi_39_58, wi_39_59, wi_39_60, wi_39_63, wi_39_66, wi_39_67, wi_39_68, wi_39_69, wi_39_72, wi_39_73, wi_39_74, wi_39_77, wi_39_78, wi_39_79, wi_39_82, wi_39_83, wi_39_84, wi_39_87, wi_39_88, wi_39_89, wi_39_92, wi_39_95, wi_39_96, wi_39_97, wi_39_100, wi_39_103, wi_39_104, io_add_o, io_sub_o, io_mul_o, io_neg_o, io_and_r, io_or_r, io_xor_r, io_nd_r, io_shr_r, io_shl1, io_i2b_r, io_i2l_o, io_l2i_o, il_add_o, il_sub_o, il_mul_o, il_neg_o, ib_bit, Int.toNat_natCast, true_implies, false_implies, implies_true, and_true, true_and, and_self, not_true_eq_false, not_false_eq_true, wa_0, wa_1, il_cmp_o, il_cmp0, il_cmp1, il_cmp2, io_bit1, ibt0, ibt1, ibt00, ibt11, ibt10, ibt01, Int.ofNat_lt, Int.ofNat_le, Int.ofNat_inj, Nat.lt_irrefl, Int.lt_irrefl, Int.toNat_one, Int.toNat_zero, Bool.false_eq_true, reduceIte, reduceCtorEq, Nat.reduceAdd, Nat.reduceMul, Nat.reduceSub, Nat.reduceLT, Nat.reduceLeDiff, Nat.reduceEqDiff, Int.reduceNeg, Int.reduceAdd, Int.reduceMul, Int.reduceSub, Int.reduceLT, Int.reduceLE, Int.reduceEq, Int.reduceToNat, Int.reduceNatCast, icl, ico, inz, Nat.not_lt_zero]
          exact this
      · have e3 : ¬ (X (qws X B p) : Int) = 59 := by omega
        rw [if_neg e2] at hQ
        have := hQ (gg_up (gg_up (gg_up M 76 5 (qws X B p : Int)) 76 2 1) 76 3 (qws X B p : Int)) (fun j _ j2 => by rw [gu_n j2, gu_n j2, gu_n j2]) (by rw [gu_s (by decide), gu_s (by decide), gu_s (by decide)]) (by rw [gu_s (by decide), gu_e]; rfl) gu_e (by rw [gu_s (by decide), gu_s (by decide), gu_s (by decide)]; exact h4)
        simp (disch := first | assumption | omega | exact il_cqA _ _ | exact il_cqB _ _) only [wi_39_0, wi_39_1, wi_39_2, wi_39_5, wi_39_6, wi_39_7, wi_39_10, wi_39_11, wi_39_12, wi_39_15, wi_39_16, wi_39_17, wi_39_20, wi_39_23, wi_39_24, wi_39_25, wi_39_26, wi_39_28, wi_39_31, wi_39_34, wi_39_35, wi_39_38, wi_39_41, wi_39_42, wi_39_43, wi_39_44, wi_39_47, wi_39_48, wi_39_51, wi_39_52, wi_39_54, wi_39_57, wi_39_58, wi_39_59, wi_39_60, wi_39_63, wi_39_66, wi_39_67, wi_39_68, wi_39_69, wi_39_72, wi_39_73, wi_39_74, wi_39_77, wi_39_78, wi_39_79, wi_39_82, wi_39_83, wi_39_84, wi_39_87, wi_39_88, wi_39_89, wi_39_92, wi_39_95, wi_39_96, wi_39_97, wi_39_100, wi_39_103, wi_39_104, io_add_o, io_sub_o, io_mul_o, io_neg_o, io_and_r, io_or_r, io_xor_r, io_nd_r, io_shr_r, io_shl1, io_i2b_r, io_i2l_o, io_l2i_o, il_add_o, il_sub_o, il_mul_o, il_neg_o, ib_bit, Int.toNat_natCast, true_implies, false_implies, implies_true, and_true, true_and, and_self, not_true_eq_false, not_false_eq_true, wa_0, wa_1, il_cmp_o, il_cmp0, il_cmp1, il_cmp2, io_bit1, ibt0, ibt1, ibt00, ibt11, ibt10, ibt01, Int.ofNat_lt, Int.ofNat_le, Int.ofNat_inj, Nat.lt_irrefl, Int.lt_irrefl, Int.toNat_one, Int.toNat_zero, Bool.false_eq_true, reduceIte, reduceCtorEq, Nat.reduceAdd, Nat.reduceMul, Nat.reduceSub, Nat.reduceLT, Nat.reduceLeDiff, Nat.reduceEqDiff, Int.reduceNeg, Int.reduceAdd, Int.reduceMul, Int.reduceSub, Int.reduceLT, Int.reduceLE, Int.reduceEq, Int.reduceToNat, Int.reduceNatCast, icl, ico, inz, Nat.not_lt_zero, hr4, wp_isAtEnd _ p M _ hC hpB rfl hat, e1, gu_n, gu_e, hx, e3, wp_fail]
        exact this
    · have e1 : decide (B ≤ qws X B p) = true := decide_eq_true (by omega)
      rw [if_neg e] at hQ
      have := hQ (gg_up M 76 5 (qws X B p : Int)) (fun j _ j2 => gu_n j2) (gu_s (by decide)) (by rw [gu_s (by decide)]; exact h2) (q_C_e hD fun j j1 j2 => gu_n (by omega)) hG
      simp (disch := first | assumption | omega | exact il_cqA _ _ | exact il_cqB _ _) only [wi_39_0, wi_39_1, wi_39_2, wi_39_5, wi_39_6, wi_39_7, wi_39_10, wi_39_11, wi_39_12, wi_39_15, wi_39_16, wi_39_17, wi_39_20, wi_39_23, wi_39_24, wi_39_25, wi_39_26, wi_39_28, wi_39_31, wi_39_34, wi_39_35, wi_39_38, wi_39_41, wi_39_42, wi_39_43, wi_39_44, wi_39_47, wi_39_48, wi_39_51, wi_39_52, wi_39_54, wi_39_57, wi_39_58, wi_39_59, wi_39_60, wi_39_63, wi_39_66, wi_39_67, wi_39_68, wi_39_69, wi_39_72, wi_39_73, wi_39_74, wi_39_77, wi_39_78, wi_39_79, wi_39_82, wi_39_83, wi_39_84, wi_39_87, wi_39_88, wi_39_89, wi_39_92, wi_39_95, wi_39_96, wi_39_97, wi_39_100, wi_39_103, wi_39_104, io_add_o, io_sub_o, io_mul_o, io_neg_o, io_and_r, io_or_r, io_xor_r, io_nd_r, io_shr_r, io_shl1, io_i2b_r, io_i2l_o, io_l2i_o, il_add_o, il_sub_o, il_mul_o, il_neg_o, ib_bit, Int.toNat_natCast, true_implies, false_implies, implies_true, and_true, true_and, and_self, not_true_eq_false, not_false_eq_true, wa_0, wa_1, il_cmp_o, il_cmp0, il_cmp1, il_cmp2, io_bit1, ibt0, ibt1, ibt00, ibt11, ibt10, ibt01, Int.ofNat_lt, Int.ofNat_le, Int.ofNat_inj, Nat.lt_irrefl, Int.lt_irrefl, Int.toNat_one, Int.toNat_zero, Bool.false_eq_true, reduceIte, reduceCtorEq, Nat.reduceAdd, Nat.reduceMul, Nat.reduceSub, Nat.reduceLT, Nat.reduceLeDiff, Nat.reduceEqDiff, Int.reduceNeg, Int.reduceAdd, Int.reduceMul, Int.reduceSub, Int.reduceLT, Int.reduceLE, Int.reduceEq, Int.reduceToNat, Int.reduceNatCast, icl, ico, inz, Nat.not_lt_zero, hr4, wp_isAtEnd _ p M _ hC hpB rfl hat, e1]
      exact this
theorem wp_read {M : gg_M} (hC : qt_C M X B) (hQ : qresA M cc cs (qparse X B) Q) :
    wp N xs (d + 7) 39 0 [gr 76, gr 9, (3, 0)] [] (gk_R, M, 142, cc, cs) Q := by
  have hg9 := gs_G9
  have hC1 : qt_C (gg_up (gg_up (gg_up M 76 5 0) 76 4 0) 76 2 0) X B := qt_C_u (qt_C_u (qt_C_u hC (by decide)) (by decide)) (by decide)
  unfold qparse at hQ
  simp (disch := first | assumption | omega | exact il_cqA _ _ | exact il_cqB _ _) only [wi_39_0, wi_39_1, wi_39_2, wi_39_5, wi_39_6, wi_39_7, wi_39_10, wi_39_11, wi_39_12, wi_39_15, wi_39_16, wi_39_17, wi_39_20, wi_39_23, wi_39_24, wi_39_25, wi_39_26, wi_39_28, wi_39_31, wi_39_34, wi_39_35, wi_39_38, wi_39_41, wi_39_42, wi_39_43, wi_39_44, wi_39_47, wi_39_48, wi_39_51, wi_39_52, wi_39_54, wi_39_57, wi_39_58, wi_39_59, wi_39_60, wi_39_63, wi_39_66, wi_39_67, wi_39_68, wi_39_69, wi_39_72, wi_39_73, wi_39_74, wi_39_77, wi_39_78, wi_39_79, wi_39_82, wi_39_83, wi_39_84, wi_39_87, wi_39_88, wi_39_89, wi_39_92, wi_39_95, wi_39_96, wi_39_97, wi_39_100, wi_39_103, wi_39_104, io_add_o, io_sub_o, io_mul_o, io_neg_o, io_and_r, io_or_r, io_xor_r, io_nd_r, io_shr_r, io_shl1, io_i2b_r, io_i2l_o, io_l2i_o, il_add_o, il_sub_o, il_mul_o, il_neg_o, ib_bit, Int.toNat_natCast, true_implies, false_implies, implies_true, and_true, true_and, and_self, not_true_eq_false, not_false_eq_true, wa_0, wa_1, il_cmp_o, il_cmp0, il_cmp1, il_cmp2, io_bit1, ibt0, ibt1, ibt00, ibt11, ibt10, ibt01, Int.ofNat_lt, Int.ofNat_le, Int.ofNat_inj, Nat.lt_irrefl, Int.lt_irrefl, Int.toNat_one, Int.toNat_zero, Bool.false_eq_true, reduceIte, reduceCtorEq, Nat.reduceAdd, Nat.reduceMul, Nat.reduceSub, Nat.reduceLT, Nat.reduceLeDiff, Nat.reduceEqDiff, Int.reduceNeg, Int.reduceAdd, Int.reduceMul, Int.reduceSub, Int.reduceLT, Int.reduceLE, Int.reduceEq, Int.reduceToNat, Int.reduceNatCast, icl, ico, inz, Nat.not_lt_zero]
  refine wp_readGraph hC1 (by rw [gu_s (by decide), gu_s (by decide), gu_e]) ?_
  cases hst : qp_graph X B with
  | ok a =>
    obtain ⟨G', p'⟩ := a
    simp only [hst] at hQ
    intro M2 g1 g2 g3 g4 g5 g6 g7
    have z2 : M2 76 2 = 0 := by rw [g2, gu_e]
    have z4 : M2 76 4 = ((0 : Nat) : Int) := by rw [g1.2.2, gu_s (by decide), gu_e]; rfl
    have hF2 : ∀ j, j < 9 ∨ 15 < j → j ≠ 76 → M2 j = M j := fun j j1 j2 => by rw [g1.1 j j1 j2, gu_n j2, gu_n j2, gu_n j2]
    have z1 : M2 76 1 = M 76 1 := by rw [g1.2.1, gu_s (by decide), gu_s (by decide), gu_s (by decide)]
    have hC2 : qt_C M2 X B := qt_C_e hC z1 (hF2 77 (by decide) (by decide))
    have hnx := wp_readRest (N := N) (xs := xs) (d := d) (cc := cc) (cs := cs) (X := X) (B := B) 401 0 p' G' M2 Q (by decide) (by omega) g5 g4 hC2 g7 g3 z2 z4 (by
      revert hQ
      cases qp_rest X B 401 G' 0 p' with
      | ok G2 =>
        intro hQ M3 i1 i2 i3 i4 i5
        exact hQ M3 (fun j j1 j2 => by rw [i1 j j1 j2, hF2 j j1 j2]) (by rw [i2, z1]) i3 i4 i5
      | error er =>
        obtain ⟨⟨kd, q⟩, s⟩ := er
        intro hQ M3 i1 i2 i3 i4 i5
        exact hQ M3 (fun j j1 j2 => by rw [i1 j j1 j2, hF2 j j1 j2]) (by rw [i2, z1]) i3 i4 i5)
    simp (disch := first | assumption | omega | exact il_cqA _ _ | exact il_cqB _ _) only [wi_39_0, wi_39_1, wi_39_2, wi_39_5, wi_39_6, wi_39_7, wi_39_10, wi_39_11, wi_39_12, wi_39_15, wi_39_16, wi_39_17, wi_39_20, wi_39_23, wi_39_24, wi_39_25, wi_39_26, wi_39_28, wi_39_31, wi_39_34, wi_39_35, wi_39_38, wi_39_41, wi_39_42, wi_39_43, wi_39_44, wi_39_47, wi_39_48, wi_39_51, wi_39_52, wi_39_54, wi_39_57, wi_39_58, wi_39_59, wi_39_60, wi_39_63, wi_39_66, wi_39_67, wi_39_68, wi_39_69, wi_39_72, wi_39_73, wi_39_74, wi_39_77, wi_39_78, wi_39_79, wi_39_82, wi_39_83, wi_39_84, wi_39_87, wi_39_88, wi_39_89, wi_39_92, wi_39_95, wi_39_96, wi_39_97, wi_39_100, wi_39_103, wi_39_104, io_add_o, io_sub_o, io_mul_o, io_neg_o, io_and_r, io_or_r, io_xor_r, io_nd_r, io_shr_r, io_shl1, io_i2b_r, io_i2l_o, io_l2i_o, il_add_o, il_sub_o, il_mul_o, il_neg_o, ib_bit, Int.toNat_natCast, true_implies, false_implies, implies_true, and_true, true_and, and_self, not_true_eq_false, not_false_eq_true, wa_0, wa_1, il_cmp_o, il_cmp0, il_cmp1, il_cmp2, io_bit1, ibt0, ibt1, ibt00, ibt11, ibt10, ibt01, Int.ofNat_lt, Int.ofNat_le, Int.ofNat_inj, Nat.lt_irrefl, Int.lt_irrefl, Int.toNat_one, Int.toNat_zero, Bool.false_eq_true, reduceIte, reduceCtorEq, Nat.reduceAdd, Nat.reduceMul, Nat.reduceSub, Nat.reduceLT, Nat.reduceLeDiff, Nat.reduceEqDiff, Int.reduceNeg, Int.reduceAdd, Int.reduceMul, Int.reduceSub, Int.reduceLT, Int.reduceLE, Int.reduceEq, Int.reduceToNat, Int.reduceNatCast, icl, ico, inz, Nat.not_lt_zero]
    exact hnx
  | error a =>
    obtain ⟨kd, q⟩ := a
    simp only [hst] at hQ
    intro M2 g1 g2 g3
    have := hQ M2 (fun j j1 j2 => by rw [g1.1 j j1 j2, gu_n j2, gu_n j2, gu_n j2]) (by rw [g1.2.1, gu_s (by decide), gu_s (by decide), gu_s (by decide)]) g2 g3 (by rw [g1.2.2, gu_s (by decide), gu_e]; rfl)
    simp (disch := first | assumption | omega | exact il_cqA _ _ | exact il_cqB _ _) only [wi_39_0, wi_39_1, wi_39_2, wi_39_5, wi_39_6, wi_39_7, wi_39_10, wi_39_11, wi_39_12, wi_39_15, wi_39_16, wi_39_17, wi_39_20, wi_39_23, wi_39_24, wi_39_25, wi_39_26, wi_39_28, wi_39_31, wi_39_34, wi_39_35, wi_39_38, wi_39_41, wi_39_42, wi_39_43, wi_39_44, wi_39_47, wi_39_48, wi_39_51, wi_39_52, wi_39_54, wi_39_57, wi_39_58, wi_39_59, wi_39_60, wi_39_63, wi_39_66, wi_39_67, wi_39_68, wi_39_69, wi_39_72, wi_39_73, wi_39_74, wi_39_77, wi_39_78, wi_39_79, wi_39_82, wi_39_83, wi_39_84, wi_39_87, wi_39_88, wi_39_89, wi_39_92, wi_39_95, wi_39_96, wi_39_97, wi_39_100, wi_39_103, wi_39_104, io_add_o, io_sub_o, io_mul_o, io_neg_o, io_and_r, io_or_r, io_xor_r, io_nd_r, io_shr_r, io_shl1, io_i2b_r, io_i2l_o, io_l2i_o, il_add_o, il_sub_o, il_mul_o, il_neg_o, ib_bit, Int.toNat_natCast, true_implies, false_implies, implies_true, and_true, true_and, and_self, not_true_eq_false, not_false_eq_true, wa_0, wa_1, il_cmp_o, il_cmp0, il_cmp1, il_cmp2, io_bit1, ibt0, ibt1, ibt00, ibt11, ibt10, ibt01, Int.ofNat_lt, Int.ofNat_le, Int.ofNat_inj, Nat.lt_irrefl, Int.lt_irrefl, Int.toNat_one, Int.toNat_zero, Bool.false_eq_true, reduceIte, reduceCtorEq, Nat.reduceAdd, Nat.reduceMul, Nat.reduceSub, Nat.reduceLT, Nat.reduceLeDiff, Nat.reduceEqDiff, Int.reduceNeg, Int.reduceAdd, Int.reduceMul, Int.reduceSub, Int.reduceLT, Int.reduceLE, Int.reduceEq, Int.reduceToNat, Int.reduceNatCast, icl, ico, inz, Nat.not_lt_zero]
    exact this
end SG
