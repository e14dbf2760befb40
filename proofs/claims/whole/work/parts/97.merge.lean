/-! colorings of the contracted graph -/
theorem qsi_add0 (f : Nat → Int) (n m : Nat) : qsi f (n + m) = qsi f n + qsi (fun i => f (n + i)) m := by
  induction m with
  | zero => simp [qsi]
  | succ m ih =>
    show qsi f (n + m) + f (n + m) = _
    rw [ih, qsi]
    omega
theorem qsi_blk (f : Nat → Int) (n m : Nat) : qsi f (n * m) = qsi (fun q => qsi (fun r => f (n * q + r)) n) m := by
  induction m with
  | zero => rfl
  | succ m ih =>
    rw [Nat.mul_succ, qsi_add0, ih]
    rfl
theorem qsi_neg (f : Nat → Int) (n : Nat) : qsi (fun i => -f i) n = -qsi f n := by
  induction n with
  | zero => rfl
  | succ n ih =>
    unfold qsi
    rw [ih]
    omega
theorem qsi_ins {a k : Nat} {f g : Nat → Int} (h0 : ∀ q r, r < 2 ^ a → f (2 ^ (a + 1) * q + r) = 0) (h1 : ∀ q r, q < 2 ^ k → r < 2 ^ a → f (2 ^ (a + 1) * q + (2 ^ a + r)) = g (2 ^ a * q + r)) : qsi f (2 ^ (a + 1 + k)) = qsi g (2 ^ (a + k)) := by
  rw [Nat.pow_add 2 (a + 1) k, Nat.pow_add 2 a k, qsi_blk, qsi_blk]
  refine qsi_congr fun q hq => ?_
  have e : 2 ^ (a + 1) = 2 ^ a + 2 ^ a := by rw [Nat.pow_succ]; omega
  conv => lhs; arg 2; rw [e]
  rw [qsi_add0, qsi_congr (g := fun _ => 0) (fun r hr => ?_), qsi_0, Int.zero_add]
  · exact qsi_congr fun r hr => h1 q r hq hr
  · exact h0 q r hr
theorem qcnt_sg (f : Nat → Bool) (a : Nat) : ∀ n, a ≤ n → qcnt f (n + 1) = qcnt (fun b => f (qsg a b)) n + (f a).toNat := by
  intro n
  induction n with
  | zero =>
    intro h
    rw [show a = 0 by omega]
    rfl
  | succ n ih =>
    intro h
    rw [qcnt]
    by_cases e : a ≤ n
    · rw [ih e, qcnt, show qsg a n = n + 1 from if_neg (by omega)]
      omega
    · have ea : a = n + 1 := by omega
      rw [ea]
      rw [qcnt_congr (g := fun b => f (qsg (n + 1) b)) (fun b hb => by rw [show qsg (n + 1) b = b from if_pos hb])]
theorem tb_ma (i q r j : Nat) (h : r < 2 ^ i) : (2 ^ i * q + r).testBit j = if j < i then r.testBit j else q.testBit (j - i) := Nat.testBit_two_pow_mul_add q h j
theorem qins_bits {a q r : Nat} (hr : r < 2 ^ a) : (2 ^ (a + 1) * q + (2 ^ a + r)).testBit a = true ∧ ∀ b, (2 ^ (a + 1) * q + (2 ^ a + r)).testBit (qsg a b) = (2 ^ a * q + r).testBit b := by
  have e : 2 ^ (a + 1) = 2 ^ a + 2 ^ a := by rw [Nat.pow_succ]; omega
  have hlt : 2 ^ a + r < 2 ^ (a + 1) := by omega
  have e1 : ∀ j, (2 ^ a + r).testBit j = if j < a then r.testBit j else (1 : Nat).testBit (j - a) := fun j => by
    have := tb_ma a 1 r j hr
    rw [Nat.mul_one] at this
    exact this
  refine ⟨?_, fun b => ?_⟩
  · rw [tb_ma _ _ _ _ hlt, if_pos (by omega), e1, if_neg (by omega), Nat.sub_self]
    rfl
  · rw [tb_ma _ _ _ _ hlt, tb_ma _ _ _ _ hr]
    unfold qsg
    by_cases hb : b < a
    · rw [if_pos hb, if_pos (by omega), e1, if_pos hb, if_pos hb]
    · rw [if_neg hb, if_neg (by omega), if_neg hb, show b + 1 - (a + 1) = b - a by omega]
theorem qsu_mrg {G : q_G} (hG : q_ok G) {a : Nat} (ha : a < qK G) (hl : qF G a ≠ qT G a) (c : Int) : -qsu G (qtok G (2 ^ a) (2 ^ a) false) c (2 ^ qK G) = qsu (qmrg G a) (qsf (qmrg G a) (qU (qmrg G a)) false) c (2 ^ qK (qmrg G a)) := by
  obtain ⟨k, hk⟩ : ∃ k, qK G = a + 1 + k := ⟨qK G - (a + 1), by omega⟩
  have hk2 : qK (qmrg G a) = a + k := by rw [qK_mrg]; omega
  unfold qsu
  rw [← qsi_neg, hk, hk2]
  refine qsi_ins (fun q r hr => ?_) (fun q r hq hr => ?_)
  · have : qtok G (2 ^ a) (2 ^ a) false (2 ^ (a + 1) * q + r) = false := by
      unfold qtok
      have hb : (2 ^ (a + 1) * q + r).testBit a = false := by
        rw [tb_ma _ _ _ _ (by rw [Nat.pow_succ]; omega), if_pos (by omega), Nat.testBit_lt_two_pow hr]
      have : ¬ (2 ^ (a + 1) * q + r) &&& 2 ^ a = 2 ^ a := fun h => by
        have h2 := congrArg (fun z => z.testBit a) h
        simp only [Nat.testBit_and, hb, Nat.testBit_two_pow_self, Bool.false_and] at h2
        exact absurd h2 (by decide)
      rw [decide_eq_false this]
      rfl
    rw [this]
    rfl
  · obtain ⟨b1, b2⟩ := qins_bits (q := q) hr
    have ht : 2 ^ a * q + r < 2 ^ (a + k) := by
      rw [Nat.pow_add]
      have : 2 ^ a * q + 2 ^ a ≤ 2 ^ a * 2 ^ k := by
        rw [← Nat.mul_succ]
        exact Nat.mul_le_mul_left _ hq
      omega
    generalize hs : 2 ^ (a + 1) * q + (2 ^ a + r) = s at *
    generalize htt : 2 ^ a * q + r = t at *
    have e1 : qtok G (2 ^ a) (2 ^ a) false s = true := by
      unfold qtok
      rw [decide_eq_true (Nat.eq_of_testBit_eq fun j => ?_)]
      · rfl
      · rw [Nat.testBit_and, Nat.testBit_two_pow]
        by_cases ej : a = j
        · rw [← ej, b1, decide_eq_true rfl]
          rfl
        · rw [decide_eq_false ej, Bool.and_false]
    have e2 : qsf (qmrg G a) (qU (qmrg G a)) false t = true := by
      unfold qsf
      rw [decide_eq_true]
      · rfl
      · unfold qU
        rw [hk2, Nat.and_two_pow_sub_one_eq_mod, Nat.mod_eq_of_lt ht]
    have e3 := qev_mrg hG ha hl (s := s) (t := t) b1 (fun b _ => b2 b)
    have e4 : qsz G s = qsz (qmrg G a) t + 1 := by
      unfold qsz
      rw [hk, hk2, show a + 1 + k = a + k + 1 by omega, qcnt_sg _ a _ (by omega), b1]
      rw [qcnt_congr (g := t.testBit) (fun b _ => b2 b)]
      rfl
    rw [e1, e2, if_pos rfl, if_pos rfl, e3]
    unfold qsg2
    rw [e4]
    by_cases e5 : qsz (qmrg G a) t % 2 = 0
    · rw [if_pos e5, if_neg (by omega)]
      generalize c ^ qev G s = z
      omega
    · rw [if_neg e5, if_pos (by omega)]
      generalize c ^ qev G s = z
      omega
def qmeV (G : q_G) (a n : Nat) : Int := if qF G a = qT G a then -3 else qsu (qmrg G a) (qsf (qmrg G a) (qU (qmrg G a)) false) ((qM G * n + 1 : Nat) : Int) (2 ^ qK (qmrg G a))
section SG
variable {N : Nat} {xs : Nat → Int32} {d : Nat} {M : gg_M} {cc cs : Nat} {A : q_A}
theorem cq_134 (hI : q_I M A) (hA : a_ok A) {x y : Int} (x1 : -2147483648 ≤ x) (x2 : x ≤ 2147483647) (y1 : -2147483648 ≤ y) (y2 : y ≤ 2147483647) : q_cS N xs (d + 30) 134 [(0, x), (0, y)] M (A) cc cs (o_ac A x y) 1 (qmeV (aG A) x.toNat y.toNat) := by
  have hG := hA.1
  have hC := hI.1
  have hg := gs_G2_
  intro Q h0 h1
  by_cases e1 : 0 ≤ x ∧ x < qK (aG A)
  · by_cases e : 1 ≤ y ∧ y ≤ 5
    · have ho : o_ac A x y = 0 := by rw [o_ac, if_pos e1, if_pos e]
      simp (disch := first | assumption | omega | exact il_cqA _ _ | exact il_cqB _ _) only [wi_134_0, wi_134_1, wi_134_2, wi_134_5, wi_134_6, wi_134_9, wi_134_10, wi_134_13, wi_134_14, wi_134_17, wi_134_20, wi_134_23, wi_134_24, wi_134_25, wi_134_28, wi_134_29, wi_134_32, wi_134_33, wi_134_34, wi_134_35, wi_134_36, wi_134_37, wi_134_38, wi_134_39, wi_134_42, wi_134_43, wi_134_46, wi_134_47, wi_134_50, wi_134_51, wi_134_54, wi_134_57, wi_134_58, io_add_o, io_sub_o, io_mul_o, io_neg_o, io_and_r, io_or_r, io_xor_r, io_nd_r, io_shr_r, io_shl1, io_i2b_r, io_i2l_o, io_l2i_o, il_add_o, il_sub_o, il_mul_o, il_neg_o, ib_bit, Int.toNat_natCast, true_implies, false_implies, implies_true, and_true, true_and, and_self, not_true_eq_false, not_false_eq_true, wa_0, wa_1, il_cmp_o, il_cmp0, il_cmp1, il_cmp2, io_bit1, ibt0, ibt1, ibt00, ibt11, ibt10, ibt01, Int.ofNat_lt, Int.ofNat_le, Int.ofNat_inj, Nat.lt_irrefl, Int.lt_irrefl, Int.toNat_one, Int.toNat_zero, Bool.false_eq_true, reduceIte, reduceCtorEq, Nat.reduceAdd, Nat.reduceMul, Nat.reduceSub, Nat.reduceLT, Nat.reduceLeDiff, Nat.reduceEqDiff, Int.reduceNeg, Int.reduceAdd, Int.reduceMul, Int.reduceSub, Int.reduceLT, Int.reduceLE, Int.reduceEq, Int.reduceToNat, Int.reduceNatCast, icl, ico, inz, Nat.not_lt_zero, wp_needArc x1 x2 hG hC, if_pos e1, wp_needColors y1 y2, if_pos e]
      obtain ⟨a, rfl⟩ := Int.eq_ofNat_of_zero_le e1.1
      obtain ⟨n, rfl⟩ := Int.eq_ofNat_of_zero_le (show 0 ≤ y by omega)
      have ha : a < qK (aG A) := by omega
      have hn : n ≤ 5 := by omega
      have ha12 : a < 12 := Nat.lt_of_lt_of_le ha hG.1.2.2.2.2.1
      have ha2 : 2 ^ a ≤ 2 ^ 11 := Nat.pow_le_pow_right (by decide) (by omega)
      have ha1 : 1 ≤ 2 ^ a := Nat.one_le_two_pow
      obtain ⟨⟨k1, k2, k3, k4, k5, k6, k7, k8⟩, _⟩ := id hG
      have hml : qM (aG A) * n ≤ 60 := by have := Nat.mul_le_mul k4 hn; omega
      have em : (qM (aG A) : Int) * (n : Int) = ((qM (aG A) * n : Nat) : Int) := rfl
      have ec : ((qM (aG A) * n : Nat) : Int) + 1 = ((qM (aG A) * n + 1 : Nat) : Int) := rfl
      have hFa := hC.2.1 a ha
      have hTa := hC.2.2.1 a ha
      have hfa := (hG.2.1 a ha).1
      have hta := (hG.2.1 a ha).2.1
      have h0 := h0 ho
      rw [Int.toNat_natCast, Int.toNat_natCast] at h0
      unfold qmeV at h0
      by_cases el : qF (aG A) a = qT (aG A) a
      · rw [if_pos el] at h0
        simp (disch := first | assumption | omega | exact il_cqA _ _ | exact il_cqB _ _) only [wi_134_0, wi_134_1, wi_134_2, wi_134_5, wi_134_6, wi_134_9, wi_134_10, wi_134_13, wi_134_14, wi_134_17, wi_134_20, wi_134_23, wi_134_24, wi_134_25, wi_134_28, wi_134_29, wi_134_32, wi_134_33, wi_134_34, wi_134_35, wi_134_36, wi_134_37, wi_134_38, wi_134_39, wi_134_42, wi_134_43, wi_134_46, wi_134_47, wi_134_50, wi_134_51, wi_134_54, wi_134_57, wi_134_58, wi_4_0, wi_4_1, wi_4_4, wi_4_5, wi_4_6, wi_4_7, wi_4_10, wi_4_11, wi_4_12, wi_4_15, wi_4_16, wi_4_19, wi_4_20, io_add_o, io_sub_o, io_mul_o, io_neg_o, io_and_r, io_or_r, io_xor_r, io_nd_r, io_shr_r, io_shl1, io_i2b_r, io_i2l_o, io_l2i_o, il_add_o, il_sub_o, il_mul_o, il_neg_o, ib_bit, Int.toNat_natCast, true_implies, false_implies, implies_true, and_true, true_and, and_self, not_true_eq_false, not_false_eq_true, wa_0, wa_1, il_cmp_o, il_cmp0, il_cmp1, il_cmp2, io_bit1, ibt0, ibt1, ibt00, ibt11, ibt10, ibt01, Int.ofNat_lt, Int.ofNat_le, Int.ofNat_inj, Nat.lt_irrefl, Int.lt_irrefl, Int.toNat_one, Int.toNat_zero, Bool.false_eq_true, reduceIte, reduceCtorEq, Nat.reduceAdd, Nat.reduceMul, Nat.reduceSub, Nat.reduceLT, Nat.reduceLeDiff, Nat.reduceEqDiff, Int.reduceNeg, Int.reduceAdd, Int.reduceMul, Int.reduceSub, Int.reduceLT, Int.reduceLE, Int.reduceEq, Int.reduceToNat, Int.reduceNatCast, icl, ico, inz, Nat.not_lt_zero, hFa, hTa, el]
        exact h0 M (fun _ _ => rfl) hI
      · rw [if_neg el] at h0
        have el2 : ¬ ((qF (aG A) a : Nat) : Int) = (qT (aG A) a : Int) := by omega
        simp (disch := first | assumption | omega | exact il_cqA _ _ | exact il_cqB _ _) only [wi_134_0, wi_134_1, wi_134_2, wi_134_5, wi_134_6, wi_134_9, wi_134_10, wi_134_13, wi_134_14, wi_134_17, wi_134_20, wi_134_23, wi_134_24, wi_134_25, wi_134_28, wi_134_29, wi_134_32, wi_134_33, wi_134_34, wi_134_35, wi_134_36, wi_134_37, wi_134_38, wi_134_39, wi_134_42, wi_134_43, wi_134_46, wi_134_47, wi_134_50, wi_134_51, wi_134_54, wi_134_57, wi_134_58, wi_4_0, wi_4_1, wi_4_4, wi_4_5, wi_4_6, wi_4_7, wi_4_10, wi_4_11, wi_4_12, wi_4_15, wi_4_16, wi_4_19, wi_4_20, io_add_o, io_sub_o, io_mul_o, io_neg_o, io_and_r, io_or_r, io_xor_r, io_nd_r, io_shr_r, io_shl1, io_i2b_r, io_i2l_o, io_l2i_o, il_add_o, il_sub_o, il_mul_o, il_neg_o, ib_bit, Int.toNat_natCast, true_implies, false_implies, implies_true, and_true, true_and, and_self, not_true_eq_false, not_false_eq_true, wa_0, wa_1, il_cmp_o, il_cmp0, il_cmp1, il_cmp2, io_bit1, ibt0, ibt1, ibt00, ibt11, ibt10, ibt01, Int.ofNat_lt, Int.ofNat_le, Int.ofNat_inj, Nat.lt_irrefl, Int.lt_irrefl, Int.toNat_one, Int.toNat_zero, Bool.false_eq_true, reduceIte, reduceCtorEq, Nat.reduceAdd, Nat.reduceMul, Nat.reduceSub, Nat.reduceLT, Nat.reduceLeDiff, Nat.reduceEqDiff, Int.reduceNeg, Int.reduceAdd, Int.reduceMul, Int.reduceSub, Int.reduceLT, Int.reduceLE, Int.reduceEq, Int.reduceToNat, Int.reduceNatCast, icl, ico, inz, Nat.not_lt_zero, hFa, hTa, el, el2]
        refine wp_tally hg hG hC hI.2.1 (mask := 2 ^ a) (wanted := 2 ^ a) (b := false) (by omega) (by omega) (fun M' hM' hS' h85 => ?_)
        have h2' : M' 2 1 = (qM (aG A) : Int) := by rw [hM' 2 (by decide)]; exact hC.1.2.1
        have hq : qho (fun k => qtl (aG A) (qtok (aG A) (2 ^ a) (2 ^ a) false) k (2 ^ qK (aG A))) ((qM (aG A) * n + 1 : Nat) : Int) 9 = qsu (aG A) (qtok (aG A) (2 ^ a) (2 ^ a) false) ((qM (aG A) * n + 1 : Nat) : Int) (2 ^ qK (aG A)) := by rw [qho_9, qsu_tl hG]
        have hb := qsu_9 hG (qtok (aG A) (2 ^ a) (2 ^ a) false) (c := qM (aG A) * n + 1) (by omega)
        have hmr := qsu_mrg hG ha el ((qM (aG A) * n + 1 : Nat) : Int)
        simp (disch := first | assumption | omega | exact il_cqA _ _ | exact il_cqB _ _) only [wi_134_0, wi_134_1, wi_134_2, wi_134_5, wi_134_6, wi_134_9, wi_134_10, wi_134_13, wi_134_14, wi_134_17, wi_134_20, wi_134_23, wi_134_24, wi_134_25, wi_134_28, wi_134_29, wi_134_32, wi_134_33, wi_134_34, wi_134_35, wi_134_36, wi_134_37, wi_134_38, wi_134_39, wi_134_42, wi_134_43, wi_134_46, wi_134_47, wi_134_50, wi_134_51, wi_134_54, wi_134_57, wi_134_58, wi_17_0, wi_17_1, wi_17_4, wi_17_5, wi_17_6, wi_17_7, wi_17_8, io_add_o, io_sub_o, io_mul_o, io_neg_o, io_and_r, io_or_r, io_xor_r, io_nd_r, io_shr_r, io_shl1, io_i2b_r, io_i2l_o, io_l2i_o, il_add_o, il_sub_o, il_mul_o, il_neg_o, ib_bit, Int.toNat_natCast, true_implies, false_implies, implies_true, and_true, true_and, and_self, not_true_eq_false, not_false_eq_true, wa_0, wa_1, il_cmp_o, il_cmp0, il_cmp1, il_cmp2, io_bit1, ibt0, ibt1, ibt00, ibt11, ibt10, ibt01, Int.ofNat_lt, Int.ofNat_le, Int.ofNat_inj, Nat.lt_irrefl, Int.lt_irrefl, Int.toNat_one, Int.toNat_zero, Bool.false_eq_true, reduceIte, reduceCtorEq, Nat.reduceAdd, Nat.reduceMul, Nat.reduceSub, Nat.reduceLT, Nat.reduceLeDiff, Nat.reduceEqDiff, Int.reduceNeg, Int.reduceAdd, Int.reduceMul, Int.reduceSub, Int.reduceLT, Int.reduceLE, Int.reduceEq, Int.reduceToNat, Int.reduceNatCast, icl, ico, inz, Nat.not_lt_zero, h2', em, ec, wp_sumAt (c := qM (aG A) * n + 1) (f := fun k => qtl (aG A) (qtok (aG A) (2 ^ a) (2 ^ a) false) k (2 ^ qK (aG A))) (by omega) (qtl_4 hG _) h85, hq, hmr]
        exact h0 M' (fr_8 hM') (q_I_8 hI hM' hS')
    · have ho : o_ac A x y = 2 := by rw [o_ac, if_pos e1, if_neg e]
      simp (disch := first | assumption | omega | exact il_cqA _ _ | exact il_cqB _ _) only [wi_134_0, wi_134_1, wi_134_2, wi_134_5, wi_134_6, wi_134_9, wi_134_10, wi_134_13, wi_134_14, wi_134_17, wi_134_20, wi_134_23, wi_134_24, wi_134_25, wi_134_28, wi_134_29, wi_134_32, wi_134_33, wi_134_34, wi_134_35, wi_134_36, wi_134_37, wi_134_38, wi_134_39, wi_134_42, wi_134_43, wi_134_46, wi_134_47, wi_134_50, wi_134_51, wi_134_54, wi_134_57, wi_134_58, io_add_o, io_sub_o, io_mul_o, io_neg_o, io_and_r, io_or_r, io_xor_r, io_nd_r, io_shr_r, io_shl1, io_i2b_r, io_i2l_o, io_l2i_o, il_add_o, il_sub_o, il_mul_o, il_neg_o, ib_bit, Int.toNat_natCast, true_implies, false_implies, implies_true, and_true, true_and, and_self, not_true_eq_false, not_false_eq_true, wa_0, wa_1, il_cmp_o, il_cmp0, il_cmp1, il_cmp2, io_bit1, ibt0, ibt1, ibt00, ibt11, ibt10, ibt01, Int.ofNat_lt, Int.ofNat_le, Int.ofNat_inj, Nat.lt_irrefl, Int.lt_irrefl, Int.toNat_one, Int.toNat_zero, Bool.false_eq_true, reduceIte, reduceCtorEq, Nat.reduceAdd, Nat.reduceMul, Nat.reduceSub, Nat.reduceLT, Nat.reduceLeDiff, Nat.reduceEqDiff, Int.reduceNeg, Int.reduceAdd, Int.reduceMul, Int.reduceSub, Int.reduceLT, Int.reduceLE, Int.reduceEq, Int.reduceToNat, Int.reduceNatCast, icl, ico, inz, Nat.not_lt_zero, wp_needArc x1 x2 hG hC, if_pos e1, wp_needColors y1 y2, if_neg e, wa_x2 (k := 134) (by decide +kernel), wa_x3 (k := 134) (by decide +kernel)]
      have := h1 (by rw [ho]; decide) hI
      rw [ho] at this
      exact this
  · have ho : o_ac A x y = 3 := by rw [o_ac, if_neg e1]
    simp (disch := first | assumption | omega | exact il_cqA _ _ | exact il_cqB _ _) only [wi_134_0, wi_134_1, wi_134_2, wi_134_5, wi_134_6, wi_134_9, wi_134_10, wi_134_13, wi_134_14, wi_134_17, wi_134_20, wi_134_23, wi_134_24, wi_134_25, wi_134_28, wi_134_29, wi_134_32, wi_134_33, wi_134_34, wi_134_35, wi_134_36, wi_134_37, wi_134_38, wi_134_39, wi_134_42, wi_134_43, wi_134_46, wi_134_47, wi_134_50, wi_134_51, wi_134_54, wi_134_57, wi_134_58, io_add_o, io_sub_o, io_mul_o, io_neg_o, io_and_r, io_or_r, io_xor_r, io_nd_r, io_shr_r, io_shl1, io_i2b_r, io_i2l_o, io_l2i_o, il_add_o, il_sub_o, il_mul_o, il_neg_o, ib_bit, Int.toNat_natCast, true_implies, false_implies, implies_true, and_true, true_and, and_self, not_true_eq_false, not_false_eq_true, wa_0, wa_1, il_cmp_o, il_cmp0, il_cmp1, il_cmp2, io_bit1, ibt0, ibt1, ibt00, ibt11, ibt10, ibt01, Int.ofNat_lt, Int.ofNat_le, Int.ofNat_inj, Nat.lt_irrefl, Int.lt_irrefl, Int.toNat_one, Int.toNat_zero, Bool.false_eq_true, reduceIte, reduceCtorEq, Nat.reduceAdd, Nat.reduceMul, Nat.reduceSub, Nat.reduceLT, Nat.reduceLeDiff, Nat.reduceEqDiff, Int.reduceNeg, Int.reduceAdd, Int.reduceMul, Int.reduceSub, Int.reduceLT, Int.reduceLE, Int.reduceEq, Int.reduceToNat, Int.reduceNatCast, icl, ico, inz, Nat.not_lt_zero, wp_needArc x1 x2 hG hC, if_neg e1, wa_x2 (k := 134) (by decide +kernel), wa_x3 (k := 134) (by decide +kernel)]
    have := h1 (by rw [ho]; decide) hI
    rw [ho] at this
    exact this
theorem q_V_R {M' : gg_M} (h : q_V M A) (hR : q_R (M' 143) (aG A)) (h146 : M' 146 = M 146) (h147 : M' 147 = M 147) (h148 : M' 148 = M 148) (h149 : M' 149 = M 149) (h142 : ∀ f, (f = 6 ∨ f = 9 ∨ f = 15 ∨ f = 16) → M' 142 f = M 142 f) : q_V M' A := by
  obtain ⟨h1, ⟨h2, h3, h4⟩, h5, h6, h7, h8⟩ := h
  refine ⟨hR, ⟨by rw [h142 6 (by decide)]; exact h2, h3, by rw [h146]; exact h4⟩, by rw [h147, h148]; exact h5, qt_V_e h6 (h142 9 (by decide)) h149, by rw [h142 15 (by decide)]; exact h7, by rw [h142 16 (by decide)]; exact h8⟩
theorem mq_266 (hV : q_V M A) (hA : a_ok A) {x y : Int} (x1 : -2147483648 ≤ x) (x2 : x ≤ 2147483647) (y1 : -2147483648 ≤ y) (y2 : y ≤ 2147483647) : q_mS N xs (d + 31) 266 [(0, x), (0, y), (3, 0), (3, 0)] M (A) cc cs (o_ac A x y) true 1 (qmeV (aG A) x.toNat y.toNat) := by
  have hG := hA.1
  intro Q h0
  have hV1 := q_V_t (x := 0) hV
  have hR1 := hV1.1
  by_cases e1 : 0 ≤ x ∧ x < qK (aG A)
  · by_cases e : 1 ≤ y ∧ y ≤ 5
    · have ho : o_ac A x y = 0 := by rw [o_ac, if_pos e1, if_pos e]
      simp (disch := first | assumption | omega | exact il_cqA _ _ | exact il_cqB _ _) only [wi_266_0, wi_266_1, wi_266_2, wi_266_3, wi_266_6, wi_266_7, wi_266_10, wi_266_13, wi_266_14, wi_266_15, wi_266_18, wi_266_19, wi_266_22, wi_266_25, wi_266_26, wi_266_27, wi_266_28, wi_266_31, wi_266_33, wi_266_34, wi_266_35, wi_266_36, wi_266_37, wi_266_40, wi_266_42, wi_266_43, wi_266_44, wi_266_45, wi_266_48, wi_266_51, wi_266_52, wi_266_53, wi_266_56, wi_266_57, wi_266_58, wi_266_61, wi_266_62, wi_266_65, wi_266_66, wi_266_67, wi_266_70, wi_266_71, wi_266_72, wi_266_75, wi_266_76, wi_266_77, wi_266_80, wi_266_81, wi_266_82, wi_266_85, wi_266_86, wi_266_87, wi_266_90, wi_266_91, wi_266_92, wi_266_95, wi_266_96, wi_266_99, wi_266_100, wi_174_0, wi_174_1, wi_174_2, wi_174_3, wi_174_6, wi_174_9, io_add_o, io_sub_o, io_mul_o, io_neg_o, io_and_r, io_or_r, io_xor_r, io_nd_r, io_shr_r, io_shl1, io_i2b_r, io_i2l_o, io_l2i_o, il_add_o, il_sub_o, il_mul_o, il_neg_o, ib_bit, Int.toNat_natCast, true_implies, false_implies, implies_true, and_true, true_and, and_self, not_true_eq_false, not_false_eq_true, wa_0, wa_1, il_cmp_o, il_cmp0, il_cmp1, il_cmp2, io_bit1, ibt0, ibt1, ibt00, ibt11, ibt10, ibt01, Int.ofNat_lt, Int.ofNat_le, Int.ofNat_inj, Nat.lt_irrefl, Int.lt_irrefl, Int.toNat_one, Int.toNat_zero, Bool.false_eq_true, reduceIte, reduceCtorEq, Nat.reduceAdd, Nat.reduceMul, Nat.reduceSub, Nat.reduceLT, Nat.reduceLeDiff, Nat.reduceEqDiff, Int.reduceNeg, Int.reduceAdd, Int.reduceMul, Int.reduceSub, Int.reduceLT, Int.reduceLE, Int.reduceEq, Int.reduceToNat, Int.reduceNatCast, icl, ico, inz, Nat.not_lt_zero, wp_misArc x1 x2 hV.1 hG, decide_eq_true e1, wp_in, if_pos e, wp_isT1, gu_gu]
      obtain ⟨a, rfl⟩ := Int.eq_ofNat_of_zero_le e1.1
      obtain ⟨n, rfl⟩ := Int.eq_ofNat_of_zero_le (show 0 ≤ y by omega)
      have ha : a < qK (aG A) := by omega
      have hn : n ≤ 5 := by omega
      have ha12 : a < 12 := Nat.lt_of_lt_of_le ha hG.1.2.2.2.2.1
      obtain ⟨⟨k1, k2, k3, k4, k5, k6, k7, k8⟩, _⟩ := id hG
      have hml : qM (aG A) * n ≤ 60 := by have := Nat.mul_le_mul k4 hn; omega
      have em : (qM (aG A) : Int) * (n : Int) = ((qM (aG A) * n : Nat) : Int) := rfl
      have ec : ((qM (aG A) * n : Nat) : Int) + 1 = ((qM (aG A) * n + 1 : Nat) : Int) := rfl
      have hFa := hR1.2.1 a ha
      have hTa := hR1.2.2.1 a ha
      have hfa := (hG.2.1 a ha).1
      have hta := (hG.2.1 a ha).2.1
      by_cases el : qF (aG A) a = qT (aG A) a
      · have hz := fun M' b hM hb => q_mend (M' := M') (b := b) h0 ho hV hM hb
        rw [Int.toNat_natCast, Int.toNat_natCast] at hz
        unfold qmeV at hz
        rw [if_pos el] at hz
        simp (disch := first | assumption | omega | exact il_cqA _ _ | exact il_cqB _ _) only [wi_266_0, wi_266_1, wi_266_2, wi_266_3, wi_266_6, wi_266_7, wi_266_10, wi_266_13, wi_266_14, wi_266_15, wi_266_18, wi_266_19, wi_266_22, wi_266_25, wi_266_26, wi_266_27, wi_266_28, wi_266_31, wi_266_33, wi_266_34, wi_266_35, wi_266_36, wi_266_37, wi_266_40, wi_266_42, wi_266_43, wi_266_44, wi_266_45, wi_266_48, wi_266_51, wi_266_52, wi_266_53, wi_266_56, wi_266_57, wi_266_58, wi_266_61, wi_266_62, wi_266_65, wi_266_66, wi_266_67, wi_266_70, wi_266_71, wi_266_72, wi_266_75, wi_266_76, wi_266_77, wi_266_80, wi_266_81, wi_266_82, wi_266_85, wi_266_86, wi_266_87, wi_266_90, wi_266_91, wi_266_92, wi_266_95, wi_266_96, wi_266_99, wi_266_100, io_add_o, io_sub_o, io_mul_o, io_neg_o, io_and_r, io_or_r, io_xor_r, io_nd_r, io_shr_r, io_shl1, io_i2b_r, io_i2l_o, io_l2i_o, il_add_o, il_sub_o, il_mul_o, il_neg_o, ib_bit, Int.toNat_natCast, true_implies, false_implies, implies_true, and_true, true_and, and_self, not_true_eq_false, not_false_eq_true, wa_0, wa_1, il_cmp_o, il_cmp0, il_cmp1, il_cmp2, io_bit1, ibt0, ibt1, ibt00, ibt11, ibt10, ibt01, Int.ofNat_lt, Int.ofNat_le, Int.ofNat_inj, Nat.lt_irrefl, Int.lt_irrefl, Int.toNat_one, Int.toNat_zero, Bool.false_eq_true, reduceIte, reduceCtorEq, Nat.reduceAdd, Nat.reduceMul, Nat.reduceSub, Nat.reduceLT, Nat.reduceLeDiff, Nat.reduceEqDiff, Int.reduceNeg, Int.reduceAdd, Int.reduceMul, Int.reduceSub, Int.reduceLT, Int.reduceLE, Int.reduceEq, Int.reduceToNat, Int.reduceNatCast, icl, ico, inz, Nat.not_lt_zero, hFa, hTa, el, it9, it21]
        exact hz _ _ (fun _ _ _ _ => rfl) rfl
      · rw [Int.toNat_natCast, Int.toNat_natCast] at h0
        unfold qmeV at h0
        rw [if_neg el] at h0
        have el2 : ¬ ((qF (aG A) a : Nat) : Int) = (qT (aG A) a : Int) := by omega
        have g143 : gs_a 143 1 65 := gs_ab_ok (by decide +kernel)
        have g145 : gs_a 145 1 65 := gs_ab_ok (by decide +kernel)
        simp (disch := first | assumption | omega | exact il_cqA _ _ | exact il_cqB _ _) only [wi_266_0, wi_266_1, wi_266_2, wi_266_3, wi_266_6, wi_266_7, wi_266_10, wi_266_13, wi_266_14, wi_266_15, wi_266_18, wi_266_19, wi_266_22, wi_266_25, wi_266_26, wi_266_27, wi_266_28, wi_266_31, wi_266_33, wi_266_34, wi_266_35, wi_266_36, wi_266_37, wi_266_40, wi_266_42, wi_266_43, wi_266_44, wi_266_45, wi_266_48, wi_266_51, wi_266_52, wi_266_53, wi_266_56, wi_266_57, wi_266_58, wi_266_61, wi_266_62, wi_266_65, wi_266_66, wi_266_67, wi_266_70, wi_266_71, wi_266_72, wi_266_75, wi_266_76, wi_266_77, wi_266_80, wi_266_81, wi_266_82, wi_266_85, wi_266_86, wi_266_87, wi_266_90, wi_266_91, wi_266_92, wi_266_95, wi_266_96, wi_266_99, wi_266_100, io_add_o, io_sub_o, io_mul_o, io_neg_o, io_and_r, io_or_r, io_xor_r, io_nd_r, io_shr_r, io_shl1, io_i2b_r, io_i2l_o, io_l2i_o, il_add_o, il_sub_o, il_mul_o, il_neg_o, ib_bit, Int.toNat_natCast, true_implies, false_implies, implies_true, and_true, true_and, and_self, not_true_eq_false, not_false_eq_true, wa_0, wa_1, il_cmp_o, il_cmp0, il_cmp1, il_cmp2, io_bit1, ibt0, ibt1, ibt00, ibt11, ibt10, ibt01, Int.ofNat_lt, Int.ofNat_le, Int.ofNat_inj, Nat.lt_irrefl, Int.lt_irrefl, Int.toNat_one, Int.toNat_zero, Bool.false_eq_true, reduceIte, reduceCtorEq, Nat.reduceAdd, Nat.reduceMul, Nat.reduceSub, Nat.reduceLT, Nat.reduceLeDiff, Nat.reduceEqDiff, Int.reduceNeg, Int.reduceAdd, Int.reduceMul, Int.reduceSub, Int.reduceLT, Int.reduceLE, Int.reduceEq, Int.reduceToNat, Int.reduceNatCast, icl, ico, inz, Nat.not_lt_zero, hFa, hTa, el, el2, it9, it21]
        refine wp_mcopies (here := 0) (there := 0) g143 g145 (by decide) (by decide) (by decide) (by decide) (by decide) (fun M1 hM1 hv1 _ => ?_)
        have hR2 : q_R (M1 143) (aG A) := by rw [hM1 143 (by decide)]; exact hR1
        simp (disch := first | assumption | omega | exact il_cqA _ _ | exact il_cqB _ _) only [wi_266_0, wi_266_1, wi_266_2, wi_266_3, wi_266_6, wi_266_7, wi_266_10, wi_266_13, wi_266_14, wi_266_15, wi_266_18, wi_266_19, wi_266_22, wi_266_25, wi_266_26, wi_266_27, wi_266_28, wi_266_31, wi_266_33, wi_266_34, wi_266_35, wi_266_36, wi_266_37, wi_266_40, wi_266_42, wi_266_43, wi_266_44, wi_266_45, wi_266_48, wi_266_51, wi_266_52, wi_266_53, wi_266_56, wi_266_57, wi_266_58, wi_266_61, wi_266_62, wi_266_65, wi_266_66, wi_266_67, wi_266_70, wi_266_71, wi_266_72, wi_266_75, wi_266_76, wi_266_77, wi_266_80, wi_266_81, wi_266_82, wi_266_85, wi_266_86, wi_266_87, wi_266_90, wi_266_91, wi_266_92, wi_266_95, wi_266_96, wi_266_99, wi_266_100, io_add_o, io_sub_o, io_mul_o, io_neg_o, io_and_r, io_or_r, io_xor_r, io_nd_r, io_shr_r, io_shl1, io_i2b_r, io_i2l_o, io_l2i_o, il_add_o, il_sub_o, il_mul_o, il_neg_o, ib_bit, Int.toNat_natCast, true_implies, false_implies, implies_true, and_true, true_and, and_self, not_true_eq_false, not_false_eq_true, wa_0, wa_1, il_cmp_o, il_cmp0, il_cmp1, il_cmp2, io_bit1, ibt0, ibt1, ibt00, ibt11, ibt10, ibt01, Int.ofNat_lt, Int.ofNat_le, Int.ofNat_inj, Nat.lt_irrefl, Int.lt_irrefl, Int.toNat_one, Int.toNat_zero, Bool.false_eq_true, reduceIte, reduceCtorEq, Nat.reduceAdd, Nat.reduceMul, Nat.reduceSub, Nat.reduceLT, Nat.reduceLeDiff, Nat.reduceEqDiff, Int.reduceNeg, Int.reduceAdd, Int.reduceMul, Int.reduceSub, Int.reduceLT, Int.reduceLE, Int.reduceEq, Int.reduceToNat, Int.reduceNatCast, icl, ico, inz, Nat.not_lt_zero]
        refine wp_mmerges hG hR2 ha el (fun M2 hM2 hR3 => ?_)
        have hG3 := qok_mrg hG ha el
        have hmM : M2 143 1 = (qM (aG A) : Int) := hR3.1.2.1
        simp (disch := first | assumption | omega | exact il_cqA _ _ | exact il_cqB _ _) only [wi_266_0, wi_266_1, wi_266_2, wi_266_3, wi_266_6, wi_266_7, wi_266_10, wi_266_13, wi_266_14, wi_266_15, wi_266_18, wi_266_19, wi_266_22, wi_266_25, wi_266_26, wi_266_27, wi_266_28, wi_266_31, wi_266_33, wi_266_34, wi_266_35, wi_266_36, wi_266_37, wi_266_40, wi_266_42, wi_266_43, wi_266_44, wi_266_45, wi_266_48, wi_266_51, wi_266_52, wi_266_53, wi_266_56, wi_266_57, wi_266_58, wi_266_61, wi_266_62, wi_266_65, wi_266_66, wi_266_67, wi_266_70, wi_266_71, wi_266_72, wi_266_75, wi_266_76, wi_266_77, wi_266_80, wi_266_81, wi_266_82, wi_266_85, wi_266_86, wi_266_87, wi_266_90, wi_266_91, wi_266_92, wi_266_95, wi_266_96, wi_266_99, wi_266_100, wi_235_0, wi_235_1, wi_235_4, wi_235_5, wi_235_6, wi_235_7, wi_235_8, wi_235_9, wi_235_10, io_add_o, io_sub_o, io_mul_o, io_neg_o, io_and_r, io_or_r, io_xor_r, io_nd_r, io_shr_r, io_shl1, io_i2b_r, io_i2l_o, io_l2i_o, il_add_o, il_sub_o, il_mul_o, il_neg_o, ib_bit, Int.toNat_natCast, true_implies, false_implies, implies_true, and_true, true_and, and_self, not_true_eq_false, not_false_eq_true, wa_0, wa_1, il_cmp_o, il_cmp0, il_cmp1, il_cmp2, io_bit1, ibt0, ibt1, ibt00, ibt11, ibt10, ibt01, Int.ofNat_lt, Int.ofNat_le, Int.ofNat_inj, Nat.lt_irrefl, Int.lt_irrefl, Int.toNat_one, Int.toNat_zero, Bool.false_eq_true, reduceIte, reduceCtorEq, Nat.reduceAdd, Nat.reduceMul, Nat.reduceSub, Nat.reduceLT, Nat.reduceLeDiff, Nat.reduceEqDiff, Int.reduceNeg, Int.reduceAdd, Int.reduceMul, Int.reduceSub, Int.reduceLT, Int.reduceLE, Int.reduceEq, Int.reduceToNat, Int.reduceNatCast, icl, ico, inz, Nat.not_lt_zero, wp_mall hR3 hG3, hmM, em, ec]
        refine wp_msum hR3 hG3 (of := qU (qmrg (aG A) a)) qU_lt (c := qM (aG A) * n + 1) (by omega) (b := false) (fun M3 hM3 => ?_)
        simp (disch := first | assumption | omega | exact il_cqA _ _ | exact il_cqB _ _) only [wi_266_0, wi_266_1, wi_266_2, wi_266_3, wi_266_6, wi_266_7, wi_266_10, wi_266_13, wi_266_14, wi_266_15, wi_266_18, wi_266_19, wi_266_22, wi_266_25, wi_266_26, wi_266_27, wi_266_28, wi_266_31, wi_266_33, wi_266_34, wi_266_35, wi_266_36, wi_266_37, wi_266_40, wi_266_42, wi_266_43, wi_266_44, wi_266_45, wi_266_48, wi_266_51, wi_266_52, wi_266_53, wi_266_56, wi_266_57, wi_266_58, wi_266_61, wi_266_62, wi_266_65, wi_266_66, wi_266_67, wi_266_70, wi_266_71, wi_266_72, wi_266_75, wi_266_76, wi_266_77, wi_266_80, wi_266_81, wi_266_82, wi_266_85, wi_266_86, wi_266_87, wi_266_90, wi_266_91, wi_266_92, wi_266_95, wi_266_96, wi_266_99, wi_266_100, io_add_o, io_sub_o, io_mul_o, io_neg_o, io_and_r, io_or_r, io_xor_r, io_nd_r, io_shr_r, io_shl1, io_i2b_r, io_i2l_o, io_l2i_o, il_add_o, il_sub_o, il_mul_o, il_neg_o, ib_bit, Int.toNat_natCast, true_implies, false_implies, implies_true, and_true, true_and, and_self, not_true_eq_false, not_false_eq_true, wa_0, wa_1, il_cmp_o, il_cmp0, il_cmp1, il_cmp2, io_bit1, ibt0, ibt1, ibt00, ibt11, ibt10, ibt01, Int.ofNat_lt, Int.ofNat_le, Int.ofNat_inj, Nat.lt_irrefl, Int.lt_irrefl, Int.toNat_one, Int.toNat_zero, Bool.false_eq_true, reduceIte, reduceCtorEq, Nat.reduceAdd, Nat.reduceMul, Nat.reduceSub, Nat.reduceLT, Nat.reduceLeDiff, Nat.reduceEqDiff, Int.reduceNeg, Int.reduceAdd, Int.reduceMul, Int.reduceSub, Int.reduceLT, Int.reduceLE, Int.reduceEq, Int.reduceToNat, Int.reduceNatCast, icl, ico, inz, Nat.not_lt_zero]
        refine wp_mcopies (here := 0) (there := 0) g145 g143 (by decide) (by decide) (by decide) (by decide) (by decide) (fun M4 hM4 hv4 _ => ?_)
        simp (disch := first | assumption | omega | exact il_cqA _ _ | exact il_cqB _ _) only [wi_266_0, wi_266_1, wi_266_2, wi_266_3, wi_266_6, wi_266_7, wi_266_10, wi_266_13, wi_266_14, wi_266_15, wi_266_18, wi_266_19, wi_266_22, wi_266_25, wi_266_26, wi_266_27, wi_266_28, wi_266_31, wi_266_33, wi_266_34, wi_266_35, wi_266_36, wi_266_37, wi_266_40, wi_266_42, wi_266_43, wi_266_44, wi_266_45, wi_266_48, wi_266_51, wi_266_52, wi_266_53, wi_266_56, wi_266_57, wi_266_58, wi_266_61, wi_266_62, wi_266_65, wi_266_66, wi_266_67, wi_266_70, wi_266_71, wi_266_72, wi_266_75, wi_266_76, wi_266_77, wi_266_80, wi_266_81, wi_266_82, wi_266_85, wi_266_86, wi_266_87, wi_266_90, wi_266_91, wi_266_92, wi_266_95, wi_266_96, wi_266_99, wi_266_100, io_add_o, io_sub_o, io_mul_o, io_neg_o, io_and_r, io_or_r, io_xor_r, io_nd_r, io_shr_r, io_shl1, io_i2b_r, io_i2l_o, io_l2i_o, il_add_o, il_sub_o, il_mul_o, il_neg_o, ib_bit, Int.toNat_natCast, true_implies, false_implies, implies_true, and_true, true_and, and_self, not_true_eq_false, not_false_eq_true, wa_0, wa_1, il_cmp_o, il_cmp0, il_cmp1, il_cmp2, io_bit1, ibt0, ibt1, ibt00, ibt11, ibt10, ibt01, Int.ofNat_lt, Int.ofNat_le, Int.ofNat_inj, Nat.lt_irrefl, Int.lt_irrefl, Int.toNat_one, Int.toNat_zero, Bool.false_eq_true, reduceIte, reduceCtorEq, Nat.reduceAdd, Nat.reduceMul, Nat.reduceSub, Nat.reduceLT, Nat.reduceLeDiff, Nat.reduceEqDiff, Int.reduceNeg, Int.reduceAdd, Int.reduceMul, Int.reduceSub, Int.reduceLT, Int.reduceLE, Int.reduceEq, Int.reduceToNat, Int.reduceNatCast, icl, ico, inz, Nat.not_lt_zero]
        have hfr : ∀ j, j ≠ 143 → j ≠ 145 → j ≠ 150 → j ≠ 151 → j ≠ 152 → M4 j = gg_up M 142 7 0 j := fun j j1 j2 j3 j4 j5 => by rw [hM4 j j1, hM3 j j3 j4 j5, hM2 j j1, hM1 j j2]
        refine h0 M4 _ (fun j hj => by rw [hfr j (by omega) (by omega) (by omega) (by omega) (by omega), gu_n (by omega)]) (q_V_R hV (q_R_congr hG hR1 (fun k hk => ?_)) (by rw [hfr 146 (by decide) (by decide) (by decide) (by decide) (by decide), gu_n (by decide)]) (by rw [hfr 147 (by decide) (by decide) (by decide) (by decide) (by decide), gu_n (by decide)]) (by rw [hfr 148 (by decide) (by decide) (by decide) (by decide) (by decide), gu_n (by decide)]) (by rw [hfr 149 (by decide) (by decide) (by decide) (by decide) (by decide), gu_n (by decide)]) (fun f hf => by rw [hfr 142 (by decide) (by decide) (by decide) (by decide) (by decide), gu_s (by omega)])) (by rw [hfr 142 (by decide) (by decide) (by decide) (by decide) (by decide), gu_e, ho]; rfl) (fun _ => rfl)
        have w1 := hv4 k hk
        have w2 := hv1 k hk
        rw [Nat.mul_zero, Nat.zero_add] at w1 w2
        rw [w1, hM3 145 (by decide) (by decide) (by decide), hM2 145 (by decide), w2]
    · have ho : o_ac A x y = 2 := by rw [o_ac, if_pos e1, if_neg e]
      simp (disch := first | assumption | omega | exact il_cqA _ _ | exact il_cqB _ _) only [wi_266_0, wi_266_1, wi_266_2, wi_266_3, wi_266_6, wi_266_7, wi_266_10, wi_266_13, wi_266_14, wi_266_15, wi_266_18, wi_266_19, wi_266_22, wi_266_25, wi_266_26, wi_266_27, wi_266_28, wi_266_31, wi_266_33, wi_266_34, wi_266_35, wi_266_36, wi_266_37, wi_266_40, wi_266_42, wi_266_43, wi_266_44, wi_266_45, wi_266_48, wi_266_51, wi_266_52, wi_266_53, wi_266_56, wi_266_57, wi_266_58, wi_266_61, wi_266_62, wi_266_65, wi_266_66, wi_266_67, wi_266_70, wi_266_71, wi_266_72, wi_266_75, wi_266_76, wi_266_77, wi_266_80, wi_266_81, wi_266_82, wi_266_85, wi_266_86, wi_266_87, wi_266_90, wi_266_91, wi_266_92, wi_266_95, wi_266_96, wi_266_99, wi_266_100, wi_174_0, wi_174_1, wi_174_2, wi_174_3, wi_174_6, wi_174_9, io_add_o, io_sub_o, io_mul_o, io_neg_o, io_and_r, io_or_r, io_xor_r, io_nd_r, io_shr_r, io_shl1, io_i2b_r, io_i2l_o, io_l2i_o, il_add_o, il_sub_o, il_mul_o, il_neg_o, ib_bit, Int.toNat_natCast, true_implies, false_implies, implies_true, and_true, true_and, and_self, not_true_eq_false, not_false_eq_true, wa_0, wa_1, il_cmp_o, il_cmp0, il_cmp1, il_cmp2, io_bit1, ibt0, ibt1, ibt00, ibt11, ibt10, ibt01, Int.ofNat_lt, Int.ofNat_le, Int.ofNat_inj, Nat.lt_irrefl, Int.lt_irrefl, Int.toNat_one, Int.toNat_zero, Bool.false_eq_true, reduceIte, reduceCtorEq, Nat.reduceAdd, Nat.reduceMul, Nat.reduceSub, Nat.reduceLT, Nat.reduceLeDiff, Nat.reduceEqDiff, Int.reduceNeg, Int.reduceAdd, Int.reduceMul, Int.reduceSub, Int.reduceLT, Int.reduceLE, Int.reduceEq, Int.reduceToNat, Int.reduceNatCast, icl, ico, inz, Nat.not_lt_zero, wp_misArc x1 x2 hV.1 hG, decide_eq_true e1, wp_in, if_neg e, wp_isT1, wp_isT0, gu_gu]
      exact h0 _ 0 (fun j hj => gu_n (by omega)) (q_V_t hV) (by rw [gu_e, ho]; rfl) (fun h => absurd (ho ▸ h) (by decide))
  · have ho : o_ac A x y = 3 := by rw [o_ac, if_neg e1]
    simp (disch := first | assumption | omega | exact il_cqA _ _ | exact il_cqB _ _) only [wi_266_0, wi_266_1, wi_266_2, wi_266_3, wi_266_6, wi_266_7, wi_266_10, wi_266_13, wi_266_14, wi_266_15, wi_266_18, wi_266_19, wi_266_22, wi_266_25, wi_266_26, wi_266_27, wi_266_28, wi_266_31, wi_266_33, wi_266_34, wi_266_35, wi_266_36, wi_266_37, wi_266_40, wi_266_42, wi_266_43, wi_266_44, wi_266_45, wi_266_48, wi_266_51, wi_266_52, wi_266_53, wi_266_56, wi_266_57, wi_266_58, wi_266_61, wi_266_62, wi_266_65, wi_266_66, wi_266_67, wi_266_70, wi_266_71, wi_266_72, wi_266_75, wi_266_76, wi_266_77, wi_266_80, wi_266_81, wi_266_82, wi_266_85, wi_266_86, wi_266_87, wi_266_90, wi_266_91, wi_266_92, wi_266_95, wi_266_96, wi_266_99, wi_266_100, wi_174_0, wi_174_1, wi_174_2, wi_174_3, wi_174_6, wi_174_9, io_add_o, io_sub_o, io_mul_o, io_neg_o, io_and_r, io_or_r, io_xor_r, io_nd_r, io_shr_r, io_shl1, io_i2b_r, io_i2l_o, io_l2i_o, il_add_o, il_sub_o, il_mul_o, il_neg_o, ib_bit, Int.toNat_natCast, true_implies, false_implies, implies_true, and_true, true_and, and_self, not_true_eq_false, not_false_eq_true, wa_0, wa_1, il_cmp_o, il_cmp0, il_cmp1, il_cmp2, io_bit1, ibt0, ibt1, ibt00, ibt11, ibt10, ibt01, Int.ofNat_lt, Int.ofNat_le, Int.ofNat_inj, Nat.lt_irrefl, Int.lt_irrefl, Int.toNat_one, Int.toNat_zero, Bool.false_eq_true, reduceIte, reduceCtorEq, Nat.reduceAdd, Nat.reduceMul, Nat.reduceSub, Nat.reduceLT, Nat.reduceLeDiff, Nat.reduceEqDiff, Int.reduceNeg, Int.reduceAdd, Int.reduceMul, Int.reduceSub, Int.reduceLT, Int.reduceLE, Int.reduceEq, Int.reduceToNat, Int.reduceNatCast, icl, ico, inz, Nat.not_lt_zero, wp_misArc x1 x2 hV.1 hG, decide_eq_false e1, wp_isT0]
    exact h0 _ 0 (fun j hj => gu_n (by omega)) (q_V_t hV) (by rw [gu_e, ho]; rfl) (fun h => absurd (ho ▸ h) (by decide))
end SG
