/-! what class and model are to do in a case of the law -/
theorem i32_rg (x : Int32) : -2147483648 ≤ x.toInt ∧ x.toInt ≤ 2147483647 := by
  have h1 := Int32.le_toInt x
  have h2 := Int32.toInt_lt x
  omega
theorem qU_s {G : q_G} {s : Nat} (h : (s : Int) ≤ qU G) : s < 2 ^ qK G := by
  have := qU_lt (G := G)
  omega
/-- the thrown kind as the law's helpers count it: index first -/
def qthr (o : Nat) (b : Bool) : Int := if o = 0 then 0 else if b then (if o = 3 then 1 else 2) else 1
section SG
variable {N : Nat} {xs : Nat → Int32} {d : Nat} {M : gg_M} {cc cs : Nat} {Q : gg_O → Prop} {A : q_A}
/-- a method of the class: its answer v, the state A' behind it; o: 0 an answer, 2 and 3 what is thrown -/
def q_cS (N : Nat) (xs : Nat → Int32) (d k : Nat) (as : List gg_V) (M : gg_M) (A' : q_A) (cc cs o t : Nat) (v : Int) : Prop :=
  ∀ Q : gg_O → Prop, (o = 0 → ∀ M' : gg_M, (∀ j, 142 ≤ j → M' j = M j) → q_I M' A' → Q ((1, (t, v)), (gk_R, M', 158, cc, cs))) → (o ≠ 0 → q_I M A' → Q ((o, (3, 0)), (gk_R, M, 158, cc + 1, cs + 6))) → wp N xs d k 0 (gr 1 :: as) [] (gk_R, M, 158, cc, cs) Q
/-- a method of the model -/
def q_mS (N : Nat) (xs : Nat → Int32) (d k : Nat) (as : List gg_V) (M : gg_M) (A' : q_A) (cc cs o : Nat) (fl : Bool) (t : Nat) (v : Int) : Prop :=
  ∀ Q : gg_O → Prop, (∀ (M' : gg_M) (b : Int), (∀ j, j < 142 ∨ j = 157 → M' j = M j) → q_V M' A' → M' 142 7 = qthr o fl → (o = 0 → b = v) → Q ((1, (t, b)), (gk_R, M', 158, cc, cs))) → wp N xs d k 0 (gr 142 :: as) [] (gk_R, M, 158, cc, cs) Q
/-- what is behind a case -/
def q_lK (N : Nat) (xs : Nat → Int32) (d i : Nat) (A' : q_A) (cc cs : Nat) (Q : gg_O → Prop) : Prop :=
  ∀ (M' : gg_M) (cc' cs' : Nat) (l5 l6 l7 : gg_V), q_I M' A' → q_V M' A' → cc' ≤ cc + 1 → cs' ≤ cs + 6 → wp N xs d 287 3483 [gr 0, gr 1, gr 142, gr 157, (0, (i : Int)), l5, l6, l7] [] (gk_R, M', 158, cc', cs') Q
theorem il_self (a : Int) : il_cmp a a = 0 := by simp [il_cmp]
/-- two ints of the script as a long -/
def q_long (a b : Int32) : Int := il_or (il_shl a.toInt 32) (il_and b.toInt 4294967295)
theorem it2 (a : Nat) : ((a : Int) + 2).toNat = a + 2 := by omega
theorem it3 (a : Nat) : ((a : Int) + 3).toNat = a + 3 := by omega
theorem it4 (a : Nat) : ((a : Int) + 4).toNat = a + 4 := by omega
def o_set (A : q_A) (x : Int) : Nat := if 0 ≤ x ∧ x ≤ qU (aG A) then 0 else 2
/-- what the model checks -/
theorem wp_isT1 {n : Int} : wp N xs d 166 0 [gr 142, (0, 1), (0, n)] [] (gk_R, M, 158, cc, cs) Q ↔ Q ((1, (0, 0)), (gk_R, gg_up M 142 7 0, 158, cc, cs)) := by
  simp (disch := first | assumption | omega | exact il_cqA _ _ | exact il_cqB _ _) only [wi_166_0, wi_166_1, wi_166_2, wi_166_5, wi_166_6, wi_166_9, wi_166_10, wi_166_13, wi_166_14, wi_166_17, wi_166_18, wi_166_21, wi_166_22, io_add_o, io_sub_o, io_mul_o, io_neg_o, io_and_r, io_or_r, io_xor_r, io_nd_r, io_shr_r, io_shl1, io_i2b_r, io_i2l_o, io_l2i_o, il_add_o, il_sub_o, il_mul_o, il_neg_o, ib_bit, Int.toNat_natCast, true_implies, false_implies, implies_true, and_true, true_and, and_self, not_true_eq_false, not_false_eq_true, wa_0, wa_1, il_cmp_o, il_cmp0, il_cmp1, il_cmp2, io_bit1, ibt0, ibt1, ibt00, ibt11, ibt10, ibt01, Int.ofNat_lt, Int.ofNat_le, Int.ofNat_inj, Nat.lt_irrefl, Int.lt_irrefl, Int.toNat_one, Int.toNat_zero, Bool.false_eq_true, reduceIte, reduceCtorEq, Nat.reduceAdd, Nat.reduceMul, Nat.reduceSub, Nat.reduceLT, Nat.reduceLeDiff, Nat.reduceEqDiff, Int.reduceNeg, Int.reduceAdd, Int.reduceMul, Int.reduceSub, Int.reduceLT, Int.reduceLE, Int.reduceEq, Int.reduceToNat, Int.reduceNatCast, icl, ico, inz, Nat.not_lt_zero]
theorem wp_isT0 {n : Int} : wp N xs d 166 0 [gr 142, (0, 0), (0, n)] [] (gk_R, M, 158, cc, cs) Q ↔ Q ((1, (0, 1)), (gk_R, gg_up M 142 7 n, 158, cc, cs)) := by
  simp (disch := first | assumption | omega | exact il_cqA _ _ | exact il_cqB _ _) only [wi_166_0, wi_166_1, wi_166_2, wi_166_5, wi_166_6, wi_166_9, wi_166_10, wi_166_13, wi_166_14, wi_166_17, wi_166_18, wi_166_21, wi_166_22, io_add_o, io_sub_o, io_mul_o, io_neg_o, io_and_r, io_or_r, io_xor_r, io_nd_r, io_shr_r, io_shl1, io_i2b_r, io_i2l_o, io_l2i_o, il_add_o, il_sub_o, il_mul_o, il_neg_o, ib_bit, Int.toNat_natCast, true_implies, false_implies, implies_true, and_true, true_and, and_self, not_true_eq_false, not_false_eq_true, wa_0, wa_1, il_cmp_o, il_cmp0, il_cmp1, il_cmp2, io_bit1, ibt0, ibt1, ibt00, ibt11, ibt10, ibt01, Int.ofNat_lt, Int.ofNat_le, Int.ofNat_inj, Nat.lt_irrefl, Int.lt_irrefl, Int.toNat_one, Int.toNat_zero, Bool.false_eq_true, reduceIte, reduceCtorEq, Nat.reduceAdd, Nat.reduceMul, Nat.reduceSub, Nat.reduceLT, Nat.reduceLeDiff, Nat.reduceEqDiff, Int.reduceNeg, Int.reduceAdd, Int.reduceMul, Int.reduceSub, Int.reduceLT, Int.reduceLE, Int.reduceEq, Int.reduceToNat, Int.reduceNatCast, icl, ico, inz, Nat.not_lt_zero]
theorem wp_misSet {x : Int} (x1 : -2147483648 ≤ x) (x2 : x ≤ 2147483647) {G : q_G} (hR : q_R (M 143) G) (hG : q_ok G) :
    wp N xs (d + 1) 170 0 [gr 142, (0, x)] [] (gk_R, M, 158, cc, cs) Q ↔ Q ((1, (0, ((decide (0 ≤ x ∧ x ≤ qU G)).toNat : Int))), (gk_R, M, 158, cc, cs)) := by
  have hU := qU_le hG
  by_cases e : 0 ≤ x ∧ x ≤ qU G
  · rw [decide_eq_true e]
    simp (disch := first | assumption | omega | exact il_cqA _ _ | exact il_cqB _ _) only [wi_170_0, wi_170_1, wi_170_2, wi_170_3, wi_170_4, wi_170_7, wi_170_8, wi_170_11, io_add_o, io_sub_o, io_mul_o, io_neg_o, io_and_r, io_or_r, io_xor_r, io_nd_r, io_shr_r, io_shl1, io_i2b_r, io_i2l_o, io_l2i_o, il_add_o, il_sub_o, il_mul_o, il_neg_o, ib_bit, Int.toNat_natCast, true_implies, false_implies, implies_true, and_true, true_and, and_self, not_true_eq_false, not_false_eq_true, wa_0, wa_1, il_cmp_o, il_cmp0, il_cmp1, il_cmp2, io_bit1, ibt0, ibt1, ibt00, ibt11, ibt10, ibt01, Int.ofNat_lt, Int.ofNat_le, Int.ofNat_inj, Nat.lt_irrefl, Int.lt_irrefl, Int.toNat_one, Int.toNat_zero, Bool.false_eq_true, reduceIte, reduceCtorEq, Nat.reduceAdd, Nat.reduceMul, Nat.reduceSub, Nat.reduceLT, Nat.reduceLeDiff, Nat.reduceEqDiff, Int.reduceNeg, Int.reduceAdd, Int.reduceMul, Int.reduceSub, Int.reduceLT, Int.reduceLE, Int.reduceEq, Int.reduceToNat, Int.reduceNatCast, icl, ico, inz, Nat.not_lt_zero, wp_mall hR hG, wp_in, if_pos e]
  · rw [decide_eq_false e]
    simp (disch := first | assumption | omega | exact il_cqA _ _ | exact il_cqB _ _) only [wi_170_0, wi_170_1, wi_170_2, wi_170_3, wi_170_4, wi_170_7, wi_170_8, wi_170_11, io_add_o, io_sub_o, io_mul_o, io_neg_o, io_and_r, io_or_r, io_xor_r, io_nd_r, io_shr_r, io_shl1, io_i2b_r, io_i2l_o, io_l2i_o, il_add_o, il_sub_o, il_mul_o, il_neg_o, ib_bit, Int.toNat_natCast, true_implies, false_implies, implies_true, and_true, true_and, and_self, not_true_eq_false, not_false_eq_true, wa_0, wa_1, il_cmp_o, il_cmp0, il_cmp1, il_cmp2, io_bit1, ibt0, ibt1, ibt00, ibt11, ibt10, ibt01, Int.ofNat_lt, Int.ofNat_le, Int.ofNat_inj, Nat.lt_irrefl, Int.lt_irrefl, Int.toNat_one, Int.toNat_zero, Bool.false_eq_true, reduceIte, reduceCtorEq, Nat.reduceAdd, Nat.reduceMul, Nat.reduceSub, Nat.reduceLT, Nat.reduceLeDiff, Nat.reduceEqDiff, Int.reduceNeg, Int.reduceAdd, Int.reduceMul, Int.reduceSub, Int.reduceLT, Int.reduceLE, Int.reduceEq, Int.reduceToNat, Int.reduceNatCast, icl, ico, inz, Nat.not_lt_zero, wp_mall hR hG, wp_in, if_neg e]
theorem q_V_t {x : Int} (h : q_V M A) : q_V (gg_up M 142 7 x) A := q_V_q h (gu_n (by decide)) (gu_n (by decide)) (gu_n (by decide)) (gu_n (by decide)) (gu_n (by decide)) (fun f hf => gu_s (by omega))
theorem q_V_l {M' : gg_M} (h : q_V M A) (hM : (∀ j, j ≠ 150 → j ≠ 151 → j ≠ 152 → M' j = M j)) : q_V M' A := q_V_q h (hM 143 (by decide) (by decide) (by decide)) (hM 146 (by decide) (by decide) (by decide)) (hM 147 (by decide) (by decide) (by decide)) (hM 148 (by decide) (by decide) (by decide)) (hM 149 (by decide) (by decide) (by decide)) (fun f _ => by rw [hM 142 (by decide) (by decide) (by decide)])
end SG
