/-! counting bits -/
theorem it1 (a : Nat) : ((a : Int) + 1).toNat = a + 1 := by omega
theorem gs_P79 : gs_P 79 := (by decide +kernel : gs_Pb 79 = true)
theorem gs_G2_ : gs_G 2 := (by decide +kernel : gs_Gb 2 = true)
/-- Integer.bitCount as it is written -/
def q_bc1 (i : Int) : Int := io_sub i (io_and (io_ushr i 1) 1431655765)
def q_bc2 (i : Int) : Int := io_add (io_and i 858993459) (io_and (io_ushr i 2) 858993459)
def q_bc3 (i : Int) : Int := io_and (io_add i (io_ushr i 4)) 252645135
def q_bc4 (i : Int) : Int := io_add i (io_ushr i 8)
def q_bc5 (i : Int) : Int := io_add i (io_ushr i 16)
def q_bc (i : Int) : Int := io_and (q_bc5 (q_bc4 (q_bc3 (q_bc2 (q_bc1 i))))) 63
theorem q_bc_all : ∀ a : Fin 64, ∀ b : Fin 64, q_bc ((64 * a.1 + b.1 : Nat) : Int) = ((qcnt (64 * a.1 + b.1).testBit 12 : Nat) : Int) := by decide +kernel
theorem q_bc_eq {x : Nat} (h : x < 4096) : q_bc (x : Int) = (qcnt x.testBit 12 : Int) := by
  have := q_bc_all ⟨x / 64, by omega⟩ ⟨x % 64, by omega⟩
  simp only [Nat.div_add_mod] at this
  exact this
theorem q_low_all : ∀ a : Fin 64, ∀ b : Fin 64, 64 * a.1 + b.1 = 0 ∨ (((64 * a.1 + b.1) &&& (64 * a.1 + b.1 - 1)) < 64 * a.1 + b.1 ∧ qcnt ((64 * a.1 + b.1) &&& (64 * a.1 + b.1 - 1)).testBit 12 + 1 = qcnt (64 * a.1 + b.1).testBit 12) := by decide +kernel
theorem q_low {x : Nat} (h : x < 4096) (h0 : x ≠ 0) : (x &&& (x - 1)) < x ∧ qcnt (x &&& (x - 1)).testBit 12 + 1 = qcnt x.testBit 12 := by
  have := q_low_all ⟨x / 64, by omega⟩ ⟨x % 64, by omega⟩
  simp only [Nat.div_add_mod] at this
  exact this.resolve_left h0
theorem qcnt_ext {f : Nat → Bool} {n m : Nat} (hnm : n ≤ m) (h : ∀ i, n ≤ i → i < m → f i = false) : qcnt f m = qcnt f n := by
  have e : ∀ k, n + k ≤ m → qcnt f (n + k) = qcnt f n := by
    intro k
    induction k with
    | zero => intro _; rfl
    | succ k ih =>
      intro hk
      show qcnt f (n + k) + (f (n + k)).toNat = _
      rw [ih (by omega), h (n + k) (by omega) (by omega)]
      rfl
  have := e (m - n) (by omega)
  rwa [show n + (m - n) = m by omega] at this
theorem qsz_12 {G : q_G} (hG : q_ok G) {s : Nat} (hs : s < 2 ^ qK G) : qcnt s.testBit 12 = qsz G s :=
  qcnt_ext hG.1.2.2.2.2.1 fun i hi _ => Nat.testBit_lt_two_pow (Nat.lt_of_lt_of_le hs (Nat.pow_le_pow_right (by decide) hi))
section SG
variable {N : Nat} {xs : Nat → Int32} {d : Nat} {M : gg_M} {cc cs : Nat} {Q : gg_O → Prop}
theorem wp_bitCount {x : Nat} (hx : x < 4096) :
    wp N xs d 342 0 [(0, (x : Int))] [] (gk_R, M, 158, cc, cs) Q ↔ Q ((1, (0, (qcnt x.testBit 12 : Int))), (gk_R, M, 158, cc, cs)) := by
  rw [← q_bc_eq hx]
  simp only [wi_342_0, wi_342_1, wi_342_2, wi_342_3, wi_342_4, wi_342_7, wi_342_8, wi_342_9, wi_342_10, wi_342_11, wi_342_14, wi_342_15, wi_342_16, wi_342_17, wi_342_18, wi_342_21, wi_342_22, wi_342_23, wi_342_24, wi_342_25, wi_342_26, wi_342_27, wi_342_28, wi_342_29, wi_342_32, wi_342_33, wi_342_34, wi_342_35, wi_342_36, wi_342_38, wi_342_39, wi_342_40, wi_342_41, wi_342_42, wi_342_43, wi_342_45, wi_342_46, wi_342_47, wi_342_48, wi_342_49, wi_342_51, wi_342_52]
  exact Iff.rfl
theorem wp_sizeOf {x : Nat} (hx : x < 4096) :
    wp N xs d 172 0 [(0, (x : Int)), (3, 0), (3, 0)] [] (gk_R, M, 158, cc, cs) Q ↔ Q ((1, (0, (qcnt x.testBit 12 : Int))), (gk_R, M, 158, cc, cs)) := by
  refine wp_det ?_
  simp (contextual := true) (disch := first | assumption | omega | exact il_cqA _ _ | exact il_cqB _ _) only [wi_172_0, wi_172_1, wi_172_2, wi_172_3, wi_172_5, wi_172_8, wi_172_11, wi_172_12, wi_172_13, wi_172_14, wi_172_15, wi_172_16, wi_172_17, wi_172_20, wi_172_21, io_add_o, io_sub_o, io_mul_o, io_neg_o, io_and_r, io_or_r, io_xor_r, io_nd_r, io_shr_r, io_shl1, io_i2b_r, io_i2l_o, io_l2i_o, il_add_o, il_sub_o, il_mul_o, il_neg_o, ib_bit, Int.toNat_natCast, true_implies, false_implies, implies_true, and_true, true_and, and_self, not_true_eq_false, not_false_eq_true, wa_0, wa_1, il_cmp_o, il_cmp0, il_cmp1, il_cmp2, io_bit1, ibt0, ibt1, ibt00, ibt11, ibt10, ibt01, Int.ofNat_lt, Int.ofNat_le, Int.ofNat_inj, Nat.lt_irrefl, Int.lt_irrefl, Int.toNat_one, Int.toNat_zero, Bool.false_eq_true, reduceIte, reduceCtorEq, Nat.reduceAdd, Nat.reduceMul, Nat.reduceSub, Nat.reduceLT, Nat.reduceLeDiff, Nat.reduceEqDiff, Int.reduceNeg, Int.reduceAdd, Int.reduceMul, Int.reduceSub, Int.reduceLT, Int.reduceLE, Int.reduceEq, Int.reduceToNat, Int.reduceNatCast, icl, ico, inz]
  have key : ∀ n s m : Nat, s < 4096 → qcnt s.testBit 12 = n → m + n = qcnt x.testBit 12 → m ≤ 12 → wp N xs d 172 4 [(0, (x : Int)), (0, (m : Int)), (0, (s : Int))] [] (gk_R, M, 158, cc, cs) (fun o => o = ((1, (0, (qcnt x.testBit 12 : Int))), (gk_R, M, 158, cc, cs))) := by
    intro n
    induction n with
    | zero =>
      intro s m hs hn hm hm2
      have h0 : s = 0 := Decidable.byContradiction fun h0 => by
        have := (q_low hs h0).2
        omega
      subst h0
      rw [wi_172_4]
      simp (contextual := true) (disch := first | assumption | omega | exact il_cqA _ _ | exact il_cqB _ _) only [wi_172_0, wi_172_1, wi_172_2, wi_172_3, wi_172_5, wi_172_8, wi_172_11, wi_172_12, wi_172_13, wi_172_14, wi_172_15, wi_172_16, wi_172_17, wi_172_20, wi_172_21, io_add_o, io_sub_o, io_mul_o, io_neg_o, io_and_r, io_or_r, io_xor_r, io_nd_r, io_shr_r, io_shl1, io_i2b_r, io_i2l_o, io_l2i_o, il_add_o, il_sub_o, il_mul_o, il_neg_o, ib_bit, Int.toNat_natCast, true_implies, false_implies, implies_true, and_true, true_and, and_self, not_true_eq_false, not_false_eq_true, wa_0, wa_1, il_cmp_o, il_cmp0, il_cmp1, il_cmp2, io_bit1, ibt0, ibt1, ibt00, ibt11, ibt10, ibt01, Int.ofNat_lt, Int.ofNat_le, Int.ofNat_inj, Nat.lt_irrefl, Int.lt_irrefl, Int.toNat_one, Int.toNat_zero, Bool.false_eq_true, reduceIte, reduceCtorEq, Nat.reduceAdd, Nat.reduceMul, Nat.reduceSub, Nat.reduceLT, Nat.reduceLeDiff, Nat.reduceEqDiff, Int.reduceNeg, Int.reduceAdd, Int.reduceMul, Int.reduceSub, Int.reduceLT, Int.reduceLE, Int.reduceEq, Int.reduceToNat, Int.reduceNatCast, icl, ico, inz]
      rw [← hm, Nat.add_zero]
    | succ n ih =>
      intro s m hs hn hm hm2
      have h0 : s ≠ 0 := by
        rintro rfl
        have : qcnt (0 : Nat).testBit 12 = 0 := qcnt_0 fun i _ => Nat.zero_testBit i
        omega
      have h1 := q_low hs h0
      have hx12 := qcnt_le x.testBit 12
      have := ih (s &&& (s - 1)) (m + 1) (by omega) (by omega) (by omega) (by omega)
      have e1 : ((s : Int) - 1).toNat = s - 1 := by omega
      have e2 : (0 : Int) < (s : Int) := by omega
      rw [wi_172_4]
      simp (contextual := true) (disch := first | assumption | omega | exact il_cqA _ _ | exact il_cqB _ _) only [wi_172_0, wi_172_1, wi_172_2, wi_172_3, wi_172_5, wi_172_8, wi_172_11, wi_172_12, wi_172_13, wi_172_14, wi_172_15, wi_172_16, wi_172_17, wi_172_20, wi_172_21, io_add_o, io_sub_o, io_mul_o, io_neg_o, io_and_r, io_or_r, io_xor_r, io_nd_r, io_shr_r, io_shl1, io_i2b_r, io_i2l_o, io_l2i_o, il_add_o, il_sub_o, il_mul_o, il_neg_o, ib_bit, Int.toNat_natCast, true_implies, false_implies, implies_true, and_true, true_and, and_self, not_true_eq_false, not_false_eq_true, wa_0, wa_1, il_cmp_o, il_cmp0, il_cmp1, il_cmp2, io_bit1, ibt0, ibt1, ibt00, ibt11, ibt10, ibt01, Int.ofNat_lt, Int.ofNat_le, Int.ofNat_inj, Nat.lt_irrefl, Int.lt_irrefl, Int.toNat_one, Int.toNat_zero, Bool.false_eq_true, reduceIte, reduceCtorEq, Nat.reduceAdd, Nat.reduceMul, Nat.reduceSub, Nat.reduceLT, Nat.reduceLeDiff, Nat.reduceEqDiff, Int.reduceNeg, Int.reduceAdd, Int.reduceMul, Int.reduceSub, Int.reduceLT, Int.reduceLE, Int.reduceEq, Int.reduceToNat, Int.reduceNatCast, icl, ico, inz, e1, e2]
      exact this
  exact key _ x 0 hx rfl (by omega) (by decide)
end SG
