/-! the text, apart from who reads it -/
def qscan (f : Nat → Bool) (B : Nat) : Nat → Nat → Nat
  | 0, p => p
  | k + 1, p => if f p = true then qscan f B k (p + 1) else p
/-- the first place from p on where f ends -/
def qend (f : Nat → Bool) (B p : Nat) : Nat := qscan f B (B - p) p
theorem qend_s {f : Nat → Bool} {B p : Nat} (h : p < B) (hf : f p = true) : qend f B p = qend f B (p + 1) := by
  unfold qend
  rw [show B - p = (B - (p + 1)) + 1 by omega, qscan, if_pos hf]
theorem qend_f {f : Nat → Bool} {B p : Nat} (hf : f p = false) : qend f B p = p := by
  unfold qend
  cases B - p with
  | zero => rfl
  | succ k => rw [qscan, if_neg (by rw [hf]; decide)]
theorem qend_B {f : Nat → Bool} {B p : Nat} (h : B ≤ p) : qend f B p = p := by
  unfold qend
  rw [show B - p = 0 by omega]
  rfl
theorem qend_rg {f : Nat → Bool} {B p : Nat} (h : p ≤ B) : p ≤ qend f B p ∧ qend f B p ≤ B ∧ (qend f B p < B → f (qend f B p) = false) ∧ ∀ i, p ≤ i → i < qend f B p → f i = true := by
  obtain ⟨k, hk⟩ : ∃ k, k = B - p := ⟨_, rfl⟩
  induction k generalizing p with
  | zero =>
    rw [qend_B (by omega)]
    exact ⟨Nat.le_refl _, h, fun h2 => absurd h2 (by omega), fun i h1 h2 => by omega⟩
  | succ k ih =>
    cases hf : f p
    · rw [qend_f hf]
      exact ⟨Nat.le_refl _, h, fun _ => hf, fun i h1 h2 => by omega⟩
    · rw [qend_s (by omega) hf]
      obtain ⟨i1, i2, i3, i4⟩ := ih (p := p + 1) (by omega) (by omega)
      refine ⟨by omega, i2, i3, fun i h1 h2 => ?_⟩
      by_cases e : i = p
      · subst e
        exact hf
      · exact i4 i (by omega) h2
def qsp (X : Nat → Nat) (i : Nat) : Bool := decide (X i = 32)
def qle (X : Nat → Nat) (i : Nat) : Bool := decide (97 ≤ X i) && decide (X i ≤ 122)
def qdi (X : Nat → Nat) (i : Nat) : Bool := decide (48 ≤ X i) && decide (X i ≤ 57)
/-- the number of n digits from q on -/
def qval (X : Nat → Nat) (q : Nat) : Nat → Nat
  | 0 => 0
  | n + 1 => qval X q n * 10 + (X (q + n) - 48)
/-- the letters of a word -/
def gch (s k : Nat) : Int := (gg_tx s).getD k 0
def qword (X : Nat → Nat) (b e s : Nat) : Bool := decide (e - b = (gg_tx s).length) && (List.range (gg_tx s).length).all fun k => decide ((X (b + k) : Int) = gch s k)
/-- where a word begins, where it ends -/
def qws (X : Nat → Nat) (B p : Nat) : Nat := qend (qsp X) B p
def qwe (X : Nat → Nat) (B p : Nat) : Nat := qend (qle X) B (qws X B p)
/-- a number within limits: its value and what is behind, or the kind of error and its place -/
def qnumb (X : Nat → Nat) (B p : Nat) (lo hi : Int) : Except (Nat × Nat) (Nat × Nat) :=
  if qws X B p < B ∧ qdi X (qws X B p) = true then
    (if lo ≤ (qval X (qws X B p) (qend (qdi X) B (qws X B p) - qws X B p) : Int) ∧ (qval X (qws X B p) (qend (qdi X) B (qws X B p) - qws X B p) : Int) ≤ hi then .ok (qval X (qws X B p) (qend (qdi X) B (qws X B p) - qws X B p), qend (qdi X) B (qws X B p)) else .error (2, qws X B p))
  else .error (1, qws X B p)
def qp_graph (X : Nat → Nat) (B : Nat) : Except (Nat × Nat) (q_G × Nat) :=
  if qword X (qws X B 0) (qwe X B 0) 0 = true then
    match qnumb X B (qwe X B 0) 1 8 with
    | .error e => .error e
    | .ok (n, p) => match qnumb X B p 1 12 with
      | .error e => .error e
      | .ok (m, p) => .ok (qnew n m, p)
  else .error (1, qws X B 0)
def qp_arc (X : Nat → Nat) (B : Nat) (G : q_G) (b p : Nat) : Except (Nat × Nat) (q_G × Nat) :=
  if qK G < 12 then
    match qnumb X B p 0 ((qN G : Int) - 1) with
    | .error e => .error e
    | .ok (f, p) => match qnumb X B p 0 ((qN G : Int) - 1) with
      | .error e => .error e
      | .ok (t, p) => match qnumb X B p 0 ((qM G : Int) - 1) with
        | .error e => .error e
        | .ok (a, p) => if qws X B p < B ∧ qdi X (qws X B p) = true then
            match qnumb X B p 0 99 with
            | .error e => .error e
            | .ok (w, p) => .ok (qput G f t a w, p)
          else .ok (qput G f t a 1, qws X B p)
  else .error (3, b)
def qp_marks (X : Nat → Nat) (B : Nat) (G : q_G) : Nat → Nat → Nat → Except (Nat × Nat) (q_G × Nat)
  | 0, S, p => .ok (qsetS G S, p)
  | k + 1, S, p => match qnumb X B p 0 ((qK G : Int) - 1) with
    | .error e => .error e
    | .ok (a, p) => if qws X B p < B ∧ qdi X (qws X B p) = true then qp_marks X B G k (S ||| 2 ^ a) p else .ok (qsetS G (S ||| 2 ^ a), qws X B p)
def qp_stmt (X : Nat → Nat) (B : Nat) (G : q_G) (p : Nat) : Except (Nat × Nat) (q_G × Nat) :=
  if qword X (qws X B p) (qwe X B p) 1 = true then qp_arc X B G (qws X B p) (qwe X B p)
  else if qword X (qws X B p) (qwe X B p) 2 = true then qp_marks X B G 401 (qS G) (qwe X B p)
  else .error (1, qws X B p)
/-- the statements behind the graph; with the number of the statement -/
def qp_rest (X : Nat → Nat) (B : Nat) : Nat → q_G → Nat → Nat → Except ((Nat × Nat) × Nat) q_G
  | 0, G, _, _ => .ok G
  | k + 1, G, s, p => if qws X B p < B then
      (if X (qws X B p) = 59 then match qp_stmt X B G (qws X B p + 1) with
        | .error e => .error (e, s + 1)
        | .ok (G, p) => qp_rest X B k G (s + 1) p
      else .error ((1, qws X B p), s))
    else .ok G
def qparse (X : Nat → Nat) (B : Nat) : Except ((Nat × Nat) × Nat) q_G :=
  match qp_graph X B with
  | .error e => .error (e, 0)
  | .ok (G, p) => qp_rest X B 401 G 0 p
theorem gch_ok : ∀ s : Fin 3, ∀ k : Fin 7, k.1 < (gg_tx s.1).length → io_i2c (io_and (gch s.1 k.1) 255) = gch s.1 k.1 ∧ gg_rI 5 (gch s.1 k.1) = true ∧ 97 ≤ gch s.1 k.1 ∧ gch s.1 k.1 ≤ 122 := by decide +kernel
theorem gtx_len (s : Nat) : (gg_tx s).length ≤ 7 := gg_tx_le s
section SG
variable {N : Nat} {xs : Nat → Int32} {d : Nat} {M : gg_M} {cc cs : Nat} {Q : gg_O → Prop}
theorem wp_len {s : Nat} (hs : s < 3) : wp N xs (d + 1) 335 0 [gtx s] [] (gk_R, M, 142, cc, cs) Q ↔ Q ((1, (0, ((gg_tx s).length : Int))), (gk_R, M, 142, cc, cs)) := by
  have := gtx_len s
  have r6 : gg_rI 6 0 = true := by decide +kernel
  have e : (gg_tx s).length >>> 0 = (gg_tx s).length := rfl
  simp (disch := first | assumption | omega | exact il_cqA _ _ | exact il_cqB _ _) only [wi_335_0, wi_335_1, wi_335_4, wi_335_5, wi_335_6, wi_335_9, wi_335_10, wi_337_0, wi_337_3, wi_337_6, wi_337_7, wi_337_10, wi_337_13, wi_337_14, io_add_o, io_sub_o, io_mul_o, io_neg_o, io_and_r, io_or_r, io_xor_r, io_nd_r, io_shr_r, io_shl1, io_i2b_r, io_i2l_o, io_l2i_o, il_add_o, il_sub_o, il_mul_o, il_neg_o, ib_bit, Int.toNat_natCast, true_implies, false_implies, implies_true, and_true, true_and, and_self, not_true_eq_false, not_false_eq_true, wa_0, wa_1, il_cmp_o, il_cmp0, il_cmp1, il_cmp2, io_bit1, ibt0, ibt1, ibt00, ibt11, ibt10, ibt01, Int.ofNat_lt, Int.ofNat_le, Int.ofNat_inj, Nat.lt_irrefl, Int.lt_irrefl, Int.toNat_one, Int.toNat_zero, Bool.false_eq_true, reduceIte, reduceCtorEq, Nat.reduceAdd, Nat.reduceMul, Nat.reduceSub, Nat.reduceLT, Nat.reduceLeDiff, Nat.reduceEqDiff, Int.reduceNeg, Int.reduceAdd, Int.reduceMul, Int.reduceSub, Int.reduceLT, Int.reduceLE, Int.reduceEq, Int.reduceToNat, Int.reduceNatCast, icl, ico, inz, Nat.not_lt_zero, r6, e]
theorem wp_charAt {s k : Nat} (hs : s < 3) (hk : k < (gg_tx s).length) : wp N xs (d + 3) 336 0 [gtx s, (0, (k : Int))] [] (gk_R, M, 142, cc, cs) Q ↔ Q ((1, (0, gch s k)), (gk_R, M, 142, cc, cs)) := by
  have h5 := gtx_len s
  obtain ⟨g1, g2, g3, g4⟩ := gch_ok ⟨s, hs⟩ ⟨k, by omega⟩ hk
  simp only at g1 g2 g3 g4
  have hk2 : (k : Int) < ((gg_tx s).length : Int) := by omega
  have eg : (gg_tx s).getD k 0 = gch s k := rfl
  have ga' : (((gch s k).toNat &&& 255 : Nat) : Int) = gch s k := by
    obtain ⟨c, hc⟩ := Int.eq_ofNat_of_zero_le (show 0 ≤ gch s k by omega)
    rw [hc, Int.toNat_natCast]
    show ((c &&& (2 ^ 8 - 1) : Nat) : Int) = _
    rw [Nat.and_two_pow_sub_one_eq_mod]
    omega
  have ga : io_and (gch s k) 255 = gch s k := by
    rw [io_and_r (by omega) (by omega) (by decide) (by decide)]
    exact ga'
  rw [ga] at g1
  simp (disch := first | assumption | omega | exact il_cqA _ _ | exact il_cqB _ _) only [wi_336_0, wi_336_1, wi_336_4, wi_336_7, wi_336_8, wi_336_11, wi_336_12, wi_336_15, wi_336_16, wi_336_17, wi_336_20, wi_338_0, wi_338_3, wi_338_6, wi_338_7, wi_338_10, wi_338_13, wi_338_14, wi_338_17, wi_338_18, wi_339_0, wi_339_1, wi_339_2, wi_339_5, wi_339_8, wi_339_9, wi_340_0, wi_340_1, wi_340_2, wi_340_3, wi_340_6, wi_340_7, wi_340_8, wi_340_9, wi_340_12, wi_340_13, wi_340_14, wi_341_0, wi_341_1, wi_341_4, wi_341_5, wi_341_6, wi_341_9, wi_341_10, wi_341_11, wi_341_16, wi_341_17, io_add_o, io_sub_o, io_mul_o, io_neg_o, io_and_r, io_or_r, io_xor_r, io_nd_r, io_shr_r, io_shl1, io_i2b_r, io_i2l_o, io_l2i_o, il_add_o, il_sub_o, il_mul_o, il_neg_o, ib_bit, Int.toNat_natCast, true_implies, false_implies, implies_true, and_true, true_and, and_self, not_true_eq_false, not_false_eq_true, wa_0, wa_1, il_cmp_o, il_cmp0, il_cmp1, il_cmp2, io_bit1, ibt0, ibt1, ibt00, ibt11, ibt10, ibt01, Int.ofNat_lt, Int.ofNat_le, Int.ofNat_inj, Nat.lt_irrefl, Int.lt_irrefl, Int.toNat_one, Int.toNat_zero, Bool.false_eq_true, reduceIte, reduceCtorEq, Nat.reduceAdd, Nat.reduceMul, Nat.reduceSub, Nat.reduceLT, Nat.reduceLeDiff, Nat.reduceEqDiff, Int.reduceNeg, Int.reduceAdd, Int.reduceMul, Int.reduceSub, Int.reduceLT, Int.reduceLE, Int.reduceEq, Int.reduceToNat, Int.reduceNatCast, icl, ico, inz, Nat.not_lt_zero, hk2, eg, ga', g1, g2]
end SG
