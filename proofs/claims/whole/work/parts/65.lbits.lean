/-! Long.bitCount -/
theorem il_ushr_n {x : Nat} {y : Int} (h : x < 9223372036854775808) (h0 : 0 ≤ y) (h1 : y ≤ 63) : il_ushr (x : Int) y = ((x >>> y.toNat : Nat) : Int) := by
  have h5 : x >>> y.toNat < 9223372036854775808 := by
    rw [Nat.shiftRight_eq_div_pow]
    exact Nat.lt_of_le_of_lt (Nat.div_le_self _ _) (by omega)
  unfold il_ushr
  refine lb_z ?_ h5
  obtain ⟨n, rfl⟩ := Int.eq_ofNat_of_zero_le h0
  have h2 : n < 64 := by omega
  have h3 : ∀ n : Fin 64, ((gg_i ((n.1 : Nat) : Int)).toInt64.toUInt64 &&& Int64.toUInt64 63) = UInt64.ofNat n.1 := by decide +kernel
  have h4 := h3 ⟨n, h2⟩
  simp only at h4
  rw [h4]
  show ((gg_l (x : Int)).toUInt64 >>> UInt64.ofNat n).toBitVec.toNat = _
  rw [UInt64.toBitVec_shiftRight, BitVec.ushiftRight_eq', BitVec.toNat_ushiftRight]
  have e1 : ((gg_l (x : Int)).toUInt64).toBitVec.toNat = x := lb_t h
  rw [e1]
  congr 1
  show ((UInt64.ofNat n).toBitVec % 64).toNat = _
  rw [BitVec.toNat_umod]
  simp
  omega
theorem lb_l2i {a : Nat} (h : a < 9223372036854775808) : io_and (io_l2i (a : Int)) 127 = ((a % 128 : Nat) : Int) := by
  unfold io_and io_l2i
  have e1 : gg_i ((gg_l (a : Int)).toInt32.toInt) = (gg_l (a : Int)).toInt32 := by
    unfold gg_i
    exact Int32.ofInt_toInt _
  rw [e1]
  refine ib_i ?_ (by omega)
  rw [Int32.toBitVec_and, BitVec.toNat_and]
  have e2 : ((gg_l (a : Int)).toInt32).toBitVec.toNat = a % 4294967296 := by
    rw [Int64.toBitVec_toInt32, BitVec.signExtend_eq_setWidth_of_le _ (by decide), BitVec.toNat_setWidth, lb_t h]
  have e3 : (gg_i 127).toBitVec.toNat = 2 ^ 7 - 1 := by decide +kernel
  rw [e2, e3, Nat.and_two_pow_sub_one_eq_mod]
  omega
/-! byte by byte -/
theorem and256 (a1 a0 b1 b0 : Nat) (ha : a0 < 256) (hb : b0 < 256) : (256 * a1 + a0) &&& (256 * b1 + b0) = 256 * (a1 &&& b1) + (a0 &&& b0) := by
  have h1 := Nat.div_add_mod ((256 * a1 + a0) &&& (256 * b1 + b0)) (2 ^ 8)
  rw [Nat.and_div_two_pow, Nat.and_mod_two_pow] at h1
  rw [show (256 * a1 + a0) / 2 ^ 8 = a1 by omega, show (256 * b1 + b0) / 2 ^ 8 = b1 by omega, show (256 * a1 + a0) % 2 ^ 8 = a0 by omega, show (256 * b1 + b0) % 2 ^ 8 = b0 by omega] at h1
  omega
def qm_ (p : Nat) : Nat → Nat
  | 0 => 0
  | j + 1 => 256 * qm_ p j + p
def qs1 (j x : Nat) : Nat := x - ((x >>> 1) &&& qm_ 85 j)
def qs2 (j x : Nat) : Nat := (x &&& qm_ 51 j) + ((x >>> 2) &&& qm_ 51 j)
def qs3 (j x : Nat) : Nat := (x + x >>> 4) &&& qm_ 15 j
def q8_1 (b : Nat) : Nat := b - ((b >>> 1) &&& 85)
def q8_2 (b : Nat) : Nat := (b &&& 51) + ((b >>> 2) &&& 51)
theorem q8_a : ∀ b : Fin 256, ∀ q : Fin 2, ((b.1 / 2 + 128 * q.1) &&& 85) = (b.1 / 2) &&& 85 := by decide +kernel
theorem q8_b : ∀ b : Fin 256, ∀ q : Fin 4, ((b.1 / 4 + 64 * q.1) &&& 51) = (b.1 / 4) &&& 51 := by decide +kernel
theorem q8_c : ∀ b : Fin 256, ((b.1 / 2) &&& 85) ≤ b.1 ∧ q8_1 b.1 < 256 ∧ q8_2 (q8_1 b.1) < 256 ∧ q8_2 (q8_1 b.1) % 16 ≤ 4 ∧ q8_2 (q8_1 b.1) / 16 ≤ 4 ∧ (q8_2 (q8_1 b.1) % 16 + q8_2 (q8_1 b.1) / 16) = qcnt b.1.testBit 8 := by decide +kernel
theorem q8_d : ∀ r : Fin 9, ∀ q : Fin 16, ((16 * q.1 + r.1) &&& 15) = r.1 := by decide +kernel
theorem qs1_s (j Q : Nat) {B : Nat} (hB : B < 256) : qs1 (j + 1) (256 * Q + B) = 256 * qs1 j Q + q8_1 B := by
  unfold qs1 q8_1
  rw [show qm_ 85 (j + 1) = 256 * qm_ 85 j + 85 from rfl]
  rw [Nat.shiftRight_eq_div_pow, Nat.shiftRight_eq_div_pow, Nat.shiftRight_eq_div_pow]
  have e1 : (256 * Q + B) / 2 ^ 1 = 256 * (Q / 2) + (B / 2 + 128 * (Q % 2)) := by omega
  rw [e1, and256 _ _ _ _ (by omega) (by decide)]
  have h1 := q8_a ⟨B, hB⟩ ⟨Q % 2, by omega⟩
  have h2 := (q8_c ⟨B, hB⟩).1
  simp only at h1 h2
  rw [h1]
  have h3 : (Q / 2) &&& qm_ 85 j ≤ Q / 2 := Nat.and_le_left
  show _ = 256 * (Q - ((Q / 2 ^ 1) &&& qm_ 85 j)) + (B - ((B / 2 ^ 1) &&& 85))
  rw [Nat.pow_one]
  omega
theorem qs2_s (j Q : Nat) {B : Nat} (hB : B < 256) : qs2 (j + 1) (256 * Q + B) = 256 * qs2 j Q + q8_2 B := by
  unfold qs2 q8_2
  rw [show qm_ 51 (j + 1) = 256 * qm_ 51 j + 51 from rfl]
  rw [Nat.shiftRight_eq_div_pow, Nat.shiftRight_eq_div_pow, Nat.shiftRight_eq_div_pow]
  have e1 : (256 * Q + B) / 2 ^ 2 = 256 * (Q / 4) + (B / 4 + 64 * (Q % 4)) := by omega
  rw [e1, and256 _ _ _ _ hB (by decide), and256 _ _ _ _ (by omega) (by decide)]
  have h1 := q8_b ⟨B, hB⟩ ⟨Q % 4, by omega⟩
  simp only at h1
  rw [h1]
  show _ = 256 * ((Q &&& qm_ 51 j) + ((Q / 4) &&& qm_ 51 j)) + ((B &&& 51) + ((B / 4) &&& 51))
  omega
theorem qs3_s (j Q : Nat) {B : Nat} (hB : B < 256) (h4 : B % 16 ≤ 4) (h5 : B / 16 ≤ 4) (hQ : Q % 16 ≤ 4) : qs3 (j + 1) (256 * Q + B) = 256 * qs3 j Q + (B % 16 + B / 16) := by
  unfold qs3
  rw [show qm_ 15 (j + 1) = 256 * qm_ 15 j + 15 from rfl]
  rw [Nat.shiftRight_eq_div_pow, Nat.shiftRight_eq_div_pow]
  have e1 : 256 * Q + B + (256 * Q + B) / 2 ^ 4 = 256 * (Q + Q / 2 ^ 4) + (16 * (B / 16 + Q % 16) + (B % 16 + B / 16)) := by omega
  rw [e1, and256 _ _ _ _ (by omega) (by decide)]
  have h1 := q8_d ⟨B % 16 + B / 16, by omega⟩ ⟨B / 16 + Q % 16, by omega⟩
  simp only at h1
  rw [h1]
/-- the bytes' counts -/
def qwb : Nat → Nat → Nat
  | 0, _ => 0
  | j + 1, x => 256 * qwb j (x / 256) + qcnt (x % 256).testBit 8
theorem qs_all (j : Nat) : ∀ x, x < 256 ^ j → qs2 j (qs1 j x) % 16 ≤ 4 ∧ qs3 j (qs2 j (qs1 j x)) = qwb j x := by
  induction j with
  | zero =>
    intro x hx
    have : x = 0 := by
      rw [Nat.pow_zero] at hx
      omega
    subst this
    exact ⟨by decide +kernel, by decide +kernel⟩
  | succ j ih =>
    intro x hx
    have hB : x % 256 < 256 := Nat.mod_lt _ (by decide)
    have hQ : x / 256 < 256 ^ j := by
      rw [Nat.pow_succ] at hx
      exact Nat.div_lt_of_lt_mul (by rw [Nat.mul_comm]; exact hx)
    obtain ⟨i1, i2⟩ := ih _ hQ
    obtain ⟨c1, c2, c3, c4, c5, c6⟩ := q8_c ⟨x % 256, hB⟩
    simp only at c1 c2 c3 c4 c5 c6
    have e0 : x = 256 * (x / 256) + x % 256 := by omega
    have e1 : qs2 (j + 1) (qs1 (j + 1) x) = 256 * qs2 j (qs1 j (x / 256)) + q8_2 (q8_1 (x % 256)) := by
      conv => lhs; rw [e0]
      rw [qs1_s j _ hB, qs2_s j _ c2]
    rw [e1]
    refine ⟨by omega, ?_⟩
    rw [qs3_s j _ c3 c4 c5 i1, i2, c6]
    rfl
theorem qcnt_add8 (f : Nat → Bool) (n m : Nat) : qcnt f (n + m) = qcnt f n + qcnt (fun i => f (n + i)) m := by
  induction m with
  | zero => rfl
  | succ m ih =>
    show qcnt f (n + m) + (f (n + m)).toNat = qcnt f n + (qcnt (fun i => f (n + i)) m + (f (n + m)).toNat)
    rw [ih]
    omega
theorem qcnt_byte (x m : Nat) : qcnt x.testBit (8 + m) = qcnt (x % 256).testBit 8 + qcnt (x / 256).testBit m := by
  rw [qcnt_add8]
  congr 1
  · refine qcnt_congr fun i hi => ?_
    rw [show (256 : Nat) = 2 ^ 8 from rfl, Nat.testBit_mod_two_pow, decide_eq_true hi, Bool.true_and]
  · refine qcnt_congr fun i _ => ?_
    rw [show (256 : Nat) = 2 ^ 8 from rfl, Nat.testBit_div_two_pow, Nat.add_comm]
theorem qd1 {a b r : Nat} (h : a = 256 * b + r) (hr : r ≤ 64) : a / 256 = b := by omega
theorem qd2 {a b c r s : Nat} (h : a = 256 * b + r) (h2 : b = 256 * c + s) (hr : r ≤ 64) (hs : s ≤ 64) : a / 65536 = c := by
  rw [show a = (256 * s + r) + 65536 * c by omega, Nat.add_mul_div_left _ _ (by decide), Nat.div_eq_of_lt (by omega), Nat.zero_add]
theorem qd4 {a b c d e r0 r1 r2 r3 : Nat} (h : a = 256 * b + r0) (h2 : b = 256 * c + r1) (h3 : c = 256 * d + r2) (h4 : d = 256 * e + r3) (g0 : r0 ≤ 64) (g1 : r1 ≤ 64) (g2 : r2 ≤ 64) (g3 : r3 ≤ 64) : a / 4294967296 = e := by
  rw [show a = (16777216 * r3 + 65536 * r2 + 256 * r1 + r0) + 4294967296 * e by omega, Nat.add_mul_div_left _ _ (by decide), Nat.div_eq_of_lt (by omega), Nat.zero_add]
theorem qda {a b a' b' r s : Nat} (h : a = 256 * b + r) (h' : a' = 256 * b' + s) : a + a' = 256 * (b + b') + (r + s) := by omega
theorem qdb {a b r B B' : Nat} (h : a = 256 * b + r) (hb : b ≤ B) (hr : r ≤ 8) (e : 256 * B + 8 ≤ B') : a ≤ B' := by omega
theorem qdm {a b r a' b' s : Nat} (h : a = 256 * b + r) (h' : a' = 256 * b' + s) (hr : r + s < 128) : (a + a') % 128 = r + s := by omega
theorem qfold {c0 c1 c2 c3 c4 c5 c6 c7 w0 w1 w2 w3 w4 w5 w6 w7 : Nat} (h0 : c0 ≤ 8) (h1 : c1 ≤ 8) (h2 : c2 ≤ 8) (h3 : c3 ≤ 8) (h4 : c4 ≤ 8) (h5 : c5 ≤ 8) (h6 : c6 ≤ 8) (h7 : c7 ≤ 8) (v7 : w7 = 256 * 0 + c7) (v6 : w6 = 256 * w7 + c6) (v5 : w5 = 256 * w6 + c5) (v4 : w4 = 256 * w5 + c4) (v3 : w3 = 256 * w4 + c3) (v2 : w2 = 256 * w3 + c2) (v1 : w1 = 256 * w2 + c1) (v0 : w0 = 256 * w1 + c0) :
    w0 < 1152921504606846976 ∧ w0 + w0 >>> 8 < 1152921504606846976 ∧ (w0 + w0 >>> 8) + (w0 + w0 >>> 8) >>> 16 < 1152921504606846976 ∧ ((w0 + w0 >>> 8) + (w0 + w0 >>> 8) >>> 16) + ((w0 + w0 >>> 8) + (w0 + w0 >>> 8) >>> 16) >>> 32 < 1152921504606846976 ∧ (((w0 + w0 >>> 8) + (w0 + w0 >>> 8) >>> 16) + ((w0 + w0 >>> 8) + (w0 + w0 >>> 8) >>> 16) >>> 32) % 128 = c0 + (c1 + (c2 + (c3 + (c4 + (c5 + (c6 + c7)))))) := by
  rw [Nat.shiftRight_eq_div_pow, Nat.shiftRight_eq_div_pow, Nat.shiftRight_eq_div_pow, show (2 : Nat) ^ 8 = 256 from rfl, show (2 : Nat) ^ 16 = 65536 from rfl, show (2 : Nat) ^ 32 = 4294967296 from rfl]
  have b7 : w7 ≤ 8 := qdb v7 (Nat.le_refl 0) h7 (by decide)
  have b6 : w6 ≤ 2056 := qdb v6 b7 h6 (by decide)
  have b5 : w5 ≤ 526344 := qdb v5 b6 h5 (by decide)
  have b4 : w4 ≤ 134744072 := qdb v4 b5 h4 (by decide)
  have b3 : w3 ≤ 34494482440 := qdb v3 b4 h3 (by decide)
  have b2 : w2 ≤ 8830587504648 := qdb v2 b3 h2 (by decide)
  have b1 : w1 ≤ 2260630401189896 := qdb v1 b2 h1 (by decide)
  have b0 : w0 ≤ 578721382704613384 := qdb v0 b1 h0 (by decide)
  have f6 := qda v6 v7
  have f5 := qda v5 v6
  have f4 := qda v4 v5
  have f3 := qda v3 v4
  have f2 := qda v2 v3
  have f1 := qda v1 v2
  have f0 := qda v0 v1
  have g4 := qda f4 f6
  have g3 := qda f3 f5
  have g2 := qda f2 f4
  have g1 := qda f1 f3
  have g0 := qda f0 f2
  have r01 : c0 + c1 ≤ 16 := Nat.add_le_add h0 h1
  have r12 : c1 + c2 ≤ 16 := Nat.add_le_add h1 h2
  have r23 : c2 + c3 ≤ 16 := Nat.add_le_add h2 h3
  have r34 : c3 + c4 ≤ 16 := Nat.add_le_add h3 h4
  have r45 : c4 + c5 ≤ 16 := Nat.add_le_add h4 h5
  have r56 : c5 + c6 ≤ 16 := Nat.add_le_add h5 h6
  have r67 : c6 + c7 ≤ 16 := Nat.add_le_add h6 h7
  have s0 : c0 + c1 + (c2 + c3) ≤ 64 := Nat.le_trans (Nat.add_le_add r01 r23) (by decide)
  have s1 : c1 + c2 + (c3 + c4) ≤ 64 := Nat.le_trans (Nat.add_le_add r12 r34) (by decide)
  have s2 : c2 + c3 + (c4 + c5) ≤ 64 := Nat.le_trans (Nat.add_le_add r23 r45) (by decide)
  have s3 : c3 + c4 + (c5 + c6) ≤ 64 := Nat.le_trans (Nat.add_le_add r34 r56) (by decide)
  rw [qd1 v0 (Nat.le_trans h0 (by decide)), qd2 f0 f1 (Nat.le_trans r01 (by decide)) (Nat.le_trans r12 (by decide)), qd4 g0 g1 g2 g3 s0 s1 s2 s3]
  have m0 : (w0 + w1) + (w2 + w3) ≤ 578721382704613384 + 2260630401189896 + (8830587504648 + 34494482440) := Nat.add_le_add (Nat.add_le_add b0 b1) (Nat.add_le_add b2 b3)
  have m1 : w0 + w1 ≤ 578721382704613384 + 2260630401189896 := Nat.add_le_add b0 b1
  have m2 : (w0 + w1) + (w2 + w3) + ((w4 + w5) + (w6 + w7)) ≤ 578721382704613384 + 2260630401189896 + (8830587504648 + 34494482440) + (134744072 + 526344 + (2056 + 8)) := Nat.add_le_add m0 (Nat.add_le_add (Nat.add_le_add b4 b5) (Nat.add_le_add b6 b7))
  refine ⟨Nat.lt_of_le_of_lt b0 (by decide), Nat.lt_of_le_of_lt m1 (by decide), Nat.lt_of_le_of_lt m0 (by decide), Nat.lt_of_le_of_lt m2 (by decide), ?_⟩
  have r8 : c0 + c1 + (c2 + c3) + (c4 + c5 + (c6 + c7)) < 128 := Nat.lt_of_le_of_lt (Nat.add_le_add (Nat.add_le_add r01 r23) (Nat.add_le_add r45 r67)) (by decide)
  rw [qdm g0 g4 r8]
  simp only [Nat.add_assoc]
theorem q_lbc {x : Nat} (hx : x < 2305843009213693952) : let y := qs3 8 (qs2 8 (qs1 8 x)); y < 1152921504606846976 ∧ y + y >>> 8 < 1152921504606846976 ∧ (y + y >>> 8) + (y + y >>> 8) >>> 16 < 1152921504606846976 ∧ ((y + y >>> 8) + (y + y >>> 8) >>> 16) + ((y + y >>> 8) + (y + y >>> 8) >>> 16) >>> 32 < 1152921504606846976 ∧ (((y + y >>> 8) + (y + y >>> 8) >>> 16) + ((y + y >>> 8) + (y + y >>> 8) >>> 16) >>> 32) % 128 = qcnt x.testBit 64 := by
  intro y
  have h1 := (qs_all 8 x (by show x < 18446744073709551616; omega)).2
  have hb : ∀ b, qcnt (b % 256).testBit 8 ≤ 8 := fun b => qcnt_le _ _
  have h2 := qfold (w0 := y) (hb x) (hb (x / 256)) (hb (x / 256 / 256)) (hb (x / 256 / 256 / 256)) (hb (x / 256 / 256 / 256 / 256)) (hb (x / 256 / 256 / 256 / 256 / 256)) (hb (x / 256 / 256 / 256 / 256 / 256 / 256)) (hb (x / 256 / 256 / 256 / 256 / 256 / 256 / 256)) rfl rfl rfl rfl rfl rfl rfl h1
  have h3 : qcnt x.testBit 64 = qcnt (x % 256).testBit 8 + (qcnt (x / 256 % 256).testBit 8 + (qcnt (x / 256 / 256 % 256).testBit 8 + (qcnt (x / 256 / 256 / 256 % 256).testBit 8 + (qcnt (x / 256 / 256 / 256 / 256 % 256).testBit 8 + (qcnt (x / 256 / 256 / 256 / 256 / 256 % 256).testBit 8 + (qcnt (x / 256 / 256 / 256 / 256 / 256 / 256 % 256).testBit 8 + qcnt (x / 256 / 256 / 256 / 256 / 256 / 256 / 256 % 256).testBit 8)))))) := by
    rw [show (64 : Nat) = 8 + (8 + (8 + (8 + (8 + (8 + (8 + 8)))))) from rfl, qcnt_byte, qcnt_byte, qcnt_byte, qcnt_byte, qcnt_byte, qcnt_byte, qcnt_byte]
    have : x / 256 / 256 / 256 / 256 / 256 / 256 / 256 % 256 = x / 256 / 256 / 256 / 256 / 256 / 256 / 256 := Nat.mod_eq_of_lt (by omega)
    rw [this]
  rw [h3]
  exact h2
section SG
variable {N : Nat} {xs : Nat → Int32} {d : Nat} {M : gg_M} {cc cs : Nat} {Q : gg_O → Prop}
theorem wp_lbitCount {x : Nat} (hx : x < 2305843009213693952) :
    wp N xs d 343 0 [(1, (x : Int)), (3, 0)] [] (gk_R, M, 158, cc, cs) Q ↔ Q ((1, (0, (qcnt x.testBit 64 : Int))), (gk_R, M, 158, cc, cs)) := by
  obtain ⟨y1, y2, y3, y4, y5⟩ := q_lbc hx
  have a1 : (x >>> 1) &&& 6148914691236517205 ≤ x >>> 1 := Nat.and_le_left
  have a2 : x >>> 1 ≤ x := by rw [Nat.shiftRight_eq_div_pow]; exact Nat.div_le_self _ _
  have hq1 : il_sub (x : Int) (il_and (il_ushr (x : Int) 1) 6148914691236517205) = (qs1 8 x : Int) := by
    have e : ((1 : Int).toNat) = 1 := rfl
    rw [il_ushr_n (by omega) (by decide) (by decide), e, show (6148914691236517205 : Int) = ((6148914691236517205 : Nat) : Int) from rfl, il_and_n (x := x >>> 1) (by omega) (by decide), il_sub_o (by omega) (by omega)]
    have : qs1 8 x = x - ((x >>> 1) &&& 6148914691236517205) := rfl
    omega
  have hx1 : qs1 8 x ≤ x := Nat.sub_le _ _
  have hq2 : il_add (il_and (qs1 8 x : Int) 3689348814741910323) (il_and (il_ushr (qs1 8 x : Int) 2) 3689348814741910323) = (qs2 8 (qs1 8 x) : Int) := by
    generalize qs1 8 x = z at *
    have b1 : z &&& 3689348814741910323 ≤ 3689348814741910323 := Nat.and_le_right
    have b2 : (z >>> 2) &&& 3689348814741910323 ≤ 3689348814741910323 := Nat.and_le_right
    have b3 : z >>> 2 ≤ z := by rw [Nat.shiftRight_eq_div_pow]; exact Nat.div_le_self _ _
    rw [il_ushr_n (by omega) (by decide) (by decide), show (3689348814741910323 : Int) = ((3689348814741910323 : Nat) : Int) from rfl, il_and_n (by omega) (by decide), il_and_n (x := z >>> (2 : Int).toNat) (by show z >>> 2 < _; omega) (by decide)]
    have e : ((2 : Int).toNat) = 2 := rfl
    rw [e, il_add_o (by omega) (by omega)]
    rfl
  have hx2 : qs2 8 (qs1 8 x) ≤ 7378697629483820646 := by
    have b1 : qs1 8 x &&& 3689348814741910323 ≤ 3689348814741910323 := Nat.and_le_right
    have b2 : (qs1 8 x >>> 2) &&& 3689348814741910323 ≤ 3689348814741910323 := Nat.and_le_right
    have : qs2 8 (qs1 8 x) = (qs1 8 x &&& 3689348814741910323) + ((qs1 8 x >>> 2) &&& 3689348814741910323) := rfl
    omega
  have hq3 : il_and (il_add (qs2 8 (qs1 8 x) : Int) (il_ushr (qs2 8 (qs1 8 x) : Int) 4)) 1085102592571150095 = (qs3 8 (qs2 8 (qs1 8 x)) : Int) := by
    generalize qs2 8 (qs1 8 x) = z at *
    have b3 : z >>> 4 = z / 16 := by rw [Nat.shiftRight_eq_div_pow]
    have e : ((4 : Int).toNat) = 4 := rfl
    rw [il_ushr_n (by omega) (by decide) (by decide), e, il_add_o (by omega) (by omega), show (1085102592571150095 : Int) = ((1085102592571150095 : Nat) : Int) from rfl, show (z : Int) + ((z >>> 4 : Nat) : Int) = ((z + z >>> 4 : Nat) : Int) from rfl, il_and_n (by omega) (by decide)]
    rfl
  have hst : ∀ (z : Nat) (k : Nat), z < 1152921504606846976 → k ≤ 63 → z + z >>> k < 1152921504606846976 → il_add (z : Int) (il_ushr (z : Int) (k : Int)) = ((z + z >>> k : Nat) : Int) := by
    intro z k hz hk hzk
    rw [il_ushr_n (by omega) (by omega) (by omega), Int.toNat_natCast]
    generalize z >>> k = s at *
    rw [il_add_o (by omega) (by omega)]
    rfl
  simp only [wi_343_0, wi_343_1, wi_343_2, wi_343_3, wi_343_4, wi_343_7, wi_343_8, wi_343_9, wi_343_10, wi_343_11, wi_343_14, wi_343_15, wi_343_16, wi_343_17, wi_343_18, wi_343_21, wi_343_22, wi_343_23, wi_343_24, wi_343_25, wi_343_26, wi_343_27, wi_343_28, wi_343_29, wi_343_32, wi_343_33, wi_343_34, wi_343_35, wi_343_36, wi_343_38, wi_343_39, wi_343_40, wi_343_41, wi_343_42, wi_343_43, wi_343_45, wi_343_46, wi_343_47, wi_343_48, wi_343_49, wi_343_50, wi_343_52, wi_343_53, wi_343_54, wi_343_55, wi_343_56, wi_343_57, wi_343_59, wi_343_60]
  rw [hq1, hq2, hq3]
  generalize qs3 8 (qs2 8 (qs1 8 x)) = y at *
  have s1 := hst y 8 y1 (by decide) y2
  have s2 := hst _ 16 y2 (by decide) y3
  have s3 := hst _ 32 y3 (by decide) y4
  simp only [ico] at s1 s2 s3
  rw [s1, s2, s3, lb_l2i (by omega), y5]
end SG
