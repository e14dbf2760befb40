/-! bits of whole numbers, as the machine takes them -/
theorem ib_n {a : Nat} (h : a < 2147483648) : (gg_i (a : Int)).toBitVec.toNat = a := by
  unfold gg_i
  rw [Int32.toBitVec_ofInt, BitVec.ofInt_natCast, BitVec.toNat_ofNat]
  omega
theorem ib_i {v : Int32} {a : Nat} (h : v.toBitVec.toNat = a) (h2 : a < 2147483648) : v.toInt = (a : Int) := by
  show v.toBitVec.toInt = _
  rw [BitVec.toInt_eq_toNat_of_lt (by omega), h]
theorem ib_z {x : Int} (h0 : 0 ≤ x) (h1 : x ≤ 2147483647) : (gg_i x).toBitVec.toNat = x.toNat := by
  obtain ⟨n, rfl⟩ := Int.eq_ofNat_of_zero_le h0
  exact ib_n (by omega)
theorem ib_lt {a b : Nat} (h : a < 2147483648) : a &&& b < 2147483648 := Nat.lt_of_le_of_lt Nat.and_le_left h
theorem ib_lto {a b : Nat} (h : a < 2147483648) (h2 : b < 2147483648) : a ||| b < 2147483648 := Nat.or_lt_two_pow (n := 31) h h2
theorem ib_ltx {a b : Nat} (h : a < 2147483648) (h2 : b < 2147483648) : a ^^^ b < 2147483648 := Nat.xor_lt_two_pow (n := 31) h h2
theorem io_and_r {x y : Int} (hx : 0 ≤ x) (hx2 : x ≤ 2147483647) (hy : 0 ≤ y) (hy2 : y ≤ 2147483647) : io_and x y = ((x.toNat &&& y.toNat : Nat) : Int) := by
  unfold io_and
  refine ib_i ?_ (ib_lt (by omega))
  rw [Int32.toBitVec_and, BitVec.toNat_and, ib_z hx hx2, ib_z hy hy2]
theorem io_or_r {x y : Int} (hx : 0 ≤ x) (hx2 : x ≤ 2147483647) (hy : 0 ≤ y) (hy2 : y ≤ 2147483647) : io_or x y = ((x.toNat ||| y.toNat : Nat) : Int) := by
  unfold io_or
  refine ib_i ?_ (ib_lto (by omega) (by omega))
  rw [Int32.toBitVec_or, BitVec.toNat_or, ib_z hx hx2, ib_z hy hy2]
theorem io_xor_r {x y : Int} (hx : 0 ≤ x) (hx2 : x ≤ 2147483647) (hy : 0 ≤ y) (hy2 : y ≤ 2147483647) : io_xor x y = ((x.toNat ^^^ y.toNat : Nat) : Int) := by
  unfold io_xor
  refine ib_i ?_ (ib_ltx (by omega) (by omega))
  rw [Int32.toBitVec_xor, BitVec.toNat_xor, ib_z hx hx2, ib_z hy hy2]
/-- what is in x and not in y -/
def gnd (x y : Nat) : Nat := x ^^^ (x &&& y)
theorem gnd_bit (x y i : Nat) : (gnd x y).testBit i = (x.testBit i && !y.testBit i) := by
  unfold gnd
  rw [Nat.testBit_xor, Nat.testBit_and]
  cases x.testBit i <;> cases y.testBit i <;> rfl
theorem gnd_lt {x y n : Nat} (h : x < 2 ^ n) : gnd x y < 2 ^ n := Nat.xor_lt_two_pow h (Nat.lt_of_le_of_lt Nat.and_le_left h)
theorem io_nd_r {x y : Int} (hx : 0 ≤ x) (hx2 : x ≤ 2147483647) (hy : 0 ≤ y) (hy2 : y ≤ 2147483647) : io_and x (io_xor y (-1)) = ((gnd x.toNat y.toNat : Nat) : Int) := by
  have e : io_xor y (-1) = (gg_i y ^^^ gg_i (-1)).toInt := rfl
  unfold io_and
  refine ib_i ?_ (gnd_lt (n := 31) (by omega))
  have e2 : gg_i (io_xor y (-1)) = gg_i y ^^^ gg_i (-1) := by rw [e]; exact Int32.ofInt_toInt _
  rw [e2, Int32.toBitVec_and, Int32.toBitVec_xor, BitVec.toNat_and, BitVec.toNat_xor, ib_z hx hx2, ib_z hy hy2]
  have e3 : (gg_i (-1)).toBitVec.toNat = 2 ^ 32 - 1 := by decide +kernel
  rw [e3]
  refine Nat.eq_of_testBit_eq fun i => ?_
  rw [gnd_bit, Nat.testBit_and, Nat.testBit_xor, Nat.testBit_two_pow_sub_one]
  by_cases hi : i < 32
  · simp [hi]
  · have h5 : x.toNat.testBit i = false := Nat.testBit_lt_two_pow (Nat.lt_of_lt_of_le (show x.toNat < 2 ^ 31 by omega) (Nat.pow_le_pow_right (by decide) (by omega)))
    simp [h5]
theorem ib_s {y : Int} (h0 : 0 ≤ y) (h1 : y ≤ 31) : ((gg_i y &&& 31).toBitVec.smod 32).toNat = y.toNat := by
  obtain ⟨n, rfl⟩ := Int.eq_ofNat_of_zero_le h0
  have h2 : n < 32 := by omega
  have h3 : ∀ n : Fin 32, ((gg_i ((n.1 : Nat) : Int) &&& 31).toBitVec.smod 32).toNat = n.1 := by decide +kernel
  exact h3 ⟨n, h2⟩
theorem io_shr_r {x y : Int} (hx : 0 ≤ x) (hx2 : x ≤ 2147483647) (hy : 0 ≤ y) (hy2 : y ≤ 31) : io_shr x y = ((x.toNat >>> y.toNat : Nat) : Int) := by
  unfold io_shr
  have h1 := ib_z hx hx2
  have h5 : x.toNat >>> y.toNat < 2147483648 := by
    rw [Nat.shiftRight_eq_div_pow]
    exact Nat.lt_of_le_of_lt (Nat.div_le_self _ _) (by omega)
  refine ib_i ?_ h5
  rw [Int32.toBitVec_shiftRight, BitVec.sshiftRight_eq', ib_s hy hy2, BitVec.sshiftRight_eq_of_msb_false, BitVec.toNat_ushiftRight, h1]
  rw [BitVec.msb_eq_false_iff_two_mul_lt, h1]
  omega
theorem io_shl_r {x y : Int} (hx : 0 ≤ x) (hx2 : x ≤ 2147483647) (hy : 0 ≤ y) (hy2 : y ≤ 31) (h : x.toNat <<< y.toNat < 2147483648) : io_shl x y = ((x.toNat <<< y.toNat : Nat) : Int) := by
  unfold io_shl
  refine ib_i ?_ h
  rw [Int32.toBitVec_shiftLeft, BitVec.shiftLeft_eq', ib_s hy hy2, BitVec.toNat_shiftLeft, ib_z hx hx2]
  exact Nat.mod_eq_of_lt (by omega)
theorem io_shl1 {y : Int} (hy : 0 ≤ y) (hy2 : y ≤ 30) : io_shl 1 y = ((2 ^ y.toNat : Nat) : Int) := by
  have h3 : 2 ^ y.toNat ≤ 2 ^ 30 := Nat.pow_le_pow_right (by decide) (by omega)
  rw [io_shl_r (by decide) (by decide) hy (by omega) (by show 1 <<< y.toNat < _; rw [Nat.one_shiftLeft]; omega)]
  show ((1 <<< y.toNat : Nat) : Int) = _
  rw [Nat.one_shiftLeft]
/-- one bit -/
theorem ib_bit (s a : Nat) : (s >>> a) &&& 1 = (s.testBit a).toNat := by
  rw [Nat.and_one_is_mod, Nat.shiftRight_eq_div_pow]
  exact (Nat.toNat_testBit s a).symm
theorem io_i2b_r {x : Int} (h0 : -128 ≤ x) (h1 : x ≤ 127) : io_i2b x = x := by
  unfold io_i2b
  rw [Int8.toInt_toInt32, Int32.toInt_toInt8, io_r_i ⟨by omega, by omega⟩]
  exact Int.bmod_eq_of_le (by omega) (by omega)
