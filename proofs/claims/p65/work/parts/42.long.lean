/-! longs as rows of bits -/
theorem lb_l (B : BitVec 64) : gg_l B.toInt = Int64.ofBitVec B := by
  unfold gg_l
  exact Int64.ofInt_toInt (Int64.ofBitVec B)
theorem lb_or (A B : BitVec 64) : il_or A.toInt B.toInt = (A ||| B).toInt := by
  unfold il_or
  rw [lb_l, lb_l]
  rfl
theorem lb_and (A B : BitVec 64) : il_and A.toInt B.toInt = (A &&& B).toInt := by
  unfold il_and
  rw [lb_l, lb_l]
  rfl
theorem lb_xor (A B : BitVec 64) : il_xor A.toInt B.toInt = (A ^^^ B).toInt := by
  unfold il_xor
  rw [lb_l, lb_l]
  rfl
theorem lb_n {x : Nat} (h : x < 9223372036854775808) : (BitVec.ofNat 64 x).toInt = (x : Int) := by
  rw [BitVec.toInt_eq_toNat_of_lt (by rw [BitVec.toNat_ofNat]; omega), BitVec.toNat_ofNat]
  omega
theorem lb_t {x : Nat} (h : x < 9223372036854775808) : (gg_l (x : Int)).toBitVec.toNat = x := by
  unfold gg_l
  rw [Int64.toBitVec_ofInt, BitVec.ofInt_natCast, BitVec.toNat_ofNat]
  omega
theorem lb_z {v : Int64} {a : Nat} (h : v.toBitVec.toNat = a) (h2 : a < 9223372036854775808) : v.toInt = (a : Int) := by
  show v.toBitVec.toInt = _
  rw [BitVec.toInt_eq_toNat_of_lt (by omega), h]
theorem lb_s {y : Int} (h0 : 0 ≤ y) (h1 : y ≤ 63) : (((gg_i y).toInt64 &&& 63).toBitVec.smod 64).toNat = y.toNat := by
  obtain ⟨n, rfl⟩ := Int.eq_ofNat_of_zero_le h0
  have h2 : n < 64 := by omega
  have h3 : ∀ n : Fin 64, (((gg_i ((n.1 : Nat) : Int)).toInt64 &&& 63).toBitVec.smod 64).toNat = n.1 := by decide +kernel
  exact h3 ⟨n, h2⟩
theorem il_shl1 {y : Int} (h0 : 0 ≤ y) (h1 : y ≤ 62) : il_shl 1 y = ((2 ^ y.toNat : Nat) : Int) := by
  unfold il_shl
  have h3 : 2 ^ y.toNat ≤ 2 ^ 62 := Nat.pow_le_pow_right (by decide) (by omega)
  refine lb_z ?_ (by omega)
  rw [Int64.toBitVec_shiftLeft, BitVec.shiftLeft_eq', lb_s h0 (by omega), BitVec.toNat_shiftLeft]
  have e : (gg_l 1).toBitVec.toNat = 1 := by decide +kernel
  rw [e, Nat.one_shiftLeft]
  exact Nat.mod_eq_of_lt (by omega)
theorem il_shr_n {x : Nat} {y : Int} (h : x < 9223372036854775808) (h0 : 0 ≤ y) (h1 : y ≤ 63) : il_shr (x : Int) y = ((x >>> y.toNat : Nat) : Int) := by
  unfold il_shr
  have h5 : x >>> y.toNat < 9223372036854775808 := by
    rw [Nat.shiftRight_eq_div_pow]
    exact Nat.lt_of_le_of_lt (Nat.div_le_self _ _) (by omega)
  refine lb_z ?_ h5
  rw [Int64.toBitVec_shiftRight, BitVec.sshiftRight_eq', lb_s h0 h1, BitVec.sshiftRight_eq_of_msb_false, BitVec.toNat_ushiftRight, lb_t h]
  rw [BitVec.msb_eq_false_iff_two_mul_lt, lb_t h]
  omega
theorem il_and_n {x y : Nat} (h : x < 9223372036854775808) (h2 : y < 9223372036854775808) : il_and (x : Int) (y : Int) = ((x &&& y : Nat) : Int) := by
  unfold il_and
  refine lb_z ?_ (Nat.lt_of_le_of_lt Nat.and_le_left h)
  rw [Int64.toBitVec_and, BitVec.toNat_and, lb_t h, lb_t h2]
theorem il_bit {x y : Nat} (h : x < 9223372036854775808) : il_and ((x >>> y : Nat) : Int) 1 = ((x.testBit y).toNat : Int) := by
  have h5 : x >>> y ≤ x := by rw [Nat.shiftRight_eq_div_pow]; exact Nat.div_le_self _ _
  have h6 : ∀ z : Nat, z ≤ x → il_and (z : Int) 1 = ((z &&& 1 : Nat) : Int) := fun z hz => il_and_n (y := 1) (by omega) (by omega)
  rw [h6 _ h5, ib_bit]
/-- what is open where B is barred -/
theorem lb_open (B : BitVec 64) {cc : Nat} (h : cc ≤ 61) : il_and (il_xor B.toInt (-1)) (il_sub (il_shl 1 (cc : Int)) 1) = ((qbits (fun c => !B.getLsbD c) cc : Nat) : Int) := by
  have h3 : 2 ^ cc ≤ 2 ^ 61 := Nat.pow_le_pow_right (by decide) h
  have h4 : 1 ≤ 2 ^ cc := Nat.one_le_two_pow
  rw [il_shl1 (by omega) (by omega), Int.toNat_natCast, il_sub_o (by omega) (by omega)]
  rw [show ((2 ^ cc : Nat) : Int) - 1 = ((2 ^ cc - 1 : Nat) : Int) by omega]
  have e1 : (-1 : Int) = (BitVec.allOnes 64).toInt := by decide +kernel
  rw [e1, lb_xor, ← lb_n (x := 2 ^ cc - 1) (by omega), lb_and]
  have h8 := qbits_lt (fun c => !B.getLsbD c) cc
  rw [← lb_n (x := qbits (fun c => !B.getLsbD c) cc) (by omega)]
  refine congrArg BitVec.toInt ?_
  refine BitVec.eq_of_getLsbD_eq fun i hi => ?_
  rw [BitVec.getLsbD_and, BitVec.getLsbD_xor, BitVec.getLsbD_allOnes, BitVec.getLsbD_ofNat, BitVec.getLsbD_ofNat, Nat.testBit_two_pow_sub_one, qbits_bit]
  cases B.getLsbD i <;> simp [hi]
