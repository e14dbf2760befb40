/-! the operations once more, their ranges as inequalities -/
theorem io_add_o {a b : Int} (h : -2147483648 ≤ a + b) (h2 : a + b ≤ 2147483647) : io_add a b = a + b := io_add_r ⟨h, by omega⟩
theorem io_sub_o {a b : Int} (h : -2147483648 ≤ a - b) (h2 : a - b ≤ 2147483647) : io_sub a b = a - b := io_sub_r ⟨h, by omega⟩
theorem io_mul_o {a b : Int} (h : -2147483648 ≤ a * b) (h2 : a * b ≤ 2147483647) : io_mul a b = a * b := io_mul_r ⟨h, by omega⟩
theorem io_neg_o {a : Int} (h : -2147483648 ≤ -a) (h2 : -a ≤ 2147483647) : io_neg a = -a := io_neg_r ⟨h, by omega⟩
theorem io_i2l_o {a : Int} (h : -2147483648 ≤ a) (h2 : a ≤ 2147483647) : io_i2l a = a := io_i2l_r ⟨h, by omega⟩
theorem io_l2i_o {a : Int} (h : -2147483648 ≤ a) (h2 : a ≤ 2147483647) : io_l2i a = a := io_l2i_r ⟨h, by omega⟩
theorem il_add_o {a b : Int} (h : -9223372036854775808 ≤ a + b) (h2 : a + b ≤ 9223372036854775807) : il_add a b = a + b := il_add_r ⟨h, by omega⟩
theorem il_mul_o {a b : Int} (h : -9223372036854775808 ≤ a * b) (h2 : a * b ≤ 9223372036854775807) : il_mul a b = a * b := il_mul_r ⟨h, by omega⟩
theorem il_sub_o {a b : Int} (h : -9223372036854775808 ≤ a - b) (h2 : a - b ≤ 9223372036854775807) : il_sub a b = a - b := by
  unfold il_sub gg_l
  rw [← Int64.ofInt_sub]
  exact io_R_l ⟨h, by omega⟩
theorem il_neg_o {a : Int} (h : -9223372036854775808 ≤ -a) (h2 : -a ≤ 9223372036854775807) : il_neg a = -a := by
  unfold il_neg gg_l
  rw [← Int64.ofInt_neg]
  exact io_R_l ⟨h, by omega⟩
/-- how two longs compare -/
def il_cq (a b : Int) : Int := if a < b then -1 else if a = b then 0 else 1
theorem il_cmp_o {a b : Int} (ha : -9223372036854775808 ≤ a) (ha2 : a ≤ 9223372036854775807) (hb : -9223372036854775808 ≤ b) (hb2 : b ≤ 9223372036854775807) : il_cmp a b = il_cq a b := il_cmp_r ⟨ha, by omega⟩ ⟨hb, by omega⟩
theorem il_cmp0 (a b : Int) : (il_cq a b = 0) = (a = b) := by
  unfold il_cq
  refine propext ?_
  split
  · constructor <;> intro h <;> omega
  · split <;> constructor <;> intro h <;> omega
theorem il_cmp1 (a b : Int) : (il_cq a b < 0) = (a < b) := by
  unfold il_cq
  refine propext ?_
  split
  · constructor <;> intro h <;> omega
  · split <;> constructor <;> intro h <;> omega
theorem il_cmp2 (a b : Int) : (0 < il_cq a b) = (b < a) := by
  unfold il_cq
  refine propext ?_
  split
  · constructor <;> intro h <;> omega
  · split <;> constructor <;> intro h <;> omega
theorem il_cmp3 (a b : Int) : -1 ≤ il_cq a b ∧ il_cq a b ≤ 1 := by
  unfold il_cq
  split
  · omega
  · split <;> omega
/-- a loop that is gone through n times -/
theorem wl_for {P : Nat → Prop} (n : Nat) (hs : ∀ i, i < n → P (i + 1) → P i) (he : P n) : P 0 := by
  have h : ∀ j, j ≤ n → P (n - j) := by
    intro j
    induction j with
    | zero => intro _; exact he
    | succ j ih =>
      intro hj
      refine hs (n - (j + 1)) (by omega) ?_
      rw [show n - (j + 1) + 1 = n - j by omega]
      exact ih (by omega)
  have := h n (Nat.le_refl n)
  rwa [Nat.sub_self] at this
theorem io_bit1 {x y : Nat} (h : x ≤ 2147483647) : io_and ((x >>> y : Nat) : Int) 1 = ((x.testBit y).toNat : Int) := by
  have h5 : x >>> y ≤ x := by rw [Nat.shiftRight_eq_div_pow]; exact Nat.div_le_self _ _
  have h6 : ∀ z : Nat, z ≤ x → io_and (z : Int) 1 = ((z &&& 1 : Nat) : Int) := fun z hz => io_and_r (by omega) (by omega) (by omega) (by omega)
  rw [h6 _ h5, ib_bit]
theorem ibt0 (b : Bool) : (((b.toNat : Nat) : Int) = 0) = (b = false) := by cases b <;> simp
theorem ibt1 (b : Bool) : (((b.toNat : Nat) : Int) = 1) = (b = true) := by cases b <;> simp
theorem ibt00 : Bool.toNat false = 0 := rfl
theorem ibt11 : Bool.toNat true = 1 := rfl
theorem ibt10 : (true = false) = False := by simp
theorem ibt01 : (false = true) = False := by simp
