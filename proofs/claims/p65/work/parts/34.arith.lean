/-! what the operations are on whole numbers in range -/
theorem io_add_r {a b : Int} (h : io_r (a + b)) : io_add a b = a + b := by
  unfold io_add gg_i
  rw [← Int32.ofInt_add]
  exact io_r_i h
theorem io_sub_r {a b : Int} (h : io_r (a - b)) : io_sub a b = a - b := by
  unfold io_sub gg_i
  rw [← Int32.ofInt_sub]
  exact io_r_i h
theorem io_mul_r {a b : Int} (h : io_r (a * b)) : io_mul a b = a * b := by
  unfold io_mul gg_i
  rw [← Int32.ofInt_mul]
  exact io_r_i h
theorem io_neg_r {a : Int} (h : io_r (-a)) : io_neg a = -a := by
  unfold io_neg gg_i
  rw [← Int32.ofInt_neg]
  exact io_r_i h
theorem ic_eq_r {a b : Int} (ha : io_r a) (hb : io_r b) : ic_eq a b = decide (a = b) := by
  unfold ic_eq
  have h : (gg_i a = gg_i b) ↔ a = b := by
    rw [← Int32.toInt_inj, io_r_i ha, io_r_i hb]
  simp only [h]
theorem ic_lt_r {a b : Int} (ha : io_r a) (hb : io_r b) : ic_lt a b = decide (a < b) := by
  unfold ic_lt
  have h : (gg_i a < gg_i b) ↔ a < b := by
    rw [Int32.lt_iff_toInt_lt, io_r_i ha, io_r_i hb]
  simp only [h]
theorem io_k_r {a : Int} (ha : io_r a) : gg_k a = a.toNat := by
  unfold gg_k
  show (gg_i a).toInt.toNat = _
  rw [io_r_i ha]
theorem io_in_r {a : Int} {n : Nat} (ha : io_r a) (h0 : 0 ≤ a) (h1 : a < n) : gg_in a n = true := by
  unfold gg_in
  refine decide_eq_true fun h => ?_
  rcases h with h | h
  · have h2 := Int32.lt_iff_toInt_lt.mp h
    rw [io_r_i ha] at h2
    have h3 : (0 : Int32).toInt = 0 := rfl
    omega
  · have h2 : n ≤ (gg_i a).toInt.toNat := h
    rw [io_r_i ha] at h2
    omega
theorem io_i0 {b : Int} (hb : io_r b) (h : b ≠ 0) : ¬ gg_i b = 0 := by
  intro h2
  apply h
  have h3 := congrArg Int32.toInt h2
  rw [io_r_i hb] at h3
  exact h3
theorem io_div_r {a b : Int} (ha : io_r a) (hb : io_r b) (h : b ≠ -1) : io_div a b = a.tdiv b := by
  unfold io_div
  rw [Int32.toInt_div_of_ne_right _ _ (fun z => h (by have := congrArg Int32.toInt z; rw [io_r_i hb] at this; exact this)), io_r_i ha, io_r_i hb]
theorem io_rem_r {a b : Int} (ha : io_r a) (hb : io_r b) (h : b ≠ -1) : io_rem a b = a.tmod b := by
  have h0 := io_div_r ha hb h
  unfold io_div at h0
  have h1 : gg_i a / gg_i b = gg_i (a.tdiv b) := by
    rw [← h0]
    exact (gi_of _).symm
  unfold io_rem
  rw [h1]
  unfold gg_i
  rw [← Int32.ofInt_mul, ← Int32.ofInt_sub]
  have h2 : a - a.tdiv b * b = a.tmod b := by
    have := Int.mul_tdiv_add_tmod a b
    rw [Int.mul_comm] at this
    omega
  rw [h2]
  refine io_r_i ?_
  unfold io_r at *
  have h3 := Int.tmod_nonneg (a := a) b
  by_cases h4 : 0 ≤ a
  · have := h3 h4
    have h5 : a.tmod b ≤ a := by
      have e1 : a.tmod b = ((a.toNat % b.natAbs : Nat) : Int) := by
        rw [← Int.natAbs_of_nonneg h4, Int.toNat_natCast]
        by_cases h6 : 0 ≤ b
        · rw [← Int.natAbs_of_nonneg h6]; rfl
        · have e2 : b = -((b.natAbs : Nat) : Int) := by omega
          rw [e2, Int.tmod_neg, Int.natAbs_neg, Int.natAbs_natCast]; rfl
      have e2 := Nat.mod_le a.toNat b.natAbs
      omega
    omega
  · have e3 : a.tmod b = -((-a).tmod b) := by rw [Int.neg_tmod]; omega
    have h7 := Int.tmod_nonneg (a := -a) b (by omega)
    have h5 : (-a).tmod b ≤ -a := by
      have e1 : (-a).tmod b = (((-a).toNat % b.natAbs : Nat) : Int) := by
        generalize hA : -a = A at *
        have hA0 : 0 ≤ A := by omega
        rw [← Int.natAbs_of_nonneg hA0, Int.toNat_natCast]
        by_cases h6 : 0 ≤ b
        · rw [← Int.natAbs_of_nonneg h6]; rfl
        · have e2 : b = -((b.natAbs : Nat) : Int) := by omega
          rw [e2, Int.tmod_neg, Int.natAbs_neg, Int.natAbs_natCast]; rfl
      have e2 := Nat.mod_le (-a).toNat b.natAbs
      omega
    omega
theorem io_i2l_r {a : Int} (h : io_r a) : io_i2l a = a := by
  unfold io_i2l
  rw [Int32.toInt_toInt64, io_r_i h]
theorem io_l2i_r {a : Int} (h : io_r a) : io_l2i a = a := by
  unfold io_l2i
  rw [Int64.toInt_toInt32, io_R_l ⟨by have := h.1; omega, by have := h.2; omega⟩]
  have := h.1
  have := h.2
  exact Int.bmod_eq_of_le (by omega) (by omega)
theorem il_cmp_r {a b : Int} (ha : io_R a) (hb : io_R b) : il_cmp a b = if a < b then -1 else if a = b then 0 else 1 := by
  unfold il_cmp
  have h1 : (gg_l a < gg_l b) ↔ a < b := by rw [Int64.lt_iff_toInt_lt, io_R_l ha, io_R_l hb]
  have h2 : (gg_l a = gg_l b) ↔ a = b := by rw [← Int64.toInt_inj, io_R_l ha, io_R_l hb]
  simp only [h1, h2]
theorem il_add_r {a b : Int} (h : io_R (a + b)) : il_add a b = a + b := by
  unfold il_add gg_l
  rw [← Int64.ofInt_add]
  exact io_R_l h
theorem il_mul_r {a b : Int} (h : io_R (a * b)) : il_mul a b = a * b := by
  unfold il_mul gg_l
  rw [← Int64.ofInt_mul]
  exact io_R_l h
