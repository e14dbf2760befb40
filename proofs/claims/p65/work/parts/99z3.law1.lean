/-! the law's own methods: the small ones -/
/-- the k-th number that is drawn from the script -/
def ql_at (N : Nat) (xs : Nat → Int32) (k : Nat) : Int := io_and (if 1 < N then (xs (k % (N - 1) + 1)).toInt else io_mul 7919 k) 2147483647
section LW
variable {N : Nat} {xs : Nat → Int32} {d : Nat} {w : gy_W} {Q : gy_O → Prop}
theorem wy_at {k : Nat} (hN : N ≤ 260) (hk : k ≤ 1000) : wy N xs d 346 0 [gr 0, (0, (k : Int))] [] w Q ↔ Q ((1, (0, ql_at N xs k)), w) := by
  have r0 : gy_ra (gr 0) = true := rfl
  rw [ly_346_0 r0, ly_346_1, ly_346_2, ly_346_3 (by omega) (by omega) (by decide) (by decide)]
  unfold ql_at
  by_cases h : 1 < N
  · have e1 : io_sub (N : Int) 1 = ((N - 1 : Nat) : Int) := by rw [io_sub_o (by omega) (by omega)]; omega
    have e2 : ((k : Int)).tmod ((N - 1 : Nat) : Int) = ((k % (N - 1) : Nat) : Int) := by
      rw [Int.ofNat_tmod]
    have hm : k % (N - 1) < N - 1 := Nat.mod_lt _ (by omega)
    have e3 : io_add ((k % (N - 1) : Nat) : Int) 1 = ((k % (N - 1) + 1 : Nat) : Int) := by rw [io_add_o (by omega) (by omega)]; omega
    rw [if_pos h]
    have g : ¬ ¬ 1 < (N : Int) := by omega
    simp only [show (1 : Int) < (N : Int) by omega, true_implies, not_true_eq_false, false_implies, and_true]
    rw [ly_346_6 r0, ly_346_7, ly_346_8 r0, ly_346_9, ly_346_10, ly_346_11, e1, ly_346_12 (by omega) (by omega) (by omega) (by omega), e2, ly_346_13, ly_346_14, e3, ly_346_15 (by omega) (by omega) (by omega), ly_346_16, ly_346_18, ly_346_19, ly_346_30]
    rw [Int.toNat_natCast]
  · rw [if_neg h]
    simp only [show ¬ (1 : Int) < (N : Int) by omega, false_implies, not_false_eq_true, true_implies, true_and]
    rw [ly_346_22, ly_346_25, ly_346_26, ly_346_27, ly_346_29, ly_346_30]
/-- the set has the arc -/
theorem wy_has {s k : Nat} (hs : s ≤ 2147483647) (hk : k ≤ 31) : wy N xs d 369 0 [(0, (s : Int)), (0, (k : Int))] [] w Q ↔ Q ((1, (0, ((s.testBit k).toNat : Int))), w) := by
  have e1 : io_shr (s : Int) (k : Int) = ((s >>> k : Nat) : Int) := by rw [io_shr_r (by omega) (by omega) (by omega) (by omega)]; rfl
  have b1 : ((s.testBit k).toNat : Int) ≤ 1 := by cases s.testBit k <;> decide
  have b0 : (0 : Int) ≤ ((s.testBit k).toNat : Int) := by omega
  rw [ly_369_0, ly_369_1, ly_369_2, ly_369_3, ly_369_4, e1, io_bit1 hs, ly_369_5, ly_369_6 (by omega) (by omega) (by decide) (by decide), ly_369_9, ly_369_10, ly_369_13, ly_369_14 (Or.inr rfl), ly_369_14 (Or.inl rfl)]
  cases h : s.testBit k
  · simp
  · simp
/-- v mod m, never below zero -/
theorem wy_rest {g m : Nat} {v : Int} (hg : w.1 g = (0, 0, 14)) (hm : w.2.1 g 1 = (0, (m : Int))) (h1 : 1 ≤ m) (h2 : m ≤ 100) (v1 : -1000000 ≤ v) (v2 : v ≤ 1000000) : wy N xs d 374 0 [gr g, (0, v)] [] w Q ↔ Q ((1, (0, v % (m : Int))), w) := by
  have r0 : gy_ra (gr g) = true := rfl
  have a1 := Int.tmod_lt_of_pos v (show (0 : Int) < (m : Int) by omega)
  have a2 : -(m : Int) < v.tmod (m : Int) := by
    rcases Int.le_total 0 v with h | h
    · rw [Int.tmod_eq_emod_of_nonneg h]
      have := Int.emod_nonneg v (show (m : Int) ≠ 0 by omega)
      omega
    · obtain ⟨u, rfl⟩ : ∃ u : Int, v = -u := ⟨-v, by omega⟩
      rw [Int.neg_tmod, Int.tmod_eq_emod_of_nonneg (by omega)]
      have := Int.emod_lt_of_pos u (show (0 : Int) < (m : Int) by omega)
      omega
  have e1 : io_add (v.tmod (m : Int)) (m : Int) = v.tmod (m : Int) + (m : Int) := io_add_o (by omega) (by omega)
  have e2 : (v.tmod (m : Int) + (m : Int)).tmod (m : Int) = v % (m : Int) := by
    rw [Int.tmod_eq_emod_of_nonneg (by omega), Int.add_emod_right]
    rw [Int.tmod_def, Int.sub_eq_add_neg, ← Int.mul_neg, Int.add_mul_emod_self_left]
  rw [ly_374_0, ly_374_1 r0, ly_374_2 hg, hm, ly_374_5 (by omega) (by omega) (by omega) (by omega), ly_374_6 r0, ly_374_7 hg, hm, ly_374_10, e1, ly_374_11 r0, ly_374_12 hg, hm, ly_374_15 (by omega) (by omega) (by omega) (by omega), e2, ly_374_16]
end LW
theorem io_and31 (x : Int) : 0 ≤ io_and x 2147483647 ∧ io_and x 2147483647 ≤ 2147483647 := by
  unfold io_and
  have h : (gg_i x &&& gg_i 2147483647).toBitVec.toNat ≤ 2147483647 := by
    rw [Int32.toBitVec_and, BitVec.toNat_and]
    exact Nat.le_trans Nat.and_le_right (by decide +kernel)
  have h2 : (gg_i x &&& gg_i 2147483647).toInt = ((gg_i x &&& gg_i 2147483647).toBitVec.toNat : Int) := by
    show BitVec.toInt _ = _
    exact BitVec.toInt_eq_toNat_of_lt (by omega)
  omega
theorem ql_at_r {N : Nat} {xs : Nat → Int32} (k : Nat) : 0 ≤ ql_at N xs k ∧ ql_at N xs k ≤ 2147483647 := io_and31 _
