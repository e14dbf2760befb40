/-! the law's Graph: what only reads -/
section LR
variable {N : Nat} {xs : Nat → Int32} {d : Nat} {w : gy_W} {Q : gy_O → Prop} {O : Nat → Nat} {g : Nat} {G : q_G} {la ea lp ep t : Nat} {b : Nat → Nat}
theorem yz_P {G : q_G} (hG : q_ok G) {v : Nat} (hv : v < 8) : -128 ≤ qP G v ∧ qP G v ≤ 127 := by
  obtain ⟨⟨k1, k2, k3, k4, k5, k6, k7, k8⟩, hk, hp, hp2⟩ := id hG
  obtain ⟨p1, p2⟩ := hp v hv
  have h : qM G * qL G ≤ 12 * 5 := Nat.mul_le_mul k4 k8
  omega
theorem yy_colors (h : yGx w O g G la ea lp ep t b) (hG : q_ok G) : wy N xs d 366 0 [gr g] [] w Q ↔ Q ((1, (0, ((qM G * qL G + 1 : Nat) : Int))), w) := by
  obtain ⟨⟨g0, g1, g2, g3, g4, g5, g6⟩, ⟨v1, v2⟩, ⟨t1, t2⟩, hA, hI, hD, hO⟩ := h
  obtain ⟨⟨k1, k2, k3, k4, k5, k6, k7, k8⟩, hk, hp, hp2⟩ := id hG
  have h : qM G * qL G ≤ 12 * 5 := Nat.mul_le_mul k4 k8
  have e1 : io_mul (qM G : Int) (qL G : Int) = ((qM G * qL G : Nat) : Int) := by rw [io_mul_o (by rw [← Int.natCast_mul]; omega) (by rw [← Int.natCast_mul]; omega), ← Int.natCast_mul]
  have e2 : io_add ((qM G * qL G : Nat) : Int) 1 = ((qM G * qL G + 1 : Nat) : Int) := by rw [io_add_o (by omega) (by omega)]; omega
  rw [ly_366_0 gl_gr, ly_366_1 g0, g2, ly_366_4 gl_gr, ly_366_5 g0, g3, ly_366_8, e1, ly_366_9, ly_366_10, e2, ly_366_11]
theorem yz_or {s a : Nat} (ha : a < 12) (c : Bool) : io_or ((qbits s.testBit a : Nat) : Int) (if c then ((2 ^ a : Nat) : Int) else 0) = ((qbits s.testBit a + if c then 2 ^ a else 0 : Nat) : Int) := by
  have h1 := qbits_lt s.testBit a
  have h2 : 2 ^ a ≤ 2 ^ 11 := Nat.pow_le_pow_right (by decide) (by omega)
  cases c
  · rw [if_neg Bool.false_ne_true, if_neg Bool.false_ne_true, io_or_r (by omega) (by omega) (by decide) (by decide), Int.toNat_natCast]
    simp
  · rw [if_pos rfl, if_pos rfl, io_or_r (by omega) (by omega) (by omega) (by omega), Int.toNat_natCast, Int.toNat_natCast, qbits_or]
theorem yy_marked (h : yGx w O g G la ea lp ep t b) (hG : q_ok G) : wy N xs (d + 3) 370 0 [gr g, (3, 0), (3, 0)] [] w Q ↔ Q ((1, (0, (qS G : Int))), w) := by
  obtain ⟨⟨g0, g1, g2, g3, g4, g5, g6⟩, ⟨v1, v2⟩, ⟨t1, t2⟩, hA, hI, hD, hO⟩ := h
  obtain ⟨⟨k1, k2, k3, k4, k5, k6, k7, k8⟩, hk, hp, hp2⟩ := id hG
  have hla := v1.1
  refine wy_det ?_
  rw [ly_370_0, ly_370_1 gl_gr, ly_370_2, ly_370_3]
  refine wl_for (P := fun a => wy N xs (d + 3) 370 4 [gr g, (0, ((qbits (qS G).testBit a : Nat) : Int)), (0, (a : Int))] [] w fun o => o = ((1, (0, (qS G : Int))), w)) (qK G) (fun a ha ih => ?_) ?_
  · obtain ⟨a1, a2, a3, a4, a5, a6⟩ := hA a ha
    have e0 : io_add (a : Int) 1 = ((a + 1 : Nat) : Int) := by rw [io_add_o (by omega) (by omega)]; omega
    have e1 : io_shl 1 (a : Int) = ((2 ^ a : Nat) : Int) := io_shl1 (by omega) (by omega)
    have e2 := yz_or (s := qS G) (a := a) (by omega) ((qS G).testBit a)
    rw [ly_370_4, ly_370_5 gl_gr, ly_370_6 g0, g4, ly_370_9 gl_gr (gl_cl hla rfl), wv_size v1, wz_1, ly_370_12 (by omega) (by omega) (by omega) (by omega)]
    simp only [show (a : Int) < (qK G : Int) by omega, true_implies, not_true_eq_false, false_implies, and_true]
    rw [ly_370_15, ly_370_16 gl_gr, ly_370_17 g0, g4, ly_370_20, ly_370_21 gl_gr (gl_cl hla rfl), wv_get v1 ha, wz_1, ly_370_24 (gl_c7 a1), ly_370_27 a1, a6]
    cases hb : (qS G).testBit a
    · rw [hb] at e2
      rw [ly_370_30 (by decide) (by decide)]
      simp only [Bool.toNat_false, Int.natCast_zero, not_true_eq_false, true_implies, false_implies, and_true]
      rw [ly_370_39, ly_370_40, show (0 : Int) = (if false = true then ((2 ^ a : Nat) : Int) else 0) from rfl, e2, ly_370_41 gl_gr, ly_370_42, e0, ly_370_45]
      rw [show qbits (qS G).testBit (a + 1) = qbits (qS G).testBit a + if (qS G).testBit a then 2 ^ a else 0 from rfl, hb] at ih
      exact ih
    · rw [hb] at e2
      rw [ly_370_30 (by decide) (by decide)]
      simp only [Bool.toNat_true, Int.natCast_one, Int.one_ne_zero, not_false_eq_true, true_implies, false_implies, true_and]
      rw [ly_370_33, ly_370_34, ly_370_35, e1, ly_370_36, ly_370_40, show ((2 ^ a : Nat) : Int) = (if true = true then ((2 ^ a : Nat) : Int) else 0) from rfl, e2, ly_370_41 gl_gr, ly_370_42, e0, ly_370_45]
      rw [show qbits (qS G).testBit (a + 1) = qbits (qS G).testBit a + if (qS G).testBit a then 2 ^ a else 0 from rfl, hb] at ih
      exact ih
  · rw [ly_370_4, ly_370_5 gl_gr, ly_370_6 g0, g4, ly_370_9 gl_gr (gl_cl hla rfl), wv_size v1, wz_1, ly_370_12 (by omega) (by omega) (by omega) (by omega)]
    simp only [show ¬ (qK G : Int) < (qK G : Int) by omega, not_false_eq_true, true_implies, false_implies, true_and]
    rw [ly_370_48, ly_370_49]
    have e : qbits (qS G).testBit (qK G) = qS G := by
      refine (qbits_eq fun i => ?_).symm
      by_cases hi : i < qK G
      · rw [decide_eq_true hi, Bool.true_and]
      · rw [decide_eq_false hi, Bool.false_and]
        exact Nat.testBit_lt_two_pow (Nat.lt_of_lt_of_le k6 (Nat.pow_le_pow_right (by decide) (by omega)))
    rw [e]
/-- a clash over an arc, in numbers -/
def qclash (m x y : Nat) (ga : Nat) : Bool := decide (y = qsh m x ga)
theorem yz_mod {m ga x : Nat} (hx : 1 ≤ x) (hm : 1 ≤ m) (hg : ga < m) : ((((x - 1) % m + ga : Nat) : Int)) % (m : Int) = ((qpl m ((x - 1) % m) ga : Nat) : Int) := by
  have h1 : (x - 1) % m < m := Nat.mod_lt _ hm
  rw [← Int.natCast_emod]
  unfold qpl
  by_cases h : m ≤ (x - 1) % m + ga
  · rw [if_pos h, Nat.mod_eq_sub_mod h, Nat.mod_eq_of_lt (by omega)]
  · rw [if_neg h, Nat.mod_eq_of_lt (by omega)]
theorem yy_clash {a f tt ga wa : Nat} {k : Bool} {m x y : Nat} (hg : w.1 g = (0, 0, 14)) (hm : w.2.1 g 1 = (0, (m : Int))) (h : yA w a f tt ga wa k) (hm1 : 1 ≤ m) (hm2 : m ≤ 12) (hga : ga < m) (hx : x ≤ 60) (hy : y ≤ 60) : wy N xs (d + 1) 364 0 [gr g, gr a, (0, (x : Int)), (0, (y : Int)), (3, 0)] [] w Q ↔ Q ((1, (0, ((qclash m x y ga).toNat : Int))), w) := by
  obtain ⟨a1, a2, a3, a4, a5, a6⟩ := h
  rw [ly_364_0, ly_364_1 (by omega) (by omega)]
  by_cases hx0 : x = 0
  · subst hx0
    simp only [show ((0 : Nat) : Int) = 0 from rfl, not_true_eq_false, true_implies, false_implies, and_true]
    rw [ly_364_4, ly_364_5 (by omega) (by omega)]
    unfold qclash
    rw [qsh_0]
    by_cases hy0 : y = 0
    · subst hy0
      simp only [show ((0 : Nat) : Int) = 0 from rfl, not_true_eq_false, true_implies, false_implies, and_true, true_and]
      rw [ly_364_8, ly_364_9 (Or.inr rfl)]
      rfl
    · rw [decide_eq_false hy0]
      simp only [show ¬ (y : Int) = 0 by omega, not_false_eq_true, true_implies, false_implies, and_true, true_and]
      rw [ly_364_10, ly_364_11 (by omega) (by omega)]
      simp only [not_true_eq_false, true_implies, false_implies, and_true]
      rw [ly_364_18, ly_364_19 (Or.inl rfl)]
      rfl
  · simp only [show ¬ (x : Int) = 0 by omega, not_false_eq_true, true_implies, false_implies, true_and]
    rw [ly_364_10, ly_364_11 (by omega) (by omega)]
    simp only [show ¬ (x : Int) = 0 by omega, not_false_eq_true, true_implies, false_implies, true_and]
    rw [ly_364_14, ly_364_15 (by omega) (by omega)]
    by_cases hy0 : y = 0
    · subst hy0
      simp only [show ((0 : Nat) : Int) = 0 from rfl, not_true_eq_false, true_implies, false_implies, and_true]
      rw [ly_364_18, ly_364_19 (Or.inl rfl)]
      unfold qclash
      rw [decide_eq_false (fun z => by have := (qsh_s (x := x) (m := m) (a := ga) (by omega) hm1 hga).1; omega)]
      rfl
    · simp only [show ¬ (y : Int) = 0 by omega, not_false_eq_true, true_implies, false_implies, true_and]
      have e1 : io_sub (x : Int) 1 = ((x - 1 : Nat) : Int) := by rw [io_sub_o (by omega) (by omega)]; omega
      have e2 : (((x - 1 : Nat) : Int)).tdiv (m : Int) = (((x - 1) / m : Nat) : Int) := rfl
      have hd1 : (x - 1) / m ≤ x - 1 := Nat.div_le_self _ _
      have hd2 : (x - 1) / m * m ≤ x - 1 := Nat.div_mul_le_self _ _
      have e3 : io_mul (((x - 1) / m : Nat) : Int) (m : Int) = (((x - 1) / m * m : Nat) : Int) := by rw [io_mul_o (by rw [← Int.natCast_mul]; omega) (by rw [← Int.natCast_mul]; omega), ← Int.natCast_mul]
      have e4 : io_add 1 (((x - 1) / m * m : Nat) : Int) = ((1 + (x - 1) / m * m : Nat) : Int) := by rw [io_add_o (by omega) (by omega)]; omega
      have e5 : (((x - 1 : Nat) : Int)).tmod (m : Int) = (((x - 1) % m : Nat) : Int) := rfl
      have hm3 : (x - 1) % m < m := Nat.mod_lt _ hm1
      have e6 : io_add (((x - 1) % m : Nat) : Int) (ga : Int) = (((x - 1) % m + ga : Nat) : Int) := by rw [io_add_o (by omega) (by omega)]; omega
      have hq := qpl_lt (m := m) hm3 hga
      have e7 : io_add ((1 + (x - 1) / m * m : Nat) : Int) ((qpl m ((x - 1) % m) ga : Nat) : Int) = ((1 + (x - 1) / m * m + qpl m ((x - 1) % m) ga : Nat) : Int) := by rw [io_add_o (by omega) (by omega)]; omega
      rw [ly_364_20, ly_364_21, ly_364_22, e1, ly_364_23 gl_gr, ly_364_24 hg, hm, ly_364_27 (by omega) (by omega) (by omega) (by omega), e2, ly_364_28, ly_364_30, ly_364_31, ly_364_32, ly_364_34 gl_gr, ly_364_35 hg, hm, ly_364_38, e3, ly_364_39, e4, ly_364_40 gl_gr, ly_364_41, ly_364_42, ly_364_43, e1, ly_364_44 gl_gr, ly_364_45 hg, hm, ly_364_48 (by omega) (by omega) (by omega) (by omega), e5, ly_364_49 gl_gr, ly_364_50 a1, a4, ly_364_53, e6, ly_364_54 gl_gr (gl_cl hg rfl), wy_rest hg hm hm1 (by omega) (by omega) (by omega), wz_1, yz_mod (by omega) hm1 hga, ly_364_57, e7, ly_364_58 (by omega) (by omega) (by omega) (by omega)]
      have e8 : 1 + (x - 1) / m * m + qpl m ((x - 1) % m) ga = qsh m x ga := by
        unfold qsh
        rw [if_neg hx0]
        have := Nat.div_add_mod (x - 1) m
        rw [Nat.mul_comm] at this
        omega
      rw [e8]
      unfold qclash
      by_cases hyy : y = qsh m x ga
      · rw [decide_eq_true hyy]
        simp only [show (y : Int) = ((qsh m x ga : Nat) : Int) by omega, not_true_eq_false, true_implies, false_implies, and_true]
        rw [ly_364_61, ly_364_62, ly_364_66 (Or.inr rfl)]
        rfl
      · rw [decide_eq_false hyy]
        simp only [show ¬ (y : Int) = ((qsh m x ga : Nat) : Int) by omega, not_false_eq_true, true_implies, false_implies, true_and]
        rw [ly_364_65, ly_364_66 (Or.inl rfl)]
        rfl
end LR
