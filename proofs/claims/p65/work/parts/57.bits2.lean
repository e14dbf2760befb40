/-! counting bits -/
theorem it1 (a : Nat) : ((a : Int) + 1).toNat = a + 1 := by omega
theorem gs_P79 : gs_P 79 := (by decide +kernel : gs_Pb 79 = true)
theorem gs_G2_ : gs_G 2 := (by decide +kernel : gs_Gb 2 = true)
/-- Integer.bitCount as it is written -/
def q_bc1 (i : Int) : Int := io_sub i (io_and (io_ushr i 1) 1431655765)
def q_bc2 (i : Int) : Int := io_add (io_and i 858993459) (io_and (io_ushr i 2) 858993459)
def q_bc3 (i : Int) : Int := io_and (io_add i (io_ushr i 4)) 252645135
def q_bc4 (i : Int) : Int := io_add i (io_ushr i 8)
def q_bc5 (i : Int) : Int := io_add i (io_ushr i 16)
def q_bc (i : Int) : Int := io_and (q_bc5 (q_bc4 (q_bc3 (q_bc2 (q_bc1 i))))) 63
theorem q_bc_all : ∀ a : Fin 64, ∀ b : Fin 64, q_bc ((64 * a.1 + b.1 : Nat) : Int) = ((qcnt (64 * a.1 + b.1).testBit 12 : Nat) : Int) := by decide +kernel
theorem q_bc_eq {x : Nat} (h : x < 4096) : q_bc (x : Int) = (qcnt x.testBit 12 : Int) := by
  have := q_bc_all ⟨x / 64, by omega⟩ ⟨x % 64, by omega⟩
  simp only [Nat.div_add_mod] at this
  exact this
theorem qcnt_ext {f : Nat → Bool} {n m : Nat} (hnm : n ≤ m) (h : ∀ i, n ≤ i → i < m → f i = false) : qcnt f m = qcnt f n := by
  have e : ∀ k, n + k ≤ m → qcnt f (n + k) = qcnt f n := by
    intro k
    induction k with
    | zero => intro _; rfl
    | succ k ih =>
      intro hk
      show qcnt f (n + k) + (f (n + k)).toNat = _
      rw [ih (by omega), h (n + k) (by omega) (by omega)]
      rfl
  have := e (m - n) (by omega)
  rwa [show n + (m - n) = m by omega] at this
theorem qsz_12 {G : q_G} (hG : q_ok G) {s : Nat} (hs : s < 2 ^ qK G) : qcnt s.testBit 12 = qsz G s :=
  qcnt_ext hG.1.2.2.2.2.1 fun i hi _ => Nat.testBit_lt_two_pow (Nat.lt_of_lt_of_le hs (Nat.pow_le_pow_right (by decide) hi))
section SG
variable {N : Nat} {xs : Nat → Int32} {d : Nat} {M : gg_M} {cc cs : Nat} {Q : gg_O → Prop}
theorem wp_bitCount {x : Nat} (hx : x < 4096) :
    wp N xs d 342 0 [(0, (x : Int))] [] (gk_R, M, 142, cc, cs) Q ↔ Q ((1, (0, (qcnt x.testBit 12 : Int))), (gk_R, M, 142, cc, cs)) := by
  rw [← q_bc_eq hx]
  simp only [wi_342_0, wi_342_1, wi_342_2, wi_342_3, wi_342_4, wi_342_7, wi_342_8, wi_342_9, wi_342_10, wi_342_11, wi_342_14, wi_342_15, wi_342_16, wi_342_17, wi_342_18, wi_342_21, wi_342_22, wi_342_23, wi_342_24, wi_342_25, wi_342_26, wi_342_27, wi_342_28, wi_342_29, wi_342_32, wi_342_33, wi_342_34, wi_342_35, wi_342_36, wi_342_38, wi_342_39, wi_342_40, wi_342_41, wi_342_42, wi_342_43, wi_342_45, wi_342_46, wi_342_47, wi_342_48, wi_342_49, wi_342_51, wi_342_52]
  exact Iff.rfl
end SG
