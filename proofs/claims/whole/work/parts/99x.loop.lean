/-! the law's switch and its loop -/
section SG
variable {N : Nat} {xs : Nat → Int32} {d : Nat} {M : gg_M} {cc cs : Nat} {Q : gg_O → Prop} {A : q_A} {i : Nat}
theorem io_63 (x : Int32) : ∃ t : Nat, t < 64 ∧ io_and x.toInt 63 = (t : Int) := by
  refine ⟨x.toBitVec.toNat &&& 63, Nat.lt_succ_of_le Nat.and_le_right, ?_⟩
  unfold io_and gg_i
  rw [Int32.ofInt_toInt]
  refine ib_i ?_ (Nat.lt_of_le_of_lt Nat.and_le_right (by decide))
  rw [Int32.toBitVec_and, BitVec.toNat_and]
  rfl
theorem c_lt {P : Nat → Prop} {n : Nat} (h : ∀ t, t < n → P t) (hn : P n) : ∀ t, t < n + 1 → P t := fun t ht => by
  rcases Nat.lt_or_eq_of_le (Nat.lt_succ_iff.mp ht) with h1 | h1
  · exact h t h1
  · subst h1
    exact hn
theorem wk_s0 (hN : N ≤ 2560) (hi : i + 5 ≤ N) (hI : q_I M A) (hV : q_V M A) (hA : a_ok A) (hK : ∀ A', a_ok A' → q_lK N xs (d + 32) i A' cc cs Q) (l5 l6 l7 : gg_V) {t : Nat} (ht : t < 16) :
    wp N xs (d + 32) 287 39 [gr 0, gr 1, gr 142, gr 157, (0, (i : Int)), l5, l6, l7] [(0, (t : Int))] (gk_R, M, 158, cc, cs) Q := by
  revert t
  refine (?_ : ∀ t : Nat, t < 16 → wp N xs (d + 32) 287 39 [gr 0, gr 1, gr 142, gr 157, (0, (i : Int)), l5, l6, l7] [(0, (t : Int))] (gk_R, M, 158, cc, cs) Q)
  have h0 : ∀ t : Nat, t < 0 → wp N xs (d + 32) 287 39 [gr 0, gr 1, gr 142, gr 157, (0, (i : Int)), l5, l6, l7] [(0, (t : Int))] (gk_R, M, 158, cc, cs) Q := fun t ht => absurd ht (Nat.not_lt_zero t)
  have g0 : wp N xs (d + 32) 287 39 [gr 0, gr 1, gr 142, gr 157, (0, (i : Int)), l5, l6, l7] [(0, ((0 : Nat) : Int))] (gk_R, M, 158, cc, cs) Q := wt_287_39_0.mpr (wk_0 hN hi hI hV hA hK l5 l6 l7)
  have h1 := c_lt h0 g0
  have g1 : wp N xs (d + 32) 287 39 [gr 0, gr 1, gr 142, gr 157, (0, (i : Int)), l5, l6, l7] [(0, ((1 : Nat) : Int))] (gk_R, M, 158, cc, cs) Q := wt_287_39_1.mpr (wk_1 hN hi hI hV hA hK l5 l6 l7)
  have h2 := c_lt h1 g1
  have g2 : wp N xs (d + 32) 287 39 [gr 0, gr 1, gr 142, gr 157, (0, (i : Int)), l5, l6, l7] [(0, ((2 : Nat) : Int))] (gk_R, M, 158, cc, cs) Q := wt_287_39_2.mpr (wk_2 hN hi hI hV hA hK l5 l6 l7)
  have h3 := c_lt h2 g2
  have g3 : wp N xs (d + 32) 287 39 [gr 0, gr 1, gr 142, gr 157, (0, (i : Int)), l5, l6, l7] [(0, ((3 : Nat) : Int))] (gk_R, M, 158, cc, cs) Q := wt_287_39_3.mpr (wk_3 hN hi hI hV hA hK l5 l6 l7)
  have h4 := c_lt h3 g3
  have g4 : wp N xs (d + 32) 287 39 [gr 0, gr 1, gr 142, gr 157, (0, (i : Int)), l5, l6, l7] [(0, ((4 : Nat) : Int))] (gk_R, M, 158, cc, cs) Q := wt_287_39_4.mpr (wk_4 hN hi hI hV hA hK l5 l6 l7)
  have h5 := c_lt h4 g4
  have g5 : wp N xs (d + 32) 287 39 [gr 0, gr 1, gr 142, gr 157, (0, (i : Int)), l5, l6, l7] [(0, ((5 : Nat) : Int))] (gk_R, M, 158, cc, cs) Q := wt_287_39_5.mpr (wk_5 hN hi hI hV hA hK l5 l6 l7)
  have h6 := c_lt h5 g5
  have g6 : wp N xs (d + 32) 287 39 [gr 0, gr 1, gr 142, gr 157, (0, (i : Int)), l5, l6, l7] [(0, ((6 : Nat) : Int))] (gk_R, M, 158, cc, cs) Q := wt_287_39_6.mpr (wk_6 hN hi hI hV hA hK l5 l6 l7)
  have h7 := c_lt h6 g6
  have g7 : wp N xs (d + 32) 287 39 [gr 0, gr 1, gr 142, gr 157, (0, (i : Int)), l5, l6, l7] [(0, ((7 : Nat) : Int))] (gk_R, M, 158, cc, cs) Q := wt_287_39_7.mpr (wk_7 hN hi hI hV hA hK l5 l6 l7)
  have h8 := c_lt h7 g7
  have g8 : wp N xs (d + 32) 287 39 [gr 0, gr 1, gr 142, gr 157, (0, (i : Int)), l5, l6, l7] [(0, ((8 : Nat) : Int))] (gk_R, M, 158, cc, cs) Q := wt_287_39_8.mpr (wk_8 hN hi hI hV hA hK l5 l6 l7)
  have h9 := c_lt h8 g8
  have g9 : wp N xs (d + 32) 287 39 [gr 0, gr 1, gr 142, gr 157, (0, (i : Int)), l5, l6, l7] [(0, ((9 : Nat) : Int))] (gk_R, M, 158, cc, cs) Q := wt_287_39_9.mpr (wk_9 hN hi hI hV hA hK l5 l6 l7)
  have h10 := c_lt h9 g9
  have g10 : wp N xs (d + 32) 287 39 [gr 0, gr 1, gr 142, gr 157, (0, (i : Int)), l5, l6, l7] [(0, ((10 : Nat) : Int))] (gk_R, M, 158, cc, cs) Q := wt_287_39_10.mpr (wk_10 hN hi hI hV hA hK l5 l6 l7)
  have h11 := c_lt h10 g10
  have g11 : wp N xs (d + 32) 287 39 [gr 0, gr 1, gr 142, gr 157, (0, (i : Int)), l5, l6, l7] [(0, ((11 : Nat) : Int))] (gk_R, M, 158, cc, cs) Q := wt_287_39_11.mpr (wk_11 hN hi hI hV hA hK l5 l6 l7)
  have h12 := c_lt h11 g11
  have g12 : wp N xs (d + 32) 287 39 [gr 0, gr 1, gr 142, gr 157, (0, (i : Int)), l5, l6, l7] [(0, ((12 : Nat) : Int))] (gk_R, M, 158, cc, cs) Q := wt_287_39_12.mpr (wk_12 hN hi hI hV hA hK l5 l6 l7)
  have h13 := c_lt h12 g12
  have g13 : wp N xs (d + 32) 287 39 [gr 0, gr 1, gr 142, gr 157, (0, (i : Int)), l5, l6, l7] [(0, ((13 : Nat) : Int))] (gk_R, M, 158, cc, cs) Q := wt_287_39_13.mpr (wk_13 hN hi hI hV hA hK l5 l6 l7)
  have h14 := c_lt h13 g13
  have g14 : wp N xs (d + 32) 287 39 [gr 0, gr 1, gr 142, gr 157, (0, (i : Int)), l5, l6, l7] [(0, ((14 : Nat) : Int))] (gk_R, M, 158, cc, cs) Q := wt_287_39_14.mpr (wk_14 hN hi hI hV hA hK l5 l6 l7)
  have h15 := c_lt h14 g14
  have g15 : wp N xs (d + 32) 287 39 [gr 0, gr 1, gr 142, gr 157, (0, (i : Int)), l5, l6, l7] [(0, ((15 : Nat) : Int))] (gk_R, M, 158, cc, cs) Q := wt_287_39_15.mpr (wk_15 hN hi hI hV hA hK l5 l6 l7)
  have h16 := c_lt h15 g15
  exact h16
theorem wk_s1 (hN : N ≤ 2560) (hi : i + 5 ≤ N) (hI : q_I M A) (hV : q_V M A) (hA : a_ok A) (hK : ∀ A', a_ok A' → q_lK N xs (d + 32) i A' cc cs Q) (l5 l6 l7 : gg_V) {t : Nat} (ht : t < 32) :
    wp N xs (d + 32) 287 39 [gr 0, gr 1, gr 142, gr 157, (0, (i : Int)), l5, l6, l7] [(0, (t : Int))] (gk_R, M, 158, cc, cs) Q := by
  revert t
  refine (?_ : ∀ t : Nat, t < 32 → wp N xs (d + 32) 287 39 [gr 0, gr 1, gr 142, gr 157, (0, (i : Int)), l5, l6, l7] [(0, (t : Int))] (gk_R, M, 158, cc, cs) Q)
  have h16 : ∀ t : Nat, t < 16 → wp N xs (d + 32) 287 39 [gr 0, gr 1, gr 142, gr 157, (0, (i : Int)), l5, l6, l7] [(0, (t : Int))] (gk_R, M, 158, cc, cs) Q := fun t ht => wk_s0 hN hi hI hV hA hK l5 l6 l7 ht
  have g16 : wp N xs (d + 32) 287 39 [gr 0, gr 1, gr 142, gr 157, (0, (i : Int)), l5, l6, l7] [(0, ((16 : Nat) : Int))] (gk_R, M, 158, cc, cs) Q := wt_287_39_16.mpr (wk_16 hN hi hI hV hA hK l5 l6 l7)
  have h17 := c_lt h16 g16
  have g17 : wp N xs (d + 32) 287 39 [gr 0, gr 1, gr 142, gr 157, (0, (i : Int)), l5, l6, l7] [(0, ((17 : Nat) : Int))] (gk_R, M, 158, cc, cs) Q := wt_287_39_17.mpr (wk_17 hN hi hI hV hA hK l5 l6 l7)
  have h18 := c_lt h17 g17
  have g18 : wp N xs (d + 32) 287 39 [gr 0, gr 1, gr 142, gr 157, (0, (i : Int)), l5, l6, l7] [(0, ((18 : Nat) : Int))] (gk_R, M, 158, cc, cs) Q := wt_287_39_18.mpr (wk_18 hN hi hI hV hA hK l5 l6 l7)
  have h19 := c_lt h18 g18
  have g19 : wp N xs (d + 32) 287 39 [gr 0, gr 1, gr 142, gr 157, (0, (i : Int)), l5, l6, l7] [(0, ((19 : Nat) : Int))] (gk_R, M, 158, cc, cs) Q := wt_287_39_19.mpr (wk_19 hN hi hI hV hA hK l5 l6 l7)
  have h20 := c_lt h19 g19
  have g20 : wp N xs (d + 32) 287 39 [gr 0, gr 1, gr 142, gr 157, (0, (i : Int)), l5, l6, l7] [(0, ((20 : Nat) : Int))] (gk_R, M, 158, cc, cs) Q := wt_287_39_20.mpr (wk_20 hN hi hI hV hA hK l5 l6 l7)
  have h21 := c_lt h20 g20
  have g21 : wp N xs (d + 32) 287 39 [gr 0, gr 1, gr 142, gr 157, (0, (i : Int)), l5, l6, l7] [(0, ((21 : Nat) : Int))] (gk_R, M, 158, cc, cs) Q := wt_287_39_21.mpr (wk_21 hN hi hI hV hA hK l5 l6 l7)
  have h22 := c_lt h21 g21
  have g22 : wp N xs (d + 32) 287 39 [gr 0, gr 1, gr 142, gr 157, (0, (i : Int)), l5, l6, l7] [(0, ((22 : Nat) : Int))] (gk_R, M, 158, cc, cs) Q := wt_287_39_22.mpr (wk_22 hN hi hI hV hA hK l5 l6 l7)
  have h23 := c_lt h22 g22
  have g23 : wp N xs (d + 32) 287 39 [gr 0, gr 1, gr 142, gr 157, (0, (i : Int)), l5, l6, l7] [(0, ((23 : Nat) : Int))] (gk_R, M, 158, cc, cs) Q := wt_287_39_23.mpr (wk_23 hN hi hI hV hA hK l5 l6 l7)
  have h24 := c_lt h23 g23
  have g24 : wp N xs (d + 32) 287 39 [gr 0, gr 1, gr 142, gr 157, (0, (i : Int)), l5, l6, l7] [(0, ((24 : Nat) : Int))] (gk_R, M, 158, cc, cs) Q := wt_287_39_24.mpr (wk_24 hN hi hI hV hA hK l5 l6 l7)
  have h25 := c_lt h24 g24
  have g25 : wp N xs (d + 32) 287 39 [gr 0, gr 1, gr 142, gr 157, (0, (i : Int)), l5, l6, l7] [(0, ((25 : Nat) : Int))] (gk_R, M, 158, cc, cs) Q := wt_287_39_25.mpr (wk_25 hN hi hI hV hA hK l5 l6 l7)
  have h26 := c_lt h25 g25
  have g26 : wp N xs (d + 32) 287 39 [gr 0, gr 1, gr 142, gr 157, (0, (i : Int)), l5, l6, l7] [(0, ((26 : Nat) : Int))] (gk_R, M, 158, cc, cs) Q := wt_287_39_26.mpr (wk_26 hN hi hI hV hA hK l5 l6 l7)
  have h27 := c_lt h26 g26
  have g27 : wp N xs (d + 32) 287 39 [gr 0, gr 1, gr 142, gr 157, (0, (i : Int)), l5, l6, l7] [(0, ((27 : Nat) : Int))] (gk_R, M, 158, cc, cs) Q := wt_287_39_27.mpr (wk_27 hN hi hI hV hA hK l5 l6 l7)
  have h28 := c_lt h27 g27
  have g28 : wp N xs (d + 32) 287 39 [gr 0, gr 1, gr 142, gr 157, (0, (i : Int)), l5, l6, l7] [(0, ((28 : Nat) : Int))] (gk_R, M, 158, cc, cs) Q := wt_287_39_28.mpr (wk_28 hN hi hI hV hA hK l5 l6 l7)
  have h29 := c_lt h28 g28
  have g29 : wp N xs (d + 32) 287 39 [gr 0, gr 1, gr 142, gr 157, (0, (i : Int)), l5, l6, l7] [(0, ((29 : Nat) : Int))] (gk_R, M, 158, cc, cs) Q := wt_287_39_29.mpr (wk_29 hN hi hI hV hA hK l5 l6 l7)
  have h30 := c_lt h29 g29
  have g30 : wp N xs (d + 32) 287 39 [gr 0, gr 1, gr 142, gr 157, (0, (i : Int)), l5, l6, l7] [(0, ((30 : Nat) : Int))] (gk_R, M, 158, cc, cs) Q := wt_287_39_30.mpr (wk_30 hN hi hI hV hA hK l5 l6 l7)
  have h31 := c_lt h30 g30
  have g31 : wp N xs (d + 32) 287 39 [gr 0, gr 1, gr 142, gr 157, (0, (i : Int)), l5, l6, l7] [(0, ((31 : Nat) : Int))] (gk_R, M, 158, cc, cs) Q := wt_287_39_31.mpr (wk_31 hN hi hI hV hA hK l5 l6 l7)
  have h32 := c_lt h31 g31
  exact h32
theorem wk_s2 (hN : N ≤ 2560) (hi : i + 5 ≤ N) (hI : q_I M A) (hV : q_V M A) (hA : a_ok A) (hK : ∀ A', a_ok A' → q_lK N xs (d + 32) i A' cc cs Q) (l5 l6 l7 : gg_V) {t : Nat} (ht : t < 48) :
    wp N xs (d + 32) 287 39 [gr 0, gr 1, gr 142, gr 157, (0, (i : Int)), l5, l6, l7] [(0, (t : Int))] (gk_R, M, 158, cc, cs) Q := by
  revert t
  refine (?_ : ∀ t : Nat, t < 48 → wp N xs (d + 32) 287 39 [gr 0, gr 1, gr 142, gr 157, (0, (i : Int)), l5, l6, l7] [(0, (t : Int))] (gk_R, M, 158, cc, cs) Q)
  have h32 : ∀ t : Nat, t < 32 → wp N xs (d + 32) 287 39 [gr 0, gr 1, gr 142, gr 157, (0, (i : Int)), l5, l6, l7] [(0, (t : Int))] (gk_R, M, 158, cc, cs) Q := fun t ht => wk_s1 hN hi hI hV hA hK l5 l6 l7 ht
  have g32 : wp N xs (d + 32) 287 39 [gr 0, gr 1, gr 142, gr 157, (0, (i : Int)), l5, l6, l7] [(0, ((32 : Nat) : Int))] (gk_R, M, 158, cc, cs) Q := wt_287_39_32.mpr (wk_32 hN hi hI hV hA hK l5 l6 l7)
  have h33 := c_lt h32 g32
  have g33 : wp N xs (d + 32) 287 39 [gr 0, gr 1, gr 142, gr 157, (0, (i : Int)), l5, l6, l7] [(0, ((33 : Nat) : Int))] (gk_R, M, 158, cc, cs) Q := wt_287_39_33.mpr (wk_33 hN hi hI hV hA hK l5 l6 l7)
  have h34 := c_lt h33 g33
  have g34 : wp N xs (d + 32) 287 39 [gr 0, gr 1, gr 142, gr 157, (0, (i : Int)), l5, l6, l7] [(0, ((34 : Nat) : Int))] (gk_R, M, 158, cc, cs) Q := wt_287_39_34.mpr (wk_34 hN hi hI hV hA hK l5 l6 l7)
  have h35 := c_lt h34 g34
  have g35 : wp N xs (d + 32) 287 39 [gr 0, gr 1, gr 142, gr 157, (0, (i : Int)), l5, l6, l7] [(0, ((35 : Nat) : Int))] (gk_R, M, 158, cc, cs) Q := wt_287_39_35.mpr (wk_35 hN hi hI hV hA hK l5 l6 l7)
  have h36 := c_lt h35 g35
  have g36 : wp N xs (d + 32) 287 39 [gr 0, gr 1, gr 142, gr 157, (0, (i : Int)), l5, l6, l7] [(0, ((36 : Nat) : Int))] (gk_R, M, 158, cc, cs) Q := wt_287_39_36.mpr (wk_36 hN hi hI hV hA hK l5 l6 l7)
  have h37 := c_lt h36 g36
  have g37 : wp N xs (d + 32) 287 39 [gr 0, gr 1, gr 142, gr 157, (0, (i : Int)), l5, l6, l7] [(0, ((37 : Nat) : Int))] (gk_R, M, 158, cc, cs) Q := wt_287_39_37.mpr (wk_37 hN hi hI hV hA hK l5 l6 l7)
  have h38 := c_lt h37 g37
  have g38 : wp N xs (d + 32) 287 39 [gr 0, gr 1, gr 142, gr 157, (0, (i : Int)), l5, l6, l7] [(0, ((38 : Nat) : Int))] (gk_R, M, 158, cc, cs) Q := wt_287_39_38.mpr (wk_38 hN hi hI hV hA hK l5 l6 l7)
  have h39 := c_lt h38 g38
  have g39 : wp N xs (d + 32) 287 39 [gr 0, gr 1, gr 142, gr 157, (0, (i : Int)), l5, l6, l7] [(0, ((39 : Nat) : Int))] (gk_R, M, 158, cc, cs) Q := wt_287_39_39.mpr (wk_39 hN hi hI hV hA hK l5 l6 l7)
  have h40 := c_lt h39 g39
  have g40 : wp N xs (d + 32) 287 39 [gr 0, gr 1, gr 142, gr 157, (0, (i : Int)), l5, l6, l7] [(0, ((40 : Nat) : Int))] (gk_R, M, 158, cc, cs) Q := wt_287_39_40.mpr (wk_40 hN hi hI hV hA hK l5 l6 l7)
  have h41 := c_lt h40 g40
  have g41 : wp N xs (d + 32) 287 39 [gr 0, gr 1, gr 142, gr 157, (0, (i : Int)), l5, l6, l7] [(0, ((41 : Nat) : Int))] (gk_R, M, 158, cc, cs) Q := wt_287_39_41.mpr (wk_41 hN hi hI hV hA hK l5 l6 l7)
  have h42 := c_lt h41 g41
  have g42 : wp N xs (d + 32) 287 39 [gr 0, gr 1, gr 142, gr 157, (0, (i : Int)), l5, l6, l7] [(0, ((42 : Nat) : Int))] (gk_R, M, 158, cc, cs) Q := wt_287_39_42.mpr (wk_42 hN hi hI hV hA hK l5 l6 l7)
  have h43 := c_lt h42 g42
  have g43 : wp N xs (d + 32) 287 39 [gr 0, gr 1, gr 142, gr 157, (0, (i : Int)), l5, l6, l7] [(0, ((43 : Nat) : Int))] (gk_R, M, 158, cc, cs) Q := wt_287_39_43.mpr (wk_43 hN hi hI hV hA hK l5 l6 l7)
  have h44 := c_lt h43 g43
  have g44 : wp N xs (d + 32) 287 39 [gr 0, gr 1, gr 142, gr 157, (0, (i : Int)), l5, l6, l7] [(0, ((44 : Nat) : Int))] (gk_R, M, 158, cc, cs) Q := wt_287_39_44.mpr (wk_44 hN hi hI hV hA hK l5 l6 l7)
  have h45 := c_lt h44 g44
  have g45 : wp N xs (d + 32) 287 39 [gr 0, gr 1, gr 142, gr 157, (0, (i : Int)), l5, l6, l7] [(0, ((45 : Nat) : Int))] (gk_R, M, 158, cc, cs) Q := wt_287_39_45.mpr (wk_45 hN hi hI hV hA hK l5 l6 l7)
  have h46 := c_lt h45 g45
  have g46 : wp N xs (d + 32) 287 39 [gr 0, gr 1, gr 142, gr 157, (0, (i : Int)), l5, l6, l7] [(0, ((46 : Nat) : Int))] (gk_R, M, 158, cc, cs) Q := wt_287_39_46.mpr (wk_46 hN hi hI hV hA hK l5 l6 l7)
  have h47 := c_lt h46 g46
  have g47 : wp N xs (d + 32) 287 39 [gr 0, gr 1, gr 142, gr 157, (0, (i : Int)), l5, l6, l7] [(0, ((47 : Nat) : Int))] (gk_R, M, 158, cc, cs) Q := wt_287_39_47.mpr (wk_47 hN hi hI hV hA hK l5 l6 l7)
  have h48 := c_lt h47 g47
  exact h48
theorem wk_s3 (hN : N ≤ 2560) (hi : i + 5 ≤ N) (hI : q_I M A) (hV : q_V M A) (hA : a_ok A) (hK : ∀ A', a_ok A' → q_lK N xs (d + 32) i A' cc cs Q) (l5 l6 l7 : gg_V) {t : Nat} (ht : t < 64) :
    wp N xs (d + 32) 287 39 [gr 0, gr 1, gr 142, gr 157, (0, (i : Int)), l5, l6, l7] [(0, (t : Int))] (gk_R, M, 158, cc, cs) Q := by
  revert t
  refine (?_ : ∀ t : Nat, t < 64 → wp N xs (d + 32) 287 39 [gr 0, gr 1, gr 142, gr 157, (0, (i : Int)), l5, l6, l7] [(0, (t : Int))] (gk_R, M, 158, cc, cs) Q)
  have h48 : ∀ t : Nat, t < 48 → wp N xs (d + 32) 287 39 [gr 0, gr 1, gr 142, gr 157, (0, (i : Int)), l5, l6, l7] [(0, (t : Int))] (gk_R, M, 158, cc, cs) Q := fun t ht => wk_s2 hN hi hI hV hA hK l5 l6 l7 ht
  have g48 : wp N xs (d + 32) 287 39 [gr 0, gr 1, gr 142, gr 157, (0, (i : Int)), l5, l6, l7] [(0, ((48 : Nat) : Int))] (gk_R, M, 158, cc, cs) Q := wt_287_39_48.mpr (wk_48 hN hi hI hV hA hK l5 l6 l7)
  have h49 := c_lt h48 g48
  have g49 : wp N xs (d + 32) 287 39 [gr 0, gr 1, gr 142, gr 157, (0, (i : Int)), l5, l6, l7] [(0, ((49 : Nat) : Int))] (gk_R, M, 158, cc, cs) Q := wt_287_39_49.mpr (wk_49 hN hi hI hV hA hK l5 l6 l7)
  have h50 := c_lt h49 g49
  have g50 : wp N xs (d + 32) 287 39 [gr 0, gr 1, gr 142, gr 157, (0, (i : Int)), l5, l6, l7] [(0, ((50 : Nat) : Int))] (gk_R, M, 158, cc, cs) Q := wt_287_39_50.mpr (wk_50 hN hi hI hV hA hK l5 l6 l7)
  have h51 := c_lt h50 g50
  have g51 : wp N xs (d + 32) 287 39 [gr 0, gr 1, gr 142, gr 157, (0, (i : Int)), l5, l6, l7] [(0, ((51 : Nat) : Int))] (gk_R, M, 158, cc, cs) Q := wt_287_39_51.mpr (wk_51 hN hi hI hV hA hK l5 l6 l7)
  have h52 := c_lt h51 g51
  have g52 : wp N xs (d + 32) 287 39 [gr 0, gr 1, gr 142, gr 157, (0, (i : Int)), l5, l6, l7] [(0, ((52 : Nat) : Int))] (gk_R, M, 158, cc, cs) Q := wt_287_39_52.mpr (wk_52 hN hi hI hV hA hK l5 l6 l7)
  have h53 := c_lt h52 g52
  have g53 : wp N xs (d + 32) 287 39 [gr 0, gr 1, gr 142, gr 157, (0, (i : Int)), l5, l6, l7] [(0, ((53 : Nat) : Int))] (gk_R, M, 158, cc, cs) Q := wt_287_39_53.mpr (wk_53 hN hi hI hV hA hK l5 l6 l7)
  have h54 := c_lt h53 g53
  have g54 : wp N xs (d + 32) 287 39 [gr 0, gr 1, gr 142, gr 157, (0, (i : Int)), l5, l6, l7] [(0, ((54 : Nat) : Int))] (gk_R, M, 158, cc, cs) Q := wt_287_39_54.mpr (wk_54 hN hi hI hV hA hK l5 l6 l7)
  have h55 := c_lt h54 g54
  have g55 : wp N xs (d + 32) 287 39 [gr 0, gr 1, gr 142, gr 157, (0, (i : Int)), l5, l6, l7] [(0, ((55 : Nat) : Int))] (gk_R, M, 158, cc, cs) Q := wt_287_39_55.mpr (wk_55 hN hi hI hV hA hK l5 l6 l7)
  have h56 := c_lt h55 g55
  have g56 : wp N xs (d + 32) 287 39 [gr 0, gr 1, gr 142, gr 157, (0, (i : Int)), l5, l6, l7] [(0, ((56 : Nat) : Int))] (gk_R, M, 158, cc, cs) Q := wt_287_39_56.mpr (wk_56 hN hi hI hV hA hK l5 l6 l7)
  have h57 := c_lt h56 g56
  have g57 : wp N xs (d + 32) 287 39 [gr 0, gr 1, gr 142, gr 157, (0, (i : Int)), l5, l6, l7] [(0, ((57 : Nat) : Int))] (gk_R, M, 158, cc, cs) Q := wt_287_39_57.mpr (wk_57 hN hi hI hV hA hK l5 l6 l7)
  have h58 := c_lt h57 g57
  have g58 : wp N xs (d + 32) 287 39 [gr 0, gr 1, gr 142, gr 157, (0, (i : Int)), l5, l6, l7] [(0, ((58 : Nat) : Int))] (gk_R, M, 158, cc, cs) Q := wt_287_39_58.mpr (wk_58 hN hi hI hV hA hK l5 l6 l7)
  have h59 := c_lt h58 g58
  have g59 : wp N xs (d + 32) 287 39 [gr 0, gr 1, gr 142, gr 157, (0, (i : Int)), l5, l6, l7] [(0, ((59 : Nat) : Int))] (gk_R, M, 158, cc, cs) Q := wt_287_39_59.mpr (wk_59 hN hi hI hV hA hK l5 l6 l7)
  have h60 := c_lt h59 g59
  have g60 : wp N xs (d + 32) 287 39 [gr 0, gr 1, gr 142, gr 157, (0, (i : Int)), l5, l6, l7] [(0, ((60 : Nat) : Int))] (gk_R, M, 158, cc, cs) Q := wt_287_39_60.mpr (wk_60 hN hi hI hV hA hK l5 l6 l7)
  have h61 := c_lt h60 g60
  have g61 : wp N xs (d + 32) 287 39 [gr 0, gr 1, gr 142, gr 157, (0, (i : Int)), l5, l6, l7] [(0, ((61 : Nat) : Int))] (gk_R, M, 158, cc, cs) Q := wt_287_39_61.mpr (wk_61 hN hi hI hV hA hK l5 l6 l7)
  have h62 := c_lt h61 g61
  have g62 : wp N xs (d + 32) 287 39 [gr 0, gr 1, gr 142, gr 157, (0, (i : Int)), l5, l6, l7] [(0, ((62 : Nat) : Int))] (gk_R, M, 158, cc, cs) Q := (wi_287_39 (a := 62) (by decide) (by decide) (by decide)).mpr (hK A hA M cc cs l5 l6 l7 hI hV (Nat.le_succ _) (by omega))
  have h63 := c_lt h62 g62
  have g63 : wp N xs (d + 32) 287 39 [gr 0, gr 1, gr 142, gr 157, (0, (i : Int)), l5, l6, l7] [(0, ((63 : Nat) : Int))] (gk_R, M, 158, cc, cs) Q := (wi_287_39 (a := 63) (by decide) (by decide) (by decide)).mpr (hK A hA M cc cs l5 l6 l7 hI hV (Nat.le_succ _) (by omega))
  have h64 := c_lt h63 g63
  exact h64
theorem wk_step (hN : N ≤ 2560) (hi : i + 5 ≤ N) (hI : q_I M A) (hV : q_V M A) (hA : a_ok A) (l5 l6 l7 : gg_V)
    (hK : ∀ (A' : q_A) (M' : gg_M) (cc' cs' : Nat) (l5 l6 l7 : gg_V), a_ok A' → q_I M' A' → q_V M' A' → cc' ≤ cc + 1 → cs' ≤ cs + 6 → wp N xs (d + 32) 287 23 [gr 0, gr 1, gr 142, gr 157, (0, ((i + 5 : Nat) : Int)), l5, l6, l7] [] (gk_R, M', 158, cc', cs') Q) :
    wp N xs (d + 32) 287 23 [gr 0, gr 1, gr 142, gr 157, (0, (i : Int)), l5, l6, l7] [] (gk_R, M, 158, cc, cs) Q := by
  obtain ⟨t, ht, hio⟩ := io_63 (xs i)
  have hg : ¬ (N : Int) - 5 < (i : Int) := by omega
  have hiN : (i : Int) < (N : Int) := by omega
  simp (disch := first | assumption | omega | exact il_cqA _ _ | exact il_cqB _ _) only [wi_287_23, wi_287_25, wi_287_26, wi_287_27, wi_287_28, wi_287_29, wi_287_32, wi_287_33, wi_287_35, wi_287_36, wi_287_38, io_add_o, io_sub_o, io_mul_o, io_neg_o, io_and_r, io_or_r, io_xor_r, io_nd_r, io_shr_r, io_shl1, io_i2b_r, io_i2l_o, io_l2i_o, il_add_o, il_sub_o, il_mul_o, il_neg_o, ib_bit, Int.toNat_natCast, true_implies, false_implies, implies_true, and_true, true_and, and_self, not_true_eq_false, not_false_eq_true, wa_0, wa_1, il_cmp_o, il_cmp0, il_cmp1, il_cmp2, io_bit1, ibt0, ibt1, ibt00, ibt11, ibt10, ibt01, Int.ofNat_lt, Int.ofNat_le, Int.ofNat_inj, Nat.lt_irrefl, Int.lt_irrefl, Int.toNat_one, Int.toNat_zero, Bool.false_eq_true, reduceIte, reduceCtorEq, Nat.reduceAdd, Nat.reduceMul, Nat.reduceSub, Nat.reduceLT, Nat.reduceLeDiff, Nat.reduceEqDiff, Int.reduceNeg, Int.reduceAdd, Int.reduceMul, Int.reduceSub, Int.reduceLT, Int.reduceLE, Int.reduceEq, Int.reduceToNat, Int.reduceNatCast, icl, ico, inz, Nat.not_lt_zero, hg, hio]
  refine wk_s3 hN hi hI hV hA (fun A' hA' M' cc' cs' l5 l6 l7 h1 h2 h3 h4 => ?_) l5 l6 l7 ht
  have e5 : (i : Int) + 5 = ((i + 5 : Nat) : Int) := by omega
  simp (disch := first | assumption | omega | exact il_cqA _ _ | exact il_cqB _ _) only [wi_287_3483, wi_287_3486, io_add_o, io_sub_o, io_mul_o, io_neg_o, io_and_r, io_or_r, io_xor_r, io_nd_r, io_shr_r, io_shl1, io_i2b_r, io_i2l_o, io_l2i_o, il_add_o, il_sub_o, il_mul_o, il_neg_o, ib_bit, Int.toNat_natCast, true_implies, false_implies, implies_true, and_true, true_and, and_self, not_true_eq_false, not_false_eq_true, wa_0, wa_1, il_cmp_o, il_cmp0, il_cmp1, il_cmp2, io_bit1, ibt0, ibt1, ibt00, ibt11, ibt10, ibt01, Int.ofNat_lt, Int.ofNat_le, Int.ofNat_inj, Nat.lt_irrefl, Int.lt_irrefl, Int.toNat_one, Int.toNat_zero, Bool.false_eq_true, reduceIte, reduceCtorEq, Nat.reduceAdd, Nat.reduceMul, Nat.reduceSub, Nat.reduceLT, Nat.reduceLeDiff, Nat.reduceEqDiff, Int.reduceNeg, Int.reduceAdd, Int.reduceMul, Int.reduceSub, Int.reduceLT, Int.reduceLE, Int.reduceEq, Int.reduceToNat, Int.reduceNatCast, icl, ico, inz, Nat.not_lt_zero, e5]
  exact hK A' M' cc' cs' l5 l6 l7 hA' h1 h2 h3 h4
theorem wk_end (hN : N ≤ 2560) (hi : N < i + 5) (hi2 : i ≤ 2565) (l5 l6 l7 : gg_V) (hQ : Q ((1, (0, 1)), (gk_R, M, 158, cc, cs))) :
    wp N xs (d + 32) 287 23 [gr 0, gr 1, gr 142, gr 157, (0, (i : Int)), l5, l6, l7] [] (gk_R, M, 158, cc, cs) Q := by
  have hg : (N : Int) - 5 < (i : Int) := by omega
  simp (disch := first | assumption | omega | exact il_cqA _ _ | exact il_cqB _ _) only [wi_287_23, wi_287_25, wi_287_26, wi_287_27, wi_287_28, wi_287_29, wi_287_3489, wi_287_3490, io_add_o, io_sub_o, io_mul_o, io_neg_o, io_and_r, io_or_r, io_xor_r, io_nd_r, io_shr_r, io_shl1, io_i2b_r, io_i2l_o, io_l2i_o, il_add_o, il_sub_o, il_mul_o, il_neg_o, ib_bit, Int.toNat_natCast, true_implies, false_implies, implies_true, and_true, true_and, and_self, not_true_eq_false, not_false_eq_true, wa_0, wa_1, il_cmp_o, il_cmp0, il_cmp1, il_cmp2, io_bit1, ibt0, ibt1, ibt00, ibt11, ibt10, ibt01, Int.ofNat_lt, Int.ofNat_le, Int.ofNat_inj, Nat.lt_irrefl, Int.lt_irrefl, Int.toNat_one, Int.toNat_zero, Bool.false_eq_true, reduceIte, reduceCtorEq, Nat.reduceAdd, Nat.reduceMul, Nat.reduceSub, Nat.reduceLT, Nat.reduceLeDiff, Nat.reduceEqDiff, Int.reduceNeg, Int.reduceAdd, Int.reduceMul, Int.reduceSub, Int.reduceLT, Int.reduceLE, Int.reduceEq, Int.reduceToNat, Int.reduceNatCast, icl, ico, inz, Nat.not_lt_zero, hg]
  exact hQ
theorem wk_loop (hN : N ≤ 2560) (n : Nat) : ∀ (i cc cs : Nat) (A : q_A) (M : gg_M) (l5 l6 l7 : gg_V), N < i + 5 * n + 5 → i ≤ 2565 → q_I M A → q_V M A → a_ok A →
    wp N xs (d + 32) 287 23 [gr 0, gr 1, gr 142, gr 157, (0, (i : Int)), l5, l6, l7] [] (gk_R, M, 158, cc, cs) (fun o => ∃ w, o = ((1, (0, 1)), w) ∧ w.2.2.2.1 ≤ cc + n ∧ w.2.2.2.2 ≤ cs + 6 * n) := by
  induction n with
  | zero =>
    intro i cc cs A M l5 l6 l7 h1 h2 hI hV hA
    exact wk_end hN (by omega) h2 l5 l6 l7 ⟨_, rfl, Nat.le_refl _, Nat.le_refl _⟩
  | succ n ih =>
    intro i cc cs A M l5 l6 l7 h1 h2 hI hV hA
    by_cases e : i + 5 ≤ N
    · refine wk_step hN e hI hV hA l5 l6 l7 (fun A' M' cc' cs' l5 l6 l7 g1 g2 g3 g4 g5 => ?_)
      refine (ih (i + 5) cc' cs' A' M' l5 l6 l7 (by omega) (by omega) g2 g3 g1).mono ?_
      rintro o ⟨w, rfl, w1, w2⟩
      exact ⟨w, rfl, by omega, by omega⟩
    · refine wk_end hN (by omega) h2 l5 l6 l7 ⟨_, rfl, ?_, ?_⟩
      · show cc ≤ cc + (n + 1)
        omega
      · show cs ≤ cs + 6 * (n + 1)
        omega
end SG
