/-! the class finds a coloring at a place -/
section SG
variable {N : Nat} {xs : Nat → Int32} {d : Nat} {M : gg_M} {cc cs : Nat} {Q : gg_O → Prop} {g : Nat} {G : q_G}
theorem wp_settle (hg : gs_G g) (hG : q_ok G) {n l : Nat} (hl : l ≤ 5) (hn : n = qM G * l + 1) {v k : Nat} (hvk : v + (k + 1) = qN G) (hC : q_C M g G) (hcn : M 126 1 = (n : Int)) {L : Nat} (hL : L ≤ 2147483647) (hML : M 126 2 = (L : Int)) {c : Nat → Int} (hc : ∀ u, u < qN G → M 127 u = c u) (hcr : ∀ u, u < qN G → -1 ≤ c u ∧ c u ≤ ((qM G * l : Nat) : Int)) (hcv : c v = -1) (hW : qW_ G n (k + 1) c ≤ 200000)
    (hQ1 : ∀ x, x < n → qsm (qw_ G n k c) x ≤ L → L < qsm (qw_ G n k c) (x + 1) → ∀ M' : gg_M, (∀ j, j ≠ 126 → j ≠ 127 → M' j = M j) → M' 126 1 = (n : Int) → M' 126 2 = ((L - qsm (qw_ G n k c) x : Nat) : Int) → (∀ u, u < qN G → M' 127 u = qwith c v (x : Nat) u) → Q ((1, (0, 1)), (gk_R, M', 158, cc, cs)))
    (hQ2 : qW_ G n (k + 1) c ≤ L → ∀ M' : gg_M, (∀ j, j ≠ 126 → j ≠ 127 → M' j = M j) → Q ((1, (0, 0)), (gk_R, M', 158, cc, cs))) :
    wp N xs (d + k + 5) 57 0 [gr 126, gr g, (0, (v : Int)), (3, 0), (3, 0), (3, 0), (3, 0)] [] (gk_R, M, 158, cc, cs) Q := by
  have hgr := gs_Gr hg
  have hml := Nat.mul_le_mul hG.1.2.2.2.1 hl
  have k2 := hG.1.2.1
  have hca : gs_a 127 1 8 := gs_ab_ok (by decide +kernel)
  have hvN : v < qN G := by omega
  have ep : qN G - (k + 1) = v := by omega
  have hWs := qW_s (G := G) (n := n) (k := k) (c := c) (by rw [ep]; exact hcv)
  have hwd : ∀ x, qw_ G n k c x = if qopen G c v x then qW_ G n k (qwith c v (x : Nat)) else 0 := fun x => by unfold qw_; rw [ep]
  have hopb : ∀ Q' : gg_O → Prop, wp N xs (d + k + 4) 20 0 [gr g, gr 127, (0, (v : Int)), (0, (n : Int)), (3, 0), (3, 0), (3, 0), (3, 0), (3, 0)] [] (gk_R, M, 158, cc, cs) Q' ↔ Q' ((1, (1, (qbits (qopen G c v) n : Int))), (gk_R, M, 158, cc, cs)) := fun Q' => wp_openColors (N := N) (xs := xs) (d := d + k + 2) (M := M) (cc := cc) (cs := cs) (Q := Q') hg hG hC hca hc hl hcr v n hvN (by omega)
  have hbl : qbits (qopen G c v) n < 2305843009213693952 := Nat.lt_of_lt_of_le (qbits_lt _ _) (Nat.pow_le_pow_right (j := 61) (by decide) (by omega))
  rw [hWs] at hW hQ2
  simp (contextual := true) (disch := first | assumption | omega | exact il_cqA _ _ | exact il_cqB _ _) only [wi_57_0, wi_57_1, wi_57_2, wi_57_5, wi_57_6, wi_57_7, wi_57_10, wi_57_13, wi_57_14, wi_57_15, wi_57_19, wi_57_20, wi_57_23, wi_57_26, wi_57_27, wi_57_29, wi_57_30, wi_57_31, wi_57_32, wi_57_33, wi_57_34, wi_57_37, wi_57_38, wi_57_41, wi_57_42, wi_57_44, wi_57_45, wi_57_46, wi_57_47, wi_57_48, wi_57_49, wi_57_50, wi_57_53, wi_57_55, wi_57_56, wi_57_59, wi_57_61, wi_57_64, wi_57_65, wi_57_66, wi_57_67, wi_57_68, wi_57_71, wi_57_73, wi_57_74, wi_57_77, wi_57_80, wi_57_83, wi_57_84, io_add_o, io_sub_o, io_mul_o, io_neg_o, io_and_r, io_or_r, io_xor_r, io_nd_r, io_shr_r, io_shl1, io_i2b_r, io_i2l_o, io_l2i_o, il_add_o, il_sub_o, il_mul_o, il_neg_o, ib_bit, Int.toNat_natCast, true_implies, false_implies, implies_true, and_true, true_and, and_self, not_true_eq_false, not_false_eq_true, wa_0, wa_1, il_cmp_o, il_cmp0, il_cmp1, il_cmp2, io_bit1, ibt0, ibt1, ibt00, ibt11, ibt10, ibt01, Int.ofNat_lt, Int.ofNat_le, Int.ofNat_inj, Nat.lt_irrefl, Int.lt_irrefl, Int.toNat_one, Int.toNat_zero, Bool.false_eq_true, reduceIte, reduceCtorEq, Nat.reduceAdd, Nat.reduceMul, Nat.reduceSub, Nat.reduceLT, Nat.reduceLeDiff, Nat.reduceEqDiff, Int.reduceNeg, Int.reduceAdd, Int.reduceMul, Int.reduceSub, Int.reduceLT, Int.reduceLE, Int.reduceEq, Int.reduceToNat, Int.reduceNatCast, icl, ico, inz, hcn, hopb]
  refine wl_i (P := fun i I => ∀ M' : gg_M, (∀ j, j ≠ 126 → j ≠ 127 → M' j = M j) → M' 126 1 = (n : Int) → M' 126 2 = ((L - qsm (qw_ G n k c) i : Nat) : Int) → (∀ u, u < qN G → u ≠ v → M' 127 u = c u) → qsm (qw_ G n k c) i ≤ L → ∀ l6 : gg_V, wp N xs (d + k + 4 + 1) 57 17 [gr 126, gr g, (0, (v : Int)), (1, (qbits (qopen G c v) n : Int)), (3, 0), (0, I), l6] [] (gk_R, M', 158, cc, cs) Q) n (fun i hi ih M' hM h1 h2 hu hS l6 => ?_) (fun M' hM h1 h2 hu hS l6 => ?_) M (fun _ _ _ => rfl) hcn (by rw [hML]; rfl) (fun u hu _ => hc u hu) (Nat.zero_le _) _
  · have hS1 := qsm_mono (f := qw_ G n k c) (show i + 1 ≤ n by omega)
    have hSs : qsm (qw_ G n k c) (i + 1) = qsm (qw_ G n k c) i + qw_ G n k c i := rfl
    have hwi := hwd i
    have htb := qbits_bit (qopen G c v) n i
    rw [decide_eq_true hi, Bool.true_and] at htb
    rw [wi_57_17]
    cases ho : qopen G c v i
    · rw [ho] at htb hwi
      rw [if_neg (by decide)] at hwi
      rw [hwi, Nat.add_zero] at hSs
      simp (contextual := true) (disch := first | assumption | omega | exact il_cqA _ _ | exact il_cqB _ _) only [wi_57_0, wi_57_1, wi_57_2, wi_57_5, wi_57_6, wi_57_7, wi_57_10, wi_57_13, wi_57_14, wi_57_15, wi_57_19, wi_57_20, wi_57_23, wi_57_26, wi_57_27, wi_57_29, wi_57_30, wi_57_31, wi_57_32, wi_57_33, wi_57_34, wi_57_37, wi_57_38, wi_57_41, wi_57_42, wi_57_44, wi_57_45, wi_57_46, wi_57_47, wi_57_48, wi_57_49, wi_57_50, wi_57_53, wi_57_55, wi_57_56, wi_57_59, wi_57_61, wi_57_64, wi_57_65, wi_57_66, wi_57_67, wi_57_68, wi_57_71, wi_57_73, wi_57_74, wi_57_77, wi_57_80, wi_57_83, wi_57_84, io_add_o, io_sub_o, io_mul_o, io_neg_o, io_and_r, io_or_r, io_xor_r, io_nd_r, io_shr_r, io_shl1, io_i2b_r, io_i2l_o, io_l2i_o, il_add_o, il_sub_o, il_mul_o, il_neg_o, ib_bit, Int.toNat_natCast, true_implies, false_implies, implies_true, and_true, true_and, and_self, not_true_eq_false, not_false_eq_true, wa_0, wa_1, il_cmp_o, il_cmp0, il_cmp1, il_cmp2, io_bit1, ibt0, ibt1, ibt00, ibt11, ibt10, ibt01, Int.ofNat_lt, Int.ofNat_le, Int.ofNat_inj, Nat.lt_irrefl, Int.lt_irrefl, Int.toNat_one, Int.toNat_zero, Bool.false_eq_true, reduceIte, reduceCtorEq, Nat.reduceAdd, Nat.reduceMul, Nat.reduceSub, Nat.reduceLT, Nat.reduceLeDiff, Nat.reduceEqDiff, Int.reduceNeg, Int.reduceAdd, Int.reduceMul, Int.reduceSub, Int.reduceLT, Int.reduceLE, Int.reduceEq, Int.reduceToNat, Int.reduceNatCast, icl, ico, inz, hi, h1, il_shr_n, il_bit, htb]
      exact ih M' hM h1 (by rw [hSs]; exact h2) hu (by rw [hSs]; exact hS) _
    · rw [ho] at htb hwi
      rw [if_pos rfl] at hwi
      have hrec : ∀ Q' : gg_O → Prop, wp N xs (d + k + 4) 59 0 [gr 126, gr g, (0, (v : Int) + 1), (3, 0), (3, 0), (3, 0), (3, 0), (3, 0)] [] (gk_R, gg_up M' 127 v (i : Int), 158, cc, cs) Q' ↔ Q' ((1, (0, (qw_ G n k c i : Int))), (gk_R, gg_up M' 127 v (i : Int), 158, cc, cs)) := by
        intro Q'
        rw [hwi]
        refine wp_ways hg hG hl hn k (v + 1) d _ (qwith c v (i : Nat)) Q' (by omega) (q_C_e hC fun j h1 h2 => by rw [gu_n (by omega), hM j (by omega) (by omega)]) (by rw [gu_n (by decide)]; exact h1) (fun u hu' => ?_) (fun u hu' => ?_) ?_
        · rw [gu]
          unfold qwith
          by_cases e : u = v
          · rw [if_pos ⟨rfl, e⟩, if_pos e]
          · rw [if_neg (fun h => e h.2), if_neg e]
            exact hu u hu' e
        · unfold qwith
          split
          · omega
          · exact hcr u hu'
        · rw [← hwi]
          omega
      by_cases e : L < qsm (qw_ G n k c) (i + 1)
      · have e2 : L - qsm (qw_ G n k c) i < qw_ G n k c i := by omega
        simp (contextual := true) (disch := first | assumption | omega | exact il_cqA _ _ | exact il_cqB _ _) only [wi_57_0, wi_57_1, wi_57_2, wi_57_5, wi_57_6, wi_57_7, wi_57_10, wi_57_13, wi_57_14, wi_57_15, wi_57_19, wi_57_20, wi_57_23, wi_57_26, wi_57_27, wi_57_29, wi_57_30, wi_57_31, wi_57_32, wi_57_33, wi_57_34, wi_57_37, wi_57_38, wi_57_41, wi_57_42, wi_57_44, wi_57_45, wi_57_46, wi_57_47, wi_57_48, wi_57_49, wi_57_50, wi_57_53, wi_57_55, wi_57_56, wi_57_59, wi_57_61, wi_57_64, wi_57_65, wi_57_66, wi_57_67, wi_57_68, wi_57_71, wi_57_73, wi_57_74, wi_57_77, wi_57_80, wi_57_83, wi_57_84, io_add_o, io_sub_o, io_mul_o, io_neg_o, io_and_r, io_or_r, io_xor_r, io_nd_r, io_shr_r, io_shl1, io_i2b_r, io_i2l_o, io_l2i_o, il_add_o, il_sub_o, il_mul_o, il_neg_o, ib_bit, Int.toNat_natCast, true_implies, false_implies, implies_true, and_true, true_and, and_self, not_true_eq_false, not_false_eq_true, wa_0, wa_1, il_cmp_o, il_cmp0, il_cmp1, il_cmp2, io_bit1, ibt0, ibt1, ibt00, ibt11, ibt10, ibt01, Int.ofNat_lt, Int.ofNat_le, Int.ofNat_inj, Nat.lt_irrefl, Int.lt_irrefl, Int.toNat_one, Int.toNat_zero, Bool.false_eq_true, reduceIte, reduceCtorEq, Nat.reduceAdd, Nat.reduceMul, Nat.reduceSub, Nat.reduceLT, Nat.reduceLeDiff, Nat.reduceEqDiff, Int.reduceNeg, Int.reduceAdd, Int.reduceMul, Int.reduceSub, Int.reduceLT, Int.reduceLE, Int.reduceEq, Int.reduceToNat, Int.reduceNatCast, icl, ico, inz, hi, h1, h2, il_shr_n, il_bit, htb, hrec, gu_n, e2]
        refine hQ1 i hi hS e _ (fun j j1 j2 => by rw [gu_n j2, hM j j1 j2]) (by rw [gu_n (by decide)]; exact h1) (by rw [gu_n (by decide)]; exact h2) (fun u hu' => ?_)
        rw [gu]
        unfold qwith
        by_cases e3 : u = v
        · rw [if_pos ⟨rfl, e3⟩, if_pos e3]
        · rw [if_neg (fun h => e3 h.2), if_neg e3]
          exact hu u hu' e3
      · have e2 : ¬ L - qsm (qw_ G n k c) i < qw_ G n k c i := by omega
        simp (contextual := true) (disch := first | assumption | omega | exact il_cqA _ _ | exact il_cqB _ _) only [wi_57_0, wi_57_1, wi_57_2, wi_57_5, wi_57_6, wi_57_7, wi_57_10, wi_57_13, wi_57_14, wi_57_15, wi_57_19, wi_57_20, wi_57_23, wi_57_26, wi_57_27, wi_57_29, wi_57_30, wi_57_31, wi_57_32, wi_57_33, wi_57_34, wi_57_37, wi_57_38, wi_57_41, wi_57_42, wi_57_44, wi_57_45, wi_57_46, wi_57_47, wi_57_48, wi_57_49, wi_57_50, wi_57_53, wi_57_55, wi_57_56, wi_57_59, wi_57_61, wi_57_64, wi_57_65, wi_57_66, wi_57_67, wi_57_68, wi_57_71, wi_57_73, wi_57_74, wi_57_77, wi_57_80, wi_57_83, wi_57_84, io_add_o, io_sub_o, io_mul_o, io_neg_o, io_and_r, io_or_r, io_xor_r, io_nd_r, io_shr_r, io_shl1, io_i2b_r, io_i2l_o, io_l2i_o, il_add_o, il_sub_o, il_mul_o, il_neg_o, ib_bit, Int.toNat_natCast, true_implies, false_implies, implies_true, and_true, true_and, and_self, not_true_eq_false, not_false_eq_true, wa_0, wa_1, il_cmp_o, il_cmp0, il_cmp1, il_cmp2, io_bit1, ibt0, ibt1, ibt00, ibt11, ibt10, ibt01, Int.ofNat_lt, Int.ofNat_le, Int.ofNat_inj, Nat.lt_irrefl, Int.lt_irrefl, Int.toNat_one, Int.toNat_zero, Bool.false_eq_true, reduceIte, reduceCtorEq, Nat.reduceAdd, Nat.reduceMul, Nat.reduceSub, Nat.reduceLT, Nat.reduceLeDiff, Nat.reduceEqDiff, Int.reduceNeg, Int.reduceAdd, Int.reduceMul, Int.reduceSub, Int.reduceLT, Int.reduceLE, Int.reduceEq, Int.reduceToNat, Int.reduceNatCast, icl, ico, inz, hi, h1, h2, il_shr_n, il_bit, htb, hrec, gu_n, e2]
        refine ih _ (fun j j1 j2 => by rw [gu_n j1, gu_n j2, hM j j1 j2]) ?_ ?_ (fun u hu' hne => ?_) (by omega) _
        · rw [gu_s (by decide), gu_n (by decide)]
          exact h1
        · rw [gu_e]
          omega
        · rw [gu_n (by decide), gu_s hne]
          exact hu u hu' hne
  · rw [wi_57_17]
    simp (contextual := true) (disch := first | assumption | omega | exact il_cqA _ _ | exact il_cqB _ _) only [wi_57_0, wi_57_1, wi_57_2, wi_57_5, wi_57_6, wi_57_7, wi_57_10, wi_57_13, wi_57_14, wi_57_15, wi_57_19, wi_57_20, wi_57_23, wi_57_26, wi_57_27, wi_57_29, wi_57_30, wi_57_31, wi_57_32, wi_57_33, wi_57_34, wi_57_37, wi_57_38, wi_57_41, wi_57_42, wi_57_44, wi_57_45, wi_57_46, wi_57_47, wi_57_48, wi_57_49, wi_57_50, wi_57_53, wi_57_55, wi_57_56, wi_57_59, wi_57_61, wi_57_64, wi_57_65, wi_57_66, wi_57_67, wi_57_68, wi_57_71, wi_57_73, wi_57_74, wi_57_77, wi_57_80, wi_57_83, wi_57_84, io_add_o, io_sub_o, io_mul_o, io_neg_o, io_and_r, io_or_r, io_xor_r, io_nd_r, io_shr_r, io_shl1, io_i2b_r, io_i2l_o, io_l2i_o, il_add_o, il_sub_o, il_mul_o, il_neg_o, ib_bit, Int.toNat_natCast, true_implies, false_implies, implies_true, and_true, true_and, and_self, not_true_eq_false, not_false_eq_true, wa_0, wa_1, il_cmp_o, il_cmp0, il_cmp1, il_cmp2, io_bit1, ibt0, ibt1, ibt00, ibt11, ibt10, ibt01, Int.ofNat_lt, Int.ofNat_le, Int.ofNat_inj, Nat.lt_irrefl, Int.lt_irrefl, Int.toNat_one, Int.toNat_zero, Bool.false_eq_true, reduceIte, reduceCtorEq, Nat.reduceAdd, Nat.reduceMul, Nat.reduceSub, Nat.reduceLT, Nat.reduceLeDiff, Nat.reduceEqDiff, Int.reduceNeg, Int.reduceAdd, Int.reduceMul, Int.reduceSub, Int.reduceLT, Int.reduceLE, Int.reduceEq, Int.reduceToNat, Int.reduceNatCast, icl, ico, inz, h1]
    exact hQ2 hS M' hM
/-- the color at a place -/
def qcolorAt (G : q_G) (n index v : Nat) : Int := if index < qW_ G n (qN G) (fun _ => -1) then qpick G n (qN G) (fun _ => -1) index v else -1
theorem wp_colorIn (hg : gs_G g) (hG : q_ok G) {n l : Nat} (hl : l ≤ 5) (hn : n = qM G * l + 1) (hC : q_C M g G) (hcn : M 126 1 = (n : Int)) {index vertex : Nat} (hix : index ≤ 2147483647) (hvx : vertex < qN G) (hc : ∀ u, u < qN G → M 127 u = -1) (hW : qW_ G n (qN G) (fun _ => -1) ≤ 200000)
    (hQ : ∀ M' : gg_M, (∀ j, j ≠ 126 → j ≠ 127 → M' j = M j) → Q ((1, (0, qcolorAt G n index vertex)), (gk_R, M', 158, cc, cs))) :
    wp N xs (d + 14) 56 0 [gr 126, gr g, (0, (index : Int)), (0, (vertex : Int)), (3, 0)] [] (gk_R, M, 158, cc, cs) Q := by
  have hgr := gs_Gr hg
  have k2 := hG.1.2.1
  have hWn : ∀ k, k ≤ qN G → ∀ c : Nat → Int, True := fun _ _ _ => trivial
  simp (contextual := true) (disch := first | assumption | omega | exact il_cqA _ _ | exact il_cqB _ _) only [wi_56_0, wi_56_1, wi_56_2, wi_56_5, wi_56_6, wi_56_10, wi_56_11, wi_56_14, wi_56_15, wi_56_16, wi_56_18, wi_56_21, wi_56_24, wi_56_25, wi_56_26, wi_56_29, wi_56_32, wi_56_33, wi_56_36, wi_56_37, wi_56_38, io_add_o, io_sub_o, io_mul_o, io_neg_o, io_and_r, io_or_r, io_xor_r, io_nd_r, io_shr_r, io_shl1, io_i2b_r, io_i2l_o, io_l2i_o, il_add_o, il_sub_o, il_mul_o, il_neg_o, ib_bit, Int.toNat_natCast, true_implies, false_implies, implies_true, and_true, true_and, and_self, not_true_eq_false, not_false_eq_true, wa_0, wa_1, il_cmp_o, il_cmp0, il_cmp1, il_cmp2, io_bit1, ibt0, ibt1, ibt00, ibt11, ibt10, ibt01, Int.ofNat_lt, Int.ofNat_le, Int.ofNat_inj, Nat.lt_irrefl, Int.lt_irrefl, Int.toNat_one, Int.toNat_zero, Bool.false_eq_true, reduceIte, reduceCtorEq, Nat.reduceAdd, Nat.reduceMul, Nat.reduceSub, Nat.reduceLT, Nat.reduceLeDiff, Nat.reduceEqDiff, Int.reduceNeg, Int.reduceAdd, Int.reduceMul, Int.reduceSub, Int.reduceLT, Int.reduceLE, Int.reduceEq, Int.reduceToNat, Int.reduceNatCast, icl, ico, inz]
  by_cases hlt : index < qW_ G n (qN G) (fun _ => -1)
  · have hres : qcolorAt G n index vertex = qpick G n (qN G) (fun _ => -1) index vertex := if_pos hlt
    rw [hres] at hQ
    refine wl_i (P := fun i I => ∀ M' : gg_M, (∀ j, j ≠ 126 → j ≠ 127 → M' j = M j) → M' 126 1 = (n : Int) → ∀ (c : Nat → Int) (L : Nat), L ≤ index → M' 126 2 = (L : Int) → (∀ u, u < qN G → M' 127 u = c u) → (∀ u, u < qN G → -1 ≤ c u ∧ c u ≤ ((qM G * l : Nat) : Int)) → (∀ u, i ≤ u → c u = -1) → L < qW_ G n (qN G - i) c → qW_ G n (qN G - i) c ≤ 200000 → qpick G n (qN G - i) c L = qpick G n (qN G) (fun _ => -1) index → wp N xs (d + 14) 56 8 [gr 126, gr g, (0, (index : Int)), (0, (vertex : Int)), (0, I)] [] (gk_R, M', 158, cc, cs) Q) (vertex + 1) (fun i hi ih M' hM h1 c L hL h2 hu hcr hcn1 hLW hW2 hpk => ?_) (fun M' hM h1 c L hL h2 hu hcr hcn1 hLW hW2 hpk => ?_) (gg_up M 126 2 (index : Int)) (fun j j1 _ => by rw [gu_n j1]) (by rw [gu_s (by decide)]; exact hcn) (fun _ => -1) index (Nat.le_refl _) gu_e (fun u hu => by rw [gu_n (by decide)]; exact hc u hu) (fun u _ => by omega) (fun _ _ => rfl) (by rw [Nat.sub_zero]; exact hlt) (by rw [Nat.sub_zero]; exact hW) (by rw [Nat.sub_zero])
    · obtain ⟨k, hk⟩ : ∃ k, k = qN G - (i + 1) := ⟨_, rfl⟩
      have hik : i + (k + 1) = qN G := by omega
      have ek : qN G - i = k + 1 := by omega
      have ek2 : qN G - (i + 1) = k := by omega
      have ep : qN G - (k + 1) = i := by omega
      rw [ek] at hLW hW2 hpk
      rw [ek2] at ih
      have hle : ¬ vertex < i := by omega
      have hdep : d + 13 = (d + (8 - k)) + k + 5 := by omega
      rw [wi_56_8]
      simp (contextual := true) (disch := first | assumption | omega | exact il_cqA _ _ | exact il_cqB _ _) only [wi_56_0, wi_56_1, wi_56_2, wi_56_5, wi_56_6, wi_56_10, wi_56_11, wi_56_14, wi_56_15, wi_56_16, wi_56_18, wi_56_21, wi_56_24, wi_56_25, wi_56_26, wi_56_29, wi_56_32, wi_56_33, wi_56_36, wi_56_37, wi_56_38, io_add_o, io_sub_o, io_mul_o, io_neg_o, io_and_r, io_or_r, io_xor_r, io_nd_r, io_shr_r, io_shl1, io_i2b_r, io_i2l_o, io_l2i_o, il_add_o, il_sub_o, il_mul_o, il_neg_o, ib_bit, Int.toNat_natCast, true_implies, false_implies, implies_true, and_true, true_and, and_self, not_true_eq_false, not_false_eq_true, wa_0, wa_1, il_cmp_o, il_cmp0, il_cmp1, il_cmp2, io_bit1, ibt0, ibt1, ibt00, ibt11, ibt10, ibt01, Int.ofNat_lt, Int.ofNat_le, Int.ofNat_inj, Nat.lt_irrefl, Int.lt_irrefl, Int.toNat_one, Int.toNat_zero, Bool.false_eq_true, reduceIte, reduceCtorEq, Nat.reduceAdd, Nat.reduceMul, Nat.reduceSub, Nat.reduceLT, Nat.reduceLeDiff, Nat.reduceEqDiff, Int.reduceNeg, Int.reduceAdd, Int.reduceMul, Int.reduceSub, Int.reduceLT, Int.reduceLE, Int.reduceEq, Int.reduceToNat, Int.reduceNatCast, icl, ico, inz, hle, h1]
      rw [hdep]
      have hWs := qW_s (G := G) (n := n) (k := k) (c := c) (by rw [ep]; exact hcn1 i (Nat.le_refl _))
      refine wp_settle hg hG hl hn hik (q_C_e hC fun j h1 h2 => hM j (by omega) (by omega)) h1 (by omega) h2 hu hcr (hcn1 i (Nat.le_refl _)) hW2 (fun x hx hS1 hS2 M2 hM2 g1 g2 g3 => ?_) (fun hno _ _ => by omega)
      have hpk2 := qpick_s (G := G) (n := n) (k := k) (c := c) (L := L) (x := x) (by rw [ep]; exact hcn1 i (Nat.le_refl _)) hx hS1 hS2
      rw [ep] at hpk2
      have hSs : qsm (qw_ G n k c) (x + 1) = qsm (qw_ G n k c) x + qw_ G n k c x := rfl
      have hwx : qw_ G n k c x = qW_ G n k (qwith c i (x : Nat)) := by
        have h9 : qw_ G n k c x = if qopen G c i x then qW_ G n k (qwith c i (x : Nat)) else 0 := by unfold qw_; rw [ep]
        cases ho : qopen G c i x
        · rw [ho, if_neg (by decide)] at h9
          omega
        · rw [ho, if_pos rfl] at h9
          exact h9
      have hS3 := qsm_mono (f := qw_ G n k c) (show x + 1 ≤ n by omega)
      simp (contextual := true) (disch := first | assumption | omega | exact il_cqA _ _ | exact il_cqB _ _) only [wi_56_0, wi_56_1, wi_56_2, wi_56_5, wi_56_6, wi_56_10, wi_56_11, wi_56_14, wi_56_15, wi_56_16, wi_56_18, wi_56_21, wi_56_24, wi_56_25, wi_56_26, wi_56_29, wi_56_32, wi_56_33, wi_56_36, wi_56_37, wi_56_38, io_add_o, io_sub_o, io_mul_o, io_neg_o, io_and_r, io_or_r, io_xor_r, io_nd_r, io_shr_r, io_shl1, io_i2b_r, io_i2l_o, io_l2i_o, il_add_o, il_sub_o, il_mul_o, il_neg_o, ib_bit, Int.toNat_natCast, true_implies, false_implies, implies_true, and_true, true_and, and_self, not_true_eq_false, not_false_eq_true, wa_0, wa_1, il_cmp_o, il_cmp0, il_cmp1, il_cmp2, io_bit1, ibt0, ibt1, ibt00, ibt11, ibt10, ibt01, Int.ofNat_lt, Int.ofNat_le, Int.ofNat_inj, Nat.lt_irrefl, Int.lt_irrefl, Int.toNat_one, Int.toNat_zero, Bool.false_eq_true, reduceIte, reduceCtorEq, Nat.reduceAdd, Nat.reduceMul, Nat.reduceSub, Nat.reduceLT, Nat.reduceLeDiff, Nat.reduceEqDiff, Int.reduceNeg, Int.reduceAdd, Int.reduceMul, Int.reduceSub, Int.reduceLT, Int.reduceLE, Int.reduceEq, Int.reduceToNat, Int.reduceNatCast, icl, ico, inz]
      rw [show d + (8 - k) + k + 5 + 1 = d + 14 by omega]
      refine ih M2 (fun j j1 j2 => by rw [hM2 j j1 j2, hM j j1 j2]) g1 (qwith c i (x : Nat)) (L - qsm (qw_ G n k c) x) (by omega) g2 g3 (fun u hu' => ?_) (fun u hu' => ?_) ?_ ?_ ?_
      · unfold qwith
        split
        · omega
        · exact hcr u hu'
      · rw [qwith_n (by omega)]
        exact hcn1 u (by omega)
      · rw [← hwx]
        omega
      · rw [← hwx]
        rw [hWs] at hW2
        omega
      · rw [← hpk2]
        exact hpk
    · have hle : vertex < vertex + 1 := by omega
      have h9 : M' 127 vertex = qpick G n (qN G) (fun _ => -1) index vertex := by
        rw [hu vertex hvx, ← hpk, qpick_keep _ _ _ _ (Or.inl (by omega)) (by omega)]
      rw [wi_56_8]
      simp (contextual := true) (disch := first | assumption | omega | exact il_cqA _ _ | exact il_cqB _ _) only [wi_56_0, wi_56_1, wi_56_2, wi_56_5, wi_56_6, wi_56_10, wi_56_11, wi_56_14, wi_56_15, wi_56_16, wi_56_18, wi_56_21, wi_56_24, wi_56_25, wi_56_26, wi_56_29, wi_56_32, wi_56_33, wi_56_36, wi_56_37, wi_56_38, io_add_o, io_sub_o, io_mul_o, io_neg_o, io_and_r, io_or_r, io_xor_r, io_nd_r, io_shr_r, io_shl1, io_i2b_r, io_i2l_o, io_l2i_o, il_add_o, il_sub_o, il_mul_o, il_neg_o, ib_bit, Int.toNat_natCast, true_implies, false_implies, implies_true, and_true, true_and, and_self, not_true_eq_false, not_false_eq_true, wa_0, wa_1, il_cmp_o, il_cmp0, il_cmp1, il_cmp2, io_bit1, ibt0, ibt1, ibt00, ibt11, ibt10, ibt01, Int.ofNat_lt, Int.ofNat_le, Int.ofNat_inj, Nat.lt_irrefl, Int.lt_irrefl, Int.toNat_one, Int.toNat_zero, Bool.false_eq_true, reduceIte, reduceCtorEq, Nat.reduceAdd, Nat.reduceMul, Nat.reduceSub, Nat.reduceLT, Nat.reduceLeDiff, Nat.reduceEqDiff, Int.reduceNeg, Int.reduceAdd, Int.reduceMul, Int.reduceSub, Int.reduceLT, Int.reduceLE, Int.reduceEq, Int.reduceToNat, Int.reduceNatCast, icl, ico, inz, hle, h9]
      exact hQ M' hM
  · have hres : qcolorAt G n index vertex = -1 := if_neg hlt
    rw [hres] at hQ
    obtain ⟨k, hk⟩ : ∃ k, k = qN G - 1 := ⟨_, rfl⟩
    have hik : 0 + (k + 1) = qN G := by omega
    have ek : qN G = k + 1 := by omega
    have hle : ¬ (vertex : Int) < 0 := by omega
    have hdep : d + 13 = (d + (8 - k)) + k + 5 := by omega
    rw [wi_56_8]
    simp (contextual := true) (disch := first | assumption | omega | exact il_cqA _ _ | exact il_cqB _ _) only [wi_56_0, wi_56_1, wi_56_2, wi_56_5, wi_56_6, wi_56_10, wi_56_11, wi_56_14, wi_56_15, wi_56_16, wi_56_18, wi_56_21, wi_56_24, wi_56_25, wi_56_26, wi_56_29, wi_56_32, wi_56_33, wi_56_36, wi_56_37, wi_56_38, io_add_o, io_sub_o, io_mul_o, io_neg_o, io_and_r, io_or_r, io_xor_r, io_nd_r, io_shr_r, io_shl1, io_i2b_r, io_i2l_o, io_l2i_o, il_add_o, il_sub_o, il_mul_o, il_neg_o, ib_bit, Int.toNat_natCast, true_implies, false_implies, implies_true, and_true, true_and, and_self, not_true_eq_false, not_false_eq_true, wa_0, wa_1, il_cmp_o, il_cmp0, il_cmp1, il_cmp2, io_bit1, ibt0, ibt1, ibt00, ibt11, ibt10, ibt01, Int.ofNat_lt, Int.ofNat_le, Int.ofNat_inj, Nat.lt_irrefl, Int.lt_irrefl, Int.toNat_one, Int.toNat_zero, Bool.false_eq_true, reduceIte, reduceCtorEq, Nat.reduceAdd, Nat.reduceMul, Nat.reduceSub, Nat.reduceLT, Nat.reduceLeDiff, Nat.reduceEqDiff, Int.reduceNeg, Int.reduceAdd, Int.reduceMul, Int.reduceSub, Int.reduceLT, Int.reduceLE, Int.reduceEq, Int.reduceToNat, Int.reduceNatCast, icl, ico, inz, hle, gu_s, hcn]
    rw [hdep]
    have hW' : qW_ G n (k + 1) (fun _ => -1) ≤ 200000 := by rw [← ek]; exact hW
    refine wp_settle (c := fun _ => -1) (L := index) hg hG hl hn hik (q_C_e hC fun j h1 h2 => gu_n (by omega)) (by rw [gu_s (by decide)]; exact hcn) hix gu_e (fun u hu => by rw [gu_n (by decide)]; exact hc u hu) (fun u _ => by omega) rfl hW' (fun x hx hS1 hS2 M2 hM2 g1 g2 g3 => ?_) (fun hno M2 hM2 => ?_)
    · exfalso
      have hS3 := qsm_mono (f := qw_ G n k (fun _ => -1)) (show x + 1 ≤ n by omega)
      have hWs := qW_s (G := G) (n := n) (k := k) (c := fun _ => -1) rfl
      rw [← ek] at hWs
      omega
    · simp (contextual := true) (disch := first | assumption | omega | exact il_cqA _ _ | exact il_cqB _ _) only [wi_56_0, wi_56_1, wi_56_2, wi_56_5, wi_56_6, wi_56_10, wi_56_11, wi_56_14, wi_56_15, wi_56_16, wi_56_18, wi_56_21, wi_56_24, wi_56_25, wi_56_26, wi_56_29, wi_56_32, wi_56_33, wi_56_36, wi_56_37, wi_56_38, io_add_o, io_sub_o, io_mul_o, io_neg_o, io_and_r, io_or_r, io_xor_r, io_nd_r, io_shr_r, io_shl1, io_i2b_r, io_i2l_o, io_l2i_o, il_add_o, il_sub_o, il_mul_o, il_neg_o, ib_bit, Int.toNat_natCast, true_implies, false_implies, implies_true, and_true, true_and, and_self, not_true_eq_false, not_false_eq_true, wa_0, wa_1, il_cmp_o, il_cmp0, il_cmp1, il_cmp2, io_bit1, ibt0, ibt1, ibt00, ibt11, ibt10, ibt01, Int.ofNat_lt, Int.ofNat_le, Int.ofNat_inj, Nat.lt_irrefl, Int.lt_irrefl, Int.toNat_one, Int.toNat_zero, Bool.false_eq_true, reduceIte, reduceCtorEq, Nat.reduceAdd, Nat.reduceMul, Nat.reduceSub, Nat.reduceLT, Nat.reduceLeDiff, Nat.reduceEqDiff, Int.reduceNeg, Int.reduceAdd, Int.reduceMul, Int.reduceSub, Int.reduceLT, Int.reduceLE, Int.reduceEq, Int.reduceToNat, Int.reduceNatCast, icl, ico, inz]
      exact hQ M2 (fun j j1 j2 => by rw [hM2 j j1 j2, gu_n j1])
theorem wp_completionsOf (hg : gs_G g) (hG : q_ok G) (hC : q_C M g G) {n : Nat} (hn : n = qM G * qL G + 1) (hcn : M 126 1 = (n : Int)) (hWW : qW_ G n (qN G) (qP G) ≤ 200000)
    (hQ : ∀ M' : gg_M, (∀ j, j ≠ 126 → j ≠ 127 → M' j = M j) → Q ((1, (0, (qW_ G n (qN G) (qP G) : Int))), (gk_R, M', 158, cc, cs))) :
    wp N xs (d + 14) 55 0 [gr 126, gr g] [] (gk_R, M, 158, cc, cs) Q := by
  have hgr := gs_Gr hg
  obtain ⟨⟨h1, h2, h3, h4, h5⟩, hF, hT, hA, hW, hP, hO⟩ := id hC
  obtain ⟨⟨k1, k2, k3, k4, k5, k6, k7, k8⟩, hk, hp, hp2⟩ := id hG
  simp (contextual := true) (disch := first | assumption | omega | exact il_cqA _ _ | exact il_cqB _ _) only [wi_55_0, wi_55_1, wi_55_4, wi_55_5, wi_55_6, wi_55_9, wi_55_10, wi_55_12, wi_55_15, wi_55_16, wi_55_17, wi_55_18, wi_55_21, io_add_o, io_sub_o, io_mul_o, io_neg_o, io_and_r, io_or_r, io_xor_r, io_nd_r, io_shr_r, io_shl1, io_i2b_r, io_i2l_o, io_l2i_o, il_add_o, il_sub_o, il_mul_o, il_neg_o, ib_bit, Int.toNat_natCast, true_implies, false_implies, implies_true, and_true, true_and, and_self, not_true_eq_false, not_false_eq_true, wa_0, wa_1, il_cmp_o, il_cmp0, il_cmp1, il_cmp2, io_bit1, ibt0, ibt1, ibt00, ibt11, ibt10, ibt01, Int.ofNat_lt, Int.ofNat_le, Int.ofNat_inj, Nat.lt_irrefl, Int.lt_irrefl, Int.toNat_one, Int.toNat_zero, Bool.false_eq_true, reduceIte, reduceCtorEq, Nat.reduceAdd, Nat.reduceMul, Nat.reduceSub, Nat.reduceLT, Nat.reduceLeDiff, Nat.reduceEqDiff, Int.reduceNeg, Int.reduceAdd, Int.reduceMul, Int.reduceSub, Int.reduceLT, Int.reduceLE, Int.reduceEq, Int.reduceToNat, Int.reduceNatCast, icl, ico, inz]
  have hdep : d + 13 = (d + (9 - qN G)) + qN G + 4 := by omega
  rw [hdep]
  refine (wp_ways hg hG k8 hn (qN G) 0 _ _ (qP G) _ (by omega) (q_C_e hC fun j h1 h2 => gc_n (by omega)) (by rw [gc_n (by decide)]; exact hcn) (fun u hu => ?_) (fun u hu => hp u (by omega)) hWW).2 ?_
  · rw [gc_e (by omega)]
    exact hP u (by omega)
  · simp (contextual := true) (disch := first | assumption | omega | exact il_cqA _ _ | exact il_cqB _ _) only [wi_55_0, wi_55_1, wi_55_4, wi_55_5, wi_55_6, wi_55_9, wi_55_10, wi_55_12, wi_55_15, wi_55_16, wi_55_17, wi_55_18, wi_55_21, io_add_o, io_sub_o, io_mul_o, io_neg_o, io_and_r, io_or_r, io_xor_r, io_nd_r, io_shr_r, io_shl1, io_i2b_r, io_i2l_o, io_l2i_o, il_add_o, il_sub_o, il_mul_o, il_neg_o, ib_bit, Int.toNat_natCast, true_implies, false_implies, implies_true, and_true, true_and, and_self, not_true_eq_false, not_false_eq_true, wa_0, wa_1, il_cmp_o, il_cmp0, il_cmp1, il_cmp2, io_bit1, ibt0, ibt1, ibt00, ibt11, ibt10, ibt01, Int.ofNat_lt, Int.ofNat_le, Int.ofNat_inj, Nat.lt_irrefl, Int.lt_irrefl, Int.toNat_one, Int.toNat_zero, Bool.false_eq_true, reduceIte, reduceCtorEq, Nat.reduceAdd, Nat.reduceMul, Nat.reduceSub, Nat.reduceLT, Nat.reduceLeDiff, Nat.reduceEqDiff, Int.reduceNeg, Int.reduceAdd, Int.reduceMul, Int.reduceSub, Int.reduceLT, Int.reduceLE, Int.reduceEq, Int.reduceToNat, Int.reduceNatCast, icl, ico, inz]
    exact hQ _ (fun j j1 j2 => gc_n j2)
end SG
