/-! the law: its text, its forty actions, its end -/
section LW2
variable {N : Nat} {xs : Nat → Int32} {w : gy_W} {Q : gy_O → Prop} {f : Nat} {l3 : gg_V}
theorem dX_hd (N : Nat) (xs : Nat → Int32) : dX N xs (dK N xs) = txl 3 ++ (dig (dN N xs) ++ (32 :: (dig (dM N xs) ++ rst (dF N xs) (dT N xs) (dA N xs) (dW N xs) (dH N xs) (dB N xs) 0 (dK N xs)))) := by
  have := pre_rst (dF N xs) (dT N xs) (dA N xs) (dW N xs) (dH N xs) (dB N xs) (dK N xs) 0
  rw [Nat.zero_add] at this
  unfold dX
  rw [← this]
  show txl 3 ++ (dig (dN N xs) ++ 32 :: dig (dM N xs)) ++ ([] ++ _) = _
  simp only [List.append_assoc, List.cons_append, List.nil_append]
theorem dX_pos (N : Nat) (xs : Nat → Int32) (k : Nat) : ∀ c, c ∈ dX N xs k → 1 ≤ c := by
  have hd : ∀ i c, c ∈ dig i → 1 ≤ c := by
    intro i c hc
    unfold dig at hc
    split at hc
    · simp at hc
      omega
    · simp at hc
      omega
  intro c hc
  unfold dX at hc
  simp only [List.mem_append, List.mem_cons] at hc
  rcases hc with (hc | hc | hc | hc) | hc
  · rw [tx3] at hc
    simp at hc
    omega
  · exact hd _ _ hc
  · omega
  · exact hd _ _ hc
  · exact pre_pos _ _ _ _ _ _ _ c hc
theorem gD_mem {l : List Nat} {j : Nat} (h : j < l.length) : l.getD j 0 ∈ l := by
  rw [List.getD_eq_getElem?_getD, List.getElem?_eq_getElem h]
  exact List.getElem_mem h
/-- from 82 to the forty actions -/
theorem yl_2 (hN : N ≤ 260) (hI : cI w a_0) (h141 : 141 ≤ w.2.2.1) (h200 : w.2.2.1 ≤ 200) (h13 : w.2.2.2 ≤ 13000)
    (hQ : ∀ w' A O ar pl pe g p sb, yZ w' A O ar pl pe g p → w'.2.2.1 ≤ 1000 → w'.2.2.2 ≤ 300000 → wy N xs 40 287 169 [gr 0, gr 1, gr f, gr sb, gr ar, gr pl, (3, 0), (3, 0)] [] w' Q) : wy N xs 40 287 82 [gr 0, gr 1, gr f, l3, (3, 0), (3, 0), (3, 0), (3, 0)] [] w Q := by
  obtain ⟨r1, r2, r3, r4, r5⟩ := dr_rg N xs
  rw [ly_287_82]
  obtain ⟨w1, ew1, hF1, c1, z1, zz1⟩ := mk_ex w (0, 0, 17) (fun j => gy_df (gg_ft 17 j)) (gg_nf 17)
  have nf := nf_17
  rw [ew1, ly_287_85 (by first | exact gl_gr | exact gl_r6 | exact gl_r7 | assumption | rfl), ly_287_86]
  refine yw_new (d := 37) z1 (zz1 3) (by omega) (by omega) fun w2 hF2 hT2 => ?_
  have hF02 : yF (fun _ => False) 2 28 w w2 := (hF1.tr hF2 fun x hx z => by
    have e : x = w.2.2.1 + 1 := z
    omega).wk (fun _ _ z => z) (by omega) (by omega)
  have hc2 : w2.2.2.1 ≤ w.2.2.1 + 2 := hF02.2.1
  have hl2 := hT2.2.2.2.2.2.2.1
  have hv2 := hT2.2.2.2.2.2.2.2.2.1
  rw [wz_0, ly_287_89 (by first | exact gl_gr | exact gl_r6 | exact gl_r7 | assumption | rfl) (by first | exact gl_gr | exact gl_r6 | exact gl_r7 | assumption | rfl), ly_287_90, ly_287_91 (by omega) (by omega), show (1 : Int).toNat = 1 from rfl]
  obtain ⟨w3, ew3, hF3, c3, z3, zz3⟩ := mk_ex w2 (5, 1, 14) (fun _ => (2, -1)) 1
  have hT3 : yTx w3 (w.2.2.1 + 1) (w1.2.2.1 + 1) 16 [] := yW.fr hT2 hF3 id id
  have hF03 := hF02.tt hF3
  have h3141 : 141 ≤ w3.2.2.1 := by have := hF03.le; omega
  rw [ew3, ly_287_94 (by first | exact gl_gr | exact gl_r6 | exact gl_r7 | assumption | rfl), ly_287_95, ly_287_96 (by first | exact gl_gr | exact gl_r6 | exact gl_r7 | assumption | rfl), ly_287_97, ly_287_98 (by first | exact gl_gr | exact gl_r6 | exact gl_r7 | assumption | rfl), ly_287_99, ly_287_101, ly_287_103, ly_287_105 (by first | exact gl_gr | exact gl_r6 | exact gl_r7 | assumption | rfl) (by first | exact gl_gr | exact gl_r6 | exact gl_r7 | assumption | rfl)]
  refine yd_drawn (d := 31) hN hT3 h3141 fun w4 vb4 cap4 hT4 hF4 hG4 => ?_
  have hle4 := hF4.le
  have hgo := hG4.own
  have z34 := (hF4.sh (x := w2.2.2.1 + 1) (by omega)).trans z3
  rw [wz_1, ly_287_108 z34 (by decide) (by decide) (by decide) (gl_e14 hgo.2), show (0 : Int).toNat = 0 from rfl]
  obtain ⟨w5, ew5, hF5, c5, z5, zo5, s5⟩ := st_ex w4 (w2.2.2.1 + 1) 0 (gr (w3.2.2.1 + 1))
  have hsT := hT4.2.2.2.2.2
  have ne5 : (w.2.2.1 + 1) ≠ w2.2.2.1 + 1 ∧ vb4 ≠ w2.2.2.1 + 1 := by
    refine ⟨fun e => ?_, fun e => ?_⟩
    · have := hT4.1.1
      rw [e, z34] at this
      exact absurd (congrArg Prod.fst this) (by show (5 : Nat) ≠ 0; decide)
    · have := hT4.2.1
      rw [e, z34] at this
      exact absurd (congrArg Prod.fst this) (by show (5 : Nat) ≠ 3; decide)
  have hT5 : yTx w5 (w.2.2.1 + 1) vb4 cap4 (dX N xs (dK N xs)) := yW.fr hT4 hF5 ne5.1 ne5.2
  have hG5 : yG w5 (fun x => if x ≤ w3.2.2.1 then 0 else w3.2.2.1 + 1) (w3.2.2.1 + 1) (dG N xs (dK N xs)) := hG4.fr hF5 (fun x hx z => by
    have e : x = w2.2.2.1 + 1 := z
    have h1 : (if x ≤ w3.2.2.1 then 0 else w3.2.2.1 + 1) = w3.2.2.1 + 1 := hx.1
    rw [if_pos (by omega)] at h1
    omega) fun _ _ z => z
  have hlen := dX_len N xs r5
  have sb5 := hT5.1.1
  rw [ew5, ly_287_109 (by first | exact gl_gr | exact gl_r6 | exact gl_r7 | assumption | rfl) (by first | exact gl_gr | exact gl_r6 | exact gl_r7 | assumption | rfl), ly_287_111 (by first | exact gl_gr | exact gl_r6 | exact gl_r7 | assumption | rfl), ly_287_112 (by first | exact gl_gr | exact gl_r6 | exact gl_r7 | assumption | rfl), ly_287_113 (by first | exact gl_gr | exact gl_r6 | exact gl_r7 | assumption | rfl) (by first | exact gl_cl (by assumption) rfl | exact gl_l6 (by omega) (by omega) | exact gl_l4 (by omega))]
  refine yw_toS (d := 34) hT5 (by omega) fun w6 s6 v6 hS6 hF6 => ?_
  have hF36 : yF (fun x => x = w.2.2.1 + 1 ∨ x = w1.2.2.1 + 1 ∨ x = w2.2.2.1 + 1) 202 200520 w3 w6 := (((hF4.wk (P' := fun x => x = w.2.2.1 + 1 ∨ x = w1.2.2.1 + 1 ∨ x = w2.2.2.1 + 1) (fun x _ z => z.elim Or.inl fun z => Or.inr (Or.inl z)) (Nat.le_refl _) (Nat.le_refl _)).tr hF5 fun x _ z => Or.inr (Or.inr z)).tr hF6 fun _ _ z => z.elim).wk (fun _ _ z => z) (by omega) (by omega)
  have hI6 : cI w6 a_0 := (hI.fr0 hF03 h141).fr hF36 (fun x h1 h2 z => by omega) h3141
  have hG6 := hG5.fr0 hF6
  have hqp : ∀ A', yAt a_0 A' (dX N xs (dK N xs)) (dX N xs (dK N xs)).length → qparse (aX A') (aB A') = .ok (dG N xs (dK N xs)) := by
    intro A' hAt
    rw [hAt.2.2.2.2.1]
    exact p_all (dX_hd N xs) hAt.2.2.2.2.2 r1 r2 r3 r4 r5 fun k _ => dk_rg N xs k
  have hqV : ∀ A', yAt a_0 A' (dX N xs (dK N xs)) (dX N xs (dK N xs)).length → qloadV A' = (dK N xs : Int) := by
    intro A' hAt
    unfold qloadV
    rw [hqp A' hAt]
    show ((qK (dG N xs (dK N xs)) : Nat) : Int) = _
    rw [(dG_f N xs (dK N xs)).1]
  rw [wz_1, ly_287_116 (by first | exact gl_gr | exact gl_r6 | exact gl_r7 | assumption | rfl) (by first | exact gl_gr | exact gl_r6 | exact gl_r7 | assumption | rfl)]
  refine yw_send (d := 7) hI6 a0_ok rfl hS6 (by omega) (fun j hj => dX_pos N xs _ _ (gD_mem hj)) (fun w7 A7 hI7 hAt hF7 => ?_) (fun A' hAt => by rw [hqV A' hAt]; omega)
  have hV7 := hqV A7 hAt
  have hA7 := ok_load hAt.2.2.2.1
  have eA : qloadA A7 = (dG N xs (dK N xs), (0, aH A7), aV A7, (0, aX A7), (0, -1)) := by
    unfold qloadA
    rw [hqp A7 hAt]
  have hG7 : yG w7 (fun x => if x ≤ w3.2.2.1 then 0 else w3.2.2.1 + 1) (w3.2.2.1 + 1) (aG (qloadA A7)) := by
    rw [eA]
    exact hG6.fr hF7 (fun x hx => yK.no hx.2.1) fun _ _ z => z
  have ar5 : w5.1 (w2.2.2.1 + 1) = (5, 1, 14) := by rw [s5]; exact z34
  have hle5 : w4.2.2.1 = w5.2.2.1 := by rw [c5]
  have ar7 : w7.1 (w2.2.2.1 + 1) = (5, 1, 14) := (hF7.sh (by have := hF6.le; omega)).trans ((hF6.sh (by omega)).trans ar5)
  have ar27 : w7.2.1 (w2.2.2.1 + 1) 0 = gr (w3.2.2.1 + 1) := by
    rw [hF7.me (by have := hF6.le; omega) (yK.no (by omega)), hF6.me (by omega) id]
    exact z5
  have hG7' := hG7
  obtain ⟨la, ea, lp, ep, t, b, hx⟩ := hG7
  have hf := dG_f N xs (dK N xs)
  have hK7 : qK (aG (qloadA A7)) = dK N xs := by
    rw [eA]
    exact hf.1
  have g07 := hx.1.1
  have g47 := hx.1.2.2.2.2.1
  have hla := hx.2.1.1.1
  rw [wz_1, hV7, ly_287_119 (by first | exact gl_gr | exact gl_r6 | exact gl_r7 | assumption | rfl), ly_287_121, ly_287_122 ar7 rfl (by decide) (by decide) (by decide) (by show gy_rr (w7.2.1 (w2.2.2.1 + 1) 0) = true; rw [ar27]; rfl), show (0 : Int).toNat = 0 from rfl, ar27, ly_287_123 (by assumption), g47, ly_287_126 (by first | exact gl_gr | exact gl_r6 | exact gl_r7 | assumption | rfl) (by first | exact gl_cl (by assumption) rfl | exact gl_l6 (by omega) (by omega) | exact gl_l4 (by omega)), wv_size hx.2.1.1, wz_1, hK7, ly_287_129 (by omega) (by omega) (by omega) (by omega)]
  simp only [not_true_eq_false, true_implies, false_implies, and_true]
  have hs7 := hI7.s1
  rw [ly_287_132 (by first | exact gl_gr | exact gl_r6 | exact gl_r7 | assumption | rfl), ly_287_133 (by first | exact gl_gr | exact gl_r6 | exact gl_r7 | assumption | rfl) (by first | exact gl_cl (by assumption) rfl | exact gl_l6 (by omega) (by omega) | exact gl_l4 (by omega))]
  refine cy_do (by decide) (fun M h => cq_89 (d := 8) h hA7) hI7 rfl fun w8 hI8 hF8 hc8 => ?_
  have eE : ((aE (qloadA A7) : Nat) : Int) = 0 := by rw [eA]; rfl
  have hs8 := hI8.s1
  rw [wz_1, eE, ly_287_136 (by omega) (by omega)]
  simp only [show (0 : Int) = 0 by omega, not_true_eq_false, true_implies, false_implies, and_true, true_and]
  rw [ly_287_139 (by first | exact gl_gr | exact gl_r6 | exact gl_r7 | assumption | rfl), ly_287_140 (by first | exact gl_gr | exact gl_r6 | exact gl_r7 | assumption | rfl) (by first | exact gl_cl (by assumption) rfl | exact gl_l6 (by omega) (by omega) | exact gl_l4 (by omega))]
  refine cy_do (by decide) (fun M h => cq_90 (d := 8) h hA7) hI8 rfl fun w9 hI9 hF9 hc9 => ?_
  have eS : aS (qloadA A7) = -1 := by rw [eA]; rfl
  have hF79 := hF8.tt hF9
  have hle7 := hF7.le
  have hle6 := hF6.le
  have ar9 : w9.1 (w2.2.2.1 + 1) = (5, 1, 14) := (hF79.sh (by omega)).trans ar7
  have ar29 : w9.2.1 (w2.2.2.1 + 1) 0 = gr (w3.2.2.1 + 1) := by rw [hF79.me (by omega) (yK.no (by omega))]; exact ar27
  have hx9 := hx.frK hF79
  have hTo : yTo (aG (qloadA A7)) := fun k => by
    rw [eA]
    show -2147483648 ≤ qO (dG N xs (dK N xs)) k ∧ qO (dG N xs (dK N xs)) k ≤ 2147483647
    rw [hf.2.2.2.2.2]
    show -2147483648 ≤ (0 : Int) ∧ (0 : Int) ≤ 2147483647
    decide
  rw [wz_1, eS, ly_287_143, ly_287_144 (by omega) (by omega) (by omega) (by omega)]
  simp only [not_true_eq_false, true_implies, false_implies, and_true]
  rw [ly_287_147 (by first | exact gl_gr | exact gl_r6 | exact gl_r7 | assumption | rfl), ly_287_148 (by first | exact gl_gr | exact gl_r6 | exact gl_r7 | assumption | rfl), ly_287_150, ly_287_151 ar9 rfl (by decide) (by decide) (by decide) (by show gy_rr (w9.2.1 (w2.2.2.1 + 1) 0) = true; rw [ar29]; rfl), show (0 : Int).toNat = 0 from rfl, ar29, ly_287_152 (by first | exact gl_gr | exact gl_r6 | exact gl_r7 | assumption | rfl) (by first | exact gl_gr | exact gl_r6 | exact gl_r7 | assumption | rfl)]
  refine ys_same (d := 7) hx9 hI9 hA7 hTo fun w10 hF10 hI10 => ?_
  rw [wz_1, ly_287_155 (by omega) (by omega)]
  simp only [show ¬ ((1 : Int) = 0) by omega, not_false_eq_true, true_implies, false_implies, and_true, true_and]
  rw [ly_287_160]
  obtain ⟨w11, ew11, hF11, c11, z11, zz11⟩ := mk_ex w10 (0, 0, 15) (fun j => gy_df (gg_ft 15 j)) (gg_nf 15)
  have nf15 := nf_15
  have hle10 := hF10.le
  have hle9 := hF79.le
  rw [ew11, ly_287_163 (by first | exact gl_gr | exact gl_r6 | exact gl_r7 | assumption | rfl), ly_287_164]
  refine wv_ctor z11 (zz11 2) (by omega) (by omega) fun w12 hF12 c12 hV12 h712 => ?_
  rw [wz_0, ly_287_167 (by first | exact gl_gr | exact gl_r6 | exact gl_r7 | assumption | rfl) (by first | exact gl_gr | exact gl_r6 | exact gl_r7 | assumption | rfl)]
  have hF1012 : yF (fun _ => False) 1 12 w10 w12 := (hF11.tr hF12 fun x hx z => by
    have e : x = w10.2.2.1 + 1 := z
    omega).wk (fun _ _ z => z) (by omega) (by omega)
  have nA7 : aN (qloadA A7) = 0 := by rw [eA]; rfl
  have hc12 : w12.2.2.1 = w10.2.2.1 + 1 := by rw [c12]; exact c11
  have hZ : yZ w12 (qloadA A7) (fun x => if x ≤ w3.2.2.1 then 0 else if x ≤ w10.2.2.1 then w3.2.2.1 + 1 else 0) (w2.2.2.1 + 1) (w10.2.2.1 + 1) (w10.2.2.1 + 1) (w3.2.2.1 + 1) (fun _ => 0) := by
    have hG10 : yG w10 (fun x => if x ≤ w3.2.2.1 then 0 else w3.2.2.1 + 1) (w3.2.2.1 + 1) (aG (qloadA A7)) := ⟨_, _, _, _, _, _, hx9.frK hF10⟩
    refine ⟨⟨hI10.fr0 hF1012 (by omega), hA7, hTo, fun j hj => by omega⟩, hG10.fr hF1012 (fun _ _ => id) (fun x hx z => ?_), ⟨(hF1012.sh (by omega)).trans ((hF10.sh (by omega)).trans ar9), ?_, by omega, by omega, if_pos (by omega)⟩, ⟨?_, ?_, ?_⟩, fun j hj => by omega, fun i j hi => by omega, fun x hx => if_pos (by omega)⟩
    · by_cases e : x ≤ w3.2.2.1
      · rw [if_pos e] at z
        omega
      · rw [if_neg e, if_pos hx]
    · rw [hF1012.me (by omega) id, hF10.me (by omega) (yK.no (by omega))]
      exact ar29
    · rw [nA7]
      exact hV12 _
    · exact (if_neg (by omega)).trans (if_neg (by omega))
    · exact (if_neg (by omega)).trans (if_neg (by omega))
  have b1 := hF03.2.1
  have b2 := hF03.2.2.1
  have b3 := hF36.2.1
  have b4 := hF36.2.2.1
  have b5 := hF7.2.1
  have b6 := hF7.2.2.1
  have b7 := hF79.2.1
  have b8 := hF79.2.2.1
  have b9 := hF10.2.1
  have b10 := hF10.2.2.1
  have b11 := hF1012.2.1
  have b12 := hF1012.2.2.1
  exact hQ w12 _ _ _ _ _ _ _ _ hZ (by omega) (by omega)
end LW2
