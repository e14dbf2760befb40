/-! drawn, the whole -/
theorem gd_P (n m : Nat) (f t a w : Nat → Nat) (mk : Nat → Bool) (k : Nat) : qP (gd n m f t a w mk k) = (fun _ => -1) ∧ qL (gd n m f t a w mk k) = 1 ∧ qO (gd n m f t a w mk k) = (fun _ => 0) := by
  induction k with
  | zero => exact ⟨rfl, rfl, rfl⟩
  | succ k ih =>
    unfold gd
    split
    · exact ih
    · exact ih
theorem dG_f (N : Nat) (xs : Nat → Int32) (k : Nat) : qK (dG N xs k) = k ∧ qN (dG N xs k) = dN N xs ∧ qM (dG N xs k) = dM N xs ∧ qP (dG N xs k) = (fun _ => -1) ∧ qL (dG N xs k) = 1 ∧ qO (dG N xs k) = (fun _ => 0) := by
  obtain ⟨a1, a2, a3⟩ := gd_K (dN N xs) (dM N xs) (dF N xs) (dT N xs) (dA N xs) (dW N xs) (dB N xs) k
  obtain ⟨b1, b2, b3⟩ := gd_P (dN N xs) (dM N xs) (dF N xs) (dT N xs) (dA N xs) (dW N xs) (dB N xs) k
  exact ⟨a1, a2, a3, b1, b2, b3⟩
section DU
variable {N : Nat} {xs : Nat → Int32} {d : Nat} {w0 w : gy_W} {Q : gy_O → Prop} {sb vb0 cap0 : Nat}
theorem yd_drawn (hN : N ≤ 260) (hT0 : yTx w0 sb vb0 cap0 []) (h141 : 141 ≤ w0.2.2.1)
    (hQ : ∀ w' vb cap, yTx w' sb vb cap (dX N xs (dK N xs)) → yF (fun x => x = sb ∨ x = vb0) 200 200000 w0 w' → yG w' (fun x => if x ≤ w0.2.2.1 then 0 else w0.2.2.1 + 1) (w0.2.2.1 + 1) (dG N xs (dK N xs)) → Q ((1, gr (w0.2.2.1 + 1)), w')) :
    wy N xs (d + 8) 347 0 [gr 0, (0, 0), gr sb, (0, 8), (0, 12), (0, 12), (3, 0), (3, 0), (3, 0), (3, 0), (3, 0)] [] w0 Q := by
  obtain ⟨r1, r2, r3, r4, r5⟩ := dr_rg N xs
  obtain ⟨eV, hV⟩ := Vq_e N xs 0
  rw [ly_347_0]
  obtain ⟨w1, ew1, hF1, c1, z1, zz1⟩ := mk_ex w0 (0, 0, 14) (fun j => gy_df (gg_ft 14 j)) (gg_nf 14)
  have nf := nf_14
  rw [ew1, ly_347_3 (by first | exact gl_gr | exact gl_r6 | exact gl_r7 | assumption | rfl), ly_347_4]
  refine yy_new z1 (by omega) (by omega) fun w2 hF2 c2 hN2 => ?_
  obtain ⟨⟨n0, n1, n2, n3, n4, n5, n6⟩, nA, nA7, nP, nP7, nT, nT0⟩ := hN2
  rw [c1] at n4 n5 n6 nA nA7 nP nP7 nT nT0 c2
  have hat := wy_at (N := N) (xs := xs) (d := d + 7) (w := w2) (Q := wz N xs (d + 8) 347 11 3 [gr 0, (0, 0), gr sb, (0, 8), (0, 12), (0, 12), gr (w0.2.2.1 + 1), (3, 0), (3, 0), (3, 0), (3, 0)] [] Q) (k := 0) hN (by decide)
  rw [show (((0 : Nat)) : Int) = 0 from rfl] at hat
  have e1 : (((Vq N xs 0 : Nat) : Int)).tmod 8 = ((Vq N xs 0 % 8 : Nat) : Int) := rfl
  have e2 : io_add 1 ((Vq N xs 0 % 8 : Nat) : Int) = ((dN N xs : Nat) : Int) := by rw [io_add_o (by omega) (by omega)]; unfold dN; omega
  have e3 : (((Vq N xs 0 : Nat) : Int)).tdiv 8 = ((Vq N xs 0 / 8 : Nat) : Int) := rfl
  have e4 : (((Vq N xs 0 / 8 : Nat) : Int)).tmod 12 = ((Vq N xs 0 / 8 % 12 : Nat) : Int) := rfl
  have q8 : Vq N xs 0 / 8 ≤ Vq N xs 0 := Nat.div_le_self _ _
  have m12 := Nat.mod_lt (Vq N xs 0 / 8) (show 12 > 0 by decide)
  have e5 : io_add 1 ((Vq N xs 0 / 8 % 12 : Nat) : Int) = ((dM N xs : Nat) : Int) := by rw [io_add_o (by omega) (by omega)]; unfold dM; omega
  rw [wz_0, ly_347_7 (by first | exact gl_gr | exact gl_r6 | exact gl_r7 | assumption | rfl), ly_347_9 (by first | exact gl_gr | exact gl_r6 | exact gl_r7 | assumption | rfl), ly_347_10, ly_347_11 (by first | exact gl_gr | exact gl_r6 | exact gl_r7 | assumption | rfl), hat, wz_1, eV, ly_347_14 (by first | exact gl_gr | exact gl_r6 | exact gl_r7 | assumption | rfl), ly_347_16 (by first | exact gl_gr | exact gl_r6 | exact gl_r7 | assumption | rfl), ly_347_18, ly_347_19, ly_347_21, ly_347_22 (by omega) (by omega) (by omega) (by omega), e1, ly_347_23, e2, ly_347_24 (by assumption)]
  obtain ⟨w3, ew3, hF3, c3, z3, zo3, s3⟩ := st_ex w2 (w0.2.2.1 + 1) 0 (0, (dN N xs : Int))
  have n03 : w3.1 (w0.2.2.1 + 1) = (0, 0, 14) := by rw [s3]; exact n0
  rw [ew3, ly_347_27 (by first | exact gl_gr | exact gl_r6 | exact gl_r7 | assumption | rfl), ly_347_29, ly_347_30, ly_347_32, ly_347_34 (by omega) (by omega) (by omega) (by omega), e3, ly_347_35, ly_347_37 (by omega) (by omega) (by omega) (by omega), e4, ly_347_38, e5, ly_347_39 (by assumption)]
  obtain ⟨w4, ew4, hF4, c4, z4, zo4, s4⟩ := st_ex w3 (w0.2.2.1 + 1) 1 (0, (dM N xs : Int))
  rw [ew4]
  have hc4 : w4.2.2.1 = w0.2.2.1 + 4 := by rw [c4, c3]; exact c2
  have hF24 : yF (fun x => x = w0.2.2.1 + 1) 0 0 w2 w4 := hF3.tt hF4
  have hF04 : yF (fun x => x = sb ∨ x = vb0) 4 40 w0 w4 := (((hF1.wk (P' := fun x => x = sb ∨ x = vb0) (fun _ _ z => z.elim) (Nat.le_refl _) (Nat.le_refl _)).tr hF2 fun x hx z => by
    have e : x = w0.2.2.1 + 1 := z
    omega).tr hF24 fun x hx z => by
    have e : x = w0.2.2.1 + 1 := z
    omega).wk (fun _ _ z => z) (by omega) (by omega)
  have hF04' : yF (fun _ => False) 4 40 w0 w4 := ((hF1.tr hF2 fun x hx z => by
    have e : x = w0.2.2.1 + 1 := z
    omega).tr hF24 fun x hx z => by
    have e : x = w0.2.2.1 + 1 := z
    omega).wk (fun _ _ z => z) (by omega) (by omega)
  have hD4 : yD w0 w4 4 40 sb vb0 (w0.2.2.1 + 1) (dN N xs) (dM N xs) (w0.2.2.1 + 1 + 1) (w0.2.2.1 + 1 + 1) (w0.2.2.1 + 1 + 2) (w0.2.2.1 + 1 + 3) (fun _ => 0) (dG N xs 0) (fun _ => True) [] := by
    refine ⟨vb0, cap0, yW.fr hT0 hF04' id id, Or.inl rfl, hF04, ⟨⟨by rw [s4]; exact n03, ?_, z4, ?_, ?_, ?_, ?_⟩, ?_, fun f => (nP f).fr hF24 (by omega) (by omega), ⟨(hF24.sh (by omega)).trans nT, fun k => by rw [hF24.me (by omega) (by omega)]; exact nT0 k⟩, fun a ha => absurd ha (Nat.not_lt_zero a), fun a _ ha => absurd ha (Nat.not_lt_zero a), ⟨by omega, by omega⟩, ⟨by omega, by omega, by omega, by omega, by omega, by omega, by omega⟩, h141⟩, trivial⟩
    · rw [zo4 0 (by decide)]; exact z3
    · rw [zo4 2 (by decide), zo3 2 (by decide)]; exact n3
    · rw [zo4 3 (by decide), zo3 3 (by decide)]; exact n4
    · rw [zo4 4 (by decide), zo3 4 (by decide)]; exact n5
    · rw [zo4 5 (by decide), zo3 5 (by decide)]; exact n6
    · exact (nA _).fr hF24 (by omega) (by omega)
  have l3 : (txl 3).length = 6 := by decide
  have d1 := dig_l2 (dN N xs)
  have d2 := dig_l2 (dM N xs)
  have sb4 := hD4.sb1
  rw [ly_347_42 (by first | exact gl_gr | exact gl_r6 | exact gl_r7 | assumption | rfl), ly_347_43, show gtx 3 = (4, ((3 : Nat) : Int)) from rfl, ly_347_45 (by first | exact gl_gr | exact gl_r6 | exact gl_r7 | assumption | rfl) (by first | exact gl_gr | exact gl_r6 | exact gl_r7 | assumption | rfl) (by first | exact gl_cl (by assumption) rfl | exact gl_l6 (by omega) (by omega) | exact gl_l4 (by omega))]
  refine yd_str (s := 3) hD4 st_True (by decide) (by decide) fun w5 hD5 => ?_
  have sb5 := hD5.sb1
  obtain ⟨⟨p0, p1, p2, _⟩, _⟩ := hD5.gG
  rw [wz_1, ly_347_48 (by first | exact gl_gr | exact gl_r6 | exact gl_r7 | assumption | rfl), ly_347_50 (by assumption), p1, ly_347_53 (by first | exact gl_gr | exact gl_r6 | exact gl_r7 | assumption | rfl) (by first | exact gl_cl (by assumption) rfl | exact gl_l6 (by omega) (by omega) | exact gl_l4 (by omega))]
  refine yd_num hD5 st_True (by omega) (by rw [List.nil_append]; omega) fun w6 hD6 => ?_
  have sb6 := hD6.sb1
  rw [wz_1, ly_347_56, ly_347_58 (by first | exact gl_gr | exact gl_r6 | exact gl_r7 | assumption | rfl) (by first | exact gl_cl (by assumption) rfl | exact gl_l6 (by omega) (by omega) | exact gl_l4 (by omega))]
  refine yd_sp hD6 st_True (by rw [List.nil_append, List.length_append]; omega) fun w7 hD7 => ?_
  have sb7 := hD7.sb1
  obtain ⟨⟨u0, u1, u2, _⟩, _⟩ := hD7.gG
  rw [wz_1, ly_347_61 (by first | exact gl_gr | exact gl_r6 | exact gl_r7 | assumption | rfl), ly_347_63 (by assumption), u2, ly_347_66 (by first | exact gl_gr | exact gl_r6 | exact gl_r7 | assumption | rfl) (by first | exact gl_cl (by assumption) rfl | exact gl_l6 (by omega) (by omega) | exact gl_l4 (by omega))]
  refine yd_num hD7 st_True (by omega) (by simp only [List.length_append, List.length_cons, List.length_nil]; omega) fun w8 hD8 => ?_
  rw [wz_1, ly_347_69 (by first | exact gl_gr | exact gl_r6 | exact gl_r7 | assumption | rfl), ly_347_70, ly_347_71]
  have hD8' : yD w0 w8 8 6000 sb vb0 (w0.2.2.1 + 1) (dN N xs) (dM N xs) (w0.2.2.1 + 1 + 1) (w0.2.2.1 + 1 + 1) (w0.2.2.1 + 1 + 2) (w0.2.2.1 + 1 + 3) (fun _ => 0) (dG N xs 0) (fun _ => True) (dX N xs 0) := by
    have := hD8.wk (C' := 8) (S' := 6000) (by omega) (by omega)
    rw [show [] ++ txl 3 ++ dig (dN N xs) ++ [32] ++ dig (dM N xs) = dX N xs 0 by
      unfold dX pre
      simp only [List.append_assoc, List.nil_append, List.cons_append, List.append_nil]] at this
    exact this
  have e6 : (((Vq N xs 0 : Nat) : Int)).tdiv 128 = ((Vq N xs 0 / 128 : Nat) : Int) := rfl
  have e7 : io_add 12 1 = 13 := by decide
  have e8 : (((Vq N xs 0 / 128 : Nat) : Int)).tmod 13 = ((dK N xs : Nat) : Int) := rfl
  have q128 : Vq N xs 0 / 128 ≤ Vq N xs 0 := Nat.div_le_self _ _
  have hhead : ∀ (w' : gy_W) (k : Nat) (l9 l10 : gg_V), k ≤ 12 → (wy N xs (d + 8) 347 73 [gr 0, (0, 0), gr sb, (0, 8), (0, 12), (0, 12), gr (w0.2.2.1 + 1), (0, ((Vq N xs 0 : Nat) : Int)), (0, (k : Int)), l9, l10] [] w' Q ↔ ((k < dK N xs → wy N xs (d + 8) 347 89 [gr 0, (0, 0), gr sb, (0, 8), (0, 12), (0, 12), gr (w0.2.2.1 + 1), (0, ((Vq N xs 0 : Nat) : Int)), (0, (k : Int)), l9, l10] [] w' Q) ∧ (¬ k < dK N xs → wy N xs (d + 8) 347 279 [gr 0, (0, 0), gr sb, (0, 8), (0, 12), (0, 12), gr (w0.2.2.1 + 1), (0, ((Vq N xs 0 : Nat) : Int)), (0, (k : Int)), l9, l10] [] w' Q))) := by
    intro w' k l9 l10 hk
    rw [ly_347_73, ly_347_75, ly_347_77, ly_347_80 (by omega) (by omega) (by omega) (by omega), e6, ly_347_81, ly_347_83, ly_347_84, e7, ly_347_85 (by omega) (by omega) (by omega) (by omega), e8, ly_347_86 (by omega) (by omega) (by omega) (by omega)]
    simp only [Int.ofNat_lt]
  refine wl_for (P := fun k => ∀ (w' : gy_W) (ea : Nat) (b : Nat → Nat) (l9 l10 : gg_V), yD w0 w' (8 + 12 * k) (6000 + 13040 * k) sb vb0 (w0.2.2.1 + 1) (dN N xs) (dM N xs) (w0.2.2.1 + 1 + 1) ea (w0.2.2.1 + 1 + 2) (w0.2.2.1 + 1 + 3) b (dG N xs k) (fun _ => True) (dX N xs k) → wy N xs (d + 8) 347 73 [gr 0, (0, 0), gr sb, (0, 8), (0, 12), (0, 12), gr (w0.2.2.1 + 1), (0, ((Vq N xs 0 : Nat) : Int)), (0, (k : Int)), l9, l10] [] w' Q) (dK N xs) (fun k hk ih w' ea b l9 l10 hD => ?_) (fun w' ea b l9 l10 hD => ?_) w8 _ _ _ _ hD8'
  · rw [hhead w' k l9 l10 (by omega)]
    refine ⟨fun _ => ?_, fun z => absurd hk z⟩
    exact yd_arc hN (by omega) hD fun w2 ea2 b2 l9 l10 hD2 => ih w2 ea2 b2 l9 l10 (hD2.wk (by omega) (by omega))
  · rw [hhead w' _ l9 l10 r5]
    refine ⟨fun z => absurd z (Nat.lt_irrefl _), fun _ => ?_⟩
    obtain ⟨vb, cap, hT, hvb, hF, hG, _⟩ := hD
    obtain ⟨f1, f2, f3, f4, f5, f6⟩ := dG_f N xs (dK N xs)
    obtain ⟨⟨p0, p1, p2, p3, p4, p5, p6⟩, hV, hL, ⟨t1, t2⟩, hA, hI, hD, ⟨o1, o2, o3, o4, o5, o6, o7⟩, o8⟩ := id hG
    have hL0 := hL fun _ => (6, -1)
    have lpc := hL0.2.2.2.2.1
    have tx := hG.sep hT.1.1 (by decide) (by decide) (by decide) (by decide)
    have tv := hG.sep hT.2.1 (by decide) (by decide) (by decide) (by decide)
    have hgl : w0.2.2.1 + 1 ≠ w0.2.2.1 + 1 + 2 := by omega
    rw [ly_347_279, ly_347_280]
    refine wl_for (P := fun j => ∀ (w2 : gy_W) (ep : Nat), yF (fun x => x = w0.2.2.1 + 1 + 2) j (15 * j) w' w2 → (ep = w0.2.2.1 + 1 + 2 ∨ w'.2.2.1 < ep) → yV w2 (w0.2.2.1 + 1 + 2) ep j (fun _ => (6, -1)) → wy N xs (d + 8) 347 282 [gr 0, (0, 0), gr sb, (0, 8), (0, 12), (0, 12), gr (w0.2.2.1 + 1), (0, ((Vq N xs 0 : Nat) : Int)), (0, (j : Int)), l9, l10] [] w2 Q) (dN N xs) (fun j hj ih w2 ep hF2 hep hV2 => ?_) (fun w2 ep hF2 hep hV2 => ?_) w' _ yF.rf (Or.inl rfl) hL0
    · have g0 := (hF2.sh o2).trans p0
      have mg := hF2.me o2 hgl
      have g1 : w2.2.1 (w0.2.2.1 + 1) 0 = (0, (dN N xs : Int)) := by rw [mg]; exact p1
      have g5 : w2.2.1 (w0.2.2.1 + 1) 4 = gr (w0.2.2.1 + 1 + 2) := by rw [mg]; exact p5
      have hlp := hV2.1
      have e0 : io_add (j : Int) 1 = ((j + 1 : Nat) : Int) := by rw [io_add_o (by omega) (by omega)]; omega
      rw [ly_347_282, ly_347_284 (by first | exact gl_gr | exact gl_r6 | exact gl_r7 | assumption | rfl), ly_347_286 (by assumption), g1, ly_347_289 (by omega) (by omega) (by omega) (by omega)]
      simp only [show (j : Int) < (dN N xs : Int) by omega, not_true_eq_false, true_implies, false_implies, and_true, true_and]
      rw [ly_347_292 (by first | exact gl_gr | exact gl_r6 | exact gl_r7 | assumption | rfl), ly_347_294 (by assumption), g5, ly_347_297, ly_347_298, wy_val (by decide) (by decide), wz_1, ly_347_301 (by first | exact gl_gr | exact gl_r6 | exact gl_r7 | assumption | rfl) (by first | exact gl_gr | exact gl_r6 | exact gl_r7 | assumption | rfl) (by first | exact gl_cl (by assumption) rfl | exact gl_l6 (by omega) (by omega) | exact gl_l4 (by omega))]
      refine wv_add hV2 (by omega) (yE.i (by decide) (by decide)) fun w3 ep3 hep3 hF3 hV3 => ?_
      have hle2 := hF2.le
      rw [wz_1, ly_347_304, ly_347_305, e0, ly_347_308]
      refine ih w3 ep3 ((hF2.tr hF3 fun x hx z => ?_).wk (fun _ _ z => z) (by omega) (by omega)) (by omega) (hV3.cg fun i _ => ?_)
      · rcases z with z | z
        · exact z
        · rcases hep with e | e
          · exact z.trans e
          · omega
      · show (6, -1) = if i = j then (6, -1) else (6, -1)
        split <;> rfl
    · have g0 := (hF2.sh o2).trans p0
      have mg := hF2.me o2 hgl
      have g1 : w2.2.1 (w0.2.2.1 + 1) 0 = (0, (dN N xs : Int)) := by rw [mg]; exact p1
      rw [ly_347_282, ly_347_284 (by first | exact gl_gr | exact gl_r6 | exact gl_r7 | assumption | rfl), ly_347_286 (by assumption), g1, ly_347_289 (by omega) (by omega) (by omega) (by omega)]
      simp only [show ¬ ((dN N xs : Int) < (dN N xs : Int)) by omega, not_false_eq_true, true_implies, false_implies, and_true, true_and]
      rw [ly_347_311 (by first | exact gl_gr | exact gl_r6 | exact gl_r7 | assumption | rfl), ly_347_313 (by first | exact gl_rg | exact gl_s6 | assumption | rfl)]
      have hle := hF.le
      have hle2 := hF2.le
      have hV3 := hV.fr hF2 hD.1 hD.2
      have hepn : ea ≠ ep ∧ w0.2.2.1 + 1 + 1 ≠ ep ∧ w0.2.2.1 < ep ∧ ep ≤ w2.2.2.1 := by
        have h1 := hV.2.2.2.2.2.2.1
        have h2 := hV2.2.2.2.2.2.2.1
        rcases hep with e | e
        · rw [e]
          exact ⟨hD.2, hD.1, by omega, by omega⟩
        · omega
      have own : ∀ x, w0.2.2.1 < x → x ≤ w2.2.2.1 → yO w2 (fun x => if x ≤ w0.2.2.1 then 0 else w0.2.2.1 + 1) (w0.2.2.1 + 1) x := fun x h1 h2 => ⟨if_neg (by omega), by omega, h2⟩
      refine hQ w2 vb cap (yW.fr hT hF2 tx.2.2.2.1 tv.2.2.2.1) ((hF.tr hF2 fun x hx z => by
        have e : x = w0.2.2.1 + 1 + 2 := z
        omega).wk (fun _ _ z => z) (by omega) (by omega)) ⟨w0.2.2.1 + 1 + 1, ea, w0.2.2.1 + 1 + 2, ep, w0.2.2.1 + 1 + 3, b, ⟨g0, ?_, ?_, ?_, ?_, ?_, ?_⟩, ⟨hV3, ?_⟩, ⟨(hF2.sh o7).trans t1, fun k _ => ?_⟩, fun a ha => ?_, hI, ⟨by omega, hepn.2.1, hD.2, hepn.1⟩, own _ (by omega) (by omega), own _ (by omega) (by omega), own _ o4 (by have := hV.2.2.2.2.2.2.1; omega), own _ (by omega) (by omega), own _ hepn.2.2.1 hepn.2.2.2, own _ (by omega) (by omega), fun a ha => own _ (hA a ha).2.1 (by have := (hA a ha).2.2; omega)⟩
      · rw [f2]; exact g1
      · rw [mg, f3]; exact p2
      · rw [mg, f5]; exact p3
      · rw [mg]; exact p4
      · rw [mg]; exact p5
      · rw [mg]; exact p6
      · rw [f2]
        exact hV2.cg fun i _ => by rw [f4]
      · rw [hF2.me o7 (by omega), f6]
        exact t2 k
      · exact (hA a ha).1.fr hF2 ((hL0.ne (hA a ha).1.1 (by decide) (by decide)).1) (hA a ha).2.2
end DU
