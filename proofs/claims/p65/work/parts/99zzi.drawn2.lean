/-! drawn: one arc -/
def dN (N : Nat) (xs : Nat → Int32) : Nat := 1 + Vq N xs 0 % 8
def dM (N : Nat) (xs : Nat → Int32) : Nat := 1 + Vq N xs 0 / 8 % 12
def dK (N : Nat) (xs : Nat → Int32) : Nat := Vq N xs 0 / 128 % 13
def dF (N : Nat) (xs : Nat → Int32) (k : Nat) : Nat := Vq N xs (1 + k) % dN N xs
def dT (N : Nat) (xs : Nat → Int32) (k : Nat) : Nat := Vq N xs (1 + k) / 8 % dN N xs
def dA (N : Nat) (xs : Nat → Int32) (k : Nat) : Nat := Vq N xs (1 + k) / 64 % dM N xs
def dH (N : Nat) (xs : Nat → Int32) (k : Nat) : Bool := decide (Vq N xs (1 + k) / 1024 % 2 = 0)
def dW (N : Nat) (xs : Nat → Int32) (k : Nat) : Nat := if dH N xs k = true then Vq N xs (1 + k) / 2048 % 100 else 1
def dB (N : Nat) (xs : Nat → Int32) (k : Nat) : Bool := decide (Vq N xs (1 + k) / 262144 % 4 = 0)
def dG (N : Nat) (xs : Nat → Int32) (k : Nat) : q_G := gd (dN N xs) (dM N xs) (dF N xs) (dT N xs) (dA N xs) (dW N xs) (dB N xs) k
def dX (N : Nat) (xs : Nat → Int32) (k : Nat) : List Nat := txl 3 ++ (dig (dN N xs) ++ (32 :: dig (dM N xs))) ++ pre (dF N xs) (dT N xs) (dA N xs) (dW N xs) (dH N xs) (dB N xs) k
theorem dX_len (N : Nat) (xs : Nat → Int32) {k : Nat} (hk : k ≤ 12) : (dX N xs k).length ≤ 323 := by
  unfold dX
  have h1 := dig_l2 (dN N xs)
  have h2 := dig_l2 (dM N xs)
  have h3 := pre_len (dF N xs) (dT N xs) (dA N xs) (dW N xs) (dH N xs) (dB N xs) k
  have e3 : (txl 3).length = 6 := by decide
  simp only [List.length_append, List.length_cons]
  omega
theorem dX_s (N : Nat) (xs : Nat → Int32) (k : Nat) : dX N xs (k + 1) = dX N xs k ++ stx (dF N xs) (dT N xs) (dA N xs) (dW N xs) (dH N xs) (dB N xs) k := by
  show _ ++ (pre _ _ _ _ _ _ k ++ stx _ _ _ _ _ _ k) = _
  rw [← List.append_assoc]
  rfl
theorem dr_rg (N : Nat) (xs : Nat → Int32) : 1 ≤ dN N xs ∧ dN N xs ≤ 8 ∧ 1 ≤ dM N xs ∧ dM N xs ≤ 12 ∧ dK N xs ≤ 12 := by
  have h1 := Nat.mod_lt (Vq N xs 0) (show 8 > 0 by decide)
  have h2 := Nat.mod_lt (Vq N xs 0 / 8) (show 12 > 0 by decide)
  have h3 := Nat.mod_lt (Vq N xs 0 / 128) (show 13 > 0 by decide)
  unfold dN dM dK
  omega
theorem dk_rg (N : Nat) (xs : Nat → Int32) (k : Nat) : dF N xs k < dN N xs ∧ dT N xs k < dN N xs ∧ dA N xs k < dM N xs ∧ dW N xs k ≤ 99 ∧ (¬ dH N xs k = true → dW N xs k = 1) := by
  obtain ⟨h1, h2, h3, h4, h5⟩ := dr_rg N xs
  refine ⟨Nat.mod_lt _ h1, Nat.mod_lt _ h1, Nat.mod_lt _ h3, ?_, fun h => if_neg h⟩
  unfold dW
  split
  · have := Nat.mod_lt (Vq N xs (1 + k) / 2048) (show 100 > 0 by decide)
    omega
  · decide
theorem gd_S (n m : Nat) (f t a w : Nat → Nat) (mk : Nat → Bool) (k : Nat) : qS (gd n m f t a w mk k) < 2 ^ k := by
  induction k with
  | zero => show 0 < 1; decide
  | succ k ih =>
    have h2 : 2 ^ k < 2 ^ (k + 1) := Nat.pow_lt_pow_right (by decide) (by omega)
    unfold gd
    split
    · exact Nat.or_lt_two_pow (Nat.lt_trans ih h2) h2
    · exact Nat.lt_trans ih h2
section DT
variable {N : Nat} {xs : Nat → Int32} {d : Nat} {w0 w : gy_W} {Q : gy_O → Prop} {C S sb vb0 g la ea lp t k : Nat} {b : Nat → Nat} {l9 l10 : gg_V} {V0 : Int}
theorem yD.wk {E : gy_W → Prop} {n m C' S' : Nat} {G : q_G} {l : List Nat} (h : yD w0 w C S sb vb0 g n m la ea lp t b G E l) (hC : C ≤ C') (hS : S ≤ S') : yD w0 w C' S' sb vb0 g n m la ea lp t b G E l := by
  obtain ⟨vb, cap, hT, hvb, hF, hG, hE⟩ := h
  exact ⟨vb, cap, hT, hvb, hF.wk (fun _ _ z => z) hC hS, hG, hE⟩
/-- a field of what stands beside changes -/
theorem yD.fld {E E' : gy_W → Prop} {n m a : Nat} {G G' : q_G} {l : List Nat} {w' : gy_W} (h : yD w0 w C S sb vb0 g n m la ea lp t b G E l) (hF : yF (fun x => x = a) 0 0 w w') (ha : w.1 a = (0, 0, 7)) (hac : w0.2.2.1 < a) (hG : yGq w' w0.2.2.1 g n m la ea lp t b G') (hE : E' w') : yD w0 w' C S sb vb0 g n m la ea lp t b G' E' l := by
  obtain ⟨vb, cap, hT, hvb, hF0, _, _⟩ := h
  have ne1 : sb ≠ a := by
    rintro rfl
    have := hT.1.1
    rw [ha] at this
    exact absurd this (by decide)
  have ne2 : vb ≠ a := by
    rintro rfl
    have := hT.2.1
    rw [ha] at this
    exact absurd (congrArg Prod.fst this) (by show (0 : Nat) ≠ 3; decide)
  exact ⟨vb, cap, yW.fr hT hF ne1 ne2, hvb, hF0.tr hF fun x hx z => by
    have e : x = a := z
    omega, hG, hE⟩
/-- one arc: from 89 to the loop's head -/
theorem yd_arc (hN : N ≤ 260) (hk : k < 12) (h : yD w0 w C S sb vb0 g (dN N xs) (dM N xs) la ea lp t b (dG N xs k) (fun _ => True) (dX N xs k))
    (hQ : ∀ w' ea' b' l9 l10, yD w0 w' (C + 12) (S + 13040) sb vb0 g (dN N xs) (dM N xs) la ea' lp t b' (dG N xs (k + 1)) (fun _ => True) (dX N xs (k + 1)) → wy N xs (d + 8) 347 73 [gr 0, (0, 0), gr sb, (0, 8), (0, 12), (0, 12), gr g, (0, V0), (0, ((k + 1 : Nat) : Int)), l9, l10] [] w' Q) :
    wy N xs (d + 8) 347 89 [gr 0, (0, 0), gr sb, (0, 8), (0, 12), (0, 12), gr g, (0, V0), (0, (k : Int)), l9, l10] [] w Q := by
  obtain ⟨r1, r2, r3, r4, r5⟩ := dr_rg N xs
  obtain ⟨s1, s2, s3, s4, s5⟩ := dk_rg N xs k
  obtain ⟨eV, hV⟩ := Vq_e N xs (1 + k)
  have hlen := dX_len N xs (k := k) (by omega)
  have e1 : io_add 0 1 = 1 := by decide
  have e2 : io_add 1 (k : Int) = ((1 + k : Nat) : Int) := by rw [io_add_o (by omega) (by omega)]; omega
  have f1 : (((Vq N xs (1 + k) : Nat) : Int)).tmod (dN N xs : Int) = ((dF N xs k : Nat) : Int) := rfl
  have f2 : (((Vq N xs (1 + k) : Nat) : Int)).tdiv 8 = ((Vq N xs (1 + k) / 8 : Nat) : Int) := rfl
  have f3 : (((Vq N xs (1 + k) / 8 : Nat) : Int)).tmod (dN N xs : Int) = ((dT N xs k : Nat) : Int) := rfl
  have f4 : (((Vq N xs (1 + k) : Nat) : Int)).tdiv 64 = ((Vq N xs (1 + k) / 64 : Nat) : Int) := rfl
  have f5 : (((Vq N xs (1 + k) / 64 : Nat) : Int)).tmod (dM N xs : Int) = ((dA N xs k : Nat) : Int) := rfl
  have q8 : Vq N xs (1 + k) / 8 ≤ Vq N xs (1 + k) := Nat.div_le_self _ _
  have q64 : Vq N xs (1 + k) / 64 ≤ Vq N xs (1 + k) := Nat.div_le_self _ _
  obtain ⟨vb, cap, hT, hvb, hF, hG, _⟩ := id h
  obtain ⟨⟨g0, g1, g2, g3, g4, g5, g6⟩, hVl, _⟩ := id hG
  have gc : g ≤ w.2.2.1 := hG.2.2.2.2.2.2.2.1.2.1
  rw [ly_347_89 (by first | exact gl_gr | exact gl_r6 | exact gl_r7 | assumption | rfl), ly_347_90, ly_347_91, ly_347_92, e1, ly_347_93, ly_347_95, e2, ly_347_96 (by first | exact gl_gr | exact gl_r6 | exact gl_r7 | assumption | rfl), wy_at hN (by omega), wz_1, eV, ly_347_99, ly_347_101]
  obtain ⟨w1, ew1, hF1, c1, z1, zz1⟩ := mk_ex w (0, 0, 7) (fun j => gy_df (gg_ft 7 j)) (gg_nf 7)
  have mg := hF1.me gc id
  have g01 := (hF1.sh gc).trans g0
  have g11 : w1.2.1 g 0 = (0, (dN N xs : Int)) := by rw [mg]; exact g1
  have g21 : w1.2.1 g 1 = (0, (dM N xs : Int)) := by rw [mg]; exact g2
  rw [ew1, ly_347_104 (by first | exact gl_gr | exact gl_r6 | exact gl_r7 | assumption | rfl), ly_347_105, ly_347_107 (by first | exact gl_gr | exact gl_r6 | exact gl_r7 | assumption | rfl), ly_347_109 (by assumption), g11, ly_347_112 (by omega) (by omega) (by omega) (by omega), f1, ly_347_113, ly_347_115, ly_347_117 (by omega) (by omega) (by omega) (by omega), f2, ly_347_118 (by first | exact gl_gr | exact gl_r6 | exact gl_r7 | assumption | rfl), ly_347_120 (by assumption), g11, ly_347_123 (by omega) (by omega) (by omega) (by omega), f3, ly_347_124, ly_347_126, ly_347_128 (by omega) (by omega) (by omega) (by omega), f4, ly_347_129 (by first | exact gl_gr | exact gl_r6 | exact gl_r7 | assumption | rfl), ly_347_131 (by assumption), g21, ly_347_134 (by omega) (by omega) (by omega) (by omega), f5, ly_347_135, ly_347_136]
  refine wy_arc2 (wa := 1) z1 (zz1 4) fun w2 hF2 c2 hA2 => ?_
  have nf := nf_7
  have hle := hF.le
  have hc0 : w0.2.2.1 ≤ w.2.2.1 := hle
  have hF02 : yF (fun _ => False) 1 12 w w2 := (hF1.tr hF2 fun x hx z => by
    have e : x = w.2.2.1 + 1 := z
    omega).wk (fun _ _ z => z) (by omega) (by omega)
  have cc2 : w2.2.2.1 = w.2.2.1 + 1 := by rw [c2]; exact c1
  have hbn : ∀ j, j < k → b j ≠ w.2.2.1 + 1 := fun j hj => by
    have := (hG.2.2.2.2.1 j (by rw [show dG N xs k = gd (dN N xs) (dM N xs) (dF N xs) (dT N xs) (dA N xs) (dW N xs) (dB N xs) k from rfl, (gd_K _ _ _ _ _ _ _ _).1]; exact hj)).2.2
    omega
  have hD2 : yD w0 w2 (C + 1) (S + 12) sb vb0 g (dN N xs) (dM N xs) la ea lp t b (dG N xs k) (yEa (w.2.2.1 + 1) (dF N xs k) (dT N xs k) (dA N xs k) 1 false k b w0.2.2.1) (dX N xs k) :=
    ⟨vb, cap, yW.fr hT hF02 id id, hvb, hF.tr hF02 fun _ _ z => z.elim, hG.fr hF02 id id id id id fun _ _ => id, hA2, by omega, hbn, by omega⟩
  have sb2 := hD2.sb1
  have f6 : ((k : Int)).tmod 2 = ((k % 2 : Nat) : Int) := rfl
  obtain ⟨sK, hsK⟩ : ∃ sK, sK = (if k % 2 = 0 then 4 else 5) := ⟨_, rfl⟩
  have hs7 : sK < 7 := by rw [hsK]; split <;> decide
  have htx : txl sK = (if k % 2 = 0 then txl 4 else txl 5) := by rw [hsK]; split <;> rfl
  have hbr : ∀ L, wy N xs (d + 8) 347 146 L [(0, ((k % 2 : Nat) : Int)), gr sb] w2 Q ↔ wy N xs (d + 8) 347 156 L [(4, (sK : Int)), gr sb] w2 Q := by
    intro L
    rw [ly_347_146 (by omega) (by omega), hsK]
    by_cases hk2 : k % 2 = 0
    · simp only [show ((k % 2 : Nat) : Int) = 0 by omega, not_true_eq_false, true_implies, false_implies, and_true, true_and]
      rw [if_pos hk2, ly_347_149, ly_347_151]
      rfl
    · simp only [show ¬ (((k % 2 : Nat) : Int) = 0) by omega, not_false_eq_true, true_implies, false_implies, and_true, true_and]
      rw [if_neg hk2, ly_347_154]
      rfl
  rw [wz_0, ly_347_139 (by first | exact gl_gr | exact gl_r6 | exact gl_r7 | assumption | rfl), ly_347_141 (by first | exact gl_gr | exact gl_r6 | exact gl_r7 | assumption | rfl), ly_347_142, ly_347_144, ly_347_145 (by omega) (by omega) (by omega) (by omega), f6, hbr, ly_347_156 (by first | exact gl_gr | exact gl_r6 | exact gl_r7 | assumption | rfl) (by first | exact gl_gr | exact gl_r6 | exact gl_r7 | assumption | rfl) (by first | exact gl_cl (by assumption) rfl | exact gl_l6 (by omega) (by omega) | exact gl_l4 (by omega))]
  refine yd_str hD2 st_arc hs7 (by omega) fun w3 hD3 => ?_
  rw [htx] at hD3
  have hl3 : ((if k % 2 = 0 then txl 4 else txl 5) : List Nat).length ≤ 7 := by split <;> decide
  obtain ⟨a1, a2, a3, a4, a5, a6⟩ := hD3.gE.1
  have sb3 := hD3.sb1
  rw [wz_1, ly_347_159 (by first | exact gl_gr | exact gl_r6 | exact gl_r7 | assumption | rfl), ly_347_161 (by assumption), a2, ly_347_164 (by first | exact gl_gr | exact gl_r6 | exact gl_r7 | assumption | rfl) (by first | exact gl_cl (by assumption) rfl | exact gl_l6 (by omega) (by omega) | exact gl_l4 (by omega))]
  have d1 := dig_l2 (dF N xs k)
  have d2 := dig_l2 (dT N xs k)
  have d3 := dig_l2 (dA N xs k)
  have d4 := dig_l2 (dW N xs k)
  refine yd_num hD3 st_arc (by omega) (by rw [List.length_append]; omega) fun w4 hD4 => ?_
  have sb4 := hD4.sb1
  rw [wz_1, ly_347_167, ly_347_169 (by first | exact gl_gr | exact gl_r6 | exact gl_r7 | assumption | rfl) (by first | exact gl_cl (by assumption) rfl | exact gl_l6 (by omega) (by omega) | exact gl_l4 (by omega))]
  refine yd_sp hD4 st_arc (by simp only [List.length_append]; omega) fun w5 hD5 => ?_
  obtain ⟨a1, a2, a3, a4, a5, a6⟩ := hD5.gE.1
  have sb5 := hD5.sb1
  rw [wz_1, ly_347_172 (by first | exact gl_gr | exact gl_r6 | exact gl_r7 | assumption | rfl), ly_347_174 (by assumption), a3, ly_347_177 (by first | exact gl_gr | exact gl_r6 | exact gl_r7 | assumption | rfl) (by first | exact gl_cl (by assumption) rfl | exact gl_l6 (by omega) (by omega) | exact gl_l4 (by omega))]
  refine yd_num hD5 st_arc (by omega) (by simp only [List.length_append, List.length_cons, List.length_nil]; omega) fun w6 hD6 => ?_
  have sb6 := hD6.sb1
  rw [wz_1, ly_347_180, ly_347_182 (by first | exact gl_gr | exact gl_r6 | exact gl_r7 | assumption | rfl) (by first | exact gl_cl (by assumption) rfl | exact gl_l6 (by omega) (by omega) | exact gl_l4 (by omega))]
  refine yd_sp hD6 st_arc (by simp only [List.length_append, List.length_cons, List.length_nil]; omega) fun w7 hD7 => ?_
  obtain ⟨a1, a2, a3, a4, a5, a6⟩ := hD7.gE.1
  have sb7 := hD7.sb1
  rw [wz_1, ly_347_185 (by first | exact gl_gr | exact gl_r6 | exact gl_r7 | assumption | rfl), ly_347_187 (by assumption), a4, ly_347_190 (by first | exact gl_gr | exact gl_r6 | exact gl_r7 | assumption | rfl) (by first | exact gl_cl (by assumption) rfl | exact gl_l6 (by omega) (by omega) | exact gl_l4 (by omega))]
  refine yd_num hD7 st_arc (by omega) (by simp only [List.length_append, List.length_cons, List.length_nil]; omega) fun w8 hD8 => ?_
  rw [show dX N xs k ++ (if k % 2 = 0 then txl 4 else txl 5) ++ dig (dF N xs k) ++ [32] ++ dig (dT N xs k) ++ [32] ++ dig (dA N xs k) = dX N xs k ++ ((if k % 2 = 0 then txl 4 else txl 5) ++ (dig (dF N xs k) ++ (32 :: (dig (dT N xs k) ++ (32 :: dig (dA N xs k)))))) by simp only [List.append_assoc, List.cons_append, List.nil_append]] at hD8
  generalize hU : ((if k % 2 = 0 then txl 4 else txl 5) ++ (dig (dF N xs k) ++ (32 :: (dig (dT N xs k) ++ (32 :: dig (dA N xs k)))))) = U at hD8
  have hUl : U.length ≤ 15 := by
    rw [← hU]
    simp only [List.length_append, List.length_cons]
    omega
  have hK : qK (dG N xs k) = k := (gd_K _ _ _ _ _ _ _ _).1
  have g9 : (((Vq N xs (1 + k) : Nat) : Int)).tdiv 1024 = ((Vq N xs (1 + k) / 1024 : Nat) : Int) := rfl
  have g10 : (((Vq N xs (1 + k) / 1024 : Nat) : Int)).tmod 2 = ((Vq N xs (1 + k) / 1024 % 2 : Nat) : Int) := rfl
  have q1024 : Vq N xs (1 + k) / 1024 ≤ Vq N xs (1 + k) := Nat.div_le_self _ _
  -- from 234 on
  have go : ∀ w9, yD w0 w9 (C + 9) (S + 10412) sb vb0 g (dN N xs) (dM N xs) la ea lp t b (dG N xs k) (yEa (w.2.2.1 + 1) (dF N xs k) (dT N xs k) (dA N xs k) (dW N xs k) false k b w0.2.2.1) (dX N xs k ++ (U ++ (if dH N xs k = true then 32 :: dig (dW N xs k) else []))) →
      wy N xs (d + 8) 347 234 [gr 0, (0, 0), gr sb, (0, 8), (0, 12), (0, 12), gr g, (0, V0), (0, (k : Int)), (0, ((Vq N xs (1 + k) : Nat) : Int)), gr (w.2.2.1 + 1)] [] w9 Q := by
    intro w9 hD9
    obtain ⟨vb9, cap9, hT9, hvb9, hF9, hG9, hE9⟩ := id hD9
    obtain ⟨⟨p0, p1, p2, p3, p4, p5, p6⟩, hV9, _⟩ := id hG9
    obtain ⟨hA9, ha9, hn9, hc9⟩ := hE9
    have hla9 := hV9.1
    rw [hK] at hV9
    obtain ⟨x1, x2, x3, x4, x5⟩ := hG9.sep hT9.1.1 (by decide) (by decide) (by decide) (by decide)
    obtain ⟨y1, y2, y3, y4, y5⟩ := hG9.sep hT9.2.1 (by decide) (by decide) (by decide) (by decide)
    have hn := hV9.ne hA9.1 (by decide) (by decide)
    rw [ly_347_234 (by first | exact gl_gr | exact gl_r6 | exact gl_r7 | assumption | rfl), ly_347_236 (by assumption), p4, ly_347_239 (by first | exact gl_gr | exact gl_r6 | exact gl_r7 | assumption | rfl), ly_347_241 (by first | exact gl_gr | exact gl_r6 | exact gl_r7 | assumption | rfl) (by first | exact gl_gr | exact gl_r6 | exact gl_r7 | assumption | rfl) (by first | exact gl_cl (by assumption) rfl | exact gl_l6 (by omega) (by omega) | exact gl_l4 (by omega))]
    refine wv_add hV9 (by omega) (yE.a ha9 hA9.1) fun w10 ea2 hea2 hF10 hV10 => ?_
    have hle10 := hF10.le
    have hle9 := hF9.le
    have hA10 := hA9.fr hF10 (fun z => z.elim hn.1 hn.2) ha9
    have hcla : w0.2.2.1 < la := hG9.2.2.2.2.2.2.2.1.2.2.1
    have hcea : w0.2.2.1 < ea := hG9.2.2.2.2.2.2.2.1.2.2.2.1
    have hG10 := hG9.add (by rw [hK]; exact gd_S _ _ _ _ _ _ _ _) hF10 hc9 (by omega) (by rw [hK]; exact hn9) hea2 (by rw [hK]; exact hV10) (fun j => by rw [hK]) hA10
    rw [hK] at hG10
    have hT10 : yTx w10 sb vb9 cap9 (dX N xs k ++ (U ++ (if dH N xs k = true then 32 :: dig (dW N xs k) else []))) := yW.fr hT9 hF10 (fun z => z.elim x2 x3) (fun z => z.elim y2 y3)
    have hF010 : yF (fun x => x = sb ∨ x = vb0) (C + 10) (S + 10427) w0 w10 := (hF9.tr hF10 fun x hx z => by
      rcases z with z | z <;> omega).wk (fun _ _ z => z) (by omega) (by omega)
    have hD10 : yD w0 w10 (C + 10) (S + 10427) sb vb0 g (dN N xs) (dM N xs) la ea2 lp t (qup b k (w.2.2.1 + 1)) (qput (dG N xs k) (dF N xs k) (dT N xs k) (dA N xs k) (dW N xs k)) (fun _ => True) (dX N xs k ++ (U ++ (if dH N xs k = true then 32 :: dig (dW N xs k) else []))) := ⟨vb9, cap9, hT10, hvb9, hF010, hG10, trivial⟩
    have g11 : (((Vq N xs (1 + k) : Nat) : Int)).tdiv 262144 = ((Vq N xs (1 + k) / 262144 : Nat) : Int) := rfl
    have g12 : (((Vq N xs (1 + k) / 262144 : Nat) : Int)).tmod 4 = ((Vq N xs (1 + k) / 262144 % 4 : Nat) : Int) := rfl
    have q26 : Vq N xs (1 + k) / 262144 ≤ Vq N xs (1 + k) := Nat.div_le_self _ _
    have e0 : io_add (k : Int) 1 = ((k + 1 : Nat) : Int) := by rw [io_add_o (by omega) (by omega)]; omega
    have hWl : ((if dH N xs k = true then 32 :: dig (dW N xs k) else []) : List Nat).length ≤ 3 := by
      split
      · rw [List.length_cons]
        omega
      · decide
    have hstx : stx (dF N xs) (dT N xs) (dA N xs) (dW N xs) (dH N xs) (dB N xs) k = U ++ (if dH N xs k = true then 32 :: dig (dW N xs k) else []) ++ stM (dB N xs) k := by
      rw [← hU]
      unfold stx
      simp only [List.append_assoc, List.cons_append]
    rw [wz_1, ly_347_244, ly_347_245, ly_347_247, ly_347_249 (by omega) (by omega) (by omega) (by omega), g11, ly_347_250, ly_347_251 (by omega) (by omega) (by omega) (by omega), g12]
    by_cases hm : Vq N xs (1 + k) / 262144 % 4 = 0
    · have hB : dB N xs k = true := decide_eq_true hm
      rw [ly_347_252 (by omega) (by omega)]
      simp only [show ((Vq N xs (1 + k) / 262144 % 4 : Nat) : Int) = 0 by omega, not_true_eq_false, true_implies, false_implies, and_true, true_and]
      have hAk := (hG10.2.2.2.2.1 k (by show k < qK (dG N xs k) + 1; omega)).1
      rw [qup_e] at hAk
      have hs7 := hA10.1
      rw [ly_347_255 (by first | exact gl_gr | exact gl_r6 | exact gl_r7 | assumption | rfl), ly_347_257, ly_347_258 (by assumption) (by omega)]
      obtain ⟨w11, ew11, hF11, c11, z11, zo11, s11⟩ := st_ex w10 (w.2.2.1 + 1) 4 (0, 1)
      have hA11 : yA w11 (w.2.2.1 + 1) (dF N xs k) (dT N xs k) (dA N xs k) (dW N xs k) true := by
        rw [← ew11]
        exact hA10.s4 (k' := true)
      have hG11 := hG10.mk (w3 := w11) (k := k) (by show k < qK (dG N xs k) + 1; omega) (by rw [qup_e]; exact hF11) (by
        rw [qup_e]
        have e1 : qF (qput (dG N xs k) (dF N xs k) (dT N xs k) (dA N xs k) (dW N xs k)) k = dF N xs k := by
          show qup _ _ _ k = _
          rw [hK, qup_e]
        have e2 : qT (qput (dG N xs k) (dF N xs k) (dT N xs k) (dA N xs k) (dW N xs k)) k = dT N xs k := by
          show qup _ _ _ k = _
          rw [hK, qup_e]
        have e3 : qA (qput (dG N xs k) (dF N xs k) (dT N xs k) (dA N xs k) (dW N xs k)) k = dA N xs k := by
          show qup _ _ _ k = _
          rw [hK, qup_e]
        have e4 : qW (qput (dG N xs k) (dF N xs k) (dT N xs k) (dA N xs k) (dW N xs k)) k = dW N xs k := by
          show qup _ _ _ k = _
          rw [hK, qup_e]
        rw [e1, e2, e3, e4]
        exact hA11)
      have hD11 := hD10.fld (E' := fun _ => True) hF11 hA10.1 (by omega) hG11 trivial
      have sb11 := hD11.sb1
      rw [ew11, ly_347_261 (by first | exact gl_gr | exact gl_r6 | exact gl_r7 | assumption | rfl), ly_347_262, show gtx 6 = (4, ((6 : Nat) : Int)) from rfl, ly_347_264 (by first | exact gl_gr | exact gl_r6 | exact gl_r7 | assumption | rfl) (by first | exact gl_gr | exact gl_r6 | exact gl_r7 | assumption | rfl) (by first | exact gl_cl (by assumption) rfl | exact gl_l6 (by omega) (by omega) | exact gl_l4 (by omega))]
      refine yd_str (s := 6) hD11 st_True (by decide) (by simp only [List.length_append]; omega) fun w12 hD12 => ?_
      have sb12 := hD12.sb1
      have e6 : (txl 6).length = 6 := by decide
      rw [wz_1, ly_347_267, ly_347_269 (by first | exact gl_gr | exact gl_r6 | exact gl_r7 | assumption | rfl) (by first | exact gl_cl (by assumption) rfl | exact gl_l6 (by omega) (by omega) | exact gl_l4 (by omega))]
      refine yd_num hD12 st_True (by omega) (by simp only [List.length_append]; omega) fun w13 hD13 => ?_
      rw [wz_1, ly_347_272 (by first | exact gl_gr | exact gl_r6 | exact gl_r7 | assumption | rfl), ly_347_273, e0, ly_347_276]
      have hg : dG N xs (k + 1) = qsetS (qput (dG N xs k) (dF N xs k) (dT N xs k) (dA N xs k) (dW N xs k)) (qS (dG N xs k) ||| 2 ^ k) := if_pos hB
      refine hQ w13 ea2 (qup b k (w.2.2.1 + 1)) _ _ ?_
      rw [hg, dX_s, hstx, show stM (dB N xs) k = txl 6 ++ dig k from if_pos hB]
      have := hD13.wk (C' := C + 12) (S' := S + 13040) (by omega) (by omega)
      simp only [List.append_assoc] at this ⊢
      exact this
    · have hB : ¬ dB N xs k = true := fun z => hm (of_decide_eq_true z)
      rw [ly_347_252 (by omega) (by omega)]
      simp only [show ¬ (((Vq N xs (1 + k) / 262144 % 4 : Nat) : Int) = 0) by omega, not_false_eq_true, true_implies, false_implies, and_true, true_and]
      rw [ly_347_273, e0, ly_347_276]
      have hg : dG N xs (k + 1) = qput (dG N xs k) (dF N xs k) (dT N xs k) (dA N xs k) (dW N xs k) := if_neg hB
      refine hQ w10 ea2 (qup b k (w.2.2.1 + 1)) _ _ ?_
      rw [hg, dX_s, hstx, show stM (dB N xs) k = [] from if_neg hB, List.append_nil]
      exact hD10.wk (by omega) (by omega)
  rw [wz_1, ly_347_193 (by first | exact gl_gr | exact gl_r6 | exact gl_r7 | assumption | rfl), ly_347_194, ly_347_196, ly_347_199 (by omega) (by omega) (by omega) (by omega), g9, ly_347_200, ly_347_201 (by omega) (by omega) (by omega) (by omega), g10]
  by_cases hh : Vq N xs (1 + k) / 1024 % 2 = 0
  · have hH : dH N xs k = true := decide_eq_true hh
    have g13 : (((Vq N xs (1 + k) : Nat) : Int)).tdiv 2048 = ((Vq N xs (1 + k) / 2048 : Nat) : Int) := rfl
    have g14 : (((Vq N xs (1 + k) / 2048 : Nat) : Int)).tmod 100 = ((Vq N xs (1 + k) / 2048 % 100 : Nat) : Int) := rfl
    have q20 : Vq N xs (1 + k) / 2048 ≤ Vq N xs (1 + k) := Nat.div_le_self _ _
    have hW : Vq N xs (1 + k) / 2048 % 100 = dW N xs k := (if_pos hH).symm
    have hA8 := hD8.gE.1
    have hs8 := hA8.1
    rw [ly_347_202 (by omega) (by omega)]
    simp only [show ((Vq N xs (1 + k) / 1024 % 2 : Nat) : Int) = 0 by omega, not_true_eq_false, true_implies, false_implies, and_true, true_and]
    rw [ly_347_205 (by first | exact gl_gr | exact gl_r6 | exact gl_r7 | assumption | rfl), ly_347_207, ly_347_209, ly_347_212 (by omega) (by omega) (by omega) (by omega), g13, ly_347_213, ly_347_215 (by omega) (by omega) (by omega) (by omega), g14, hW, ly_347_216 (by assumption)]
    obtain ⟨w9, ew9, hF9, c9, z9, zo9, s9⟩ := st_ex w8 (w.2.2.1 + 1) 3 (0, (dW N xs k : Int))
    have hA9 : yA w9 (w.2.2.1 + 1) (dF N xs k) (dT N xs k) (dA N xs k) (dW N xs k) false := by
      rw [← ew9]
      exact hA8.s3
    have hG8 := hD8.gG
    obtain ⟨u1, u2, u3, u4, u5⟩ := hG8.sep hA8.1 (by decide) (by decide) (by decide) (by decide)
    have hG9 := hG8.fr hF9 (Ne.symm u1) (Ne.symm u2) (Ne.symm u3) (Ne.symm u4) (Ne.symm u5) (fun a ha => by
      rw [hK] at ha
      exact hD8.gE.2.2.1 a ha)
    have hD9 := hD8.fld (E' := yEa (w.2.2.1 + 1) (dF N xs k) (dT N xs k) (dA N xs k) (dW N xs k) false k b w0.2.2.1) hF9 hA8.1 hD8.gE.2.2.2 hG9 ⟨hA9, by rw [c9]; exact hD8.gE.2.1, hD8.gE.2.2.1, hD8.gE.2.2.2⟩
    have sb9 := hD9.sb1
    rw [ew9, ly_347_219 (by first | exact gl_gr | exact gl_r6 | exact gl_r7 | assumption | rfl), ly_347_220, ly_347_222 (by first | exact gl_gr | exact gl_r6 | exact gl_r7 | assumption | rfl) (by first | exact gl_cl (by assumption) rfl | exact gl_l6 (by omega) (by omega) | exact gl_l4 (by omega))]
    refine yd_sp hD9 st_arc (by rw [List.length_append]; omega) fun w10 hD10 => ?_
    obtain ⟨a1, a2, a3, a4, a5, a6⟩ := hD10.gE.1
    have sb10 := hD10.sb1
    rw [wz_1, ly_347_225 (by first | exact gl_gr | exact gl_r6 | exact gl_r7 | assumption | rfl), ly_347_227 (by assumption), a5, ly_347_230 (by first | exact gl_gr | exact gl_r6 | exact gl_r7 | assumption | rfl) (by first | exact gl_cl (by assumption) rfl | exact gl_l6 (by omega) (by omega) | exact gl_l4 (by omega))]
    refine yd_num hD10 st_arc (by omega) (by simp only [List.length_append, List.length_cons, List.length_nil]; omega) fun w11 hD11 => ?_
    rw [wz_1, ly_347_233 (by first | exact gl_gr | exact gl_r6 | exact gl_r7 | assumption | rfl)]
    refine go w11 ?_
    rw [if_pos hH]
    have := hD11.wk (C' := C + 9) (S' := S + 10412) (by omega) (by omega)
    simp only [List.append_assoc, List.cons_append, List.nil_append] at this ⊢
    exact this
  · have hH : ¬ dH N xs k = true := fun z => hh (of_decide_eq_true z)
    have hW : dW N xs k = 1 := if_neg hH
    rw [ly_347_202 (by omega) (by omega)]
    simp only [show ¬ (((Vq N xs (1 + k) / 1024 % 2 : Nat) : Int) = 0) by omega, not_false_eq_true, true_implies, false_implies, and_true, true_and]
    refine go w8 ?_
    rw [if_neg hH, List.append_nil, hW]
    exact hD8.wk (by omega) (by omega)
end DT
