/-! a step of the law -/
section SG
variable {N : Nat} {xs : Nat → Int32} {d : Nat} {M : gg_M} {cc cs : Nat} {Q : gg_O → Prop} {A : q_A} {i : Nat}
theorem wk_0 (hN : N ≤ 2560) (hi : i + 5 ≤ N) (hI : q_I M A) (hV : q_V M A) (hA : a_ok A) (hK : ∀ A', a_ok A' → q_lK N xs (d + 32) i A' cc cs Q) (l5 l6 l7 : gg_V) :
    wp N xs (d + 32) 287 300 [gr 0, gr 1, gr 142, gr 157, (0, (i : Int)), l5, l6, l7] [] (gk_R, M, 158, cc, cs) Q := by
  obtain ⟨v, hv, he⟩ := w_vr (b_0 (A := A) (w := q_long (xs (i + 1)) (xs (i + 2))) hA)
  exact wl_0 (A := A) (v := v) hN hi hv rfl hV (q_cS_v he (cq_87 hI)) (fun M1 cc cs hV1 => q_mS_v he (mq_176 hV1)) (hK _ (ok_app hA)) l5 l6 l7
theorem wk_1 (hN : N ≤ 2560) (hi : i + 5 ≤ N) (hI : q_I M A) (hV : q_V M A) (hA : a_ok A) (hK : ∀ A', a_ok A' → q_lK N xs (d + 32) i A' cc cs Q) (l5 l6 l7 : gg_V) :
    wp N xs (d + 32) 287 357 [gr 0, gr 1, gr 142, gr 157, (0, (i : Int)), l5, l6, l7] [] (gk_R, M, 158, cc, cs) Q := by
  obtain ⟨v, hv, he⟩ := w_vr (b_1 (A := A) hA hI.2.2.2.2.1.2.1)
  exact wl_1 (A := A) (v := v) hN hi hv rfl hV (q_cS_v he (cq_88 hI hA)) (fun M1 cc cs hV1 => q_mS_v he (mq_188 hV1 hA)) (hK _ (ok_load hA)) l5 l6 l7
theorem wk_2 (hN : N ≤ 2560) (hi : i + 5 ≤ N) (hI : q_I M A) (hV : q_V M A) (hA : a_ok A) (hK : ∀ A', a_ok A' → q_lK N xs (d + 32) i A' cc cs Q) (l5 l6 l7 : gg_V) :
    wp N xs (d + 32) 287 370 [gr 0, gr 1, gr 142, gr 157, (0, (i : Int)), l5, l6, l7] [] (gk_R, M, 158, cc, cs) Q := by
  obtain ⟨v, hv, he⟩ := w_vr (b_2 (A := A) hA)
  exact wl_2 (A := A) (v := v) hN hi hv rfl hV (q_cS_v he (cq_89 hI hA)) (fun M1 cc cs hV1 => q_mS_v he (mq_189 hV1 hA)) (hK _ hA) l5 l6 l7
theorem wk_3 (hN : N ≤ 2560) (hi : i + 5 ≤ N) (hI : q_I M A) (hV : q_V M A) (hA : a_ok A) (hK : ∀ A', a_ok A' → q_lK N xs (d + 32) i A' cc cs Q) (l5 l6 l7 : gg_V) :
    wp N xs (d + 32) 287 383 [gr 0, gr 1, gr 142, gr 157, (0, (i : Int)), l5, l6, l7] [] (gk_R, M, 158, cc, cs) Q := by
  obtain ⟨v, hv, he⟩ := w_vr (b_3 (A := A) hA)
  exact wl_3 (A := A) (v := v) hN hi hv rfl hV (q_cS_v he (cq_90 hI hA)) (fun M1 cc cs hV1 => q_mS_v he (mq_190 hV1 hA)) (hK _ hA) l5 l6 l7
theorem wk_4 (hN : N ≤ 2560) (hi : i + 5 ≤ N) (hI : q_I M A) (hV : q_V M A) (hA : a_ok A) (hK : ∀ A', a_ok A' → q_lK N xs (d + 32) i A' cc cs Q) (l5 l6 l7 : gg_V) :
    wp N xs (d + 32) 287 396 [gr 0, gr 1, gr 142, gr 157, (0, (i : Int)), l5, l6, l7] [] (gk_R, M, 158, cc, cs) Q := by
  have r1 := i32_rg (xs (i + 1))
  obtain ⟨v, hv, he⟩ := w_vr (b_4 (A := A) (x := (xs (i + 1)).toInt) hA)
  exact wl_4 (A := A) (v := v) hN hi hv h_n hV (q_cS_v he (cq_91 hI hA r1.1 r1.2)) (fun M1 cc cs hV1 => q_mS_v he (mq_192 hV1 hA r1.1 r1.2)) (hK _ hA) l5 l6 l7
theorem wk_5 (hN : N ≤ 2560) (hi : i + 5 ≤ N) (hI : q_I M A) (hV : q_V M A) (hA : a_ok A) (hK : ∀ A', a_ok A' → q_lK N xs (d + 32) i A' cc cs Q) (l5 l6 l7 : gg_V) :
    wp N xs (d + 32) 287 452 [gr 0, gr 1, gr 142, gr 157, (0, (i : Int)), l5, l6, l7] [] (gk_R, M, 158, cc, cs) Q := by
  have r1 := i32_rg (xs (i + 1))
  have r2 := i32_rg (xs (i + 2))
  obtain ⟨v, hv, he⟩ := w_vr (b_5 (A := A) (x := (xs (i + 1)).toInt) (y := (xs (i + 2)).toInt) hA)
  exact wl_5 (A := A) (v := v) hN hi hv h_aw hV (q_cS_v he (cq_92 hI hA r1.1 r1.2 r2.1 r2.2)) (fun M1 cc cs hV1 => q_mS_v he (mq_193 hV1 hA r1.1 r1.2 r2.1 r2.2)) (hK _ hA) l5 l6 l7
theorem wk_6 (hN : N ≤ 2560) (hi : i + 5 ≤ N) (hI : q_I M A) (hV : q_V M A) (hA : a_ok A) (hK : ∀ A', a_ok A' → q_lK N xs (d + 32) i A' cc cs Q) (l5 l6 l7 : gg_V) :
    wp N xs (d + 32) 287 520 [gr 0, gr 1, gr 142, gr 157, (0, (i : Int)), l5, l6, l7] [] (gk_R, M, 158, cc, cs) Q := by
  have r1 := i32_rg (xs (i + 1))
  have r2 := i32_rg (xs (i + 2))
  obtain ⟨v, hv, he⟩ := w_vr (b_6 (A := A) (x := (xs (i + 1)).toInt) (y := (xs (i + 2)).toInt) hA)
  exact wl_6 (A := A) (v := v) hN hi hv h_vv hV (q_cS_v he (cq_93 hI hA r1.1 r1.2 r2.1 r2.2)) (fun M1 cc cs hV1 => q_mS_v he (mq_195 hV1 hA r1.1 r1.2 r2.1 r2.2)) (hK _ hA) l5 l6 l7
theorem wk_7 (hN : N ≤ 2560) (hi : i + 5 ≤ N) (hI : q_I M A) (hV : q_V M A) (hA : a_ok A) (hK : ∀ A', a_ok A' → q_lK N xs (d + 32) i A' cc cs Q) (l5 l6 l7 : gg_V) :
    wp N xs (d + 32) 287 588 [gr 0, gr 1, gr 142, gr 157, (0, (i : Int)), l5, l6, l7] [] (gk_R, M, 158, cc, cs) Q := by
  obtain ⟨v, hv, he⟩ := w_vr (b_7 (A := A) hA)
  exact wl_7 (A := A) (v := v) hN hi hv rfl hV (q_cS_v he (cq_94 hI hA)) (fun M1 cc cs hV1 => q_mS_v he (mq_196 hV1 hA)) (hK _ hA) l5 l6 l7
theorem wk_8 (hN : N ≤ 2560) (hi : i + 5 ≤ N) (hI : q_I M A) (hV : q_V M A) (hA : a_ok A) (hK : ∀ A', a_ok A' → q_lK N xs (d + 32) i A' cc cs Q) (l5 l6 l7 : gg_V) :
    wp N xs (d + 32) 287 601 [gr 0, gr 1, gr 142, gr 157, (0, (i : Int)), l5, l6, l7] [] (gk_R, M, 158, cc, cs) Q := by
  have r1 := i32_rg (xs (i + 1))
  obtain ⟨v, hv, he⟩ := w_vr (b_8 (A := A) (x := (xs (i + 1)).toInt) hA)
  exact wl_8 (A := A) (v := v) hN hi hv h_set hV (q_cS_v he (cq_95 hI hA r1.1 r1.2)) (fun M1 cc cs hV1 => q_mS_v he (mq_202 hV1 hA r1.1 r1.2)) (hK _ hA) l5 l6 l7
theorem wk_9 (hN : N ≤ 2560) (hi : i + 5 ≤ N) (hI : q_I M A) (hV : q_V M A) (hA : a_ok A) (hK : ∀ A', a_ok A' → q_lK N xs (d + 32) i A' cc cs Q) (l5 l6 l7 : gg_V) :
    wp N xs (d + 32) 287 657 [gr 0, gr 1, gr 142, gr 157, (0, (i : Int)), l5, l6, l7] [] (gk_R, M, 158, cc, cs) Q := by
  have r1 := i32_rg (xs (i + 1))
  have r2 := i32_rg (xs (i + 2))
  obtain ⟨v, hv, he⟩ := w_vr (b_9 (A := A) (x := (xs (i + 1)).toInt) (y := (xs (i + 2)).toInt) hA)
  exact wl_9 (A := A) (v := v) hN hi hv h_sv hV (q_cS_v he (cq_96 hI hA r1.1 r1.2 r2.1 r2.2)) (fun M1 cc cs hV1 => q_mS_v he (mq_203 hV1 hA r1.1 r1.2 r2.1 r2.2)) (hK _ hA) l5 l6 l7
theorem wk_10 (hN : N ≤ 2560) (hi : i + 5 ≤ N) (hI : q_I M A) (hV : q_V M A) (hA : a_ok A) (hK : ∀ A', a_ok A' → q_lK N xs (d + 32) i A' cc cs Q) (l5 l6 l7 : gg_V) :
    wp N xs (d + 32) 287 725 [gr 0, gr 1, gr 142, gr 157, (0, (i : Int)), l5, l6, l7] [] (gk_R, M, 158, cc, cs) Q := by
  have r1 := i32_rg (xs (i + 1))
  obtain ⟨v, hv, he⟩ := w_vb (b_10 (A := A) (x := (xs (i + 1)).toInt) hA)
  exact wl_10 (A := A) (v := v) hN hi hv h_set hV (q_cS_v he (cq_97 hI hA r1.1 r1.2)) (fun M1 cc cs hV1 => q_mS_v he (mq_205 hV1 hA r1.1 r1.2)) (hK _ hA) l5 l6 l7
theorem wk_11 (hN : N ≤ 2560) (hi : i + 5 ≤ N) (hI : q_I M A) (hV : q_V M A) (hA : a_ok A) (hK : ∀ A', a_ok A' → q_lK N xs (d + 32) i A' cc cs Q) (l5 l6 l7 : gg_V) :
    wp N xs (d + 32) 287 788 [gr 0, gr 1, gr 142, gr 157, (0, (i : Int)), l5, l6, l7] [] (gk_R, M, 158, cc, cs) Q := by
  have r1 := i32_rg (xs (i + 1))
  have r2 := i32_rg (xs (i + 2))
  obtain ⟨v, hv, he⟩ := w_vb (b_11 (A := A) (x := (xs (i + 1)).toInt) (y := (xs (i + 2)).toInt) hA)
  exact wl_11 (A := A) (v := v) hN hi hv h_sv hV (q_cS_v he (cq_98 hI hA r1.1 r1.2 r2.1 r2.2)) (fun M1 cc cs hV1 => q_mS_v he (mq_206 hV1 hA r1.1 r1.2 r2.1 r2.2)) (hK _ hA) l5 l6 l7
theorem wk_12 (hN : N ≤ 2560) (hi : i + 5 ≤ N) (hI : q_I M A) (hV : q_V M A) (hA : a_ok A) (hK : ∀ A', a_ok A' → q_lK N xs (d + 32) i A' cc cs Q) (l5 l6 l7 : gg_V) :
    wp N xs (d + 32) 287 863 [gr 0, gr 1, gr 142, gr 157, (0, (i : Int)), l5, l6, l7] [] (gk_R, M, 158, cc, cs) Q := by
  have r1 := i32_rg (xs (i + 1))
  have r2 := i32_rg (xs (i + 2))
  obtain ⟨v, hv, he⟩ := w_vr (b_12 (A := A) (x := (xs (i + 1)).toInt) (y := (xs (i + 2)).toInt) hA)
  exact wl_12 (A := A) (v := v) hN hi hv h_sv hV (q_cS_v he (cq_99 hI hA r1.1 r1.2 r2.1 r2.2)) (fun M1 cc cs hV1 => q_mS_v he (mq_207 hV1 hA r1.1 r1.2 r2.1 r2.2)) (hK _ hA) l5 l6 l7
theorem wk_13 (hN : N ≤ 2560) (hi : i + 5 ≤ N) (hI : q_I M A) (hV : q_V M A) (hA : a_ok A) (hK : ∀ A', a_ok A' → q_lK N xs (d + 32) i A' cc cs Q) (l5 l6 l7 : gg_V) :
    wp N xs (d + 32) 287 931 [gr 0, gr 1, gr 142, gr 157, (0, (i : Int)), l5, l6, l7] [] (gk_R, M, 158, cc, cs) Q := by
  have r1 := i32_rg (xs (i + 1))
  have r2 := i32_rg (xs (i + 2))
  have r3 := i32_rg (xs (i + 3))
  have r4 := i32_rg (xs (i + 4))
  obtain ⟨v, hv, he⟩ := w_vr (b_13 (A := A) (x := (xs (i + 1)).toInt) (f := (xs (i + 2)).toInt) (s := (xs (i + 3)).toInt) (t := (xs (i + 4)).toInt) hA)
  exact wl_13 (A := A) (v := v) hN hi hv h_wk hV (q_cS_v he (cq_100 hI hA r1.1 r1.2 r2.1 r2.2 r3.1 r3.2 r4.1 r4.2)) (fun M1 cc cs hV1 => q_mS_v he (mq_208 hV1 hA r1.1 r1.2 r2.1 r2.2 r3.1 r3.2 r4.1 r4.2)) (hK _ hA) l5 l6 l7
theorem wk_14 (hN : N ≤ 2560) (hi : i + 5 ≤ N) (hI : q_I M A) (hV : q_V M A) (hA : a_ok A) (hK : ∀ A', a_ok A' → q_lK N xs (d + 32) i A' cc cs Q) (l5 l6 l7 : gg_V) :
    wp N xs (d + 32) 287 1023 [gr 0, gr 1, gr 142, gr 157, (0, (i : Int)), l5, l6, l7] [] (gk_R, M, 158, cc, cs) Q := by
  have r1 := i32_rg (xs (i + 1))
  obtain ⟨v, hv, he⟩ := w_vr (b_14 (A := A) (x := (xs (i + 1)).toInt) hA)
  exact wl_14 (A := A) (v := v) hN hi hv h_set hV (q_cS_v he (cq_101 hI hA r1.1 r1.2)) (fun M1 cc cs hV1 => q_mS_v he (mq_210 hV1 hA r1.1 r1.2)) (hK _ hA) l5 l6 l7
theorem wk_15 (hN : N ≤ 2560) (hi : i + 5 ≤ N) (hI : q_I M A) (hV : q_V M A) (hA : a_ok A) (hK : ∀ A', a_ok A' → q_lK N xs (d + 32) i A' cc cs Q) (l5 l6 l7 : gg_V) :
    wp N xs (d + 32) 287 1079 [gr 0, gr 1, gr 142, gr 157, (0, (i : Int)), l5, l6, l7] [] (gk_R, M, 158, cc, cs) Q := by
  have r1 := i32_rg (xs (i + 1))
  obtain ⟨v, hv, he⟩ := w_vr (b_15 (A := A) (x := (xs (i + 1)).toInt) hA)
  exact wl_15 (A := A) (v := v) hN hi hv h_set hV (q_cS_v he (cq_102 hI hA r1.1 r1.2)) (fun M1 cc cs hV1 => q_mS_v he (mq_212 hV1 hA r1.1 r1.2)) (hK _ hA) l5 l6 l7
theorem wk_16 (hN : N ≤ 2560) (hi : i + 5 ≤ N) (hI : q_I M A) (hV : q_V M A) (hA : a_ok A) (hK : ∀ A', a_ok A' → q_lK N xs (d + 32) i A' cc cs Q) (l5 l6 l7 : gg_V) :
    wp N xs (d + 32) 287 1135 [gr 0, gr 1, gr 142, gr 157, (0, (i : Int)), l5, l6, l7] [] (gk_R, M, 158, cc, cs) Q := by
  have r1 := i32_rg (xs (i + 1))
  obtain ⟨v, hv, he⟩ := w_vr (b_16 (A := A) (x := (xs (i + 1)).toInt) hA)
  exact wl_16 (A := A) (v := v) hN hi hv h_set hV (q_cS_v he (cq_103 hI hA r1.1 r1.2)) (fun M1 cc cs hV1 => q_mS_v he (mq_213 hV1 hA r1.1 r1.2)) (hK _ hA) l5 l6 l7
theorem wk_17 (hN : N ≤ 2560) (hi : i + 5 ≤ N) (hI : q_I M A) (hV : q_V M A) (hA : a_ok A) (hK : ∀ A', a_ok A' → q_lK N xs (d + 32) i A' cc cs Q) (l5 l6 l7 : gg_V) :
    wp N xs (d + 32) 287 1191 [gr 0, gr 1, gr 142, gr 157, (0, (i : Int)), l5, l6, l7] [] (gk_R, M, 158, cc, cs) Q := by
  have r1 := i32_rg (xs (i + 1))
  obtain ⟨v, hv, he⟩ := w_vb (b_17 (A := A) (x := (xs (i + 1)).toInt) hA)
  exact wl_17 (A := A) (v := v) hN hi hv h_set hV (q_cS_v he (cq_104 hI hA r1.1 r1.2)) (fun M1 cc cs hV1 => q_mS_v he (mq_214 hV1 hA r1.1 r1.2)) (hK _ hA) l5 l6 l7
theorem wk_18 (hN : N ≤ 2560) (hi : i + 5 ≤ N) (hI : q_I M A) (hV : q_V M A) (hA : a_ok A) (hK : ∀ A', a_ok A' → q_lK N xs (d + 32) i A' cc cs Q) (l5 l6 l7 : gg_V) :
    wp N xs (d + 32) 287 1254 [gr 0, gr 1, gr 142, gr 157, (0, (i : Int)), l5, l6, l7] [] (gk_R, M, 158, cc, cs) Q := by
  have r1 := i32_rg (xs (i + 1))
  obtain ⟨v, hv, he⟩ := w_vb (b_18 (A := A) (x := (xs (i + 1)).toInt) hA)
  exact wl_18 (A := A) (v := v) hN hi hv h_set hV (q_cS_v he (cq_105 hI hA r1.1 r1.2)) (fun M1 cc cs hV1 => q_mS_v he (mq_216 hV1 hA r1.1 r1.2)) (hK _ hA) l5 l6 l7
theorem wk_19 (hN : N ≤ 2560) (hi : i + 5 ≤ N) (hI : q_I M A) (hV : q_V M A) (hA : a_ok A) (hK : ∀ A', a_ok A' → q_lK N xs (d + 32) i A' cc cs Q) (l5 l6 l7 : gg_V) :
    wp N xs (d + 32) 287 1317 [gr 0, gr 1, gr 142, gr 157, (0, (i : Int)), l5, l6, l7] [] (gk_R, M, 158, cc, cs) Q := by
  have r1 := i32_rg (xs (i + 1))
  obtain ⟨v, hv, he⟩ := w_vr (b_19 (A := A) (x := (xs (i + 1)).toInt) hA)
  exact wl_19 (A := A) (v := v) hN hi hv h_set hV (q_cS_v he (cq_106 hI hA r1.1 r1.2)) (fun M1 cc cs hV1 => q_mS_v he (mq_223 hV1 hA r1.1 r1.2)) (hK _ hA) l5 l6 l7
theorem wk_20 (hN : N ≤ 2560) (hi : i + 5 ≤ N) (hI : q_I M A) (hV : q_V M A) (hA : a_ok A) (hK : ∀ A', a_ok A' → q_lK N xs (d + 32) i A' cc cs Q) (l5 l6 l7 : gg_V) :
    wp N xs (d + 32) 287 1373 [gr 0, gr 1, gr 142, gr 157, (0, (i : Int)), l5, l6, l7] [] (gk_R, M, 158, cc, cs) Q := by
  have r1 := i32_rg (xs (i + 1))
  obtain ⟨v, hv, he⟩ := w_vr (b_20 (A := A) (x := (xs (i + 1)).toInt) hA)
  exact wl_20 (A := A) (v := v) hN hi hv h_n hV (q_cS_v he (cq_107 hI hA r1.1 r1.2)) (fun M1 cc cs hV1 => q_mS_v he (mq_224 hV1 hA r1.1 r1.2)) (hK _ hA) l5 l6 l7
theorem wk_21 (hN : N ≤ 2560) (hi : i + 5 ≤ N) (hI : q_I M A) (hV : q_V M A) (hA : a_ok A) (hK : ∀ A', a_ok A' → q_lK N xs (d + 32) i A' cc cs Q) (l5 l6 l7 : gg_V) :
    wp N xs (d + 32) 287 1429 [gr 0, gr 1, gr 142, gr 157, (0, (i : Int)), l5, l6, l7] [] (gk_R, M, 158, cc, cs) Q := by
  have r1 := i32_rg (xs (i + 1))
  obtain ⟨v, hv, he⟩ := w_vr (b_21 (A := A) (x := (xs (i + 1)).toInt) (b := !decide ((xs (i + 2)).toInt = 0)) hA)
  have hz : (((!decide ((xs (i + 2)).toInt = 0)).toNat : Nat) : Int) = if (xs (i + 2)).toInt = 0 then 0 else 1 := by by_cases e : (xs (i + 2)).toInt = 0 <;> simp [e]
  exact wl_21 (A := A) (v := v) hN hi hz hv h_n hV (q_cS_v he (cq_108 hI hA r1.1 r1.2)) (fun M1 cc cs hV1 => q_mS_v he (mq_225 hV1 hA r1.1 r1.2)) (hK _ hA) l5 l6 l7
theorem wk_22 (hN : N ≤ 2560) (hi : i + 5 ≤ N) (hI : q_I M A) (hV : q_V M A) (hA : a_ok A) (hK : ∀ A', a_ok A' → q_lK N xs (d + 32) i A' cc cs Q) (l5 l6 l7 : gg_V) :
    wp N xs (d + 32) 287 1513 [gr 0, gr 1, gr 142, gr 157, (0, (i : Int)), l5, l6, l7] [] (gk_R, M, 158, cc, cs) Q := by
  obtain ⟨v, hv, he⟩ := w_vr (b_22 (A := A) hA)
  exact wl_22 (A := A) (v := v) hN hi hv rfl hV (q_cS_v he (cq_109 hI hA)) (fun M1 cc cs hV1 => q_mS_v he (mq_227 hV1 hA)) (hK _ hA) l5 l6 l7
theorem wk_23 (hN : N ≤ 2560) (hi : i + 5 ≤ N) (hI : q_I M A) (hV : q_V M A) (hA : a_ok A) (hK : ∀ A', a_ok A' → q_lK N xs (d + 32) i A' cc cs Q) (l5 l6 l7 : gg_V) :
    wp N xs (d + 32) 287 1526 [gr 0, gr 1, gr 142, gr 157, (0, (i : Int)), l5, l6, l7] [] (gk_R, M, 158, cc, cs) Q := by
  have r1 := i32_rg (xs (i + 1))
  obtain ⟨v, hv, he⟩ := w_vr (b_23 (A := A) (x := (xs (i + 1)).toInt) hA)
  exact wl_23 (A := A) (v := v) hN hi hv h_n hV (q_cS_v he (cq_110 hI hA r1.1 r1.2)) (fun M1 cc cs hV1 => q_mS_v he (mq_228 hV1 hA r1.1 r1.2)) (hK _ hA) l5 l6 l7
theorem wk_24 (hN : N ≤ 2560) (hi : i + 5 ≤ N) (hI : q_I M A) (hV : q_V M A) (hA : a_ok A) (hK : ∀ A', a_ok A' → q_lK N xs (d + 32) i A' cc cs Q) (l5 l6 l7 : gg_V) :
    wp N xs (d + 32) 287 1582 [gr 0, gr 1, gr 142, gr 157, (0, (i : Int)), l5, l6, l7] [] (gk_R, M, 158, cc, cs) Q := by
  obtain ⟨v, hv, he⟩ := w_vr (b_24 (A := A) hA)
  exact wl_24 (A := A) (v := v) hN hi hv rfl hV (q_cS_v he (cq_111 hI hA)) (fun M1 cc cs hV1 => q_mS_v he (mq_229 hV1 hA)) (hK _ hA) l5 l6 l7
theorem wk_25 (hN : N ≤ 2560) (hi : i + 5 ≤ N) (hI : q_I M A) (hV : q_V M A) (hA : a_ok A) (hK : ∀ A', a_ok A' → q_lK N xs (d + 32) i A' cc cs Q) (l5 l6 l7 : gg_V) :
    wp N xs (d + 32) 287 1595 [gr 0, gr 1, gr 142, gr 157, (0, (i : Int)), l5, l6, l7] [] (gk_R, M, 158, cc, cs) Q := by
  have r1 := i32_rg (xs (i + 1))
  obtain ⟨v, hv, he⟩ := w_vr (b_25 (A := A) (x := (xs (i + 1)).toInt) hA)
  exact wl_25 (A := A) (v := v) hN hi hv h_set hV (q_cS_v he (cq_112 hI hA r1.1 r1.2)) (fun M1 cc cs hV1 => q_mS_v he (mq_230 hV1 hA r1.1 r1.2)) (hK _ hA) l5 l6 l7
theorem wk_26 (hN : N ≤ 2560) (hi : i + 5 ≤ N) (hI : q_I M A) (hV : q_V M A) (hA : a_ok A) (hK : ∀ A', a_ok A' → q_lK N xs (d + 32) i A' cc cs Q) (l5 l6 l7 : gg_V) :
    wp N xs (d + 32) 287 1651 [gr 0, gr 1, gr 142, gr 157, (0, (i : Int)), l5, l6, l7] [] (gk_R, M, 158, cc, cs) Q := by
  have r1 := i32_rg (xs (i + 1))
  obtain ⟨v, hv, he⟩ := w_vb (b_26 (A := A) (x := (xs (i + 1)).toInt) hA)
  exact wl_26 (A := A) (v := v) hN hi hv h_arc hV (q_cS_v he (cq_113 hI hA r1.1 r1.2)) (fun M1 cc cs hV1 => q_mS_v he (mq_231 hV1 hA r1.1 r1.2)) (hK _ hA) l5 l6 l7
theorem wk_27 (hN : N ≤ 2560) (hi : i + 5 ≤ N) (hI : q_I M A) (hV : q_V M A) (hA : a_ok A) (hK : ∀ A', a_ok A' → q_lK N xs (d + 32) i A' cc cs Q) (l5 l6 l7 : gg_V) :
    wp N xs (d + 32) 287 1714 [gr 0, gr 1, gr 142, gr 157, (0, (i : Int)), l5, l6, l7] [] (gk_R, M, 158, cc, cs) Q := by
  obtain ⟨v, hv, he⟩ := w_vr (b_27 (A := A) hA)
  exact wl_27 (A := A) (v := v) hN hi hv rfl hV (q_cS_v he (cq_114 hI hA)) (fun M1 cc cs hV1 => q_mS_v he (mq_232 hV1 hA)) (hK _ hA) l5 l6 l7
theorem wk_28 (hN : N ≤ 2560) (hi : i + 5 ≤ N) (hI : q_I M A) (hV : q_V M A) (hA : a_ok A) (hK : ∀ A', a_ok A' → q_lK N xs (d + 32) i A' cc cs Q) (l5 l6 l7 : gg_V) :
    wp N xs (d + 32) 287 1727 [gr 0, gr 1, gr 142, gr 157, (0, (i : Int)), l5, l6, l7] [] (gk_R, M, 158, cc, cs) Q := by
  have r1 := i32_rg (xs (i + 1))
  exact wl_28 (A := A) hN hi trivial h_n hV (cq_115 hI hA r1.1 r1.2) (fun M1 cc cs hV1 => mq_236 hV1 hA r1.1 r1.2) (hK _ hA) l5 l6 l7
theorem wk_29 (hN : N ≤ 2560) (hi : i + 5 ≤ N) (hI : q_I M A) (hV : q_V M A) (hA : a_ok A) (hK : ∀ A', a_ok A' → q_lK N xs (d + 32) i A' cc cs Q) (l5 l6 l7 : gg_V) :
    wp N xs (d + 32) 287 1782 [gr 0, gr 1, gr 142, gr 157, (0, (i : Int)), l5, l6, l7] [] (gk_R, M, 158, cc, cs) Q := by
  have r1 := i32_rg (xs (i + 1))
  exact wl_29 (A := A) hN hi trivial h_n hV (cq_116 hI hA r1.1 r1.2) (fun M1 cc cs hV1 => mq_237 hV1 hA r1.1 r1.2) (hK _ hA) l5 l6 l7
theorem wk_30 (hN : N ≤ 2560) (hi : i + 5 ≤ N) (hI : q_I M A) (hV : q_V M A) (hA : a_ok A) (hK : ∀ A', a_ok A' → q_lK N xs (d + 32) i A' cc cs Q) (l5 l6 l7 : gg_V) :
    wp N xs (d + 32) 287 1837 [gr 0, gr 1, gr 142, gr 157, (0, (i : Int)), l5, l6, l7] [] (gk_R, M, 158, cc, cs) Q := by
  have r1 := i32_rg (xs (i + 1))
  exact wl_30 (A := A) hN hi trivial h_n hV (cq_117 hI hA r1.1 r1.2) (fun M1 cc cs hV1 => mq_238 hV1 hA r1.1 r1.2) (hK _ hA) l5 l6 l7
theorem wk_31 (hN : N ≤ 2560) (hi : i + 5 ≤ N) (hI : q_I M A) (hV : q_V M A) (hA : a_ok A) (hK : ∀ A', a_ok A' → q_lK N xs (d + 32) i A' cc cs Q) (l5 l6 l7 : gg_V) :
    wp N xs (d + 32) 287 1892 [gr 0, gr 1, gr 142, gr 157, (0, (i : Int)), l5, l6, l7] [] (gk_R, M, 158, cc, cs) Q := by
  have r1 := i32_rg (xs (i + 1))
  have r2 := i32_rg (xs (i + 2))
  have r3 := i32_rg (xs (i + 3))
  obtain ⟨v, hv, he⟩ := w_vr (b_31 (A := A) (x := (xs (i + 1)).toInt) (y := (xs (i + 2)).toInt) (z := (xs (i + 3)).toInt) hA)
  exact wl_31 (A := A) (v := v) hN hi hv h_ca hV (q_cS_v he (cq_118 hI hA r1.1 r1.2 r2.1 r2.2 r3.1 r3.2)) (fun M1 cc cs hV1 => q_mS_v he (mq_245 hV1 hA r1.1 r1.2 r2.1 r2.2 r3.1 r3.2)) (hK _ hA) l5 l6 l7
theorem wk_32 (hN : N ≤ 2560) (hi : i + 5 ≤ N) (hI : q_I M A) (hV : q_V M A) (hA : a_ok A) (hK : ∀ A', a_ok A' → q_lK N xs (d + 32) i A' cc cs Q) (l5 l6 l7 : gg_V) :
    wp N xs (d + 32) 287 1972 [gr 0, gr 1, gr 142, gr 157, (0, (i : Int)), l5, l6, l7] [] (gk_R, M, 158, cc, cs) Q := by
  obtain ⟨v, hv, he⟩ := w_vr (b_32 (A := A) hA)
  exact wl_32 (A := A) (v := v) hN hi hv rfl hV (q_cS_v he (cq_119 hI hA)) (fun M1 cc cs hV1 => q_mS_v he (mq_246 hV1 hA)) (hK _ hA) l5 l6 l7
theorem wk_33 (hN : N ≤ 2560) (hi : i + 5 ≤ N) (hI : q_I M A) (hV : q_V M A) (hA : a_ok A) (hK : ∀ A', a_ok A' → q_lK N xs (d + 32) i A' cc cs Q) (l5 l6 l7 : gg_V) :
    wp N xs (d + 32) 287 1985 [gr 0, gr 1, gr 142, gr 157, (0, (i : Int)), l5, l6, l7] [] (gk_R, M, 158, cc, cs) Q := by
  have r1 := i32_rg (xs (i + 1))
  have r2 := i32_rg (xs (i + 2))
  obtain ⟨v, hv, he⟩ := w_vb (b_33 (A := A) (x := (xs (i + 1)).toInt) (y := (xs (i + 2)).toInt) hA)
  exact wl_33 (A := A) (v := v) hN hi hv h_pr hV (q_cS_v he (cq_120 hI hA r1.1 r1.2 r2.1 r2.2)) (fun M1 cc cs hV1 => q_mS_v he (mq_247 hV1 hA r1.1 r1.2 r2.1 r2.2)) (hK _ hA) l5 l6 l7
theorem wk_34 (hN : N ≤ 2560) (hi : i + 5 ≤ N) (hI : q_I M A) (hV : q_V M A) (hA : a_ok A) (hK : ∀ A', a_ok A' → q_lK N xs (d + 32) i A' cc cs Q) (l5 l6 l7 : gg_V) :
    wp N xs (d + 32) 287 2060 [gr 0, gr 1, gr 142, gr 157, (0, (i : Int)), l5, l6, l7] [] (gk_R, M, 158, cc, cs) Q := by
  have r1 := i32_rg (xs (i + 1))
  obtain ⟨v, hv, he⟩ := w_vr (b_34 (A := A) (x := (xs (i + 1)).toInt) hA)
  exact wl_34 (A := A) (v := v) hN hi hv h_n hV (q_cS_v he (cq_121 hI hA r1.1 r1.2)) (fun M1 cc cs hV1 => q_mS_v he (mq_257 hV1 hA r1.1 r1.2)) (hK _ (s_34 hA)) l5 l6 l7
theorem wk_35 (hN : N ≤ 2560) (hi : i + 5 ≤ N) (hI : q_I M A) (hV : q_V M A) (hA : a_ok A) (hK : ∀ A', a_ok A' → q_lK N xs (d + 32) i A' cc cs Q) (l5 l6 l7 : gg_V) :
    wp N xs (d + 32) 287 2116 [gr 0, gr 1, gr 142, gr 157, (0, (i : Int)), l5, l6, l7] [] (gk_R, M, 158, cc, cs) Q := by
  have r1 := i32_rg (xs (i + 1))
  obtain ⟨v, hv, he⟩ := w_vr (b_35 (A := A) (x := (xs (i + 1)).toInt) hA)
  exact wl_35 (A := A) (v := v) hN hi hv h_ver hV (q_cS_v he (cq_122 hI hA r1.1 r1.2)) (fun M1 cc cs hV1 => q_mS_v he (mq_252 hV1 hA r1.1 r1.2)) (hK _ hA) l5 l6 l7
theorem wk_36 (hN : N ≤ 2560) (hi : i + 5 ≤ N) (hI : q_I M A) (hV : q_V M A) (hA : a_ok A) (hK : ∀ A', a_ok A' → q_lK N xs (d + 32) i A' cc cs Q) (l5 l6 l7 : gg_V) :
    wp N xs (d + 32) 287 2172 [gr 0, gr 1, gr 142, gr 157, (0, (i : Int)), l5, l6, l7] [] (gk_R, M, 158, cc, cs) Q := by
  have r1 := i32_rg (xs (i + 1))
  have r2 := i32_rg (xs (i + 2))
  obtain ⟨v, hv, he⟩ := w_vr (b_36 (A := A) (x := (xs (i + 1)).toInt) (y := (xs (i + 2)).toInt) hA)
  exact wl_36 (A := A) (v := v) hN hi hv h_vc hV (q_cS_v he (cq_123 hI hA r1.1 r1.2 r2.1 r2.2)) (fun M1 cc cs hV1 => q_mS_v he (mq_253 hV1 hA r1.1 r1.2 r2.1 r2.2)) (hK _ hA) l5 l6 l7
theorem wk_37 (hN : N ≤ 2560) (hi : i + 5 ≤ N) (hI : q_I M A) (hV : q_V M A) (hA : a_ok A) (hK : ∀ A', a_ok A' → q_lK N xs (d + 32) i A' cc cs Q) (l5 l6 l7 : gg_V) :
    wp N xs (d + 32) 287 2240 [gr 0, gr 1, gr 142, gr 157, (0, (i : Int)), l5, l6, l7] [] (gk_R, M, 158, cc, cs) Q := by
  have r1 := i32_rg (xs (i + 1))
  obtain ⟨v, hv, he⟩ := w_vr (b_37 (A := A) (x := (xs (i + 1)).toInt) hA)
  exact wl_37 (A := A) (v := v) hN hi hv h_ver hV (q_cS_v he (cq_124 hI hA r1.1 r1.2)) (fun M1 cc cs hV1 => q_mS_v he (mq_254 hV1 hA r1.1 r1.2)) (hK _ hA) l5 l6 l7
theorem wk_38 (hN : N ≤ 2560) (hi : i + 5 ≤ N) (hI : q_I M A) (hV : q_V M A) (hA : a_ok A) (hK : ∀ A', a_ok A' → q_lK N xs (d + 32) i A' cc cs Q) (l5 l6 l7 : gg_V) :
    wp N xs (d + 32) 287 2296 [gr 0, gr 1, gr 142, gr 157, (0, (i : Int)), l5, l6, l7] [] (gk_R, M, 158, cc, cs) Q := by
  obtain ⟨v, hv, he⟩ := w_vr (b_38 (A := A) hA)
  exact wl_38 (A := A) (v := v) hN hi hv rfl hV (q_cS_v he (cq_125 hI hA)) (fun M1 cc cs hV1 => q_mS_v he (mq_255 hV1 hA)) (hK _ hA) l5 l6 l7
theorem wk_39 (hN : N ≤ 2560) (hi : i + 5 ≤ N) (hI : q_I M A) (hV : q_V M A) (hA : a_ok A) (hK : ∀ A', a_ok A' → q_lK N xs (d + 32) i A' cc cs Q) (l5 l6 l7 : gg_V) :
    wp N xs (d + 32) 287 2309 [gr 0, gr 1, gr 142, gr 157, (0, (i : Int)), l5, l6, l7] [] (gk_R, M, 158, cc, cs) Q := by
  obtain ⟨v, hv, he⟩ := w_vr (b_39 (A := A) hA)
  exact wl_39 (A := A) (v := v) hN hi hv rfl hV (q_cS_v he (cq_126 hI hA)) (fun M1 cc cs hV1 => q_mS_v he (mq_256 hV1 hA)) (hK _ hA) l5 l6 l7
theorem wk_40 (hN : N ≤ 2560) (hi : i + 5 ≤ N) (hI : q_I M A) (hV : q_V M A) (hA : a_ok A) (hK : ∀ A', a_ok A' → q_lK N xs (d + 32) i A' cc cs Q) (l5 l6 l7 : gg_V) :
    wp N xs (d + 32) 287 2322 [gr 0, gr 1, gr 142, gr 157, (0, (i : Int)), l5, l6, l7] [] (gk_R, M, 158, cc, cs) Q := by
  have r1 := i32_rg (xs (i + 1))
  have r2 := i32_rg (xs (i + 2))
  obtain ⟨v, hv, he⟩ := w_vr (b_40 (A := A) (x := (xs (i + 1)).toInt) (y := (xs (i + 2)).toInt) hA)
  exact wl_40 (A := A) (v := v) hN hi hv h_vc hV (q_cS_v he (cq_127 hI hA r1.1 r1.2 r2.1 r2.2)) (fun M1 cc cs hV1 => q_mS_v he (mq_258 hV1 hA r1.1 r1.2 r2.1 r2.2)) (hK _ (s_40 hA)) l5 l6 l7
theorem wk_41 (hN : N ≤ 2560) (hi : i + 5 ≤ N) (hI : q_I M A) (hV : q_V M A) (hA : a_ok A) (hK : ∀ A', a_ok A' → q_lK N xs (d + 32) i A' cc cs Q) (l5 l6 l7 : gg_V) :
    wp N xs (d + 32) 287 2390 [gr 0, gr 1, gr 142, gr 157, (0, (i : Int)), l5, l6, l7] [] (gk_R, M, 158, cc, cs) Q := by
  have r1 := i32_rg (xs (i + 1))
  obtain ⟨v, hv, he⟩ := w_vr (b_41 (A := A) (x := (xs (i + 1)).toInt) hA)
  exact wl_41 (A := A) (v := v) hN hi hv h_ver hV (q_cS_v he (cq_128 hI hA r1.1 r1.2)) (fun M1 cc cs hV1 => q_mS_v he (mq_259 hV1 hA r1.1 r1.2)) (hK _ (s_41 hA)) l5 l6 l7
theorem wk_42 (hN : N ≤ 2560) (hi : i + 5 ≤ N) (hI : q_I M A) (hV : q_V M A) (hA : a_ok A) (hK : ∀ A', a_ok A' → q_lK N xs (d + 32) i A' cc cs Q) (l5 l6 l7 : gg_V) :
    wp N xs (d + 32) 287 2446 [gr 0, gr 1, gr 142, gr 157, (0, (i : Int)), l5, l6, l7] [] (gk_R, M, 158, cc, cs) Q := by
  obtain ⟨v, hv, he⟩ := w_vr (b_42 (A := A) hA)
  exact wl_42 (A := A) (v := v) hN hi hv rfl hV (q_cS_v he (cq_129 hI hA)) (fun M1 cc cs hV1 => q_mS_v he (mq_260 hV1 hA)) (hK _ (s_42 hA)) l5 l6 l7
theorem wk_43 (hN : N ≤ 2560) (hi : i + 5 ≤ N) (hI : q_I M A) (hV : q_V M A) (hA : a_ok A) (hK : ∀ A', a_ok A' → q_lK N xs (d + 32) i A' cc cs Q) (l5 l6 l7 : gg_V) :
    wp N xs (d + 32) 287 2459 [gr 0, gr 1, gr 142, gr 157, (0, (i : Int)), l5, l6, l7] [] (gk_R, M, 158, cc, cs) Q := by
  have r1 := i32_rg (xs (i + 1))
  obtain ⟨v, hv, he⟩ := w_vr (b_43 (A := A) (x := (xs (i + 1)).toInt) hA)
  exact wl_43 (A := A) (v := v) hN hi hv h_arc hV (q_cS_v he (cq_130 hI hA r1.1 r1.2)) (fun M1 cc cs hV1 => q_mS_v he (mq_262 hV1 hA r1.1 r1.2)) (hK _ hA) l5 l6 l7
theorem wk_44 (hN : N ≤ 2560) (hi : i + 5 ≤ N) (hI : q_I M A) (hV : q_V M A) (hA : a_ok A) (hK : ∀ A', a_ok A' → q_lK N xs (d + 32) i A' cc cs Q) (l5 l6 l7 : gg_V) :
    wp N xs (d + 32) 287 2515 [gr 0, gr 1, gr 142, gr 157, (0, (i : Int)), l5, l6, l7] [] (gk_R, M, 158, cc, cs) Q := by
  have r1 := i32_rg (xs (i + 1))
  obtain ⟨v, hv, he⟩ := w_vb (b_44 (A := A) (x := (xs (i + 1)).toInt) hA)
  exact wl_44 (A := A) (v := v) hN hi hv h_n hV (q_cS_v he (cq_131 hI hA r1.1 r1.2)) (fun M1 cc cs hV1 => q_mS_v he (mq_263 hV1 hA r1.1 r1.2)) (hK _ hA) l5 l6 l7
theorem wk_45 (hN : N ≤ 2560) (hi : i + 5 ≤ N) (hI : q_I M A) (hV : q_V M A) (hA : a_ok A) (hK : ∀ A', a_ok A' → q_lK N xs (d + 32) i A' cc cs Q) (l5 l6 l7 : gg_V) :
    wp N xs (d + 32) 287 2578 [gr 0, gr 1, gr 142, gr 157, (0, (i : Int)), l5, l6, l7] [] (gk_R, M, 158, cc, cs) Q := by
  have r1 := i32_rg (xs (i + 1))
  obtain ⟨v, hv, he⟩ := w_vr (b_45 (A := A) (x := (xs (i + 1)).toInt) hA)
  exact wl_45 (A := A) (v := v) hN hi hv h_arc hV (q_cS_v he (cq_132 hI hA r1.1 r1.2)) (fun M1 cc cs hV1 => q_mS_v he (mq_264 hV1 hA r1.1 r1.2)) (hK _ hA) l5 l6 l7
theorem wk_46 (hN : N ≤ 2560) (hi : i + 5 ≤ N) (hI : q_I M A) (hV : q_V M A) (hA : a_ok A) (hK : ∀ A', a_ok A' → q_lK N xs (d + 32) i A' cc cs Q) (l5 l6 l7 : gg_V) :
    wp N xs (d + 32) 287 2634 [gr 0, gr 1, gr 142, gr 157, (0, (i : Int)), l5, l6, l7] [] (gk_R, M, 158, cc, cs) Q := by
  have r1 := i32_rg (xs (i + 1))
  have r2 := i32_rg (xs (i + 2))
  exact wl_46 (A := A) hN hi trivial h_ac hV (cq_133 hI hA r1.1 r1.2 r2.1 r2.2) (fun M1 cc cs hV1 => mq_265 hV1 hA r1.1 r1.2 r2.1 r2.2) (hK _ hA) l5 l6 l7
theorem wk_47 (hN : N ≤ 2560) (hi : i + 5 ≤ N) (hI : q_I M A) (hV : q_V M A) (hA : a_ok A) (hK : ∀ A', a_ok A' → q_lK N xs (d + 32) i A' cc cs Q) (l5 l6 l7 : gg_V) :
    wp N xs (d + 32) 287 2701 [gr 0, gr 1, gr 142, gr 157, (0, (i : Int)), l5, l6, l7] [] (gk_R, M, 158, cc, cs) Q := by
  have r1 := i32_rg (xs (i + 1))
  have r2 := i32_rg (xs (i + 2))
  exact wl_47 (A := A) hN hi trivial h_ac hV (cq_134 hI hA r1.1 r1.2 r2.1 r2.2) (fun M1 cc cs hV1 => mq_266 hV1 hA r1.1 r1.2 r2.1 r2.2) (hK _ hA) l5 l6 l7
theorem wk_48 (hN : N ≤ 2560) (hi : i + 5 ≤ N) (hI : q_I M A) (hV : q_V M A) (hA : a_ok A) (hK : ∀ A', a_ok A' → q_lK N xs (d + 32) i A' cc cs Q) (l5 l6 l7 : gg_V) :
    wp N xs (d + 32) 287 2768 [gr 0, gr 1, gr 142, gr 157, (0, (i : Int)), l5, l6, l7] [] (gk_R, M, 158, cc, cs) Q := by
  have r1 := i32_rg (xs (i + 1))
  have r2 := i32_rg (xs (i + 2))
  have r3 := i32_rg (xs (i + 3))
  obtain ⟨v, hv, he⟩ := w_vr (b_48 (A := A) (x := (xs (i + 1)).toInt) (y := (xs (i + 2)).toInt) (z := (xs (i + 3)).toInt) hA)
  exact wl_48 (A := A) (v := v) hN hi hv h_add hV (q_cS_v he (cq_135 hI hA r1.1 r1.2 r2.1 r2.2 r3.1 r3.2)) (fun M1 cc cs hV1 => q_mS_v he (mq_269 hV1 hA r1.1 r1.2 r2.1 r2.2 r3.1 r3.2)) (hK _ (s_48 hA)) l5 l6 l7
theorem wk_49 (hN : N ≤ 2560) (hi : i + 5 ≤ N) (hI : q_I M A) (hV : q_V M A) (hA : a_ok A) (hK : ∀ A', a_ok A' → q_lK N xs (d + 32) i A' cc cs Q) (l5 l6 l7 : gg_V) :
    wp N xs (d + 32) 287 2848 [gr 0, gr 1, gr 142, gr 157, (0, (i : Int)), l5, l6, l7] [] (gk_R, M, 158, cc, cs) Q := by
  obtain ⟨v, hv, he⟩ := w_vr (b_49 (A := A) hA)
  exact wl_49 (A := A) (v := v) hN hi hv rfl hV (q_cS_v he (cq_136 hI hA)) (fun M1 cc cs hV1 => q_mS_v he (mq_270 hV1 hA)) (hK _ (s_49 hA)) l5 l6 l7
theorem wk_50 (hN : N ≤ 2560) (hi : i + 5 ≤ N) (hI : q_I M A) (hV : q_V M A) (hA : a_ok A) (hK : ∀ A', a_ok A' → q_lK N xs (d + 32) i A' cc cs Q) (l5 l6 l7 : gg_V) :
    wp N xs (d + 32) 287 2861 [gr 0, gr 1, gr 142, gr 157, (0, (i : Int)), l5, l6, l7] [] (gk_R, M, 158, cc, cs) Q := by
  have r1 := i32_rg (xs (i + 1))
  obtain ⟨v, hv, he⟩ := w_vr (b_50 (A := A) (x := (xs (i + 1)).toInt) hA)
  exact wl_50 (A := A) (v := v) hN hi hv h_arc hV (q_cS_v he (cq_137 hI hA r1.1 r1.2)) (fun M1 cc cs hV1 => q_mS_v he (mq_272 hV1 hA r1.1 r1.2)) (hK _ (s_50 hA)) l5 l6 l7
theorem wk_51 (hN : N ≤ 2560) (hi : i + 5 ≤ N) (hI : q_I M A) (hV : q_V M A) (hA : a_ok A) (hK : ∀ A', a_ok A' → q_lK N xs (d + 32) i A' cc cs Q) (l5 l6 l7 : gg_V) :
    wp N xs (d + 32) 287 2917 [gr 0, gr 1, gr 142, gr 157, (0, (i : Int)), l5, l6, l7] [] (gk_R, M, 158, cc, cs) Q := by
  have r1 := i32_rg (xs (i + 1))
  have r2 := i32_rg (xs (i + 2))
  obtain ⟨v, hv, he⟩ := w_vr (b_51 (A := A) (x := (xs (i + 1)).toInt) (y := (xs (i + 2)).toInt) hA)
  exact wl_51 (A := A) (v := v) hN hi hv h_ag hV (q_cS_v he (cq_138 hI hA r1.1 r1.2 r2.1 r2.2)) (fun M1 cc cs hV1 => q_mS_v he (mq_274 hV1 hA r1.1 r1.2 r2.1 r2.2)) (hK _ (s_51 hA)) l5 l6 l7
theorem wk_52 (hN : N ≤ 2560) (hi : i + 5 ≤ N) (hI : q_I M A) (hV : q_V M A) (hA : a_ok A) (hK : ∀ A', a_ok A' → q_lK N xs (d + 32) i A' cc cs Q) (l5 l6 l7 : gg_V) :
    wp N xs (d + 32) 287 2985 [gr 0, gr 1, gr 142, gr 157, (0, (i : Int)), l5, l6, l7] [] (gk_R, M, 158, cc, cs) Q := by
  have r1 := i32_rg (xs (i + 1))
  have r2 := i32_rg (xs (i + 2))
  obtain ⟨v, hv, he⟩ := w_vr (b_52 (A := A) (x := (xs (i + 1)).toInt) (y := (xs (i + 2)).toInt) hA)
  exact wl_52 (A := A) (v := v) hN hi hv h_wt hV (q_cS_v he (cq_139 hI hA r1.1 r1.2 r2.1 r2.2)) (fun M1 cc cs hV1 => q_mS_v he (mq_275 hV1 hA r1.1 r1.2 r2.1 r2.2)) (hK _ (s_52 hA)) l5 l6 l7
theorem wk_53 (hN : N ≤ 2560) (hi : i + 5 ≤ N) (hI : q_I M A) (hV : q_V M A) (hA : a_ok A) (hK : ∀ A', a_ok A' → q_lK N xs (d + 32) i A' cc cs Q) (l5 l6 l7 : gg_V) :
    wp N xs (d + 32) 287 3053 [gr 0, gr 1, gr 142, gr 157, (0, (i : Int)), l5, l6, l7] [] (gk_R, M, 158, cc, cs) Q := by
  have r1 := i32_rg (xs (i + 1))
  obtain ⟨v, hv, he⟩ := w_vr (b_53 (A := A) (x := (xs (i + 1)).toInt) hA)
  exact wl_53 (A := A) (v := v) hN hi hv h_arc hV (q_cS_v he (cq_140 hI hA r1.1 r1.2)) (fun M1 cc cs hV1 => q_mS_v he (mq_276 hV1 hA r1.1 r1.2)) (hK _ (s_53 hA)) l5 l6 l7
theorem wk_54 (hN : N ≤ 2560) (hi : i + 5 ≤ N) (hI : q_I M A) (hV : q_V M A) (hA : a_ok A) (hK : ∀ A', a_ok A' → q_lK N xs (d + 32) i A' cc cs Q) (l5 l6 l7 : gg_V) :
    wp N xs (d + 32) 287 3109 [gr 0, gr 1, gr 142, gr 157, (0, (i : Int)), l5, l6, l7] [] (gk_R, M, 158, cc, cs) Q := by
  have r1 := i32_rg (xs (i + 1))
  have r2 := i32_rg (xs (i + 2))
  obtain ⟨v, hv, he⟩ := w_vr (b_54 (A := A) (x := (xs (i + 1)).toInt) (y := (xs (i + 2)).toInt) hA)
  exact wl_54 (A := A) (v := v) hN hi hv h_vg hV (q_cS_v he (cq_141 hI hA r1.1 r1.2 r2.1 r2.2)) (fun M1 cc cs hV1 => q_mS_v he (mq_278 hV1 hA r1.1 r1.2 r2.1 r2.2)) (hK _ (s_54 hA)) l5 l6 l7
theorem wk_55 (hN : N ≤ 2560) (hi : i + 5 ≤ N) (hI : q_I M A) (hV : q_V M A) (hA : a_ok A) (hK : ∀ A', a_ok A' → q_lK N xs (d + 32) i A' cc cs Q) (l5 l6 l7 : gg_V) :
    wp N xs (d + 32) 287 3177 [gr 0, gr 1, gr 142, gr 157, (0, (i : Int)), l5, l6, l7] [] (gk_R, M, 158, cc, cs) Q := by
  have r1 := i32_rg (xs (i + 1))
  obtain ⟨v, hv, he⟩ := w_vr (b_55 (A := A) (x := (xs (i + 1)).toInt) hA)
  exact wl_55 (A := A) (v := v) hN hi hv h_arc hV (q_cS_v he (cq_142 hI hA r1.1 r1.2)) (fun M1 cc cs hV1 => q_mS_v he (mq_281 hV1 hA r1.1 r1.2)) (hK _ (s_55 hA)) l5 l6 l7
theorem wk_56 (hN : N ≤ 2560) (hi : i + 5 ≤ N) (hI : q_I M A) (hV : q_V M A) (hA : a_ok A) (hK : ∀ A', a_ok A' → q_lK N xs (d + 32) i A' cc cs Q) (l5 l6 l7 : gg_V) :
    wp N xs (d + 32) 287 3233 [gr 0, gr 1, gr 142, gr 157, (0, (i : Int)), l5, l6, l7] [] (gk_R, M, 158, cc, cs) Q := by
  have r1 := i32_rg (xs (i + 1))
  obtain ⟨v, hv, he⟩ := w_vr (b_56 (A := A) (x := (xs (i + 1)).toInt) hA)
  exact wl_56 (A := A) (v := v) hN hi hv h_set hV (q_cS_v he (cq_143 hI hA r1.1 r1.2)) (fun M1 cc cs hV1 => q_mS_v he (mq_282 hV1 hA r1.1 r1.2)) (hK _ (s_56 hA)) l5 l6 l7
theorem wk_57 (hN : N ≤ 2560) (hi : i + 5 ≤ N) (hI : q_I M A) (hV : q_V M A) (hA : a_ok A) (hK : ∀ A', a_ok A' → q_lK N xs (d + 32) i A' cc cs Q) (l5 l6 l7 : gg_V) :
    wp N xs (d + 32) 287 3289 [gr 0, gr 1, gr 142, gr 157, (0, (i : Int)), l5, l6, l7] [] (gk_R, M, 158, cc, cs) Q := by
  obtain ⟨v, hv, he⟩ := w_vr (b_57 (A := A) hA)
  exact wl_57 (A := A) (v := v) hN hi hv rfl hV (q_cS_v he (cq_144 hI hA)) (fun M1 cc cs hV1 => q_mS_v he (mq_283 hV1 hA)) (hK _ (s_57 hA)) l5 l6 l7
theorem wk_58 (hN : N ≤ 2560) (hi : i + 5 ≤ N) (hI : q_I M A) (hV : q_V M A) (hA : a_ok A) (hK : ∀ A', a_ok A' → q_lK N xs (d + 32) i A' cc cs Q) (l5 l6 l7 : gg_V) :
    wp N xs (d + 32) 287 3302 [gr 0, gr 1, gr 142, gr 157, (0, (i : Int)), l5, l6, l7] [] (gk_R, M, 158, cc, cs) Q := by
  have r1 := i32_rg (xs (i + 1))
  exact wl_58 (A := A) hN hi trivial h_n hV (cq_145 hI hA r1.1 r1.2) (fun M1 cc cs hV1 => mq_284 hV1 hA r1.1 r1.2) (hK _ hA) l5 l6 l7
theorem wk_59 (hN : N ≤ 2560) (hi : i + 5 ≤ N) (hI : q_I M A) (hV : q_V M A) (hA : a_ok A) (hK : ∀ A', a_ok A' → q_lK N xs (d + 32) i A' cc cs Q) (l5 l6 l7 : gg_V) :
    wp N xs (d + 32) 287 3358 [gr 0, gr 1, gr 142, gr 157, (0, (i : Int)), l5, l6, l7] [] (gk_R, M, 158, cc, cs) Q := by
  obtain ⟨v, hv, he⟩ := w_vr (b_59 (A := A) hA)
  exact wl_59 (A := A) (v := v) hN hi hv rfl hV (q_cS_v he (cq_146 hI hA)) (fun M1 cc cs hV1 => q_mS_v he (mq_268 hV1 hA)) (hK _ (ok_undo hA)) l5 l6 l7
theorem wk_60 (hN : N ≤ 2560) (hi : i + 5 ≤ N) (hI : q_I M A) (hV : q_V M A) (hA : a_ok A) (hK : ∀ A', a_ok A' → q_lK N xs (d + 32) i A' cc cs Q) (l5 l6 l7 : gg_V) :
    wp N xs (d + 32) 287 3371 [gr 0, gr 1, gr 142, gr 157, (0, (i : Int)), l5, l6, l7] [] (gk_R, M, 158, cc, cs) Q := by
  have r1 := i32_rg (xs (i + 1))
  obtain ⟨v, hv, he⟩ := w_vr (b_60 (A := A) (x := (xs (i + 1)).toInt) hA)
  exact wl_60 (A := A) (v := v) hN hi hv h_n hV (q_cS_v he (cq_147 hI hA r1.1 r1.2)) (fun M1 cc cs hV1 => q_mS_v he (mq_285 hV1 hA r1.1 r1.2)) (hK _ (ok_save hA)) l5 l6 l7
theorem wk_61 (hN : N ≤ 2560) (hi : i + 5 ≤ N) (hI : q_I M A) (hV : q_V M A) (hA : a_ok A) (hK : ∀ A', a_ok A' → q_lK N xs (d + 32) i A' cc cs Q) (l5 l6 l7 : gg_V) :
    wp N xs (d + 32) 287 3427 [gr 0, gr 1, gr 142, gr 157, (0, (i : Int)), l5, l6, l7] [] (gk_R, M, 158, cc, cs) Q := by
  have r1 := i32_rg (xs (i + 1))
  obtain ⟨v, hv, he⟩ := w_vr (b_61 (A := A) (x := (xs (i + 1)).toInt) hA)
  exact wl_61 (A := A) (v := v) hN hi hv h_n hV (q_cS_v he (cq_148 hI hA r1.1 r1.2)) (fun M1 cc cs hV1 => q_mS_v he (mq_286 hV1 hA r1.1 r1.2)) (hK _ (ok_rest2 hA)) l5 l6 l7
end SG
