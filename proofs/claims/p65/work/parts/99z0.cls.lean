/-! the class's methods in the moving world -/
/-- the class's objects, 1 to 141, hold the state A -/
def cI (W : gy_W) (A : q_A) : Prop := ∃ M : gg_M, q_I M A ∧ ∀ o, 1 ≤ o → o < 142 → W.1 o = gg_sh o ∧ ∀ k, W.2.1 o k = ge_v (gk_R, M, 142, 0, 0) o k
/-- nothing else has changed -/
def cF (W W' : gy_W) : Prop := ∀ o, ¬ (1 ≤ o ∧ o < 142) → W'.1 o = W.1 o ∧ W'.2.1 o = W.2.1 o
theorem cF.rf {W : gy_W} : cF W W := fun _ _ => ⟨rfl, rfl⟩
theorem cF.tr {W W' W2 : gy_W} (h : cF W W') (h2 : cF W' W2) : cF W W2 := fun o ho => ⟨(h2 o ho).1.trans (h o ho).1, (h2 o ho).2.trans (h o ho).2⟩
theorem ge_v_cs {R M : gg_M} {n c s n' c' s' : Nat} {o k : Nat} : ge_v (R, M, n, c, s) o k = ge_v (R, M, n', c', s') o k := rfl
theorem cI_ge {W : gy_W} {M : gg_M} (h : ∀ o, 1 ≤ o → o < 142 → W.1 o = gg_sh o ∧ ∀ k, W.2.1 o k = ge_v (gk_R, M, 142, 0, 0) o k) : ge W (gk_R, M, 142, 0, 0) = W := by
  refine Prod.ext ?_ (Prod.ext ?_ rfl)
  · funext o
    show (if 1 ≤ o ∧ o < 142 then gg_sh o else W.1 o) = W.1 o
    by_cases ho : 1 ≤ o ∧ o < 142
    · rw [if_pos ho, (h o ho.1 ho.2).1]
    · rw [if_neg ho]
  · funext o k
    show (if 1 ≤ o ∧ o < 142 then ge_v (gk_R, M, 142, 0, 0) o k else W.2.1 o k) = W.2.1 o k
    by_cases ho : 1 ≤ o ∧ o < 142
    · rw [if_pos ho, (h o ho.1 ho.2).2 k]
    · rw [if_neg ho]
theorem ge_cI {W : gy_W} {M : gg_M} {A : q_A} {c s : Nat} (h : q_I M A) : cI (ge W (gk_R, M, 142, c, s)) A :=
  ⟨M, h, fun o h1 h2 => ⟨ge_sh (w := (gk_R, M, 142, c, s)) ⟨h1, h2⟩, fun k => ge_at (w := (gk_R, M, 142, c, s)) ⟨h1, h2⟩⟩⟩
theorem ge_cF {W : gy_W} {M : gg_M} {c s : Nat} : cF W (ge W (gk_R, M, 142, c, s)) := fun o ho => ⟨if_neg ho, funext fun k => if_neg ho⟩
/-- a method of the class: its answer, the state behind it; or what it throws -/
theorem cy_q {N : Nat} {xs : Nat → Int32} {d k o t : Nat} {as : List gg_V} {A A' : q_A} {v : Int} {W : gy_W} {Q : gy_O → Prop} (hk : k ≠ 287) (hq : ∀ M : gg_M, q_I M A → q_cS 0 (fun _ => 0) d k as M A' 0 0 o t v) (hI : cI W A)
    (h0 : o = 0 → ∀ W' : gy_W, cI W' A' → cF W W' → W'.2.2 = W.2.2 → Q ((1, (t, v)), W')) (h1 : o ≠ 0 → ∀ W' : gy_W, cI W' A → cF W W' → W'.2.2 = (W.2.2.1 + 1, W.2.2.2 + 6) → Q ((o, (3, 0)), W')) : wy N xs d k 0 (gr 1 :: as) [] W Q := by
  obtain ⟨M, hM, hW⟩ := hI
  obtain ⟨f, x, hx, hQ⟩ := hq M hM (fun x => (o = 0 ∧ ∃ M' : gg_M, q_I M' A' ∧ x = ((1, (t, v)), (gk_R, M', 142, 0, 0))) ∨ (o ≠ 0 ∧ x = ((o, (3, 0)), (gk_R, M, 142, 1, 6))))
    (fun ho M' _ hM' => Or.inl ⟨ho, M', hM', rfl⟩) (fun ho _ => Or.inr ⟨ho, rfl⟩)
  have hs := (gg_ex_s W N xs (fun _ => 0) f d k 0 (gr 1 :: as) [] _ x ⟨hk, Or.inr rfl⟩ hx).1
  rw [cI_ge hW] at hs
  rcases hQ with ⟨ho, M', hM', rfl⟩ | ⟨ho, rfl⟩
  · exact ⟨f, _, hs, h0 ho _ (ge_cI hM') ge_cF rfl⟩
  · exact ⟨f, _, hs, h1 ho _ (ge_cI hM) ge_cF rfl⟩
/-- the constructor, the very first -/
def cW1 : gy_W := gy_mk gy_pw (0, 0, 6) (fun k => gy_df (gg_ft 6 k)) (gg_nf 6)
theorem cW1_ge : ge gy_pw gk_w1 = cW1 := by
  refine Prod.ext ?_ (Prod.ext ?_ (Prod.ext ?_ ?_))
  · funext o
    show (if 1 ≤ o ∧ o < 2 then gg_sh o else (9, 0, 0)) = if o = 1 then (0, 0, 6) else (9, 0, 0)
    by_cases ho : o = 1
    · subst ho
      rfl
    · rw [if_neg ho, if_neg (by omega)]
  · funext o k
    show (if 1 ≤ o ∧ o < 2 then ge_v gk_w1 o k else (0, 0)) = if o = 1 then gy_df (gg_ft 6 k) else (0, 0)
    by_cases ho : o = 1
    · subst ho
      rw [if_pos rfl, if_pos (by decide)]
      rfl
    · rw [if_neg ho, if_neg (by omega)]
  · rfl
  · show 0 + 8 = 0 + gg_nf 6
    decide +kernel
/-- the world behind it -/
noncomputable def cW0 : gy_W := ge gy_pw gk_W
theorem gk_W_nx : gk_W.2.2.1 = 142 ∧ gk_W.2.2.2.1 = 141 ∧ gk_W.2.2.2.2 ≤ 12000 := by
  have h0 := gk_all
  unfold gk_ok at h0
  rw [Bool.and_eq_true, Bool.and_eq_true] at h0
  exact of_decide_eq_true h0.1.1
theorem cW0_I : cI cW0 a_0 := by
  have h := gk_W_nx.1
  refine ⟨gk_M, i_0, fun o h1 h2 => ⟨if_pos ⟨h1, by rw [h]; exact h2⟩, fun k => ?_⟩⟩
  show (if 1 ≤ o ∧ o < gk_W.2.2.1 then ge_v gk_W o k else _) = _
  rw [h, if_pos ⟨h1, h2⟩]
  rfl
theorem cW0_c : cW0.2.2.1 = 141 ∧ cW0.2.2.2 ≤ 12000 := by
  obtain ⟨h1, h2, h3⟩ := gk_W_nx
  refine ⟨?_, ?_⟩
  · show 0 + gk_W.2.2.2.1 = 141
    omega
  · show 0 + gk_W.2.2.2.2 ≤ 12000
    omega
theorem cW0_9 {o : Nat} (h : 142 ≤ o) : cW0.1 o = (9, 0, 0) := if_neg (by have := gk_W_nx.1; omega)
theorem cy_ctor {N : Nat} {xs : Nat → Int32} {Q : gy_O → Prop} (h : ∀ v, Q ((0, v), cW0)) : wy N xs 39 86 0 (gg_en 2 [(2, 1)]) [] cW1 Q := by
  obtain ⟨v1, h1⟩ := gk_spec
  unfold gk_x at h1
  rw [gf_x_eq] at h1
  have hs := (gg_ex_s gy_pw N xs (fun _ => 0) 6000 39 86 0 _ [] gk_w1 _ ⟨by decide, Or.inl rfl⟩ h1).1
  rw [cW1_ge] at hs
  exact ⟨6000, _, hs, h v1⟩
