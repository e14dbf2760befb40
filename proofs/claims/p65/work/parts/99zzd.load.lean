/-! load: the text goes over, eight characters at a time -/
theorem il_shl8 {x : Nat} (h : x < 36028797018963968) : il_shl (x : Int) 8 = ((x * 256 : Nat) : Int) := by
  unfold il_shl
  refine lb_z ?_ (by omega)
  rw [Int64.toBitVec_shiftLeft, BitVec.shiftLeft_eq', lb_s (by decide) (by decide), BitVec.toNat_shiftLeft, lb_t (by omega)]
  rw [show (8 : Int).toNat = 8 from rfl, Nat.shiftLeft_eq]
  exact Nat.mod_eq_of_lt (by omega)
theorem il_orb {x c : Nat} (h : x < 36028797018963968) (hc : c ≤ 127) : il_or ((x * 256 : Nat) : Int) (c : Int) = ((x * 256 + c : Nat) : Int) := by
  unfold il_or
  refine lb_z ?_ (by omega)
  rw [Int64.toBitVec_or, BitVec.toNat_or, lb_t (by omega), lb_t (by omega)]
  have := Nat.two_pow_add_eq_or_of_lt (i := 8) (b := c) (by omega) x
  rw [show 2 ^ 8 * x = x * 256 by omega] at this
  exact this.symm
/-- characters in a row, as one number -/
def Vn (c : Nat → Nat) : Nat → Nat
  | 0 => 0
  | m + 1 => Vn c m * 256 + c m
theorem Vn_b {c : Nat → Nat} : ∀ {m : Nat}, (∀ i, i < m → c i ≤ 127) → m ≤ 8 → Vn c m < 128 * 256 ^ (m - 1)
  | 0, _, _ => by
    show 0 < _
    decide
  | 1, h, _ => by
    have := h 0 (by decide)
    show 0 * 256 + c 0 < 128 * 256 ^ 0
    omega
  | m + 2, h, hm => by
    have ih := Vn_b (m := m + 1) (fun i hi => h i (by omega)) (by omega)
    have := h (m + 1) (by omega)
    show Vn c (m + 1) * 256 + c (m + 1) < 128 * 256 ^ (m + 1)
    rw [Nat.pow_succ]
    rw [Nat.add_sub_cancel] at ih
    omega
theorem Vn_7 {c : Nat → Nat} {m : Nat} (h : ∀ i, i < m → c i ≤ 127) (hm : m ≤ 7) : Vn c m < 36028797018963968 := by
  have h1 := Vn_b h (by omega)
  have h2 : 256 ^ (m - 1) ≤ 256 ^ 6 := Nat.pow_le_pow_right (by decide) (by omega)
  have h3 : (256 : Nat) ^ 6 = 281474976710656 := by decide
  omega
theorem Vn_8 {c : Nat → Nat} {m : Nat} (h : ∀ i, i < m → c i ≤ 127) (hm : m ≤ 8) : Vn c m < 9223372036854775808 := by
  have h1 := Vn_b h (by omega)
  have h2 : 256 ^ (m - 1) ≤ 256 ^ 7 := Nat.pow_le_pow_right (by decide) (by omega)
  have h3 : (256 : Nat) ^ 7 = 72057594037927936 := by decide
  omega
theorem Vn_at {c : Nat → Nat} {m : Nat} (h : ∀ i, i < m → c i ≤ 127) (e : Nat) : Vn c m / 256 ^ e % 256 = if e < m then c (m - 1 - e) else 0 := by
  induction e generalizing m with
  | zero =>
    rw [Nat.pow_zero, Nat.div_one]
    cases m with
    | zero => rfl
    | succ m =>
      rw [if_pos (by omega)]
      have := h m (by omega)
      show (Vn c m * 256 + c m) % 256 = c m
      omega
  | succ e ih =>
    cases m with
    | zero =>
      rw [if_neg (by omega)]
      show 0 / _ % 256 = 0
      rw [Nat.zero_div]
    | succ m =>
      have hm := h m (by omega)
      have ih2 := ih (m := m) fun i hi => h i (by omega)
      rw [show Vn c (m + 1) = Vn c m * 256 + c m from rfl, Nat.pow_succ, Nat.mul_comm (256 ^ e) 256, ← Nat.div_div_eq_div_mul, show (Vn c m * 256 + c m) / 256 = Vn c m by omega, ih2]
      by_cases he : e < m
      · rw [if_pos he, if_pos (by omega), show m + 1 - 1 - (e + 1) = m - 1 - e by omega]
      · rw [if_neg he, if_neg (by omega)]
theorem qbn_V {c : Nat → Nat} {m k : Nat} (h : ∀ i, i < m → c i ≤ 127) (hm : m ≤ 8) (hk : k < 8) : qbn ((Vn c m : Nat) : Int) k = if 8 - m ≤ k then c (k - (8 - m)) else 0 := by
  unfold qbn
  have hb := Vn_8 h hm
  have hs : Vn c m >>> (56 - 8 * (k : Int)).toNat ≤ Vn c m := Nat.shiftRight_le _ _
  rw [il_shr_n hb (by omega) (by omega), show (255 : Int) = ((255 : Nat) : Int) from rfl, il_and_n (by omega) (by decide), Int.toNat_natCast]
  rw [show (255 : Nat) = 2 ^ 8 - 1 from rfl, Nat.and_two_pow_sub_one_eq_mod, Nat.shiftRight_eq_div_pow, show (56 - 8 * (k : Int)).toNat = 8 * (7 - k) by omega, Nat.pow_mul]
  have := Vn_at h (7 - k)
  rw [show (2 : Nat) ^ 8 = 256 from rfl, this]
  by_cases hkm : 8 - m ≤ k
  · rw [if_pos hkm, if_pos (by omega), show m - 1 - (7 - k) = k - (8 - m) by omega]
  · rw [if_neg hkm, if_neg (by omega)]
theorem qapp_V {c : Nat → Nat} {m : Nat} (h : ∀ i, i < m → c i ≤ 127 ∧ 1 ≤ c i) (hm : m ≤ 8) (X : Nat → Nat) (B : Nat) : ∀ k, k ≤ 8 → (qapp X B ((Vn c m : Nat) : Int) k).1 = B + (k - (8 - m)) ∧ ∀ j, (qapp X B ((Vn c m : Nat) : Int) k).2 j = if B ≤ j ∧ j < B + (k - (8 - m)) then c (j - B) else X j := by
  intro k
  induction k with
  | zero =>
    intro _
    refine ⟨by show B = _; omega, fun j => ?_⟩
    rw [if_neg (by omega)]
    rfl
  | succ k ih =>
    intro hk
    obtain ⟨i1, i2⟩ := ih (by omega)
    have hq := qbn_V (k := k) (fun i hi => (h i hi).1) hm (by omega)
    unfold qapp
    by_cases hkm : 8 - m ≤ k
    · rw [if_pos hkm] at hq
      have := (h (k - (8 - m)) (by omega)).2
      rw [if_neg (by omega)]
      refine ⟨by show (qapp _ _ _ _).1 + 1 = _; omega, fun j => ?_⟩
      show (if j = (qapp X B ((Vn c m : Nat) : Int) k).1 then qbn ((Vn c m : Nat) : Int) k else (qapp X B ((Vn c m : Nat) : Int) k).2 j) = _
      rw [i1, hq, i2]
      by_cases e : j = B + (k - (8 - m))
      · rw [if_pos e, if_pos (by omega), show j - B = k - (8 - m) by omega]
      · rw [if_neg e]
        by_cases e2 : B ≤ j ∧ j < B + (k - (8 - m))
        · rw [if_pos e2, if_pos (by omega)]
        · rw [if_neg e2, if_neg (by omega)]
    · rw [if_neg hkm] at hq
      rw [if_pos hq]
      refine ⟨by omega, fun j => ?_⟩
      rw [i2]
      by_cases e2 : B ≤ j ∧ j < B + (k - (8 - m))
      · omega
      · rw [if_neg e2, if_neg (by omega)]
/-- the text so far -/
def yAt (A A' : q_A) (l : List Nat) (n : Nat) : Prop := aG A' = aG A ∧ aN A' = aN A ∧ aH A' = aH A ∧ a_ok A' ∧ aB A' = n ∧ ∀ j, j < n → aX A' j = l.getD j 0
section LD
variable {N : Nat} {xs : Nat → Int32} {d : Nat} {w : gy_W} {Q : gy_O → Prop} {A : q_A} {l : List Nat} {s vb : Nat}
theorem ly_352_49 {l0 l1 l2 l4 l5 l6 : gg_V} {st : List gg_V} {z v : Int} : wy N xs d 352 49 [l0, l1, l2, (0, z), l4, l5, l6] ((1, v) :: st) w Q ↔ wy N xs d 352 51 [l0, l1, l2, (0, z), (1, v), (3, 0), l6] st w Q := wl_lst (show gg_dt 352 49 = some (.lstore 4, 2) by decide +kernel) rfl (Nat.le_of_ble_eq_true rfl)
theorem yw_send (hI : cI w A) (hA : a_ok A) (h0 : aB A = 0) (hS : ySt w s vb l) (hl : l.length ≤ 400) (hch : ∀ j, j < l.length → 1 ≤ l.getD j 0)
    (hQ : ∀ w' A', cI w' (qloadA A') → yAt A A' l l.length → yF yK 0 0 w w' → Q ((1, (0, qloadV A')), w')) (hr : ∀ A', yAt A A' l l.length → -2147483648 ≤ qloadV A' ∧ qloadV A' ≤ 2147483647) :
    wy N xs (d + 32) 352 0 [gr 1, gr s, (3, 0), (3, 0), (3, 0), (3, 0), (3, 0)] [] w Q := by
  have hs9 := hS.1.1
  have nK : ∀ w', yF yK 0 0 w w' → ySt w' s vb l := fun w' hF => hS.fr hF (yK.no hS.2.2.2.1) (yK.no hS.2.2.2.2.2.1)
  rw [ly_352_0, ly_352_1 (by first | exact gl_gr | exact gl_r6 | exact gl_r7 | assumption | rfl), ly_352_2, ly_352_3]
  refine wl_for (P := fun t => ∀ (w' : gy_W) (A' : q_A) (l4 l6 : gg_V), yF yK 0 0 w w' → cI w' A' → yAt A A' l (min (8 * t) l.length) → wy N xs (d + 32) 352 4 [gr 1, gr s, (0, ((min (8 * t) l.length : Nat) : Int)), (0, ((8 * t : Nat) : Int)), l4, (3, 0), l6] [] w' Q) ((l.length + 7) / 8) (fun t ht ih w' A' l4 l6 hF hI' hAt => ?_) (fun w' A' l4 l6 hF hI' hAt => ?_) w A _ _ yF.rf hI ⟨rfl, rfl, rfl, hA, by rw [h0]; omega, fun j hj => absurd hj (by omega)⟩ |> fun z => by
    rw [show (min (8 * 0) l.length) = 0 by omega] at z
    exact z
  · have hS' := nK w' hF
    have hs9' := hS'.1.1
    have hlt : 8 * t < l.length := by omega
    have hmin : min (8 * t) l.length = 8 * t := by omega
    rw [hmin] at hAt ⊢
    rw [ly_352_4, ly_352_5 (by first | exact gl_gr | exact gl_r6 | exact gl_r7 | assumption | rfl), ly_352_6 (by first | exact gl_gr | exact gl_r6 | exact gl_r7 | assumption | rfl) (by first | exact gl_cl (by assumption) rfl | exact gl_l6 (by omega) (by omega) | exact gl_l4 (by omega)), yw_len hS' (by omega), wz_1, ly_352_9 (by omega) (by omega) (by omega) (by omega)]
    simp only [show ((8 * t : Nat) : Int) < (l.length : Int) by omega, not_true_eq_false, true_implies, false_implies, and_true, true_and]
    rw [ly_352_12, ly_352_13 (show (0 : Nat) ≠ 1 by decide), ly_352_15, ly_352_16]
    obtain ⟨m, hm⟩ : ∃ m, m = min 8 (l.length - 8 * t) := ⟨_, rfl⟩
    have hch2 : ∀ i, i < m → l.getD (8 * t + i) 0 ≤ 127 ∧ 1 ≤ l.getD (8 * t + i) 0 := fun i hi => ⟨(hS'.2.2.1 (8 * t + i) (by omega)).2, hch _ (by omega)⟩
    refine wl_for (P := fun j => wy N xs (d + 32) 352 18 [gr 1, gr s, (0, ((8 * t + j : Nat) : Int)), (0, ((8 * t : Nat) : Int)), (1, ((Vn (fun i => l.getD (8 * t + i) 0) j : Nat) : Int)), (3, 0), (0, ((8 * t + j : Nat) : Int))] [] w' Q) m (fun j hj ih2 => ?_) ?_
    · have hb := Vn_7 (c := fun i => l.getD (8 * t + i) 0) (m := j) (fun i hi => (hch2 i (by omega)).1) (by omega)
      have hcj := (hch2 j hj).1
      have hadd : io_add ((8 * t : Nat) : Int) 8 = ((8 * t + 8 : Nat) : Int) := by rw [io_add_o (by omega) (by omega)]; omega
      have hadd2 : io_add ((8 * t + j : Nat) : Int) 1 = ((8 * t + (j + 1) : Nat) : Int) := by rw [io_add_o (by omega) (by omega)]; omega
      rw [ly_352_18, ly_352_20, ly_352_21, ly_352_23, hadd, ly_352_24 (by omega) (by omega) (by omega) (by omega)]
      simp only [show ((8 * t + j : Nat) : Int) < ((8 * t + 8 : Nat) : Int) by omega, not_true_eq_false, true_implies, false_implies, and_true, true_and]
      rw [ly_352_27, ly_352_29 (by first | exact gl_gr | exact gl_r6 | exact gl_r7 | assumption | rfl), ly_352_30 (by first | exact gl_gr | exact gl_r6 | exact gl_r7 | assumption | rfl) (by first | exact gl_cl (by assumption) rfl | exact gl_l6 (by omega) (by omega) | exact gl_l4 (by omega)), yw_len hS' (by omega), wz_1, ly_352_33 (by omega) (by omega) (by omega) (by omega)]
      simp only [show ((8 * t + j : Nat) : Int) < (l.length : Int) by omega, not_true_eq_false, true_implies, false_implies, and_true, true_and]
      rw [ly_352_36, ly_352_38, ly_352_40, il_shl8 hb, ly_352_41 (by first | exact gl_gr | exact gl_r6 | exact gl_r7 | assumption | rfl), ly_352_42, ly_352_44 (by first | exact gl_gr | exact gl_r6 | exact gl_r7 | assumption | rfl) (by first | exact gl_cl (by assumption) rfl | exact gl_l6 (by omega) (by omega) | exact gl_l4 (by omega)), yw_at hS' (by omega) (by omega), wz_1, ly_352_47, io_i2l_o (by omega) (by omega), ly_352_48, il_orb hb hcj, ly_352_49, ly_352_51 (by first | exact gl_gr | exact gl_r6 | exact gl_r7 | assumption | rfl), hadd2, ly_352_54, hadd2, ly_352_57]
      exact ih2
    · have hadd : io_add ((8 * t : Nat) : Int) 8 = ((8 * (t + 1) : Nat) : Int) := by rw [io_add_o (by omega) (by omega)]; omega
      have hI1 := hI'.s1
      have hb8 := Vn_8 (c := fun i => l.getD (8 * t + i) 0) (m := m) (fun i hi => (hch2 i hi).1) (by omega)
      have htail : wy N xs (d + 32) 352 60 [gr 1, gr s, (0, ((8 * t + m : Nat) : Int)), (0, ((8 * t : Nat) : Int)), (1, ((Vn (fun i => l.getD (8 * t + i) 0) m : Nat) : Int)), (3, 0), (0, ((8 * t + m : Nat) : Int))] [] w' Q := by
        obtain ⟨q1, q2⟩ := qapp_V (c := fun i => l.getD (8 * t + i) 0) hch2 (by omega) (aX A') (aB A') 8 (Nat.le_refl _)
        have q3 := qapp_B (aX A') (aB A') ((Vn (fun i => l.getD (8 * t + i) 0) m : Nat) : Int) 8
        obtain ⟨at1, at2, at3, at4, at5, at6⟩ := hAt
        have hm8 : 8 - (8 - m) = m := by omega
        rw [hm8] at q1 q2
        have q4 : qmore ((Vn (fun i => l.getD (8 * t + i) 0) m : Nat) : Int) 8 = m := by omega
        have hle : aB A' + qmore ((Vn (fun i => l.getD (8 * t + i) 0) m : Nat) : Int) 8 ≤ 400 := by omega
        rw [ly_352_60 (by first | exact gl_gr | exact gl_r6 | exact gl_r7 | assumption | rfl), ly_352_61, ly_352_63 (by first | exact gl_gr | exact gl_r6 | exact gl_r7 | assumption | rfl) (by first | exact gl_cl (by assumption) rfl | exact gl_l6 (by omega) (by omega) | exact gl_l4 (by omega))]
        refine cy_do (by decide) (fun M h => cq_87 h (w := ((Vn (fun i => l.getD (8 * t + i) 0) m : Nat) : Int))) hI' rfl fun w2 hI2 hF2 hc2 => ?_
        have eV : qappV A' ((Vn (fun i => l.getD (8 * t + i) 0) m : Nat) : Int) = ((8 * t + m : Nat) : Int) := by
          unfold qappV
          rw [if_pos hle, q4, at5]
        have eA : qappA A' ((Vn (fun i => l.getD (8 * t + i) 0) m : Nat) : Int) = (aG A', (aN A', aH A'), aV A', qapp (aX A') (aB A') ((Vn (fun i => l.getD (8 * t + i) 0) m : Nat) : Int) 8, (aE A', aS A')) := if_pos hle
        have hok := ok_app (w := ((Vn (fun i => l.getD (8 * t + i) 0) m : Nat) : Int)) at4
        rw [eA] at hI2 hok
        rw [wz_1, eV, ly_352_66, ly_352_67 (by omega) (by omega) (by omega) (by omega)]
        simp only [not_true_eq_false, true_implies, false_implies, and_true]
        rw [ly_352_73, hadd, ly_352_76]
        have hmm : min (8 * (t + 1)) l.length = 8 * t + m := by omega
        have := ih w2 _ (1, ((Vn (fun i => l.getD (8 * t + i) 0) m : Nat) : Int)) (0, ((8 * t + m : Nat) : Int)) (hF.tt hF2) hI2 ⟨at1, at2, at3, hok, ?_, fun j hj => ?_⟩
        · rw [hmm] at this
          exact this
        · rw [hmm]
          show (qapp _ _ _ _).1 = _
          rw [q1, at5]
        · rw [hmm] at hj
          show (qapp (aX A') (aB A') ((Vn (fun i => l.getD (8 * t + i) 0) m : Nat) : Int) 8).2 j = _
          rw [q2, at5]
          by_cases e : 8 * t ≤ j
          · rw [if_pos ⟨e, hj⟩, show 8 * t + (j - 8 * t) = j by omega]
          · rw [if_neg (by omega)]
            exact at6 j (by omega)
      have hadd0 : io_add ((8 * t : Nat) : Int) 8 = ((8 * t + 8 : Nat) : Int) := by rw [io_add_o (by omega) (by omega)]; omega
      rw [ly_352_18, ly_352_20, ly_352_21, ly_352_23, hadd0, ly_352_24 (by omega) (by omega) (by omega) (by omega)]
      by_cases hm8 : m = 8
      · simp only [show ¬ (((8 * t + m : Nat) : Int) < ((8 * t + 8 : Nat) : Int)) by omega, not_false_eq_true, true_implies, false_implies, and_true, true_and]
        exact htail
      · simp only [show ((8 * t + m : Nat) : Int) < ((8 * t + 8 : Nat) : Int) by omega, not_true_eq_false, true_implies, false_implies, and_true, true_and]
        rw [ly_352_27, ly_352_29 (by first | exact gl_gr | exact gl_r6 | exact gl_r7 | assumption | rfl), ly_352_30 (by first | exact gl_gr | exact gl_r6 | exact gl_r7 | assumption | rfl) (by first | exact gl_cl (by assumption) rfl | exact gl_l6 (by omega) (by omega) | exact gl_l4 (by omega)), yw_len hS' (by omega), wz_1, ly_352_33 (by omega) (by omega) (by omega) (by omega)]
        simp only [show ¬ (((8 * t + m : Nat) : Int) < (l.length : Int)) by omega, not_false_eq_true, true_implies, false_implies, and_true, true_and]
        exact htail
  · have hS' := nK w' hF
    have hs9' := hS'.1.1
    have hI1 := hI'.s1
    rw [show min (8 * ((l.length + 7) / 8)) l.length = l.length by omega] at hAt
    rw [ly_352_4, ly_352_5 (by first | exact gl_gr | exact gl_r6 | exact gl_r7 | assumption | rfl), ly_352_6 (by first | exact gl_gr | exact gl_r6 | exact gl_r7 | assumption | rfl) (by first | exact gl_cl (by assumption) rfl | exact gl_l6 (by omega) (by omega) | exact gl_l4 (by omega)), yw_len hS' (by omega), wz_1, ly_352_9 (by omega) (by omega) (by omega) (by omega)]
    simp only [show ¬ (((8 * ((l.length + 7) / 8) : Nat) : Int) < (l.length : Int)) by omega, not_false_eq_true, true_implies, false_implies, and_true, true_and]
    rw [ly_352_79 (by first | exact gl_gr | exact gl_r6 | exact gl_r7 | assumption | rfl), ly_352_80 (by first | exact gl_gr | exact gl_r6 | exact gl_r7 | assumption | rfl) (by first | exact gl_cl (by assumption) rfl | exact gl_l6 (by omega) (by omega) | exact gl_l4 (by omega))]
    refine cy_do (by decide) (fun M h => cq_88 h hAt.2.2.2.1) hI' rfl fun w2 hI2 hF2 hc2 => ?_
    rw [wz_1, ly_352_83]
    exact hQ w2 A' hI2 hAt (hF.tt hF2)
end LD
