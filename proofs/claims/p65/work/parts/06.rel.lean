/-! how the interpreter's world stands in the machine's heap -/
section GGR
variable (S0 b : Nat) (ad : Nat → Int → Nat) (opq : Value)
def gg_rf (x : Int) : Value := match x with
  | .ofNat 0 => .ref b
  | .ofNat (n + 1) => .ref (S0 + n)
  | .negSucc _ => .null
def gg_ro (x : Int) : Option Nat := match x with
  | .ofNat 0 => some b
  | .ofNat (n + 1) => some (S0 + n)
  | .negSucc _ => none
theorem gg_ro_rf (x : Int) : va_rf (gg_ro S0 b x) = gg_rf S0 b x := by
  match x with
  | .ofNat 0 => rfl
  | .ofNat (n + 1) => rfl
  | .negSucc _ => rfl
/-- a value in the machine -/
def yv (v : gg_V) : Value := match v with
  | (0, x) => .int (gg_i x)
  | (1, x) => .long (gg_l x)
  | (2, x) => gg_rf S0 b x
  | (4, x) => .ref (ad 4 x)
  | (6, x) => .ref (ad 6 x)
  | (7, x) => if x = 0 then opq else .ref (ad 7 x)
  | (8, x) => .ref (ad 8 x)
  | (_, _) => opq
def yo (v : gg_V) : Option Nat := match v with
  | (2, x) => gg_ro S0 b x
  | (4, x) => some (ad 4 x)
  | (6, x) => some (ad 6 x)
  | (7, x) => some (ad 7 x)
  | (8, x) => some (ad 8 x)
  | (_, _) => none
theorem gy_rr_ok {v : gg_V} (h : gy_rr v = true) : v.1 = 2 ∨ v.1 = 4 ∨ v.1 = 6 ∨ v.1 = 8 ∨ (v.1 = 7 ∧ 1 ≤ v.2) := by
  unfold gy_rr at h
  simp only [Bool.or_eq_true, Bool.and_eq_true, beq_iff_eq, decide_eq_true_eq] at h
  omega
theorem gy_ra_ok {v : gg_V} (h : gy_ra v = true) : v.1 = 2 ∨ v.1 = 4 ∨ v.1 = 6 ∨ v.1 = 7 ∨ v.1 = 8 := by
  unfold gy_ra at h
  simp only [Bool.or_eq_true, beq_iff_eq] at h
  omega
theorem yo_yv {v : gg_V} (h : gy_rr v = true) : va_rf (yo S0 b ad v) = yv S0 b ad opq v := by
  have h2 := gy_rr_ok h
  obtain ⟨t, x⟩ := v
  dsimp only at h2
  rcases h2 with rfl | rfl | rfl | rfl | ⟨rfl, h3⟩
  · exact gg_ro_rf S0 b x
  · rfl
  · rfl
  · rfl
  · show Value.ref (ad 7 x) = if x = 0 then opq else .ref (ad 7 x)
    rw [if_neg (by omega)]
variable (cA : Nat → ClassId)
def gy_ce (w : gy_W) (o : Nat) : va_E := match w.1 o with
  | (0, _, c) => .inr (c, (List.range (gg_nf c)).map fun k => yv S0 b ad opq (w.2.1 o k))
  | (4, n, _) => .inl (cA 4, n, .inr (.inl fun j => gg_l (w.2.1 o j).2))
  | (5, n, c) => .inl (cA (5 + c), n, .inr (.inr (.inr (.inr fun j => yo S0 b ad (w.2.1 o j)))))
  | (k, n, _) => .inl (cA k, n, .inl fun j => gg_i (w.2.1 o j).2)
end GGR
/-- a row of the locals that is known -/
def gg_lo (f : gg_V → Value) : Nat → List gg_V → List (Nat × Value)
  | _, [] => []
  | i, v :: r => if v.1 = 3 then gg_lo f (i + 1) r else (i, f v) :: gg_lo f (i + 1) r
theorem gg_lo_mem (f : gg_V → Value) : ∀ (L : List gg_V) (i : Nat) (q : Nat × Value), q ∈ gg_lo f i L ↔ ∃ (j : Nat) (v : gg_V), L[j]? = some v ∧ v.1 ≠ 3 ∧ q = (i + j, f v)
  | [], i, q => by simp [gg_lo]
  | v :: r, i, q => by
    have ih := gg_lo_mem f r (i + 1) q
    have key : q ∈ gg_lo f i (v :: r) ↔ (v.1 ≠ 3 ∧ q = (i, f v)) ∨ q ∈ gg_lo f (i + 1) r := by
      show q ∈ (if v.1 = 3 then gg_lo f (i + 1) r else (i, f v) :: gg_lo f (i + 1) r) ↔ _
      by_cases h : v.1 = 3
      · simp [h]
      · simp [h]
    rw [key, ih]
    constructor
    · rintro (⟨h1, h2⟩ | ⟨j, u, h1, h2, h3⟩)
      · exact ⟨0, v, rfl, h1, h2⟩
      · exact ⟨j + 1, u, h1, h2, by rw [h3]; congr 1; omega⟩
    · rintro ⟨j, u, h1, h2, h3⟩
      cases j with
      | zero =>
        cases h1
        exact Or.inl ⟨h2, h3⟩
      | succ j => exact Or.inr ⟨j, u, h1, h2, by rw [h3]; congr 1; omega⟩
theorem gg_has_at {f : gg_V → Value} {ls : Array Slot} {nL i : Nat} {L : List gg_V} {v : gg_V} (h : lv_has ls nL (gg_lo f 0 L)) (hi : L[i]? = some v) (hv : v.1 ≠ 3) : ls[i]? = some (.val (f v)) := by
  have hm : (i, f v) ∈ gg_lo f 0 L := (gg_lo_mem f L 0 _).mpr ⟨i, v, hi, hv, by simp⟩
  exact h.2.2 _ hm
theorem gg_cut_get (L : List gg_V) (i j : Nat) (v : gg_V) (h : (gg_cut L i)[j]? = some v) (hv : v.1 ≠ 3) : L[j]? = some v ∧ (j + 1 = i → v.1 ≠ 1) := by
  cases i with
  | zero => exact ⟨h, fun e => by omega⟩
  | succ k =>
    unfold gg_cut at h
    dsimp only at h
    split at h
    · rename_i x hx
      by_cases hjk : j = k
      · subst hjk
        rw [List.getElem?_set_self (List.getElem?_eq_some_iff.mp hx).1] at h
        cases h
        exact absurd rfl hv
      · rw [List.getElem?_set_ne (Ne.symm hjk)] at h
        exact ⟨h, fun e => by omega⟩
    · rename_i hx
      refine ⟨h, fun e h1 => ?_⟩
      have : j = k := by omega
      subst this
      exact hx v.2 (by rw [h]; congr 1; exact Prod.ext h1 rfl)
theorem gg_cut_len (L : List gg_V) (i : Nat) : (gg_cut L i).length = L.length := by
  cases i with
  | zero => rfl
  | succ k =>
    unfold gg_cut
    dsimp only
    split <;> simp
theorem gg_s1_len (L : List gg_V) (i : Nat) (v : gg_V) : (gg_s1 L i v).length = L.length := by simp [gg_s1, gg_cut_len]
theorem gg_s2_len (L : List gg_V) (i : Nat) (v : gg_V) : (gg_s2 L i v).length = L.length := by simp [gg_s2, gg_cut_len]
theorem gg_s1_get (L : List gg_V) (i j : Nat) (x v : gg_V) (h : (gg_s1 L i x)[j]? = some v) (hv : v.1 ≠ 3) (hji : j ≠ i) : L[j]? = some v ∧ (j + 1 = i → v.1 ≠ 1) := by
  unfold gg_s1 at h
  rw [List.getElem?_set_ne (Ne.symm hji)] at h
  exact gg_cut_get L i j v h hv
theorem gg_has_s1 {f : gg_V → Value} {ls' : Array Slot} {nL i : Nat} {L : List gg_V} {x : gg_V} (hc : ∀ v, v.1 ≠ 3 → ((f v).category = 2 ↔ v.1 = 1)) (hi : i < L.length)
    (h : lv_has ls' nL ((i, f x) :: (gg_lo f 0 L).filter (fun q => !(q.1 == i) && !(q.1 + 1 == i && q.2.category == 2)))) : lv_has ls' nL (gg_lo f 0 (gg_s1 L i x)) := by
  refine ⟨h.1, h.2.1, fun q hq => ?_⟩
  obtain ⟨j, v, h1, h2, rfl⟩ := (gg_lo_mem f _ 0 q).mp hq
  refine h.2.2 _ ?_
  by_cases hji : j = i
  · subst hji
    unfold gg_s1 at h1
    rw [List.getElem?_set_self (by rw [gg_cut_len]; exact hi)] at h1
    cases h1
    simp
  · obtain ⟨g1, g2⟩ := gg_s1_get L i j x v h1 h2 hji
    refine List.mem_cons_of_mem _ (List.mem_filter.mpr ⟨(gg_lo_mem f L 0 _).mpr ⟨j, v, g1, h2, by simp⟩, ?_⟩)
    simp only [Nat.zero_add, Bool.and_eq_true, Bool.not_eq_true', beq_eq_false_iff_ne, ne_eq, Bool.and_eq_false_iff]
    refine ⟨hji, ?_⟩
    by_cases hj1 : j + 1 = i
    · exact Or.inr (fun e => g2 hj1 ((hc v h2).mp e))
    · exact Or.inl hj1
/-- .. and where nothing is known of what is stored -/
theorem gg_has_s3 {f : gg_V → Value} {ls' : Array Slot} {nL i : Nat} {L : List gg_V} {y : Value} (hc : ∀ v, v.1 ≠ 3 → ((f v).category = 2 ↔ v.1 = 1)) (hi : i < L.length)
    (h : lv_has ls' nL ((i, y) :: (gg_lo f 0 L).filter (fun q => !(q.1 == i) && !(q.1 + 1 == i && q.2.category == 2)))) : lv_has ls' nL (gg_lo f 0 (gg_s1 L i (3, 0))) := by
  refine ⟨h.1, h.2.1, fun q hq => ?_⟩
  obtain ⟨j, v, h1, h2, rfl⟩ := (gg_lo_mem f _ 0 q).mp hq
  refine h.2.2 _ ?_
  by_cases hji : j = i
  · subst hji
    unfold gg_s1 at h1
    rw [List.getElem?_set_self (by rw [gg_cut_len]; exact hi)] at h1
    cases h1
    exact absurd rfl h2
  · obtain ⟨g1, g2⟩ := gg_s1_get L i j (3, 0) v h1 h2 hji
    refine List.mem_cons_of_mem _ (List.mem_filter.mpr ⟨(gg_lo_mem f L 0 _).mpr ⟨j, v, g1, h2, by simp⟩, ?_⟩)
    simp only [Nat.zero_add, Bool.and_eq_true, Bool.not_eq_true', beq_eq_false_iff_ne, ne_eq, Bool.and_eq_false_iff]
    refine ⟨hji, ?_⟩
    by_cases hj1 : j + 1 = i
    · exact Or.inr (fun e => g2 hj1 ((hc v h2).mp e))
    · exact Or.inl hj1
theorem gg_has_s2 {f : gg_V → Value} {ls' : Array Slot} {nL i : Nat} {L : List gg_V} {x : gg_V} (hc : ∀ v, v.1 ≠ 3 → ((f v).category = 2 ↔ v.1 = 1)) (hi : i + 1 < L.length)
    (h : lv_has ls' nL ((i, f x) :: (gg_lo f 0 L).filter (fun q => !(q.1 == i) && (!(q.1 == i + 1) && !(q.1 + 1 == i && q.2.category == 2))))) : lv_has ls' nL (gg_lo f 0 (gg_s2 L i x)) := by
  refine ⟨h.1, h.2.1, fun q hq => ?_⟩
  obtain ⟨j, v, h1, h2, rfl⟩ := (gg_lo_mem f _ 0 q).mp hq
  refine h.2.2 _ ?_
  unfold gg_s2 at h1
  by_cases hji : j = i
  · subst hji
    rw [List.getElem?_set_self (by rw [List.length_set, gg_cut_len]; omega)] at h1
    cases h1
    simp
  · rw [List.getElem?_set_ne (Ne.symm hji)] at h1
    have hj2 : j ≠ i + 1 := by
      intro e
      subst e
      rw [List.getElem?_set_self (by rw [gg_cut_len]; exact hi)] at h1
      cases h1
      exact h2 rfl
    rw [List.getElem?_set_ne (Ne.symm hj2)] at h1
    obtain ⟨g1, g2⟩ := gg_cut_get L i j v h1 h2
    refine List.mem_cons_of_mem _ (List.mem_filter.mpr ⟨(gg_lo_mem f L 0 _).mpr ⟨j, v, g1, h2, by simp⟩, ?_⟩)
    simp only [Nat.zero_add, Bool.and_eq_true, Bool.not_eq_true', beq_eq_false_iff_ne, ne_eq, Bool.and_eq_false_iff]
    refine ⟨hji, hj2, ?_⟩
    by_cases hj1 : j + 1 = i
    · exact Or.inr (fun e => g2 hj1 ((hc v h2).mp e))
    · exact Or.inl hj1
/-! numbers: what an operation is on the machine's own -/
theorem gi_of (x : Int32) : gg_i x.toInt = x := by unfold gg_i; exact Int32.ofInt_toInt x
theorem gl_of (x : Int64) : gg_l x.toInt = x := by unfold gg_l; exact Int64.ofInt_toInt x
