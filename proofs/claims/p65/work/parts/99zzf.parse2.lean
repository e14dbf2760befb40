/-! the law's text, read back: the statements, the whole -/
def gd (n m : Nat) (f t a w : Nat → Nat) (mk : Nat → Bool) : Nat → q_G
  | 0 => qnew n m
  | k + 1 => if mk k = true then qsetS (qput (gd n m f t a w mk k) (f k) (t k) (a k) (w k)) (qS (gd n m f t a w mk k) ||| 2 ^ k) else qput (gd n m f t a w mk k) (f k) (t k) (a k) (w k)
theorem gd_K (n m : Nat) (f t a w : Nat → Nat) (mk : Nat → Bool) (k : Nat) : qK (gd n m f t a w mk k) = k ∧ qN (gd n m f t a w mk k) = n ∧ qM (gd n m f t a w mk k) = m := by
  induction k with
  | zero => exact ⟨rfl, rfl, rfl⟩
  | succ k ih =>
    obtain ⟨i1, i2, i3⟩ := ih
    unfold gd
    split
    · exact ⟨congrArg (· + 1) i1, i2, i3⟩
    · exact ⟨congrArg (· + 1) i1, i2, i3⟩
/-- what an arc's text holds behind its gain -/
def stM (mk : Nat → Bool) (k : Nat) : List Nat := if mk k = true then txl 6 ++ dig k else []
def stx (f t a w : Nat → Nat) (hw mk : Nat → Bool) (k : Nat) : List Nat := (if k % 2 = 0 then txl 4 else txl 5) ++ (dig (f k) ++ (32 :: (dig (t k) ++ (32 :: (dig (a k) ++ ((if hw k = true then 32 :: dig (w k) else []) ++ stM mk k))))))
def rst (f t a w : Nat → Nat) (hw mk : Nat → Bool) : Nat → Nat → List Nat
  | _, 0 => []
  | k, j + 1 => stx f t a w hw mk k ++ rst f t a w hw mk (k + 1) j
def bg (r : List Nat) : Prop := r = [] ∨ (∃ r', r = 59 :: r') ∨ ∃ r', r = 32 :: 59 :: r'
def Sk (X : Nat → Nat) (B p : Nat) (r : List Nat) : Prop := At X B p r ∨ ∃ r', r = 32 :: r' ∧ At X B p r'
theorem tx4 : txl 4 = [59, 97, 114, 99, 32] := by decide
theorem tx5 : txl 5 = [32, 59, 32, 97, 114, 99, 32] := by decide
theorem tx6 : txl 6 = [59, 109, 97, 114, 107, 32] := by decide
theorem tx3 : txl 3 = [103, 114, 97, 112, 104, 32] := by decide
theorem nd_32 {r : List Nat} : nd (32 :: r) := fun c r' h => by
  have : 32 = c := (List.cons.inj h).1
  omega
theorem nd_bg {r : List Nat} (h : bg r) : nd r := by
  rcases h with rfl | ⟨r', rfl⟩ | ⟨r', rfl⟩
  · intro c r' h
    cases h
  · intro c r2 h
    have : 59 = c := (List.cons.inj h).1
    omega
  · exact nd_32
section PB
variable {X : Nat → Nat} {B p : Nat} {r : List Nat} {f t a w : Nat → Nat} {hw mk : Nat → Bool}
theorem bg_stx {k : Nat} : bg (stx f t a w hw mk k ++ r) := by
  unfold stx
  split
  · rw [tx4]
    exact Or.inr (Or.inl ⟨_, rfl⟩)
  · rw [tx5]
    exact Or.inr (Or.inr ⟨_, rfl⟩)
theorem bg_rst (k j : Nat) : bg (rst f t a w hw mk k j) := by
  cases j with
  | zero => exact Or.inl rfl
  | succ j => exact bg_stx
theorem bg_stM {k : Nat} (h : bg r) : bg (stM mk k ++ r) := by
  unfold stM
  split
  · rw [tx6]
    exact Or.inr (Or.inl ⟨_, rfl⟩)
  · exact h
theorem no59 {p : Nat} (h : At X B p (59 :: r)) : ¬ qdi X p = true := by
  unfold qdi
  rw [h.hd.2.1]
  decide
theorem bg_ws {p : Nat} (h : At X B p r) (hr : bg r) : Sk X B (qws X B p) r ∧ ¬ (qws X B p < B ∧ qdi X (qws X B p) = true) := by
  rcases hr with rfl | ⟨r', rfl⟩ | ⟨r', rfl⟩
  · rw [sp_end h]
    exact ⟨Or.inl h, fun z => by have := h.nil; omega⟩
  · rw [sp_no h (by decide)]
    exact ⟨Or.inl h, fun z => no59 h z.2⟩
  · rw [sp_one h (by decide)]
    exact ⟨Or.inr ⟨_, rfl, h.hd.2.2⟩, fun z => no59 h.hd.2.2 z.2⟩
theorem p_arc0 {k : Nat} {body : List Nat} (h : Sk X B p ((if k % 2 = 0 then txl 4 else txl 5) ++ body)) : ∃ q q2, qws X B p = q ∧ q < B ∧ X q = 59 ∧ qws X B (q + 1) = q2 ∧ At X B q2 (97 :: 114 :: 99 :: 32 :: body) := by
  by_cases hk : k % 2 = 0
  · rw [if_pos hk, tx4] at h
    have h1 : At X B p (59 :: 97 :: 114 :: 99 :: 32 :: body) := by
      rcases h with h | ⟨r', e, h⟩
      · exact h
      · exact absurd (List.cons.inj e).1 (by decide)
    obtain ⟨a1, a2, a3⟩ := h1.hd
    exact ⟨p, p + 1, sp_no h1 (by decide), a1, a2, sp_no a3 (by decide), a3⟩
  · rw [if_neg hk, tx5] at h
    rcases h with h | ⟨r', e, h⟩
    · have h' : At X B p (32 :: 59 :: 32 :: 97 :: 114 :: 99 :: 32 :: body) := h
      obtain ⟨a1, a2, a3⟩ := h'.hd
      obtain ⟨b1, b2, b3⟩ := a3.hd
      exact ⟨p + 1, p + 1 + 1 + 1, sp_one h' (by decide), b1, b2, sp_one b3 (by decide), b3.hd.2.2⟩
    · have e2 : r' = 59 :: 32 :: 97 :: 114 :: 99 :: 32 :: body := (List.cons.inj e).2.symm
      rw [e2] at h
      obtain ⟨b1, b2, b3⟩ := h.hd
      exact ⟨p, p + 1 + 1, sp_no h (by decide), b1, b2, sp_one b3 (by decide), b3.hd.2.2⟩
theorem qp_rest_s {G : q_G} {k s p : Nat} : qp_rest X B (k + 1) G s p = if qws X B p < B then
      (if X (qws X B p) = 59 then match qp_stmt X B G (qws X B p + 1) with
        | .error e => .error (e, s + 1)
        | .ok (G, p) => qp_rest X B k G (s + 1) p
      else .error ((1, qws X B p), s))
    else .ok G := rfl
theorem qp_marks_s {G : q_G} {k S p : Nat} : qp_marks X B G (k + 1) S p = match qnumb X B p 0 ((qK G : Int) - 1) with
    | .error e => .error e
    | .ok (a, p) => if qws X B p < B ∧ qdi X (qws X B p) = true then qp_marks X B G k (S ||| 2 ^ a) p else .ok (qsetS G (S ||| 2 ^ a), qws X B p) := rfl
/-- an arc's statement -/
theorem p_arc {G : q_G} {k s fuel : Nat} (h : Sk X B p (stx f t a w hw mk k ++ r)) (hr : bg r) (hK : qK G < 12) (h8 : qN G ≤ 8) (hm : qM G ≤ 12) (hf : f k < qN G) (ht : t k < qN G) (ha : a k < qM G) (hw1 : w k ≤ 99) (hw2 : ¬ hw k = true → w k = 1) :
    ∃ p', qp_rest X B (fuel + 1) G s p = qp_rest X B fuel (qput G (f k) (t k) (a k) (w k)) (s + 1) p' ∧ Sk X B p' (stM mk k ++ r) := by
  have hb : bg (stM mk k ++ r) := bg_stM hr
  have e : stx f t a w hw mk k ++ r = (if k % 2 = 0 then txl 4 else txl 5) ++ (dig (f k) ++ (32 :: (dig (t k) ++ (32 :: (dig (a k) ++ ((if hw k = true then 32 :: dig (w k) else []) ++ (stM mk k ++ r))))))) := by
    unfold stx
    simp only [List.append_assoc, List.cons_append]
  rw [e] at h
  obtain ⟨q, q2, e1, e2, e3, e4, h2⟩ := p_arc0 h
  obtain ⟨v1, v2, v3⟩ := w_arc e4 h2
  obtain ⟨n1, m1, _⟩ := num_sp (lo := 0) (up := (qN G : Int) - 1) v3 (by omega) nd_32 (by omega) (by omega)
  obtain ⟨n2, m2, _⟩ := num_sp (lo := 0) (up := (qN G : Int) - 1) m1 (by omega) nd_32 (by omega) (by omega)
  have hndW : nd ((if hw k = true then 32 :: dig (w k) else []) ++ (stM mk k ++ r)) := by
    split
    · exact nd_32
    · exact nd_bg hb
  obtain ⟨n3, m3, _⟩ := num_sp (lo := 0) (up := (qM G : Int) - 1) m2 (by omega) hndW (by omega) (by omega)
  have hstmt : ∀ G' p', qp_arc X B G q2 (q2 + 3) = .ok (G', p') → qp_rest X B (fuel + 1) G s p = qp_rest X B fuel G' (s + 1) p' := by
    intro G' p' hres
    have h5 : qp_stmt X B G (q + 1) = .ok (G', p') := by
      unfold qp_stmt
      rw [e4, v1, if_pos v2]
      exact hres
    rw [qp_rest_s, e1, if_pos e2, if_pos e3, h5]
  by_cases hwk : hw k = true
  · rw [if_pos hwk] at m3
    obtain ⟨n4, m4, k1, k2, k3⟩ := num_sp (lo := 0) (up := 99) m3 (by omega) (nd_bg hb) (by omega) (by omega)
    refine ⟨_, hstmt (qput G (f k) (t k) (a k) (w k)) _ ?_, Or.inl m4⟩
    unfold qp_arc
    rw [if_pos hK, n1]
    dsimp only
    rw [n2]
    dsimp only
    rw [n3]
    dsimp only
    rw [k1, if_pos ⟨k3, k2⟩, n4]
  · rw [if_neg hwk] at m3
    obtain ⟨z1, z2⟩ := bg_ws (r := stM mk k ++ r) m3 hb
    refine ⟨_, hstmt (qput G (f k) (t k) (a k) (w k)) _ ?_, z1⟩
    unfold qp_arc
    rw [if_pos hK, n1]
    dsimp only
    rw [n2]
    dsimp only
    rw [n3]
    dsimp only
    rw [if_neg z2, hw2 hwk]
/-- a mark's statement -/
theorem p_mark {G : q_G} {k s fuel : Nat} (h : Sk X B p (txl 6 ++ dig k ++ r)) (hr : bg r) (hK : k < qK G) (h12 : qK G ≤ 12) :
    ∃ p', qp_rest X B (fuel + 1) G s p = qp_rest X B fuel (qsetS G (qS G ||| 2 ^ k)) (s + 1) p' ∧ Sk X B p' r := by
  have h1 : At X B p (59 :: 109 :: 97 :: 114 :: 107 :: 32 :: (dig k ++ r)) := by
    rw [tx6, List.append_assoc] at h
    rcases h with h | ⟨r', e, h⟩
    · exact h
    · exact absurd (List.cons.inj e).1 (by decide)
  obtain ⟨a1, a2, a3⟩ := h1.hd
  have e4 := sp_no a3 (by decide)
  obtain ⟨v1, v2, v3, v4⟩ := w_mark e4 a3
  obtain ⟨n1, m1, _⟩ := num_sp (lo := 0) (up := (qK G : Int) - 1) v4 (by omega) (nd_bg hr) (by omega) (by omega)
  obtain ⟨z1, z2⟩ := bg_ws m1 hr
  refine ⟨_, ?_, z1⟩
  have h5 : qp_stmt X B G (p + 1) = .ok (qsetS G (qS G ||| 2 ^ k), qws X B (p + 1 + 4 + 1 + (dig k).length)) := by
    unfold qp_stmt
    rw [v1, e4, if_neg (by rw [v2]; decide), if_pos v3]
    rw [show 401 = 400 + 1 from rfl, qp_marks_s]
    rw [n1]
    dsimp only
    rw [if_neg z2]
  rw [qp_rest_s, sp_no h1 (by decide), if_pos a1, if_pos a2, h5]
theorem p_rest {n m K : Nat} (h8 : n ≤ 8) (hm : m ≤ 12) (hK : K ≤ 12) (hd : ∀ k, k < K → f k < n ∧ t k < n ∧ a k < m ∧ w k ≤ 99 ∧ (¬ hw k = true → w k = 1)) : ∀ (j k s fuel p : Nat), k + j = K → 2 * j ≤ fuel → Sk X B p (rst f t a w hw mk k j) → qp_rest X B fuel (gd n m f t a w mk k) s p = .ok (gd n m f t a w mk K) := by
  intro j
  induction j with
  | zero =>
    intro k s fuel p hk _ h
    have hp : p = B := by
      rcases h with h | ⟨r', e, _⟩
      · exact At.nil h
      · cases e
    have hk' : k = K := by omega
    subst hk'
    cases fuel with
    | zero => rfl
    | succ fuel =>
      rw [qp_rest_s, if_neg (by
        have : qws X B p = p := qend_B (by omega)
        omega)]
  | succ j ih =>
    intro k s fuel p hk hf h
    obtain ⟨d1, d2, d3, d4, d5⟩ := hd k (by omega)
    obtain ⟨g1, g2, g3⟩ := gd_K n m f t a w mk k
    obtain ⟨fu, rfl⟩ : ∃ fu, fuel = fu + 1 + 1 := ⟨fuel - 2, by omega⟩
    have h' : Sk X B p (stx f t a w hw mk k ++ rst f t a w hw mk (k + 1) j) := h
    obtain ⟨p1, e1, s1⟩ := p_arc (fuel := fu + 1) (s := s) (G := gd n m f t a w mk k) h' (bg_rst _ _) (by omega) (by omega) (by omega) (by omega) (by omega) (by omega) d4 d5
    rw [e1]
    by_cases hmk : mk k = true
    · have hs : stM mk k = txl 6 ++ dig k := if_pos hmk
      rw [hs] at s1
      obtain ⟨p2, e2, s2⟩ := p_mark (fuel := fu) (s := s + 1) (G := qput (gd n m f t a w mk k) (f k) (t k) (a k) (w k)) s1 (bg_rst _ _) (by show k < qK (gd n m f t a w mk k) + 1; omega) (by show qK (gd n m f t a w mk k) + 1 ≤ 12; omega)
      rw [e2]
      have hg : gd n m f t a w mk (k + 1) = qsetS (qput (gd n m f t a w mk k) (f k) (t k) (a k) (w k)) (qS (gd n m f t a w mk k) ||| 2 ^ k) := if_pos hmk
      have := ih (k + 1) (s + 1 + 1) fu p2 (by omega) (by omega) s2
      rw [hg] at this
      exact this
    · have hs : stM mk k = [] := if_neg hmk
      rw [hs, List.nil_append] at s1
      have hg : gd n m f t a w mk (k + 1) = qput (gd n m f t a w mk k) (f k) (t k) (a k) (w k) := if_neg hmk
      have := ih (k + 1) (s + 1) (fu + 1) p1 (by omega) (by omega) s1
      rw [hg] at this
      exact this
/-- the whole text -/
theorem p_all {n m K : Nat} {l : List Nat} (hl : l = txl 3 ++ (dig n ++ (32 :: (dig m ++ rst f t a w hw mk 0 K)))) (hX : ∀ j, j < l.length → X j = l.getD j 0) (n1 : 1 ≤ n) (h8 : n ≤ 8) (m1 : 1 ≤ m) (hm : m ≤ 12) (hK : K ≤ 12) (hd : ∀ k, k < K → f k < n ∧ t k < n ∧ a k < m ∧ w k ≤ 99 ∧ (¬ hw k = true → w k = 1)) :
    qparse X l.length = .ok (gd n m f t a w mk K) := by
  have hA : At X l.length 0 l := ⟨Nat.zero_add _, fun j hj => by rw [Nat.zero_add]; exact hX j hj⟩
  generalize hB : l.length = B at hA
  rw [hl, tx3] at hA
  obtain ⟨v1, v2, v3⟩ := w_graph (r := dig n ++ (32 :: (dig m ++ rst f t a w hw mk 0 K))) hA
  obtain ⟨a1, b1, _⟩ := num_sp (lo := 1) (up := 8) v3 (by omega) nd_32 (by omega) (by omega)
  obtain ⟨a2, b2, _⟩ := num_sp (lo := 1) (up := 12) b1 (by omega) (nd_bg (bg_rst _ _)) (by omega) (by omega)
  have hg : qp_graph X B = .ok (qnew n m, 5 + 1 + (dig n).length + 1 + (dig m).length) := by
    unfold qp_graph
    rw [v1, if_pos v2, a1]
    dsimp only
    rw [a2]
  unfold qparse
  rw [hg]
  exact p_rest h8 hm hK hd K 0 0 401 _ (by omega) (by omega) (Or.inl b2)
end PB
