/-! sums over sets, by powers and one by one -/
def qsi (f : Nat → Int) : Nat → Int
  | 0 => 0
  | n + 1 => qsi f n + f n
theorem qsi_congr {f g : Nat → Int} {n : Nat} (h : ∀ i, i < n → f i = g i) : qsi f n = qsi g n := by
  induction n with
  | zero => rfl
  | succ n ih =>
    unfold qsi
    rw [ih (fun i hi => h i (by omega)), h n (by omega)]
theorem qsi_add (f g : Nat → Int) (n : Nat) : qsi (fun i => f i + g i) n = qsi f n + qsi g n := by
  induction n with
  | zero => rfl
  | succ n ih =>
    unfold qsi
    rw [ih]
    omega
theorem qsi_0 (n : Nat) : qsi (fun _ => 0) n = 0 := by
  induction n with
  | zero => rfl
  | succ n ih =>
    unfold qsi
    rw [ih]
    rfl
theorem qsi_one {n j : Nat} (hj : j < n) (x : Nat → Int) : qsi (fun k => if j = k then x k else 0) n = x j := by
  induction n with
  | zero => exact absurd hj (Nat.not_lt_zero j)
  | succ n ih =>
    unfold qsi
    by_cases e : j = n
    · subst e
      rw [qsi_congr (g := fun _ => 0) fun i hi => if_neg (by omega), qsi_0, if_pos rfl]
      omega
    · rw [ih (by omega), if_neg e]
      omega
theorem qsi_bd {f : Nat → Int} {b : Int} {n : Nat} (h : ∀ i, i < n → -b ≤ f i ∧ f i ≤ b) : -(b * n) ≤ qsi f n ∧ qsi f n ≤ b * n := by
  induction n with
  | zero => simp [qsi]
  | succ n ih =>
    have h1 := ih fun i hi => h i (by omega)
    have h2 := h n (by omega)
    unfold qsi
    have e : b * ((n + 1 : Nat) : Int) = b * n + b := by
      rw [icS, Int.mul_add, Int.mul_one]
    rw [e]
    omega
/-- the sign of a set -/
def qsg2 (G : q_G) (s : Nat) : Int := if qsz G s % 2 = 0 then 1 else -1
theorem qsg2_rg (G : q_G) (s : Nat) : -1 ≤ qsg2 G s ∧ qsg2 G s ≤ 1 := by
  unfold qsg2
  split <;> omega
/-- the sum at a power, of the sets before n that are wanted -/
def qtl (G : q_G) (ok : Nat → Bool) (k n : Nat) : Int := qsi (fun s => if ok s = true ∧ qev G s = k then qsg2 G s else 0) n
/-- the sum at a number of colors -/
def qsu (G : q_G) (ok : Nat → Bool) (c : Int) (n : Nat) : Int := qsi (fun s => if ok s then qsg2 G s * c ^ qev G s else 0) n
theorem qsi_mul (f : Nat → Int) (c : Int) (n : Nat) : qsi (fun i => c * f i) n = c * qsi f n := by
  induction n with
  | zero => simp [qsi]
  | succ n ih =>
    unfold qsi
    rw [ih, Int.mul_add]
theorem qsu_tl {G : q_G} (hG : q_ok G) (ok : Nat → Bool) (c : Int) (n : Nat) : qsi (fun k => c ^ k * qtl G ok k n) 9 = qsu G ok c n := by
  induction n with
  | zero =>
    rw [qsi_congr (g := fun _ => 0) fun k _ => by simp [qtl, qsi], qsi_0]
    rfl
  | succ n ih =>
    have hev : qev G n < 9 := by
      have h1 := qev_le G n
      have h2 := hG.1.2.1
      omega
    rw [qsi_congr (g := fun k => c ^ k * qtl G ok k n + (if qev G n = k then (if ok n then qsg2 G n * c ^ k else 0) else 0)) fun k _ => by
      show c ^ k * (qtl G ok k n + (if ok n = true ∧ qev G n = k then qsg2 G n else 0)) = _
      rw [Int.mul_add]
      congr 1
      by_cases e : qev G n = k
      · rw [if_pos e]
        by_cases e2 : ok n = true
        · rw [if_pos ⟨e2, e⟩, if_pos e2, Int.mul_comm]
        · rw [if_neg (fun h => e2 h.1), if_neg e2, Int.mul_zero]
      · rw [if_neg e, if_neg (fun h => e h.2), Int.mul_zero], qsi_add, ih, qsi_one hev (fun k => if ok n then qsg2 G n * c ^ k else 0)]
    rfl
/-- Horner's way, from the eighth power down -/
def qho (f : Nat → Int) (c : Int) : Nat → Int
  | 0 => 0
  | j + 1 => qho f c j * c + f (8 - j)
theorem qho_9 (f : Nat → Int) (c : Int) : qho f c 9 = qsi (fun k => c ^ k * f k) 9 := by
  show (((((((((0 * c + f 8) * c + f 7) * c + f 6) * c + f 5) * c + f 4) * c + f 3) * c + f 2) * c + f 1) * c + f 0) = 0 + c ^ 0 * f 0 + c ^ 1 * f 1 + c ^ 2 * f 2 + c ^ 3 * f 3 + c ^ 4 * f 4 + c ^ 5 * f 5 + c ^ 6 * f 6 + c ^ 7 * f 7 + c ^ 8 * f 8
  grind
theorem qho_bd {f : Nat → Int} {c : Int} (hc0 : 0 ≤ c) (hc : c ≤ 61) (hf : ∀ k, -4096 ≤ f k ∧ f k ≤ 4096) (j : Nat) : -(4096 * 62 ^ j) ≤ qho f c (j + 1) ∧ qho f c (j + 1) ≤ 4096 * 62 ^ j := by
  induction j with
  | zero =>
    have := hf 8
    simp [qho]
    omega
  | succ j ih =>
    have h2 := hf (8 - (j + 1))
    have h3 : (1 : Int) ≤ 62 ^ j := by
      have := Int.pow_pos (n := (62 : Int)) (m := j) (by decide)
      omega
    rw [qho, Int.pow_succ]
    generalize qho f c (j + 1) = q at *
    have h4 : q * c ≤ 4096 * 62 ^ j * 61 := by
      have a1 : q * c ≤ (4096 * 62 ^ j) * c := Int.mul_le_mul_of_nonneg_right ih.2 hc0
      have a2 : (4096 * 62 ^ j) * c ≤ (4096 * 62 ^ j) * 61 := Int.mul_le_mul_of_nonneg_left hc (by omega)
      omega
    have h5 : -(4096 * 62 ^ j * 61) ≤ q * c := by
      have a1 : -(4096 * 62 ^ j) * c ≤ q * c := Int.mul_le_mul_of_nonneg_right ih.1 hc0
      have a2 : (4096 * 62 ^ j) * c ≤ (4096 * 62 ^ j) * 61 := Int.mul_le_mul_of_nonneg_left hc (by omega)
      rw [Int.neg_mul] at a1
      omega
    omega
