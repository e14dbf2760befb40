/-! bounds of the answers -/
def rng (v : Int) : Prop := -2147483648 ≤ v ∧ v ≤ 2147483647
def bz (v : Int) : Prop := v = 0 ∨ v = 1
theorem rg_n {n : Nat} (h : n ≤ 100000000) : rng (n : Int) := ⟨by omega, by omega⟩
theorem rg_i {v : Int} (h1 : -100000000 ≤ v) (h2 : v ≤ 100000000) : rng v := ⟨by omega, by omega⟩
theorem bz_n (b : Bool) : bz ((b.toNat : Nat) : Int) := by cases b <;> simp [bz]
theorem w_vr {o : Nat} {v : Int} (h : o = 0 → rng v) : ∃ v' : Int, rng v' ∧ (o = 0 → v = v') := by
  by_cases e : o = 0
  · exact ⟨v, h e, fun _ => rfl⟩
  · exact ⟨0, ⟨by decide, by decide⟩, fun z => absurd z e⟩
theorem w_vb {o : Nat} {v : Int} (h : o = 0 → bz v) : ∃ v' : Int, bz v' ∧ (o = 0 → v = v') := by
  by_cases e : o = 0
  · exact ⟨v, h e, fun _ => rfl⟩
  · exact ⟨0, Or.inl rfl, fun z => absurd z e⟩
theorem q_cS_v {N : Nat} {xs : Nat → Int32} {d k : Nat} {as : List gg_V} {M : gg_M} {A' : q_A} {cc cs o t : Nat} {v v' : Int} (he : o = 0 → v = v') (h : q_cS N xs d k as M A' cc cs o t v) : q_cS N xs d k as M A' cc cs o t v' := fun Q h0 h1 => h Q (fun ho => by rw [he ho]; exact h0 ho) h1
theorem q_mS_v {N : Nat} {xs : Nat → Int32} {d k : Nat} {as : List gg_V} {M : gg_M} {A' : q_A} {cc cs o t : Nat} {fl : Bool} {v v' : Int} (he : o = 0 → v = v') (h : q_mS N xs d k as M A' cc cs o fl t v) : q_mS N xs d k as M A' cc cs o fl t v' := fun Q h0 => h Q (fun M' b a1 a2 a3 a4 => h0 M' b a1 a2 a3 (fun ho => (a4 ho).trans (he ho)))
section SB
variable {A : q_A}
theorem h_set {x : Int} : o_set A x = 0 ∨ o_set A x = 2 := by
  unfold o_set
  split
  · exact Or.inl rfl
  · exact Or.inr rfl
theorem h_n {l h x : Int} : o_n l h x = 0 ∨ o_n l h x = 2 := by
  unfold o_n
  split
  · exact Or.inl rfl
  · exact Or.inr rfl
theorem h_arc {x : Int} : o_arc A x = 0 ∨ o_arc A x = 3 := by
  unfold o_arc
  split
  · exact Or.inl rfl
  · exact Or.inr rfl
theorem h_ver {x : Int} : o_ver A x = 0 ∨ o_ver A x = 3 := by
  unfold o_ver
  split
  · exact Or.inl rfl
  · exact Or.inr rfl
theorem h_vv {x y : Int} : o_vv A x y = 0 ∨ o_vv A x y = 3 := by
  unfold o_vv
  split
  · exact Or.inl rfl
  · exact Or.inr rfl
theorem h_pr {x y : Int} : o_pr A x y = 0 ∨ o_pr A x y = 2 := by
  unfold o_pr
  split
  · exact Or.inl rfl
  · exact Or.inr rfl
theorem h_wk {x f s t : Int} : o_wk A x f s t = 0 ∨ o_wk A x f s t = 3 := by
  unfold o_wk
  split
  · exact Or.inl rfl
  · exact Or.inr rfl
theorem h_aw {x y : Int} : o_aw A x y = 0 ∨ o_aw A x y = 2 ∨ o_aw A x y = 3 := by
  unfold o_aw
  split
  · split
    · exact Or.inl rfl
    · exact Or.inr (Or.inl rfl)
  · exact Or.inr (Or.inr rfl)
theorem h_sv {x y : Int} : o_sv A x y = 0 ∨ o_sv A x y = 2 ∨ o_sv A x y = 3 := by
  unfold o_sv
  split
  · split
    · exact Or.inl rfl
    · exact Or.inr (Or.inl rfl)
  · exact Or.inr (Or.inr rfl)
theorem h_ac {x y : Int} : o_ac A x y = 0 ∨ o_ac A x y = 2 ∨ o_ac A x y = 3 := by
  unfold o_ac
  split
  · split
    · exact Or.inl rfl
    · exact Or.inr (Or.inl rfl)
  · exact Or.inr (Or.inr rfl)
theorem h_vc {x y : Int} : o_vc A x y = 0 ∨ o_vc A x y = 2 ∨ o_vc A x y = 3 := by
  unfold o_vc
  split
  · split
    · exact Or.inl rfl
    · exact Or.inr (Or.inl rfl)
  · exact Or.inr (Or.inr rfl)
theorem h_ca {x y z : Int} : o_ca A x y z = 0 ∨ o_ca A x y z = 2 ∨ o_ca A x y z = 3 := by
  unfold o_ca
  split
  · split
    · exact Or.inl rfl
    · exact Or.inr (Or.inl rfl)
  · exact Or.inr (Or.inr rfl)
theorem h_ag {x y : Int} : o_ag A x y = 0 ∨ o_ag A x y = 2 ∨ o_ag A x y = 3 := by
  unfold o_ag
  split
  · split
    · exact Or.inl rfl
    · exact Or.inr (Or.inl rfl)
  · exact Or.inr (Or.inr rfl)
theorem h_wt {x y : Int} : o_wt A x y = 0 ∨ o_wt A x y = 2 ∨ o_wt A x y = 3 := by
  unfold o_wt
  split
  · split
    · exact Or.inl rfl
    · exact Or.inr (Or.inl rfl)
  · exact Or.inr (Or.inr rfl)
theorem h_vg {x y : Int} : o_vg A x y = 0 ∨ o_vg A x y = 2 ∨ o_vg A x y = 3 := by
  unfold o_vg
  split
  · split
    · exact Or.inl rfl
    · exact Or.inr (Or.inl rfl)
  · exact Or.inr (Or.inr rfl)
theorem h_add {x y z : Int} : o_add A x y z = 0 ∨ o_add A x y z = 2 ∨ o_add A x y z = 3 := by
  unfold o_add
  split
  · split
    · exact Or.inl rfl
    · exact Or.inr (Or.inl rfl)
  · exact Or.inr (Or.inr rfl)
theorem k_set {x : Int} (h : o_set A x = 0) : 0 ≤ x ∧ x ≤ qU (aG A) := by
  unfold o_set at h
  split at h
  · assumption
  · exact absurd h (by decide)
theorem k_n {l u x : Int} (h : o_n l u x = 0) : l ≤ x ∧ x ≤ u := by
  unfold o_n at h
  split at h
  · assumption
  · exact absurd h (by decide)
theorem k_arc {x : Int} (h : o_arc A x = 0) : 0 ≤ x ∧ x < qK (aG A) := by
  unfold o_arc at h
  split at h
  · assumption
  · exact absurd h (by decide)
theorem k_ver {x : Int} (h : o_ver A x = 0) : 0 ≤ x ∧ x < qN (aG A) := by
  unfold o_ver at h
  split at h
  · assumption
  · exact absurd h (by decide)
theorem k_aw {x y : Int} (h : o_aw A x y = 0) : 0 ≤ x ∧ x < qK (aG A) := by
  unfold o_aw at h
  split at h
  · assumption
  · exact absurd h (by decide)
theorem k_sv {x y : Int} (h : o_sv A x y = 0) : 0 ≤ y ∧ y < qN (aG A) := by
  unfold o_sv at h
  split at h
  · assumption
  · exact absurd h (by decide)
theorem k_vc {x y : Int} (h : o_vc A x y = 0) : 0 ≤ x ∧ x < qN (aG A) := by
  unfold o_vc at h
  split at h
  · assumption
  · exact absurd h (by decide)
theorem k_ca {x y z : Int} (h : o_ca A x y z = 0) : 0 ≤ z ∧ z < qN (aG A) := by
  unfold o_ca at h
  split at h
  · assumption
  · exact absurd h (by decide)
theorem k_ag {x y : Int} (h : o_ag A x y = 0) : 0 ≤ x ∧ x < qK (aG A) := by
  unfold o_ag at h
  split at h
  · assumption
  · exact absurd h (by decide)
theorem k_wt {x y : Int} (h : o_wt A x y = 0) : 0 ≤ x ∧ x < qK (aG A) := by
  unfold o_wt at h
  split at h
  · assumption
  · exact absurd h (by decide)
theorem k_vg {x y : Int} (h : o_vg A x y = 0) : 0 ≤ x ∧ x < qN (aG A) := by
  unfold o_vg at h
  split at h
  · assumption
  · exact absurd h (by decide)
theorem k_add {x y z : Int} (h : o_add A x y z = 0) : (0 ≤ x ∧ x < qN (aG A)) ∧ 0 ≤ y ∧ y < qN (aG A) := by
  unfold o_add at h
  split at h
  · assumption
  · exact absurd h (by decide)
theorem kk_vc {x y : Int} (h : o_vc A x y = 0) : 0 ≤ y ∧ y ≤ ((qM (aG A) * qL (aG A) : Nat) : Int) := by
  unfold o_vc at h
  split at h
  · split at h
    · assumption
    · exact absurd h (by decide)
  · exact absurd h (by decide)
theorem kk_ca {x y z : Int} (h : o_ca A x y z = 0) : (1 ≤ x ∧ x ≤ 5) ∧ 0 ≤ y := by
  unfold o_ca at h
  split at h
  · split at h
    · assumption
    · exact absurd h (by decide)
  · exact absurd h (by decide)
theorem kk_ag {x y : Int} (h : o_ag A x y = 0) : 0 ≤ y ∧ y ≤ (qM (aG A) : Int) - 1 := by
  unfold o_ag at h
  split at h
  · split at h
    · assumption
    · exact absurd h (by decide)
  · exact absurd h (by decide)
theorem kk_wt {x y : Int} (h : o_wt A x y = 0) : 0 ≤ y ∧ y ≤ 99 := by
  unfold o_wt at h
  split at h
  · split at h
    · assumption
    · exact absurd h (by decide)
  · exact absurd h (by decide)
theorem kk_vg {x y : Int} (h : o_vg A x y = 0) : 0 ≤ y ∧ y ≤ (qM (aG A) : Int) - 1 := by
  unfold o_vg at h
  split at h
  · split at h
    · assumption
    · exact absurd h (by decide)
  · exact absurd h (by decide)
theorem kk_add {x y z : Int} (h : o_add A x y z = 0) : 0 ≤ z ∧ z ≤ (qM (aG A) : Int) - 1 := by
  unfold o_add at h
  split at h
  · split at h
    · assumption
    · exact absurd h (by decide)
  · exact absurd h (by decide)
theorem kk_sv {x y : Int} (h : o_sv A x y = 0) : 0 ≤ x ∧ x ≤ qU (aG A) := by
  unfold o_sv at h
  split at h
  · split at h
    · assumption
    · exact absurd h (by decide)
  · exact absurd h (by decide)
theorem qx_le (w : Nat → Nat) (n L : Nat) : qx w n L ≤ n := qcnt_le _ _
theorem qpick_rg {G : q_G} {n : Nat} (k : Nat) : ∀ (c : Nat → Int) (L : Nat), (∀ u, -1 ≤ c u ∧ c u ≤ (n : Int)) → ∀ u, -1 ≤ qpick G n k c L u ∧ qpick G n k c L u ≤ (n : Int) := by
  induction k with
  | zero => exact fun c L h u => h u
  | succ k ih =>
    intro c L h u
    unfold qpick
    split
    · refine ih _ _ (fun w => ?_) u
      unfold qwith
      split
      · exact ⟨by omega, Int.ofNat_le.2 (qx_le _ _ _)⟩
      · exact h w
    · exact ih c L h u
theorem qwk_rg {G : q_G} (h1 : 1 ≤ qM G) (h2 : qM G ≤ 12) : ∀ (l : List Int) (p : Nat) (r : Int), -1 ≤ qwk G l p r ∧ qwk G l p r ≤ 12
  | [], p, r => by
    rw [qwk]
    have a1 := Int.emod_nonneg r (show (qM G : Int) ≠ 0 by omega)
    have a2 := Int.emod_lt_of_pos r (show (0 : Int) < (qM G : Int) by omega)
    omega
  | a :: l, p, r => by
    rw [qwk]
    split
    · exact qwk_rg h1 h2 l _ _
    · split
      · exact qwk_rg h1 h2 l _ _
      · split
        · exact qwk_rg h1 h2 l _ _
        · exact ⟨by decide, by decide⟩
theorem b_0 (hA : a_ok A) {w : Int} : (0 : Nat) = 0 → rng (qappV A w) := by
  intro h
  obtain ⟨⟨k1, k2, k3, k4, k5, k6, k7, k8⟩, hkk, hp, hp2⟩ := id hA.1
  have h4096 := two_le k5
  unfold qappV
  split
  · exact rg_n (by omega)
  · exact rg_i (by decide) (by decide)
theorem b_1 (hA : a_ok A) (hB : aB A ≤ 400) : (0 : Nat) = 0 → rng (qloadV A) := by
  intro h
  obtain ⟨⟨k1, k2, k3, k4, k5, k6, k7, k8⟩, hkk, hp, hp2⟩ := id hA.1
  have h4096 := two_le k5
  have hq := qparse_ok (X := aX A) (B := aB A)
  unfold qloadV
  revert hq
  cases qparse (aX A) (aB A) with
  | ok G => exact fun hq => rg_n (by have := hq.1.2.2.2.2.1; omega)
  | error e =>
    obtain ⟨⟨k, q⟩, s⟩ := e
    intro hq
    have := hq.2.2.1
    have h9 : q ≤ aB A := this
    exact rg_i (by show (-100000000 : Int) ≤ -100 - (q : Int); omega) (by show -100 - (q : Int) ≤ 100000000; omega)
theorem b_2 (hA : a_ok A) : (0 : Nat) = 0 → rng ((aE A : Int)) := by
  intro h
  obtain ⟨⟨k1, k2, k3, k4, k5, k6, k7, k8⟩, hkk, hp, hp2⟩ := id hA.1
  have h4096 := two_le k5
  exact rg_n (by have := hA.2.2.2.2.1; omega)
theorem b_3 (hA : a_ok A) : (0 : Nat) = 0 → rng (aS A) := by
  intro h
  obtain ⟨⟨k1, k2, k3, k4, k5, k6, k7, k8⟩, hkk, hp, hp2⟩ := id hA.1
  have h4096 := two_le k5
  exact rg_i (by have := hA.2.2.2.2.2.1; omega) (by have := hA.2.2.2.2.2.2.1; omega)
theorem b_4 (hA : a_ok A) {x : Int} : o_n 0 6 x = 0 → rng (qcount A x.toNat) := by
  intro h
  obtain ⟨⟨k1, k2, k3, k4, k5, k6, k7, k8⟩, hkk, hp, hp2⟩ := id hA.1
  have h4096 := two_le k5
  have c1 := qcnt_le (qS (aG A)).testBit 12
  have c2 := qcnt_le (fun v => decide (qP (aG A) v ≠ -1)) (qN (aG A))
  have c3 := hA.2.1
  unfold qcount
  split
  · exact rg_n (by omega)
  · split
    · exact rg_n (by omega)
    · split
      · exact rg_n (by omega)
      · split
        · exact rg_n (by omega)
        · split
          · exact rg_n (by omega)
          · split
            · exact rg_n (by omega)
            · exact rg_n (by omega)
theorem b_5 (hA : a_ok A) {x y : Int} : o_aw A x y = 0 → rng (qarcv (aG A) x.toNat y.toNat) := by
  intro h
  obtain ⟨⟨k1, k2, k3, k4, k5, k6, k7, k8⟩, hkk, hp, hp2⟩ := id hA.1
  have h4096 := two_le k5
  have hx := k_aw h
  obtain ⟨a1, a2, a3, a4⟩ := hkk x.toNat (by omega)
  unfold qarcv
  split
  · exact rg_n (by omega)
  · split
    · exact rg_n (by omega)
    · split
      · exact rg_n (by omega)
      · split
        · exact rg_n (by omega)
        · exact rg_n (by have := Bool.toNat_le ((qS (aG A)).testBit x.toNat); omega)
theorem b_6 (hA : a_ok A) {x y : Int} : o_vv A x y = 0 → rng ((qbits (qbw (aG A) x.toNat y.toNat) (qK (aG A)) : Int)) := by
  intro h
  obtain ⟨⟨k1, k2, k3, k4, k5, k6, k7, k8⟩, hkk, hp, hp2⟩ := id hA.1
  have h4096 := two_le k5
  exact rg_n (by have := qbits_lt (qbw (aG A) x.toNat y.toNat) (qK (aG A)); omega)
theorem b_7 (hA : a_ok A) : (0 : Nat) = 0 → rng ((qS (aG A) : Int)) := by
  intro h
  obtain ⟨⟨k1, k2, k3, k4, k5, k6, k7, k8⟩, hkk, hp, hp2⟩ := id hA.1
  have h4096 := two_le k5
  exact rg_n (by omega)
theorem b_8 (hA : a_ok A) {x : Int} : o_set A x = 0 → rng ((qnu (aG A) x.toNat : Int)) := by
  intro h
  obtain ⟨⟨k1, k2, k3, k4, k5, k6, k7, k8⟩, hkk, hp, hp2⟩ := id hA.1
  have h4096 := two_le k5
  exact rg_n (by have : qnu (aG A) x.toNat ≤ qN (aG A) := pnum_le _ _; omega)
theorem b_9 (hA : a_ok A) {x y : Int} : o_sv A x y = 0 → rng ((pl (qPs (aG A) x.toNat) y.toNat : Int)) := by
  intro h
  obtain ⟨⟨k1, k2, k3, k4, k5, k6, k7, k8⟩, hkk, hp, hp2⟩ := id hA.1
  have h4096 := two_le k5
  have hpk : p_ok (qM (aG A)) (qPs (aG A) x.toNat) := pok_s hA.1 _ (Nat.le_refl _)
  have hy := k_sv h
  exact rg_n (by have := (hpk y.toNat).1; omega)
theorem b_10 (hA : a_ok A) {x : Int} : o_set A x = 0 → bz (((qeven (aG A) x.toNat).toNat : Int)) := by
  intro h
  obtain ⟨⟨k1, k2, k3, k4, k5, k6, k7, k8⟩, hkk, hp, hp2⟩ := id hA.1
  have h4096 := two_le k5
  exact bz_n _
theorem b_11 (hA : a_ok A) {x y : Int} : o_sv A x y = 0 → bz (((pb (qPs (aG A) x.toNat) (pl (qPs (aG A) x.toNat) y.toNat)).toNat : Int)) := by
  intro h
  obtain ⟨⟨k1, k2, k3, k4, k5, k6, k7, k8⟩, hkk, hp, hp2⟩ := id hA.1
  have h4096 := two_le k5
  exact bz_n _
theorem b_12 (hA : a_ok A) {x y : Int} : o_sv A x y = 0 → rng (if pb (qPs (aG A) x.toNat) (pl (qPs (aG A) x.toNat) y.toNat) then (ph (qPs (aG A) x.toNat) y.toNat : Int) else -1) := by
  intro h
  obtain ⟨⟨k1, k2, k3, k4, k5, k6, k7, k8⟩, hkk, hp, hp2⟩ := id hA.1
  have h4096 := two_le k5
  have hpk : p_ok (qM (aG A)) (qPs (aG A) x.toNat) := pok_s hA.1 _ (Nat.le_refl _)
  split
  · exact rg_n (by have := (hpk y.toNat).2.2.1; omega)
  · exact rg_i (by decide) (by decide)
theorem b_13 (hA : a_ok A) {x f s t : Int} : o_wk A x f s t = 0 → rng (qwk (aG A) [f, s, t] x.toNat 0) := by
  intro h
  obtain ⟨⟨k1, k2, k3, k4, k5, k6, k7, k8⟩, hkk, hp, hp2⟩ := id hA.1
  have h4096 := two_le k5
  obtain ⟨a1, a2⟩ := qwk_rg k3 k4 [f, s, t] x.toNat 0
  exact rg_i (by omega) (by omega)
theorem b_14 (hA : a_ok A) {x : Int} : o_set A x = 0 → rng ((qrk (aG A) x.toNat : Int)) := by
  intro h
  obtain ⟨⟨k1, k2, k3, k4, k5, k6, k7, k8⟩, hkk, hp, hp2⟩ := id hA.1
  have h4096 := two_le k5
  exact rg_n (by unfold qrk; omega)
theorem b_15 (hA : a_ok A) {x : Int} : o_set A x = 0 → rng ((qclo (aG A) x.toNat : Int)) := by
  intro h
  obtain ⟨⟨k1, k2, k3, k4, k5, k6, k7, k8⟩, hkk, hp, hp2⟩ := id hA.1
  have h4096 := two_le k5
  have hx := k_set h
  exact rg_n (by have := qclo_lt (G := aG A) (qU_s (s := x.toNat) (by omega)); omega)
theorem b_16 (hA : a_ok A) {x : Int} : o_set A x = 0 → rng ((qbcl (aG A) x.toNat : Int)) := by
  intro h
  obtain ⟨⟨k1, k2, k3, k4, k5, k6, k7, k8⟩, hkk, hp, hp2⟩ := id hA.1
  have h4096 := two_le k5
  exact rg_n (by have : qbcl (aG A) x.toNat < 2 ^ qK (aG A) := qbits_lt _ _; omega)
theorem b_17 (hA : a_ok A) {x : Int} : o_set A x = 0 → bz (((decide (qclo (aG A) x.toNat = x.toNat)).toNat : Int)) := by
  intro h
  obtain ⟨⟨k1, k2, k3, k4, k5, k6, k7, k8⟩, hkk, hp, hp2⟩ := id hA.1
  have h4096 := two_le k5
  exact bz_n _
theorem b_18 (hA : a_ok A) {x : Int} : o_set A x = 0 → bz (((qfr (aG A) x.toNat).toNat : Int)) := by
  intro h
  obtain ⟨⟨k1, k2, k3, k4, k5, k6, k7, k8⟩, hkk, hp, hp2⟩ := id hA.1
  have h4096 := two_le k5
  exact bz_n _
theorem b_19 (hA : a_ok A) {x : Int} : o_set A x = 0 → rng (if qci (aG A) x.toNat then qkind (aG A) x.toNat else -1) := by
  intro h
  obtain ⟨⟨k1, k2, k3, k4, k5, k6, k7, k8⟩, hkk, hp, hp2⟩ := id hA.1
  have h4096 := two_le k5
  unfold qkind
  split
  · split
    · exact rg_i (by decide) (by decide)
    · split
      · exact rg_i (by decide) (by decide)
      · split
        · exact rg_i (by decide) (by decide)
        · exact rg_i (by decide) (by decide)
  · exact rg_i (by decide) (by decide)
theorem b_20 (hA : a_ok A) {x : Int} : o_n 1 12 x = 0 → rng ((qcnt (fun s => decide (qsz (aG A) s = x.toNat) && qci (aG A) s) (2 ^ qK (aG A)) : Int)) := by
  intro h
  obtain ⟨⟨k1, k2, k3, k4, k5, k6, k7, k8⟩, hkk, hp, hp2⟩ := id hA.1
  have h4096 := two_le k5
  exact rg_n (by have := qcnt_le (fun s => decide (qsz (aG A) s = x.toNat) && qci (aG A) s) (2 ^ qK (aG A)); omega)
theorem b_21 (hA : a_ok A) {x : Int} {b : Bool} : o_n 1 12 x = 0 → rng ((qcnt (fun s => decide (qsz (aG A) s = x.toNat) && (qeven (aG A) s == b) && qcyc (aG A) s) (2 ^ qK (aG A)) : Int)) := by
  intro h
  obtain ⟨⟨k1, k2, k3, k4, k5, k6, k7, k8⟩, hkk, hp, hp2⟩ := id hA.1
  have h4096 := two_le k5
  exact rg_n (by have := qcnt_le (fun s => decide (qsz (aG A) s = x.toNat) && (qeven (aG A) s == b) && qcyc (aG A) s) (2 ^ qK (aG A)); omega)
theorem b_22 (hA : a_ok A) : (0 : Nat) = 0 → rng ((qcnt (fun s => decide (s &&& qU (aG A) = s) && decide (qsz (aG A) s = qrk (aG A) (qU (aG A))) && qfr (aG A) s) (2 ^ qK (aG A)) : Int)) := by
  intro h
  obtain ⟨⟨k1, k2, k3, k4, k5, k6, k7, k8⟩, hkk, hp, hp2⟩ := id hA.1
  have h4096 := two_le k5
  exact rg_n (by have := qcnt_le (fun s => decide (s &&& qU (aG A) = s) && decide (qsz (aG A) s = qrk (aG A) (qU (aG A))) && qfr (aG A) s) (2 ^ qK (aG A)); omega)
theorem b_23 (hA : a_ok A) {x : Int} : o_n 0 8 x = 0 → rng ((qcnt (fun s => decide (qrk (aG A) s = x.toNat) && decide (qclo (aG A) s = s)) (2 ^ qK (aG A)) : Int)) := by
  intro h
  obtain ⟨⟨k1, k2, k3, k4, k5, k6, k7, k8⟩, hkk, hp, hp2⟩ := id hA.1
  have h4096 := two_le k5
  exact rg_n (by have := qcnt_le (fun s => decide (qrk (aG A) s = x.toNat) && decide (qclo (aG A) s = s)) (2 ^ qK (aG A)); omega)
theorem b_24 (hA : a_ok A) : (0 : Nat) = 0 → rng ((qmb (aG A) 100 : Int)) := by
  intro h
  obtain ⟨⟨k1, k2, k3, k4, k5, k6, k7, k8⟩, hkk, hp, hp2⟩ := id hA.1
  have h4096 := two_le k5
  exact rg_n (by have := qmb_lt (G := aG A) 100; omega)
theorem b_25 (hA : a_ok A) {x : Int} : o_set A x = 0 → rng ((qw_sum (aG A) x.toNat (qK (aG A)) : Int)) := by
  intro h
  obtain ⟨⟨k1, k2, k3, k4, k5, k6, k7, k8⟩, hkk, hp, hp2⟩ := id hA.1
  have h4096 := two_le k5
  exact rg_n (by have := qw_le hA.1 x.toNat (qK (aG A)) (Nat.le_refl _); omega)
theorem b_26 (hA : a_ok A) {x : Int} : o_arc A x = 0 → bz (((decide (qrk (aG A) (qU (aG A) ^^^ 2 ^ x.toNat) < qrk (aG A) (qU (aG A)))).toNat : Int)) := by
  intro h
  obtain ⟨⟨k1, k2, k3, k4, k5, k6, k7, k8⟩, hkk, hp, hp2⟩ := id hA.1
  have h4096 := two_le k5
  exact bz_n _
theorem b_27 (hA : a_ok A) : (0 : Nat) = 0 → rng ((qfe (aG A) (qU (aG A)) : Int)) := by
  intro h
  obtain ⟨⟨k1, k2, k3, k4, k5, k6, k7, k8⟩, hkk, hp, hp2⟩ := id hA.1
  have h4096 := two_le k5
  exact rg_n (by have := qfe_lt (G := aG A) (s := qU (aG A)) (Nat.le_of_lt qU_lt); omega)
theorem b_31 (hA : a_ok A) {x y z : Int} : o_ca A x y z = 0 → rng (qcaV (aG A) x.toNat y.toNat z.toNat) := by
  intro h
  obtain ⟨⟨k1, k2, k3, k4, k5, k6, k7, k8⟩, hkk, hp, hp2⟩ := id hA.1
  have h4096 := two_le k5
  have hx := kk_ca h
  have hm : qM (aG A) * x.toNat ≤ 12 * 5 := Nat.mul_le_mul k4 (by omega)
  unfold qcaV
  split
  · exact rg_i (by decide) (by decide)
  · unfold qcolorAt
    split
    · obtain ⟨a1, a2⟩ := qpick_rg (G := aG A) (n := qM (aG A) * x.toNat + 1) (qN (aG A)) (fun _ => -1) y.toNat (fun _ => ⟨by omega, by omega⟩) z.toNat
      exact rg_i (by omega) (by omega)
    · exact rg_i (by decide) (by decide)
theorem b_32 (hA : a_ok A) : (0 : Nat) = 0 → rng (qlc (aG A)) := by
  intro h
  obtain ⟨⟨k1, k2, k3, k4, k5, k6, k7, k8⟩, hkk, hp, hp2⟩ := id hA.1
  have h4096 := two_le k5
  have := qfst_rg (qlf (aG A)) 5
  unfold qlc
  split
  · exact rg_i (by decide) (by decide)
  · exact rg_i (by omega) (by omega)
theorem b_33 (hA : a_ok A) {x y : Int} : o_pr A x y = 0 → bz (((qpr (aG A) (qM (aG A) * x.toNat + 1) y.toNat).toNat : Int)) := by
  intro h
  obtain ⟨⟨k1, k2, k3, k4, k5, k6, k7, k8⟩, hkk, hp, hp2⟩ := id hA.1
  have h4096 := two_le k5
  exact bz_n _
theorem b_34 (hA : a_ok A) {x : Int} : o_n 1 5 x = 0 → rng ((qL (aG A) : Int)) := by
  intro h
  obtain ⟨⟨k1, k2, k3, k4, k5, k6, k7, k8⟩, hkk, hp, hp2⟩ := id hA.1
  have h4096 := two_le k5
  exact rg_n (by omega)
theorem b_35 (hA : a_ok A) {x : Int} : o_ver A x = 0 → rng (qP (aG A) x.toNat) := by
  intro h
  obtain ⟨⟨k1, k2, k3, k4, k5, k6, k7, k8⟩, hkk, hp, hp2⟩ := id hA.1
  have h4096 := two_le k5
  have hml : qM (aG A) * qL (aG A) ≤ 12 * 5 := Nat.mul_le_mul k4 k8
  have hx := k_ver h
  obtain ⟨a1, a2⟩ := hp x.toNat (by omega)
  exact rg_i (by omega) (by omega)
theorem b_41 (hA : a_ok A) {x : Int} : o_ver A x = 0 → rng (qP (aG A) x.toNat) := by
  intro h
  obtain ⟨⟨k1, k2, k3, k4, k5, k6, k7, k8⟩, hkk, hp, hp2⟩ := id hA.1
  have h4096 := two_le k5
  have hml : qM (aG A) * qL (aG A) ≤ 12 * 5 := Nat.mul_le_mul k4 k8
  have hx := k_ver h
  obtain ⟨a1, a2⟩ := hp x.toNat (by omega)
  exact rg_i (by omega) (by omega)
theorem b_36 (hA : a_ok A) {x y : Int} : o_vc A x y = 0 → rng (qfst (qhit (aG A) (qP (aG A)) x.toNat (y.toNat : Int)) (qK (aG A))) := by
  intro h
  obtain ⟨⟨k1, k2, k3, k4, k5, k6, k7, k8⟩, hkk, hp, hp2⟩ := id hA.1
  have h4096 := two_le k5
  have := qfst_rg (qhit (aG A) (qP (aG A)) x.toNat (y.toNat : Int)) (qK (aG A))
  exact rg_i (by omega) (by omega)
theorem b_37 (hA : a_ok A) {x : Int} : o_ver A x = 0 → rng ((qcnt (fun c => qopen (aG A) (qP (aG A)) x.toNat c) (qM (aG A) * qL (aG A) + 1) : Int)) := by
  intro h
  obtain ⟨⟨k1, k2, k3, k4, k5, k6, k7, k8⟩, hkk, hp, hp2⟩ := id hA.1
  have h4096 := two_le k5
  have hml : qM (aG A) * qL (aG A) ≤ 12 * 5 := Nat.mul_le_mul k4 k8
  exact rg_n (by have := qcnt_le (fun c => qopen (aG A) (qP (aG A)) x.toNat c) (qM (aG A) * qL (aG A) + 1); omega)
theorem b_38 (hA : a_ok A) : (0 : Nat) = 0 → rng ((qcnt (qcl (aG A) (qP (aG A))) (qK (aG A)) : Int)) := by
  intro h
  obtain ⟨⟨k1, k2, k3, k4, k5, k6, k7, k8⟩, hkk, hp, hp2⟩ := id hA.1
  have h4096 := two_le k5
  exact rg_n (by have := qcnt_le (qcl (aG A) (qP (aG A))) (qK (aG A)); omega)
theorem b_39 (hA : a_ok A) : (0 : Nat) = 0 → rng (qcmp (aG A)) := by
  intro h
  obtain ⟨⟨k1, k2, k3, k4, k5, k6, k7, k8⟩, hkk, hp, hp2⟩ := id hA.1
  have h4096 := two_le k5
  unfold qcmp
  split
  · exact rg_i (by decide) (by decide)
  · split
    · exact rg_i (by decide) (by decide)
    · rename_i e _
      exact rg_n (by have := qW_cmp (G := aG A) e; omega)
theorem b_40 (hA : a_ok A) {x y : Int} : o_vc A x y = 0 → rng (if qfst (qhit (aG A) (qP (aG A)) x.toNat (y.toNat : Int)) (qK (aG A)) = -1 then (qcnt (fun u => decide (qP (qsetP (aG A) x.toNat (y.toNat : Int)) u ≠ -1)) (qN (aG A)) : Int) else -5) := by
  intro h
  obtain ⟨⟨k1, k2, k3, k4, k5, k6, k7, k8⟩, hkk, hp, hp2⟩ := id hA.1
  have h4096 := two_le k5
  split
  · exact rg_n (by have := qcnt_le (fun u => decide (qP (qsetP (aG A) x.toNat (y.toNat : Int)) u ≠ -1)) (qN (aG A)); omega)
  · exact rg_i (by decide) (by decide)
theorem b_42 (hA : a_ok A) : (0 : Nat) = 0 → rng ((qcnt (fun v => decide (qP (qfin (aG A) (qN (aG A))) v ≠ -1)) (qN (aG A)) : Int)) := by
  intro h
  obtain ⟨⟨k1, k2, k3, k4, k5, k6, k7, k8⟩, hkk, hp, hp2⟩ := id hA.1
  have h4096 := two_le k5
  exact rg_n (by have := qcnt_le (fun v => decide (qP (qfin (aG A) (qN (aG A))) v ≠ -1)) (qN (aG A)); omega)
theorem b_43 (hA : a_ok A) {x : Int} : o_arc A x = 0 → rng ((qrest (aG A) x.toNat : Int)) := by
  intro h
  obtain ⟨⟨k1, k2, k3, k4, k5, k6, k7, k8⟩, hkk, hp, hp2⟩ := id hA.1
  have h4096 := two_le k5
  have hx := k_arc h
  exact rg_n (by have := qrest_lt hA.1 (a := x.toNat) (by omega); omega)
theorem b_44 (hA : a_ok A) {x : Int} : o_n 0 1 x = 0 → bz (qlikeV A x.toNat) := by
  intro h
  obtain ⟨⟨k1, k2, k3, k4, k5, k6, k7, k8⟩, hkk, hp, hp2⟩ := id hA.1
  have h4096 := two_le k5
  unfold qlikeV
  cases aV A x.toNat with
  | none => exact Or.inl rfl
  | some H => exact bz_n _
theorem b_45 (hA : a_ok A) {x : Int} : o_arc A x = 0 → rng ((qcnt (fun s => decide (s &&& (qU (aG A) ^^^ 2 ^ x.toNat) = s) && decide (qsz (aG A) s = qrk (aG A) (qU (aG A) ^^^ 2 ^ x.toNat)) && qfr (aG A) s) (2 ^ qK (aG A)) : Int)) := by
  intro h
  obtain ⟨⟨k1, k2, k3, k4, k5, k6, k7, k8⟩, hkk, hp, hp2⟩ := id hA.1
  have h4096 := two_le k5
  exact rg_n (by have := qcnt_le (fun s => decide (s &&& (qU (aG A) ^^^ 2 ^ x.toNat) = s) && decide (qsz (aG A) s = qrk (aG A) (qU (aG A) ^^^ 2 ^ x.toNat)) && qfr (aG A) s) (2 ^ qK (aG A)); omega)
theorem b_48 (hA : a_ok A) {x y z : Int} : o_add A x y z = 0 → rng (if qK (aG A) < 12 then (qK (aG A) : Int) else -2) := by
  intro h
  obtain ⟨⟨k1, k2, k3, k4, k5, k6, k7, k8⟩, hkk, hp, hp2⟩ := id hA.1
  have h4096 := two_le k5
  split
  · exact rg_n (by omega)
  · exact rg_i (by decide) (by decide)
theorem b_49 (hA : a_ok A) : (0 : Nat) = 0 → rng (qaddVV A) := by
  intro h
  obtain ⟨⟨k1, k2, k3, k4, k5, k6, k7, k8⟩, hkk, hp, hp2⟩ := id hA.1
  have h4096 := two_le k5
  unfold qaddVV
  split
  · exact rg_n (by omega)
  · exact rg_i (by decide) (by decide)
theorem b_50 (hA : a_ok A) {x : Int} : o_arc A x = 0 → rng (((qK (aG A) - 1 : Nat) : Int)) := by
  intro h
  obtain ⟨⟨k1, k2, k3, k4, k5, k6, k7, k8⟩, hkk, hp, hp2⟩ := id hA.1
  have h4096 := two_le k5
  exact rg_n (by omega)
theorem b_51 (hA : a_ok A) {x y : Int} : o_ag A x y = 0 → rng ((qA (aG A) x.toNat : Int)) := by
  intro h
  obtain ⟨⟨k1, k2, k3, k4, k5, k6, k7, k8⟩, hkk, hp, hp2⟩ := id hA.1
  have h4096 := two_le k5
  have hx := k_ag h
  exact rg_n (by have := (hkk x.toNat (by omega)).2.2.1; omega)
theorem b_52 (hA : a_ok A) {x y : Int} : o_wt A x y = 0 → rng ((qW (aG A) x.toNat : Int)) := by
  intro h
  obtain ⟨⟨k1, k2, k3, k4, k5, k6, k7, k8⟩, hkk, hp, hp2⟩ := id hA.1
  have h4096 := two_le k5
  have hx := k_wt h
  exact rg_n (by have := (hkk x.toNat (by omega)).2.2.2; omega)
theorem b_53 (hA : a_ok A) {x : Int} : o_arc A x = 0 → rng ((qmi (qM (aG A)) 0 (qA (aG A) x.toNat) : Int)) := by
  intro h
  obtain ⟨⟨k1, k2, k3, k4, k5, k6, k7, k8⟩, hkk, hp, hp2⟩ := id hA.1
  have h4096 := two_le k5
  have hx := k_arc h
  exact rg_n (by have := qmi_lt (m := qM (aG A)) (a := 0) (by omega) (hkk x.toNat (by omega)).2.2.1; omega)
theorem b_54 (hA : a_ok A) {x y : Int} : o_vg A x y = 0 → rng ((qcnt (qswc (aG A) x.toNat y.toNat) (qK (aG A)) : Int)) := by
  intro h
  obtain ⟨⟨k1, k2, k3, k4, k5, k6, k7, k8⟩, hkk, hp, hp2⟩ := id hA.1
  have h4096 := two_le k5
  exact rg_n (by have := qcnt_le (qswc (aG A) x.toNat y.toNat) (qK (aG A)); omega)
theorem b_55 (hA : a_ok A) {x : Int} : o_arc A x = 0 → rng (if qF (aG A) x.toNat = qT (aG A) x.toNat then -3 else ((qN (aG A) - 1 : Nat) : Int)) := by
  intro h
  obtain ⟨⟨k1, k2, k3, k4, k5, k6, k7, k8⟩, hkk, hp, hp2⟩ := id hA.1
  have h4096 := two_le k5
  split
  · exact rg_i (by decide) (by decide)
  · exact rg_n (by omega)
theorem b_56 (hA : a_ok A) {x : Int} : o_set A x = 0 → rng ((qS (aG A) : Int)) := by
  intro h
  obtain ⟨⟨k1, k2, k3, k4, k5, k6, k7, k8⟩, hkk, hp, hp2⟩ := id hA.1
  have h4096 := two_le k5
  exact rg_n (by omega)
theorem b_57 (hA : a_ok A) : (0 : Nat) = 0 → rng ((qcnt ((qclo (aG A) (qS (aG A))).testBit) (12) : Int)) := by
  intro h
  obtain ⟨⟨k1, k2, k3, k4, k5, k6, k7, k8⟩, hkk, hp, hp2⟩ := id hA.1
  have h4096 := two_le k5
  exact rg_n (by have := qcnt_le ((qclo (aG A) (qS (aG A))).testBit) (12); omega)
theorem b_59 (hA : a_ok A) : (0 : Nat) = 0 → rng (qundoV A) := by
  intro h
  obtain ⟨⟨k1, k2, k3, k4, k5, k6, k7, k8⟩, hkk, hp, hp2⟩ := id hA.1
  have h4096 := two_le k5
  have c3 := hA.2.1
  unfold qundoV
  split
  · exact rg_i (by decide) (by decide)
  · exact rg_n (by omega)
theorem b_60 (hA : a_ok A) {x : Int} : o_n 0 1 x = 0 → rng ((qK (aG A) : Int)) := by
  intro h
  obtain ⟨⟨k1, k2, k3, k4, k5, k6, k7, k8⟩, hkk, hp, hp2⟩ := id hA.1
  have h4096 := two_le k5
  exact rg_n (by omega)
theorem b_61 (hA : a_ok A) {x : Int} : o_n 0 1 x = 0 → rng (qrestV A x.toNat) := by
  intro h
  obtain ⟨⟨k1, k2, k3, k4, k5, k6, k7, k8⟩, hkk, hp, hp2⟩ := id hA.1
  have h4096 := two_le k5
  unfold qrestV
  cases hv : aV A x.toNat with
  | none => exact rg_i (by decide) (by decide)
  | some G => exact rg_n (by have := (hA.2.2.2.1 _ G hv).1.2.2.2.2.1; omega)
theorem ok_sa {o : Nat} {G : q_G} (hA : a_ok A) (h : o = 0 → q_ok G) : a_ok (sa A o G) := by
  unfold sa
  by_cases e : o = 0
  · rw [if_pos e]
    exact ok_act hA (h e)
  · rw [if_neg e]
    exact hA
theorem ok_sc {o : Nat} {c : Bool} {G : q_G} (hA : a_ok A) (h : o = 0 → c = true → q_ok G) : a_ok (sc A o c G) := by
  unfold sc
  by_cases e : o = 0
  · rw [if_pos e]
    by_cases e2 : c = true
    · rw [if_pos e2]
      exact ok_act hA (h e e2)
    · rw [if_neg e2]
      exact hA
  · rw [if_neg e]
    exact hA
theorem s_34 (hA : a_ok A) {x : Int} : a_ok (sa A (o_n 1 5 x) (qsetL (aG A) x.toNat)) := ok_sa hA fun h => by
  have := k_n h
  exact qok_setL hA.1 (by omega) (by omega)
theorem s_40 (hA : a_ok A) {x y : Int} {c : Bool} : a_ok (sc A (o_vc A x y) c (qsetP (aG A) x.toNat (y.toNat : Int))) := ok_sc hA fun h _ => by
  have h1 := k_vc h
  have h2 := kk_vc h
  exact qok_setP hA.1 (by omega) (by omega) (by omega)
theorem s_41 (hA : a_ok A) {x : Int} : a_ok (sa A (o_ver A x) (qsetP (aG A) x.toNat (-1))) := ok_sa hA fun h => by
  have h1 := k_ver h
  exact qok_setP hA.1 (by omega) (by omega) (by omega)
theorem s_42 (hA : a_ok A) : a_ok (a_act A (qfin (aG A) (qN (aG A)))) := ok_act hA (qok_fin hA.1 _ (Nat.le_refl _)).1
theorem s_48 (hA : a_ok A) {x y z : Int} : a_ok (sc A (o_add A x y z) (decide (qK (aG A) < 12)) (qput (qtot (aG A) 1) x.toNat y.toNat z.toNat 1)) := ok_sc hA fun h e => by
  have h1 := k_add h
  have h2 := kk_add h
  have h3 := of_decide_eq_true e
  exact qok_put (qok_tot hA.1 1) (show x.toNat < qN (aG A) by omega) (show y.toNat < qN (aG A) by omega) (show z.toNat < qM (aG A) by omega) (by decide) h3
theorem s_49 (hA : a_ok A) : a_ok (qaddVA A) := by
  unfold qaddVA
  by_cases e : qN (aG A) < 8
  · rw [if_pos e]
    exact ok_act hA (qok_addV hA.1 e)
  · rw [if_neg e]
    exact hA
theorem s_50 (hA : a_ok A) {x : Int} : a_ok (sa A (o_arc A x) (qdrop (qtot (aG A) 2) x.toNat)) := ok_sa hA fun h => by
  have h1 := k_arc h
  exact qok_drop (qok_tot hA.1 2) (show x.toNat < qK (aG A) by omega)
theorem s_51 (hA : a_ok A) {x y : Int} : a_ok (sa A (o_ag A x y) (qsetA (aG A) x.toNat y.toNat)) := ok_sa hA fun h => by
  have h2 := kk_ag h
  exact qok_setA hA.1 (by omega)
theorem s_52 (hA : a_ok A) {x y : Int} : a_ok (sa A (o_wt A x y) (qsetW (aG A) x.toNat y.toNat)) := ok_sa hA fun h => by
  have h2 := kk_wt h
  exact qok_setW hA.1 (by omega)
theorem s_53 (hA : a_ok A) {x : Int} : a_ok (sa A (o_arc A x) (qturn (aG A) x.toNat)) := ok_sa hA fun h => by
  have h1 := k_arc h
  exact qok_turn hA.1 (by omega)
theorem s_54 (hA : a_ok A) {x y : Int} : a_ok (sa A (o_vg A x y) (qsw (qtot (aG A) 0) x.toNat y.toNat)) := ok_sa hA fun h => by
  have h1 := k_vg h
  have h2 := kk_vg h
  exact qok_sw (qok_tot hA.1 0) (show x.toNat < qN (aG A) by omega) (show y.toNat < qM (aG A) by omega)
theorem s_55 (hA : a_ok A) {x : Int} : a_ok (sc A (o_arc A x) (decide (qF (aG A) x.toNat ≠ qT (aG A) x.toNat)) (qmrg (qtot (aG A) 3) x.toNat)) := ok_sc hA fun h e => by
  have h1 := k_arc h
  exact qok_mrg (qok_tot hA.1 3) (show x.toNat < qK (aG A) by omega) (of_decide_eq_true e)
theorem s_56 (hA : a_ok A) {x : Int} : a_ok (sa A (o_set A x) (qsetS (aG A) x.toNat)) := ok_sa hA fun h => by
  have h1 := k_set h
  exact qok_setS hA.1 (qU_s (by omega))
theorem s_57 (hA : a_ok A) : a_ok (a_act A (qsetS (aG A) (qclo (aG A) (qS (aG A))))) := ok_act hA (qok_setS hA.1 (qclo_lt hA.1.1.2.2.2.2.2.1))
end SB
