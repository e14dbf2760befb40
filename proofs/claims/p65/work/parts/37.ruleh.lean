/-! what the printed rules need besides -/
theorem gs_rc {a c : Nat} {r : List gg_V} (h : gs_o a c) : gg_rcv ((2, Int.ofNat a) :: r) c 142 = true := decide_eq_true h
theorem wr_neg {A B C : Prop} {D : Prop} (h : A ↔ ((¬ D → B) ∧ (¬ ¬ D → C))) : A ↔ ((D → C) ∧ (¬ D → B)) := by
  rw [h]
  by_cases hd : D
  · exact ⟨fun x => ⟨fun _ => x.2 (fun y => y hd), fun y => absurd hd y⟩, fun x => ⟨fun y => absurd hd y, fun _ => x.1 hd⟩⟩
  · exact ⟨fun x => ⟨fun y => absurd y hd, fun _ => x.1 hd⟩, fun x => ⟨fun _ => x.2 hd, fun y => absurd hd y⟩⟩
section WS2
variable {N : Nat} {xs : Nat → Int32} {d k pc : Nat} {L st : List gg_V} {R M : gg_M} {cc cs : Nat} {Q : gg_O → Prop}
theorem gg_tx_le (s : Nat) : (gg_tx s).length ≤ 7 := by
  match s with
  | 0 => decide
  | 1 => decide
  | 2 => decide
  | 3 => decide
  | 4 => decide
  | 5 => decide
  | 6 => decide
  | n + 7 => exact Nat.zero_le _
theorem wr_txt {i : Int} {s : Nat} (hd : gg_dt k pc = some (.baload, 1)) (hs : s < 3) (h0 : 0 ≤ i) (h1 : i < ((gg_tx s).length : Int)) {w : gg_W} : wp N xs d k pc L ((0, i) :: gby s :: st) w Q ↔ wp N xs d k (pc + 1) L ((0, (gg_tx s).getD i.toNat 0) :: st) w Q := by
  refine wp_eq hd fun f => ?_
  show gg_q 1 1 (if (3 : Nat) = 3 ∧ s < 3 ∧ gg_in i (gg_tx s).length = true then gg_ex N xs f d k (pc + 1) L ((0, (gg_tx s).getD (gg_k i) 0) :: st) w else none) = _
  have := gg_tx_le s
  unfold gg_q
  rw [if_pos rfl, if_pos ⟨rfl, hs, io_in_r ⟨by omega, by omega⟩ h0 h1⟩, gk_z (n := 0) h0 (by omega)]
theorem wr_call {i : Instr} {n y ci kd ml rk : Nat} {tg : List Nat} {vs r L' : List gg_V} {w : gg_W} (hd : gg_dt k pc = some (i, n)) (e : ∀ f, gg_step (gg_ex N xs f) N xs (d + 1) k pc L st w i n = gg_call (gg_ex N xs f) (d + 1) k pc L st w y) (hm : gg_mt y = (ci, kd, ml, tg, rk))
    (h1 : vs.map gg_tg = tg) (h2 : tg.length ≤ st.length) (h3 : (r.map gg_cat).sum ≤ 8) (h4 : kd = 1 ∨ gg_rcv vs ci w.2.2.1 = true) (hv : (st.take tg.length).reverse = vs) (hr : st.drop tg.length = r) (hL : gg_en ml vs = L') :
    wp N xs (d + 1) k pc L st w Q ↔ wp N xs d y 0 L' [] w (wa N xs (d + 1) k pc L r Q) :=
  wp_call hd e hm ⟨by rw [hv]; exact h1, h2, by rw [hr]; exact h3, by rw [hv]; exact h4⟩ hv hr hL
end WS2
