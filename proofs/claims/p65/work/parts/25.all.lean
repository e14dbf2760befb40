/-! EVERY METHOD OF OURS ENDS AS THE INTERPRETER SAYS: for all runs -/
section GA
variable {l : Launch} {S0 b Lx : Nat} {xs : Nat → Int32} {D : va_G} {cA : Nat → ClassId} {ad : Nat → Int → Nat} {opq : Value}
theorem gy_ct (hfl : l.stackTraces = false) (hdt : ∀ k pc i n, gg_dt k pc = some (i, n) → decode (gg_bt k) pc = .ok (i, n)) {f : Nat} (hC : ∀ f', f' < f → gy_CtF l S0 b Lx xs D cA ad opq f') : gy_CtF l S0 b Lx xs D cA ad opq f := by
  intro d y vs w o ci kd ml tg rk hy hm htg hex
  obtain ⟨m1, m2, m3, m4, m5, m6, m7, m8, m9, m10, m11, m12, m13, m14⟩ := gg_mfacts hy hm
  unfold gy_Ct
  by_cases hh : gg_hd y = []
  · have hwd : gg_wd y = Cond.code (gg_nm y) (gg_bt y) ml (gg_rt y) := by unfold gg_wd; rw [if_pos hh, hm]
    refine vx_ofW (cc := gg_bt y) (maxL := ml) (ret := gg_rt y) (ws' := gg_gw) m3 (by rw [hwd]) fun p e s m args below meth c s₁ B hml hno hP => ?_
    have hts := atoms_spec (ws := gg_wd y :: gg_gw) B.pre
    exact gy_body hfl hdt hC hy hm htg hex B.exec B.bytes hml (findClass_of_methodNamed B.named) hts B.notSynchronized (name_of_methodNamed B.named B.method).1 B.returns (by
      unfold gg_hh
      rw [hh]
      exact List.eq_nil_iff_forall_not_mem.mpr fun x hx => hno x hx) hP
  · have hwd : gg_wd y = Cond.codeWith (gg_nm y) (gg_bt y) ml (gg_rt y) (gg_hh y) := by unfold gg_wd; rw [if_neg hh, hm]; rfl
    refine vx_ofWH (cc := gg_bt y) (maxL := ml) (ret := gg_rt y) (hh := gg_hh y) (ws' := gg_gw) m3 (by rw [hwd]) fun p e s m args below meth c s₁ B hml hP => ?_
    have hts := atoms_spec (ws := gg_wd y :: gg_gw) B.pre
    have hw0 := hts (gg_wd y) List.mem_cons_self
    rw [hwd] at hw0
    exact gy_body hfl hdt hC hy hm htg hex B.exec B.bytes hml (findClass_of_methodNamed B.named) hts B.notSynchronized (name_of_methodNamed B.named B.method).1 B.returns (vx_table (x := x) B hw0) hP
theorem gy_ctAll (hfl : l.stackTraces = false) (hdt : ∀ k pc i n, gg_dt k pc = some (i, n) → decode (gg_bt k) pc = .ok (i, n)) (f : Nat) : gy_CtF l S0 b Lx xs D cA ad opq f := by
  induction f using Nat.strongRecOn with
  | _ f ih => exact gy_ct hfl hdt ih
end GA
