/-! the decoded instructions are the bytes' -/
def gg_po (p : List (Nat × Instr × Nat) × ByteArray) : Prop := ∀ e ∈ p.1, decode p.2 e.1 = .ok e.2
def gg_pb (l : List (Nat × Instr × Nat)) (c : ByteArray) : Bool := l.all fun e => decide (decode c e.1 = .ok e.2)
theorem gg_pb_ok {l : List (Nat × Instr × Nat)} {c : ByteArray} (h : gg_pb l c = true) : gg_po (l, c) := fun e he => of_decide_eq_true (List.all_eq_true.mp h e he)
theorem gg_po_app {l m : List (Nat × Instr × Nat)} {c : ByteArray} (h : gg_po (l, c)) (h2 : gg_po (m, c)) : gg_po (l ++ m, c) := fun e he => (List.mem_append.mp he).elim (h e) (h2 e)
theorem gg_po_cut {l : List (Nat × Instr × Nat)} {c : ByteArray} (n : Nat) (h : gg_po (l.take n, c)) (h2 : gg_po (l.drop n, c)) : gg_po (l, c) := fun e he => by
  rw [← List.take_append_drop n l] at he
  exact (List.mem_append.mp he).elim (h e) (h2 e)
theorem gg_po_nil {c : ByteArray} : gg_po ([], c) := fun e he => absurd he List.not_mem_nil
set_option maxRecDepth 100000 in
theorem gg_o0 : gg_po (gg_d0, prog_2_method_1_code) := gg_pb_ok (by decide +kernel)
set_option maxRecDepth 100000 in
theorem gg_o1 : gg_po (gg_d1, prog_2_method_2_code) := gg_pb_ok (by decide +kernel)
set_option maxRecDepth 100000 in
theorem gg_o2_0 : gg_po ((gg_d2).take 40, prog_2_method_3_code) := gg_pb_ok (by decide +kernel)
set_option maxRecDepth 100000 in
theorem gg_o2_1 : gg_po ((gg_d2).drop 40, prog_2_method_3_code) := gg_pb_ok (by decide +kernel)
theorem gg_o2 : gg_po (gg_d2, prog_2_method_3_code) := gg_po_cut 40 gg_o2_0 (gg_o2_1)
set_option maxRecDepth 100000 in
theorem gg_o3 : gg_po (gg_d3, prog_2_method_4_code) := gg_pb_ok (by decide +kernel)
set_option maxRecDepth 100000 in
theorem gg_o4 : gg_po (gg_d4, prog_2_method_5_code) := gg_pb_ok (by decide +kernel)
set_option maxRecDepth 100000 in
theorem gg_o5 : gg_po (gg_d5, prog_2_method_6_code) := gg_pb_ok (by decide +kernel)
set_option maxRecDepth 100000 in
theorem gg_o6 : gg_po (gg_d6, prog_2_method_7_code) := gg_pb_ok (by decide +kernel)
set_option maxRecDepth 100000 in
theorem gg_o9 : gg_po (gg_d9, prog_2_method_10_code) := gg_pb_ok (by decide +kernel)
set_option maxRecDepth 100000 in
theorem gg_o10 : gg_po (gg_d10, prog_2_method_11_code) := gg_pb_ok (by decide +kernel)
set_option maxRecDepth 100000 in
theorem gg_o11 : gg_po (gg_d11, prog_2_method_12_code) := gg_pb_ok (by decide +kernel)
set_option maxRecDepth 100000 in
theorem gg_o12_0 : gg_po ((gg_d12).take 40, prog_2_method_13_code) := gg_pb_ok (by decide +kernel)
set_option maxRecDepth 100000 in
theorem gg_o12_1 : gg_po ((gg_d12).drop 40, prog_2_method_13_code) := gg_pb_ok (by decide +kernel)
theorem gg_o12 : gg_po (gg_d12, prog_2_method_13_code) := gg_po_cut 40 gg_o12_0 (gg_o12_1)
set_option maxRecDepth 100000 in
theorem gg_o13 : gg_po (gg_d13, prog_2_method_14_code) := gg_pb_ok (by decide +kernel)
set_option maxRecDepth 100000 in
theorem gg_o14_0 : gg_po ((gg_d14).take 40, prog_2_method_15_code) := gg_pb_ok (by decide +kernel)
set_option maxRecDepth 100000 in
theorem gg_o14_1 : gg_po ((gg_d14).drop 40, prog_2_method_15_code) := gg_pb_ok (by decide +kernel)
theorem gg_o14 : gg_po (gg_d14, prog_2_method_15_code) := gg_po_cut 40 gg_o14_0 (gg_o14_1)
set_option maxRecDepth 100000 in
theorem gg_o15_0 : gg_po ((gg_d15).take 40, prog_2_method_16_code) := gg_pb_ok (by decide +kernel)
set_option maxRecDepth 100000 in
theorem gg_o15_1 : gg_po (((gg_d15).drop 40).take 40, prog_2_method_16_code) := gg_pb_ok (by decide +kernel)
set_option maxRecDepth 100000 in
theorem gg_o15_2 : gg_po (((gg_d15).drop 40).drop 40, prog_2_method_16_code) := gg_pb_ok (by decide +kernel)
theorem gg_o15 : gg_po (gg_d15, prog_2_method_16_code) := gg_po_cut 40 gg_o15_0 (gg_po_cut 40 gg_o15_1 (gg_o15_2))
set_option maxRecDepth 100000 in
theorem gg_o16 : gg_po (gg_d16, prog_2_method_17_code) := gg_pb_ok (by decide +kernel)
set_option maxRecDepth 100000 in
theorem gg_o17 : gg_po (gg_d17, prog_2_method_18_code) := gg_pb_ok (by decide +kernel)
set_option maxRecDepth 100000 in
theorem gg_o18 : gg_po (gg_d18, prog_2_method_19_code) := gg_pb_ok (by decide +kernel)
set_option maxRecDepth 100000 in
theorem gg_o19 : gg_po (gg_d19, prog_2_method_20_code) := gg_pb_ok (by decide +kernel)
set_option maxRecDepth 100000 in
theorem gg_o20_0 : gg_po ((gg_d20).take 40, prog_2_method_21_code) := gg_pb_ok (by decide +kernel)
set_option maxRecDepth 100000 in
theorem gg_o20_1 : gg_po ((gg_d20).drop 40, prog_2_method_21_code) := gg_pb_ok (by decide +kernel)
theorem gg_o20 : gg_po (gg_d20, prog_2_method_21_code) := gg_po_cut 40 gg_o20_0 (gg_o20_1)
set_option maxRecDepth 100000 in
theorem gg_o21_0 : gg_po ((gg_d21).take 40, prog_2_method_22_code) := gg_pb_ok (by decide +kernel)
set_option maxRecDepth 100000 in
theorem gg_o21_1 : gg_po ((gg_d21).drop 40, prog_2_method_22_code) := gg_pb_ok (by decide +kernel)
theorem gg_o21 : gg_po (gg_d21, prog_2_method_22_code) := gg_po_cut 40 gg_o21_0 (gg_o21_1)
set_option maxRecDepth 100000 in
theorem gg_o22 : gg_po (gg_d22, prog_2_method_23_code) := gg_pb_ok (by decide +kernel)
set_option maxRecDepth 100000 in
theorem gg_o23 : gg_po (gg_d23, prog_2_method_24_code) := gg_pb_ok (by decide +kernel)
set_option maxRecDepth 100000 in
theorem gg_o24 : gg_po (gg_d24, prog_2_method_25_code) := gg_pb_ok (by decide +kernel)
set_option maxRecDepth 100000 in
theorem gg_o25 : gg_po (gg_d25, prog_2_method_26_code) := gg_pb_ok (by decide +kernel)
set_option maxRecDepth 100000 in
theorem gg_o26 : gg_po (gg_d26, prog_2_method_27_code) := gg_pb_ok (by decide +kernel)
set_option maxRecDepth 100000 in
theorem gg_o27 : gg_po (gg_d27, prog_3_method_1_code) := gg_pb_ok (by decide +kernel)
set_option maxRecDepth 100000 in
theorem gg_o28 : gg_po (gg_d28, prog_3_method_2_code) := gg_pb_ok (by decide +kernel)
set_option maxRecDepth 100000 in
theorem gg_o29 : gg_po (gg_d29, prog_3_method_3_code) := gg_pb_ok (by decide +kernel)
set_option maxRecDepth 100000 in
theorem gg_o30 : gg_po (gg_d30, prog_4_method_1_code) := gg_pb_ok (by decide +kernel)
set_option maxRecDepth 100000 in
theorem gg_o31 : gg_po (gg_d31, prog_4_method_2_code) := gg_pb_ok (by decide +kernel)
set_option maxRecDepth 100000 in
theorem gg_o32 : gg_po (gg_d32, prog_4_method_3_code) := gg_pb_ok (by decide +kernel)
set_option maxRecDepth 100000 in
theorem gg_o36_0_0 : gg_po ((gg_d36_0).take 32, prog_4_method_7_code) := gg_pb_ok (by decide +kernel)
set_option maxRecDepth 100000 in
theorem gg_o36_0_1 : gg_po (((gg_d36_0).drop 32).take 32, prog_4_method_7_code) := gg_pb_ok (by decide +kernel)
set_option maxRecDepth 100000 in
theorem gg_o36_0_2 : gg_po ((((gg_d36_0).drop 32).drop 32).take 32, prog_4_method_7_code) := gg_pb_ok (by decide +kernel)
set_option maxRecDepth 100000 in
theorem gg_o36_0_3 : gg_po ((((gg_d36_0).drop 32).drop 32).drop 32, prog_4_method_7_code) := gg_pb_ok (by decide +kernel)
theorem gg_o36_0 : gg_po (gg_d36_0, prog_4_method_7_code) := gg_po_cut 32 gg_o36_0_0 (gg_po_cut 32 gg_o36_0_1 (gg_po_cut 32 gg_o36_0_2 (gg_o36_0_3)))
set_option maxRecDepth 100000 in
theorem gg_o36_1 : gg_po (gg_d36_1, prog_4_method_7_code) := gg_pb_ok (by decide +kernel)
theorem gg_o36 : gg_po (gg_d36, prog_4_method_7_code) := gg_po_app gg_o36_0 gg_o36_1
