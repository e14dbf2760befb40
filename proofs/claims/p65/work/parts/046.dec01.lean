/-! the decoded instructions are the bytes' -/
set_option maxRecDepth 100000 in
theorem gg_o37 : gg_po (gg_d37, prog_5_method_1_code) := gg_pb_ok (by decide +kernel)
set_option maxRecDepth 100000 in
theorem gg_o38_0 : gg_po ((gg_d38).take 40, prog_5_method_2_code) := gg_pb_ok (by decide +kernel)
set_option maxRecDepth 100000 in
theorem gg_o38_1 : gg_po ((gg_d38).drop 40, prog_5_method_2_code) := gg_pb_ok (by decide +kernel)
theorem gg_o38 : gg_po (gg_d38, prog_5_method_2_code) := gg_po_cut 40 gg_o38_0 (gg_o38_1)
set_option maxRecDepth 100000 in
theorem gg_o39_0 : gg_po ((gg_d39).take 40, prog_5_method_3_code) := gg_pb_ok (by decide +kernel)
set_option maxRecDepth 100000 in
theorem gg_o39_1 : gg_po ((gg_d39).drop 40, prog_5_method_3_code) := gg_pb_ok (by decide +kernel)
theorem gg_o39 : gg_po (gg_d39, prog_5_method_3_code) := gg_po_cut 40 gg_o39_0 (gg_o39_1)
set_option maxRecDepth 100000 in
theorem gg_o40 : gg_po (gg_d40, prog_5_method_4_code) := gg_pb_ok (by decide +kernel)
set_option maxRecDepth 100000 in
theorem gg_o41 : gg_po (gg_d41, prog_5_method_5_code) := gg_pb_ok (by decide +kernel)
set_option maxRecDepth 100000 in
theorem gg_o42_0 : gg_po ((gg_d42).take 40, prog_5_method_6_code) := gg_pb_ok (by decide +kernel)
set_option maxRecDepth 100000 in
theorem gg_o42_1 : gg_po ((gg_d42).drop 40, prog_5_method_6_code) := gg_pb_ok (by decide +kernel)
theorem gg_o42 : gg_po (gg_d42, prog_5_method_6_code) := gg_po_cut 40 gg_o42_0 (gg_o42_1)
set_option maxRecDepth 100000 in
theorem gg_o43 : gg_po (gg_d43, prog_5_method_7_code) := gg_pb_ok (by decide +kernel)
set_option maxRecDepth 100000 in
theorem gg_o44 : gg_po (gg_d44, prog_5_method_8_code) := gg_pb_ok (by decide +kernel)
set_option maxRecDepth 100000 in
theorem gg_o45_0 : gg_po ((gg_d45).take 40, prog_5_method_9_code) := gg_pb_ok (by decide +kernel)
set_option maxRecDepth 100000 in
theorem gg_o45_1 : gg_po ((gg_d45).drop 40, prog_5_method_9_code) := gg_pb_ok (by decide +kernel)
theorem gg_o45 : gg_po (gg_d45, prog_5_method_9_code) := gg_po_cut 40 gg_o45_0 (gg_o45_1)
set_option maxRecDepth 100000 in
theorem gg_o46 : gg_po (gg_d46, prog_5_method_10_code) := gg_pb_ok (by decide +kernel)
set_option maxRecDepth 100000 in
theorem gg_o47 : gg_po (gg_d47, prog_5_method_11_code) := gg_pb_ok (by decide +kernel)
set_option maxRecDepth 100000 in
theorem gg_o48 : gg_po (gg_d48, prog_5_method_12_code) := gg_pb_ok (by decide +kernel)
set_option maxRecDepth 100000 in
theorem gg_o49 : gg_po (gg_d49, prog_5_method_13_code) := gg_pb_ok (by decide +kernel)
set_option maxRecDepth 100000 in
theorem gg_o50 : gg_po (gg_d50, prog_5_method_14_code) := gg_pb_ok (by decide +kernel)
set_option maxRecDepth 100000 in
theorem gg_o51 : gg_po (gg_d51, prog_5_method_15_code) := gg_pb_ok (by decide +kernel)
set_option maxRecDepth 100000 in
theorem gg_o52 : gg_po (gg_d52, prog_6_method_1_code) := gg_pb_ok (by decide +kernel)
set_option maxRecDepth 100000 in
theorem gg_o60_0 : gg_po ((gg_d60).take 40, prog_7_method_1_code) := gg_pb_ok (by decide +kernel)
set_option maxRecDepth 100000 in
theorem gg_o60_1 : gg_po ((gg_d60).drop 40, prog_7_method_1_code) := gg_pb_ok (by decide +kernel)
theorem gg_o60 : gg_po (gg_d60, prog_7_method_1_code) := gg_po_cut 40 gg_o60_0 (gg_o60_1)
set_option maxRecDepth 100000 in
theorem gg_o61 : gg_po (gg_d61, prog_7_method_2_code) := gg_pb_ok (by decide +kernel)
set_option maxRecDepth 100000 in
theorem gg_o62 : gg_po (gg_d62, prog_7_method_3_code) := gg_pb_ok (by decide +kernel)
set_option maxRecDepth 100000 in
theorem gg_o63 : gg_po (gg_d63, prog_7_method_4_code) := gg_pb_ok (by decide +kernel)
set_option maxRecDepth 100000 in
theorem gg_o64_0 : gg_po ((gg_d64).take 40, prog_7_method_5_code) := gg_pb_ok (by decide +kernel)
set_option maxRecDepth 100000 in
theorem gg_o64_1 : gg_po ((gg_d64).drop 40, prog_7_method_5_code) := gg_pb_ok (by decide +kernel)
theorem gg_o64 : gg_po (gg_d64, prog_7_method_5_code) := gg_po_cut 40 gg_o64_0 (gg_o64_1)
set_option maxRecDepth 100000 in
theorem gg_o67 : gg_po (gg_d67, prog_7_method_8_code) := gg_pb_ok (by decide +kernel)
set_option maxRecDepth 100000 in
theorem gg_o68 : gg_po (gg_d68, prog_7_method_9_code) := gg_pb_ok (by decide +kernel)
set_option maxRecDepth 100000 in
theorem gg_o69 : gg_po (gg_d69, prog_7_method_10_code) := gg_pb_ok (by decide +kernel)
set_option maxRecDepth 100000 in
theorem gg_o78 : gg_po (gg_d78, prog_7_method_19_code) := gg_pb_ok (by decide +kernel)
set_option maxRecDepth 100000 in
theorem gg_o80 : gg_po (gg_d80, prog_7_method_21_code) := gg_pb_ok (by decide +kernel)
set_option maxRecDepth 100000 in
theorem gg_o81 : gg_po (gg_d81, prog_7_method_22_code) := gg_pb_ok (by decide +kernel)
set_option maxRecDepth 100000 in
theorem gg_o86_0 : gg_po ((gg_d86).take 40, prog_1_method_1_code) := gg_pb_ok (by decide +kernel)
set_option maxRecDepth 100000 in
theorem gg_o86_1 : gg_po ((gg_d86).drop 40, prog_1_method_1_code) := gg_pb_ok (by decide +kernel)
theorem gg_o86 : gg_po (gg_d86, prog_1_method_1_code) := gg_po_cut 40 gg_o86_0 (gg_o86_1)
set_option maxRecDepth 100000 in
theorem gg_o87 : gg_po (gg_d87, prog_1_method_2_code) := gg_pb_ok (by decide +kernel)
set_option maxRecDepth 100000 in
theorem gg_o88 : gg_po (gg_d88, prog_1_method_3_code) := gg_pb_ok (by decide +kernel)
set_option maxRecDepth 100000 in
theorem gg_o89 : gg_po (gg_d89, prog_1_method_4_code) := gg_pb_ok (by decide +kernel)
set_option maxRecDepth 100000 in
theorem gg_o90 : gg_po (gg_d90, prog_1_method_5_code) := gg_pb_ok (by decide +kernel)
set_option maxRecDepth 100000 in
theorem gg_o91 : gg_po (gg_d91, prog_1_method_6_code) := gg_pb_ok (by decide +kernel)
set_option maxRecDepth 100000 in
theorem gg_o92_0 : gg_po ((gg_d92).take 40, prog_1_method_7_code) := gg_pb_ok (by decide +kernel)
set_option maxRecDepth 100000 in
theorem gg_o92_1 : gg_po ((gg_d92).drop 40, prog_1_method_7_code) := gg_pb_ok (by decide +kernel)
theorem gg_o92 : gg_po (gg_d92, prog_1_method_7_code) := gg_po_cut 40 gg_o92_0 (gg_o92_1)
set_option maxRecDepth 100000 in
theorem gg_o94 : gg_po (gg_d94, prog_1_method_9_code) := gg_pb_ok (by decide +kernel)
set_option maxRecDepth 100000 in
theorem gg_o101 : gg_po (gg_d101, prog_1_method_16_code) := gg_pb_ok (by decide +kernel)
set_option maxRecDepth 100000 in
theorem gg_o109 : gg_po (gg_d109, prog_1_method_24_code) := gg_pb_ok (by decide +kernel)
set_option maxRecDepth 100000 in
theorem gg_o111 : gg_po (gg_d111, prog_1_method_26_code) := gg_pb_ok (by decide +kernel)
set_option maxRecDepth 100000 in
theorem gg_o121 : gg_po (gg_d121, prog_1_method_36_code) := gg_pb_ok (by decide +kernel)
set_option maxRecDepth 100000 in
theorem gg_o122 : gg_po (gg_d122, prog_1_method_37_code) := gg_pb_ok (by decide +kernel)
set_option maxRecDepth 100000 in
theorem gg_o125 : gg_po (gg_d125, prog_1_method_40_code) := gg_pb_ok (by decide +kernel)
set_option maxRecDepth 100000 in
theorem gg_o127 : gg_po (gg_d127, prog_1_method_42_code) := gg_pb_ok (by decide +kernel)
