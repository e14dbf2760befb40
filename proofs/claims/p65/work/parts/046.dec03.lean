/-! the decoded instructions are the bytes' -/
set_option maxRecDepth 100000 in
theorem gg_o346 : gg_po (gg_d346, method_2_code) := gg_pb_ok (by decide +kernel)
set_option maxRecDepth 100000 in
theorem gg_o347_0_0 : gg_po ((gg_d347_0).take 32, method_4_code) := gg_pb_ok (by decide +kernel)
set_option maxRecDepth 100000 in
theorem gg_o347_0_1 : gg_po (((gg_d347_0).drop 32).take 32, method_4_code) := gg_pb_ok (by decide +kernel)
set_option maxRecDepth 100000 in
theorem gg_o347_0_2 : gg_po ((((gg_d347_0).drop 32).drop 32).take 32, method_4_code) := gg_pb_ok (by decide +kernel)
set_option maxRecDepth 100000 in
theorem gg_o347_0_3 : gg_po ((((gg_d347_0).drop 32).drop 32).drop 32, method_4_code) := gg_pb_ok (by decide +kernel)
theorem gg_o347_0 : gg_po (gg_d347_0, method_4_code) := gg_po_cut 32 gg_o347_0_0 (gg_po_cut 32 gg_o347_0_1 (gg_po_cut 32 gg_o347_0_2 (gg_o347_0_3)))
set_option maxRecDepth 100000 in
theorem gg_o347_1 : gg_po (gg_d347_1, method_4_code) := gg_pb_ok (by decide +kernel)
theorem gg_o347 : gg_po (gg_d347, method_4_code) := gg_po_app gg_o347_0 gg_o347_1
set_option maxRecDepth 100000 in
theorem gg_o348 : gg_po (gg_d348, method_7_code) := gg_pb_ok (by decide +kernel)
set_option maxRecDepth 100000 in
theorem gg_o349 : gg_po (gg_d349, method_9_code) := gg_pb_ok (by decide +kernel)
set_option maxRecDepth 100000 in
theorem gg_o350 : gg_po (gg_d350, method_8_code) := gg_pb_ok (by decide +kernel)
set_option maxRecDepth 100000 in
theorem gg_o351_0_0 : gg_po ((gg_d351_0).take 32, method_5_code) := gg_pb_ok (by decide +kernel)
set_option maxRecDepth 100000 in
theorem gg_o351_0_1 : gg_po (((gg_d351_0).drop 32).take 32, method_5_code) := gg_pb_ok (by decide +kernel)
set_option maxRecDepth 100000 in
theorem gg_o351_0_2 : gg_po ((((gg_d351_0).drop 32).drop 32).take 32, method_5_code) := gg_pb_ok (by decide +kernel)
set_option maxRecDepth 100000 in
theorem gg_o351_0_3 : gg_po ((((gg_d351_0).drop 32).drop 32).drop 32, method_5_code) := gg_pb_ok (by decide +kernel)
theorem gg_o351_0 : gg_po (gg_d351_0, method_5_code) := gg_po_cut 32 gg_o351_0_0 (gg_po_cut 32 gg_o351_0_1 (gg_po_cut 32 gg_o351_0_2 (gg_o351_0_3)))
set_option maxRecDepth 100000 in
theorem gg_o351_1_0 : gg_po ((gg_d351_1).take 32, method_5_code) := gg_pb_ok (by decide +kernel)
set_option maxRecDepth 100000 in
theorem gg_o351_1_1 : gg_po (((gg_d351_1).drop 32).take 32, method_5_code) := gg_pb_ok (by decide +kernel)
set_option maxRecDepth 100000 in
theorem gg_o351_1_2 : gg_po (((gg_d351_1).drop 32).drop 32, method_5_code) := gg_pb_ok (by decide +kernel)
theorem gg_o351_1 : gg_po (gg_d351_1, method_5_code) := gg_po_cut 32 gg_o351_1_0 (gg_po_cut 32 gg_o351_1_1 (gg_o351_1_2))
theorem gg_o351 : gg_po (gg_d351, method_5_code) := gg_po_app gg_o351_0 gg_o351_1
set_option maxRecDepth 100000 in
theorem gg_o352_0 : gg_po ((gg_d352).take 40, method_3_code) := gg_pb_ok (by decide +kernel)
set_option maxRecDepth 100000 in
theorem gg_o352_1 : gg_po ((gg_d352).drop 40, method_3_code) := gg_pb_ok (by decide +kernel)
theorem gg_o352 : gg_po (gg_d352, method_3_code) := gg_po_cut 40 gg_o352_0 (gg_o352_1)
set_option maxRecDepth 100000 in
theorem gg_o353_0 : gg_po ((gg_d353).take 40, prog_27_method_150_code) := gg_pb_ok (by decide +kernel)
set_option maxRecDepth 100000 in
theorem gg_o353_1 : gg_po ((gg_d353).drop 40, prog_27_method_150_code) := gg_pb_ok (by decide +kernel)
theorem gg_o353 : gg_po (gg_d353, prog_27_method_150_code) := gg_po_cut 40 gg_o353_0 (gg_o353_1)
set_option maxRecDepth 100000 in
theorem gg_o354 : gg_po (gg_d354, prog_27_method_53_code) := gg_pb_ok (by decide +kernel)
set_option maxRecDepth 100000 in
theorem gg_o355 : gg_po (gg_d355, prog_27_method_147_code) := gg_pb_ok (by decide +kernel)
set_option maxRecDepth 100000 in
theorem gg_o356 : gg_po (gg_d356, prog_29_method_3_code) := gg_pb_ok (by decide +kernel)
set_option maxRecDepth 100000 in
theorem gg_o357_0 : gg_po ((gg_d357).take 40, prog_21_method_12_code) := gg_pb_ok (by decide +kernel)
set_option maxRecDepth 100000 in
theorem gg_o357_1 : gg_po ((gg_d357).drop 40, prog_21_method_12_code) := gg_pb_ok (by decide +kernel)
theorem gg_o357 : gg_po (gg_d357, prog_21_method_12_code) := gg_po_cut 40 gg_o357_0 (gg_o357_1)
set_option maxRecDepth 100000 in
theorem gg_o358 : gg_po (gg_d358, prog_21_method_27_code) := gg_pb_ok (by decide +kernel)
set_option maxRecDepth 100000 in
theorem gg_o359 : gg_po (gg_d359, prog_21_method_13_code) := gg_pb_ok (by decide +kernel)
set_option maxRecDepth 100000 in
theorem gg_o360 : gg_po (gg_d360, prog_21_method_22_code) := gg_pb_ok (by decide +kernel)
set_option maxRecDepth 100000 in
theorem gg_o361 : gg_po (gg_d361, prog_10_method_1_code) := gg_pb_ok (by decide +kernel)
set_option maxRecDepth 100000 in
theorem gg_o362 : gg_po (gg_d362, prog_10_method_7_code) := gg_pb_ok (by decide +kernel)
set_option maxRecDepth 100000 in
theorem gg_o363_0 : gg_po ((gg_d363).take 40, prog_10_method_13_code) := gg_pb_ok (by decide +kernel)
set_option maxRecDepth 100000 in
theorem gg_o363_1 : gg_po ((gg_d363).drop 40, prog_10_method_13_code) := gg_pb_ok (by decide +kernel)
theorem gg_o363 : gg_po (gg_d363, prog_10_method_13_code) := gg_po_cut 40 gg_o363_0 (gg_o363_1)
set_option maxRecDepth 100000 in
theorem gg_o364_0 : gg_po ((gg_d364).take 40, prog_10_method_11_code) := gg_pb_ok (by decide +kernel)
set_option maxRecDepth 100000 in
theorem gg_o364_1 : gg_po ((gg_d364).drop 40, prog_10_method_11_code) := gg_pb_ok (by decide +kernel)
theorem gg_o364 : gg_po (gg_d364, prog_10_method_11_code) := gg_po_cut 40 gg_o364_0 (gg_o364_1)
set_option maxRecDepth 100000 in
theorem gg_o365 : gg_po (gg_d365, prog_10_method_10_code) := gg_pb_ok (by decide +kernel)
set_option maxRecDepth 100000 in
theorem gg_o366 : gg_po (gg_d366, prog_10_method_12_code) := gg_pb_ok (by decide +kernel)
set_option maxRecDepth 100000 in
theorem gg_o367_0 : gg_po ((gg_d367).take 40, prog_10_method_16_code) := gg_pb_ok (by decide +kernel)
set_option maxRecDepth 100000 in
theorem gg_o367_1 : gg_po (((gg_d367).drop 40).take 40, prog_10_method_16_code) := gg_pb_ok (by decide +kernel)
set_option maxRecDepth 100000 in
theorem gg_o367_2 : gg_po (((gg_d367).drop 40).drop 40, prog_10_method_16_code) := gg_pb_ok (by decide +kernel)
theorem gg_o367 : gg_po (gg_d367, prog_10_method_16_code) := gg_po_cut 40 gg_o367_0 (gg_po_cut 40 gg_o367_1 (gg_o367_2))
set_option maxRecDepth 100000 in
theorem gg_o368_0 : gg_po ((gg_d368).take 40, prog_10_method_2_code) := gg_pb_ok (by decide +kernel)
set_option maxRecDepth 100000 in
theorem gg_o368_1 : gg_po ((gg_d368).drop 40, prog_10_method_2_code) := gg_pb_ok (by decide +kernel)
theorem gg_o368 : gg_po (gg_d368, prog_10_method_2_code) := gg_po_cut 40 gg_o368_0 (gg_o368_1)
set_option maxRecDepth 100000 in
theorem gg_o369 : gg_po (gg_d369, prog_10_method_5_code) := gg_pb_ok (by decide +kernel)
set_option maxRecDepth 100000 in
theorem gg_o370 : gg_po (gg_d370, prog_10_method_4_code) := gg_pb_ok (by decide +kernel)
