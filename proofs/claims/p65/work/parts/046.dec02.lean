/-! the decoded instructions are the bytes' -/
set_option maxRecDepth 100000 in
theorem gg_o128 : gg_po (gg_d128, prog_1_method_43_code) := gg_pb_ok (by decide +kernel)
set_option maxRecDepth 100000 in
theorem gg_o129 : gg_po (gg_d129, prog_1_method_44_code) := gg_pb_ok (by decide +kernel)
set_option maxRecDepth 100000 in
theorem gg_o135 : gg_po (gg_d135, prog_1_method_50_code) := gg_pb_ok (by decide +kernel)
set_option maxRecDepth 100000 in
theorem gg_o136 : gg_po (gg_d136, prog_1_method_51_code) := gg_pb_ok (by decide +kernel)
set_option maxRecDepth 100000 in
theorem gg_o137 : gg_po (gg_d137, prog_1_method_52_code) := gg_pb_ok (by decide +kernel)
set_option maxRecDepth 100000 in
theorem gg_o138 : gg_po (gg_d138, prog_1_method_53_code) := gg_pb_ok (by decide +kernel)
set_option maxRecDepth 100000 in
theorem gg_o139 : gg_po (gg_d139, prog_1_method_54_code) := gg_pb_ok (by decide +kernel)
set_option maxRecDepth 100000 in
theorem gg_o140 : gg_po (gg_d140, prog_1_method_55_code) := gg_pb_ok (by decide +kernel)
set_option maxRecDepth 100000 in
theorem gg_o141 : gg_po (gg_d141, prog_1_method_56_code) := gg_pb_ok (by decide +kernel)
set_option maxRecDepth 100000 in
theorem gg_o142 : gg_po (gg_d142, prog_1_method_57_code) := gg_pb_ok (by decide +kernel)
set_option maxRecDepth 100000 in
theorem gg_o143 : gg_po (gg_d143, prog_1_method_58_code) := gg_pb_ok (by decide +kernel)
set_option maxRecDepth 100000 in
theorem gg_o144 : gg_po (gg_d144, prog_1_method_59_code) := gg_pb_ok (by decide +kernel)
set_option maxRecDepth 100000 in
theorem gg_o145 : gg_po (gg_d145, prog_1_method_60_code) := gg_pb_ok (by decide +kernel)
set_option maxRecDepth 100000 in
theorem gg_o146 : gg_po (gg_d146, prog_1_method_61_code) := gg_pb_ok (by decide +kernel)
set_option maxRecDepth 100000 in
theorem gg_o149 : gg_po (gg_d149, prog_1_method_64_code) := gg_pb_ok (by decide +kernel)
set_option maxRecDepth 100000 in
theorem gg_o150 : gg_po (gg_d150, prog_1_method_65_code) := gg_pb_ok (by decide +kernel)
set_option maxRecDepth 100000 in
theorem gg_o152 : gg_po (gg_d152, prog_1_method_67_code) := gg_pb_ok (by decide +kernel)
set_option maxRecDepth 100000 in
theorem gg_o153 : gg_po (gg_d153, prog_1_method_68_code) := gg_pb_ok (by decide +kernel)
set_option maxRecDepth 100000 in
theorem gg_o155 : gg_po (gg_d155, prog_1_method_70_code) := gg_pb_ok (by decide +kernel)
set_option maxRecDepth 100000 in
theorem gg_o156 : gg_po (gg_d156, prog_1_method_71_code) := gg_pb_ok (by decide +kernel)
set_option maxRecDepth 100000 in
theorem gg_o157 : gg_po (gg_d157, prog_1_method_72_code) := gg_pb_ok (by decide +kernel)
set_option maxRecDepth 100000 in
theorem gg_o158 : gg_po (gg_d158, prog_1_method_73_code) := gg_pb_ok (by decide +kernel)
set_option maxRecDepth 100000 in
theorem gg_o159 : gg_po (gg_d159, prog_1_method_74_code) := gg_pb_ok (by decide +kernel)
set_option maxRecDepth 100000 in
theorem gg_o287_0_0 : gg_po ((gg_d287_0).take 32, code) := gg_pb_ok (by decide +kernel)
set_option maxRecDepth 100000 in
theorem gg_o287_0_1 : gg_po (((gg_d287_0).drop 32).take 32, code) := gg_pb_ok (by decide +kernel)
set_option maxRecDepth 100000 in
theorem gg_o287_0_2 : gg_po ((((gg_d287_0).drop 32).drop 32).take 32, code) := gg_pb_ok (by decide +kernel)
set_option maxRecDepth 100000 in
theorem gg_o287_0_3 : gg_po ((((gg_d287_0).drop 32).drop 32).drop 32, code) := gg_pb_ok (by decide +kernel)
theorem gg_o287_0 : gg_po (gg_d287_0, code) := gg_po_cut 32 gg_o287_0_0 (gg_po_cut 32 gg_o287_0_1 (gg_po_cut 32 gg_o287_0_2 (gg_o287_0_3)))
set_option maxRecDepth 100000 in
theorem gg_o287_1_0 : gg_po ((gg_d287_1).take 32, code) := gg_pb_ok (by decide +kernel)
set_option maxRecDepth 100000 in
theorem gg_o287_1_1 : gg_po ((gg_d287_1).drop 32, code) := gg_pb_ok (by decide +kernel)
theorem gg_o287_1 : gg_po (gg_d287_1, code) := gg_po_cut 32 gg_o287_1_0 (gg_o287_1_1)
theorem gg_o287 : gg_po (gg_d287, code) := gg_po_app gg_o287_0 gg_o287_1
set_option maxRecDepth 100000 in
theorem gg_o335 : gg_po (gg_d335, prog_27_method_54_code) := gg_pb_ok (by decide +kernel)
set_option maxRecDepth 100000 in
theorem gg_o336 : gg_po (gg_d336, prog_27_method_56_code) := gg_pb_ok (by decide +kernel)
set_option maxRecDepth 100000 in
theorem gg_o337 : gg_po (gg_d337, prog_27_method_152_code) := gg_pb_ok (by decide +kernel)
set_option maxRecDepth 100000 in
theorem gg_o338 : gg_po (gg_d338, prog_27_method_154_code) := gg_pb_ok (by decide +kernel)
set_option maxRecDepth 100000 in
theorem gg_o339 : gg_po (gg_d339, prog_27_method_155_code) := gg_pb_ok (by decide +kernel)
set_option maxRecDepth 100000 in
theorem gg_o340 : gg_po (gg_d340, prog_29_method_2_code) := gg_pb_ok (by decide +kernel)
set_option maxRecDepth 100000 in
theorem gg_o341 : gg_po (gg_d341, prog_47_method_11_code) := gg_pb_ok (by decide +kernel)
set_option maxRecDepth 100000 in
theorem gg_o342_0 : gg_po ((gg_d342).take 40, prog_21_method_49_code) := gg_pb_ok (by decide +kernel)
set_option maxRecDepth 100000 in
theorem gg_o342_1 : gg_po ((gg_d342).drop 40, prog_21_method_49_code) := gg_pb_ok (by decide +kernel)
theorem gg_o342 : gg_po (gg_d342, prog_21_method_49_code) := gg_po_cut 40 gg_o342_0 (gg_o342_1)
set_option maxRecDepth 100000 in
theorem gg_o344 : gg_po (gg_d344, prog_9_method_1_code) := gg_pb_ok (by decide +kernel)
set_option maxRecDepth 100000 in
theorem gg_o345_0_0 : gg_po ((gg_d345_0).take 32, method_6_code) := gg_pb_ok (by decide +kernel)
set_option maxRecDepth 100000 in
theorem gg_o345_0_1 : gg_po (((gg_d345_0).drop 32).take 32, method_6_code) := gg_pb_ok (by decide +kernel)
set_option maxRecDepth 100000 in
theorem gg_o345_0_2 : gg_po ((((gg_d345_0).drop 32).drop 32).take 32, method_6_code) := gg_pb_ok (by decide +kernel)
set_option maxRecDepth 100000 in
theorem gg_o345_0_3 : gg_po ((((gg_d345_0).drop 32).drop 32).drop 32, method_6_code) := gg_pb_ok (by decide +kernel)
theorem gg_o345_0 : gg_po (gg_d345_0, method_6_code) := gg_po_cut 32 gg_o345_0_0 (gg_po_cut 32 gg_o345_0_1 (gg_po_cut 32 gg_o345_0_2 (gg_o345_0_3)))
set_option maxRecDepth 100000 in
theorem gg_o345_1_0 : gg_po ((gg_d345_1).take 32, method_6_code) := gg_pb_ok (by decide +kernel)
set_option maxRecDepth 100000 in
theorem gg_o345_1_1 : gg_po (((gg_d345_1).drop 32).take 32, method_6_code) := gg_pb_ok (by decide +kernel)
set_option maxRecDepth 100000 in
theorem gg_o345_1_2 : gg_po ((((gg_d345_1).drop 32).drop 32).take 32, method_6_code) := gg_pb_ok (by decide +kernel)
set_option maxRecDepth 100000 in
theorem gg_o345_1_3 : gg_po ((((gg_d345_1).drop 32).drop 32).drop 32, method_6_code) := gg_pb_ok (by decide +kernel)
theorem gg_o345_1 : gg_po (gg_d345_1, method_6_code) := gg_po_cut 32 gg_o345_1_0 (gg_po_cut 32 gg_o345_1_1 (gg_po_cut 32 gg_o345_1_2 (gg_o345_1_3)))
set_option maxRecDepth 100000 in
theorem gg_o345_2_0 : gg_po ((gg_d345_2).take 32, method_6_code) := gg_pb_ok (by decide +kernel)
set_option maxRecDepth 100000 in
theorem gg_o345_2_1 : gg_po (((gg_d345_2).drop 32).take 32, method_6_code) := gg_pb_ok (by decide +kernel)
set_option maxRecDepth 100000 in
theorem gg_o345_2_2 : gg_po ((((gg_d345_2).drop 32).drop 32).take 32, method_6_code) := gg_pb_ok (by decide +kernel)
set_option maxRecDepth 100000 in
theorem gg_o345_2_3 : gg_po ((((gg_d345_2).drop 32).drop 32).drop 32, method_6_code) := gg_pb_ok (by decide +kernel)
theorem gg_o345_2 : gg_po (gg_d345_2, method_6_code) := gg_po_cut 32 gg_o345_2_0 (gg_po_cut 32 gg_o345_2_1 (gg_po_cut 32 gg_o345_2_2 (gg_o345_2_3)))
set_option maxRecDepth 100000 in
theorem gg_o345_3_0 : gg_po ((gg_d345_3).take 32, method_6_code) := gg_pb_ok (by decide +kernel)
set_option maxRecDepth 100000 in
theorem gg_o345_3_1 : gg_po (((gg_d345_3).drop 32).take 32, method_6_code) := gg_pb_ok (by decide +kernel)
set_option maxRecDepth 100000 in
theorem gg_o345_3_2 : gg_po ((((gg_d345_3).drop 32).drop 32).take 32, method_6_code) := gg_pb_ok (by decide +kernel)
set_option maxRecDepth 100000 in
theorem gg_o345_3_3 : gg_po ((((gg_d345_3).drop 32).drop 32).drop 32, method_6_code) := gg_pb_ok (by decide +kernel)
theorem gg_o345_3 : gg_po (gg_d345_3, method_6_code) := gg_po_cut 32 gg_o345_3_0 (gg_po_cut 32 gg_o345_3_1 (gg_po_cut 32 gg_o345_3_2 (gg_o345_3_3)))
set_option maxRecDepth 100000 in
theorem gg_o345_4 : gg_po (gg_d345_4, method_6_code) := gg_pb_ok (by decide +kernel)
theorem gg_o345 : gg_po (gg_d345, method_6_code) := gg_po_app gg_o345_0 (gg_po_app gg_o345_1 (gg_po_app gg_o345_2 (gg_po_app gg_o345_3 gg_o345_4)))
