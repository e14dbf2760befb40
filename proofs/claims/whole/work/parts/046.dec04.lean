/-! the decoded instructions are the bytes' -/
set_option maxRecDepth 100000 in
theorem gg_o287_0_0 : gg_po ((gg_d287_0).take 16, code) := gg_pb_ok (by decide +kernel)
set_option maxRecDepth 100000 in
theorem gg_o287_0_1 : gg_po (((gg_d287_0).drop 16).take 16, code) := gg_pb_ok (by decide +kernel)
set_option maxRecDepth 100000 in
theorem gg_o287_0_2 : gg_po ((((gg_d287_0).drop 16).drop 16).take 16, code) := gg_pb_ok (by decide +kernel)
set_option maxRecDepth 100000 in
theorem gg_o287_0_3 : gg_po (((((gg_d287_0).drop 16).drop 16).drop 16).take 16, code) := gg_pb_ok (by decide +kernel)
set_option maxRecDepth 100000 in
theorem gg_o287_0_4 : gg_po ((((((gg_d287_0).drop 16).drop 16).drop 16).drop 16).take 16, code) := gg_pb_ok (by decide +kernel)
set_option maxRecDepth 100000 in
theorem gg_o287_0_5 : gg_po (((((((gg_d287_0).drop 16).drop 16).drop 16).drop 16).drop 16).take 16, code) := gg_pb_ok (by decide +kernel)
set_option maxRecDepth 100000 in
theorem gg_o287_0_6 : gg_po ((((((((gg_d287_0).drop 16).drop 16).drop 16).drop 16).drop 16).drop 16).take 16, code) := gg_pb_ok (by decide +kernel)
set_option maxRecDepth 100000 in
theorem gg_o287_0_7 : gg_po ((((((((gg_d287_0).drop 16).drop 16).drop 16).drop 16).drop 16).drop 16).drop 16, code) := gg_pb_ok (by decide +kernel)
theorem gg_o287_0 : gg_po (gg_d287_0, code) := gg_po_cut 16 gg_o287_0_0 (gg_po_cut 16 gg_o287_0_1 (gg_po_cut 16 gg_o287_0_2 (gg_po_cut 16 gg_o287_0_3 (gg_po_cut 16 gg_o287_0_4 (gg_po_cut 16 gg_o287_0_5 (gg_po_cut 16 gg_o287_0_6 (gg_o287_0_7)))))))
set_option maxRecDepth 100000 in
theorem gg_o287_1_0 : gg_po ((gg_d287_1).take 16, code) := gg_pb_ok (by decide +kernel)
set_option maxRecDepth 100000 in
theorem gg_o287_1_1 : gg_po (((gg_d287_1).drop 16).take 16, code) := gg_pb_ok (by decide +kernel)
set_option maxRecDepth 100000 in
theorem gg_o287_1_2 : gg_po ((((gg_d287_1).drop 16).drop 16).take 16, code) := gg_pb_ok (by decide +kernel)
set_option maxRecDepth 100000 in
theorem gg_o287_1_3 : gg_po (((((gg_d287_1).drop 16).drop 16).drop 16).take 16, code) := gg_pb_ok (by decide +kernel)
set_option maxRecDepth 100000 in
theorem gg_o287_1_4 : gg_po ((((((gg_d287_1).drop 16).drop 16).drop 16).drop 16).take 16, code) := gg_pb_ok (by decide +kernel)
set_option maxRecDepth 100000 in
theorem gg_o287_1_5 : gg_po (((((((gg_d287_1).drop 16).drop 16).drop 16).drop 16).drop 16).take 16, code) := gg_pb_ok (by decide +kernel)
set_option maxRecDepth 100000 in
theorem gg_o287_1_6 : gg_po ((((((((gg_d287_1).drop 16).drop 16).drop 16).drop 16).drop 16).drop 16).take 16, code) := gg_pb_ok (by decide +kernel)
set_option maxRecDepth 100000 in
theorem gg_o287_1_7 : gg_po ((((((((gg_d287_1).drop 16).drop 16).drop 16).drop 16).drop 16).drop 16).drop 16, code) := gg_pb_ok (by decide +kernel)
theorem gg_o287_1 : gg_po (gg_d287_1, code) := gg_po_cut 16 gg_o287_1_0 (gg_po_cut 16 gg_o287_1_1 (gg_po_cut 16 gg_o287_1_2 (gg_po_cut 16 gg_o287_1_3 (gg_po_cut 16 gg_o287_1_4 (gg_po_cut 16 gg_o287_1_5 (gg_po_cut 16 gg_o287_1_6 (gg_o287_1_7)))))))
set_option maxRecDepth 100000 in
theorem gg_o287_2_0 : gg_po ((gg_d287_2).take 16, code) := gg_pb_ok (by decide +kernel)
set_option maxRecDepth 100000 in
theorem gg_o287_2_1 : gg_po (((gg_d287_2).drop 16).take 16, code) := gg_pb_ok (by decide +kernel)
set_option maxRecDepth 100000 in
theorem gg_o287_2_2 : gg_po ((((gg_d287_2).drop 16).drop 16).take 16, code) := gg_pb_ok (by decide +kernel)
set_option maxRecDepth 100000 in
theorem gg_o287_2_3 : gg_po (((((gg_d287_2).drop 16).drop 16).drop 16).take 16, code) := gg_pb_ok (by decide +kernel)
set_option maxRecDepth 100000 in
theorem gg_o287_2_4 : gg_po ((((((gg_d287_2).drop 16).drop 16).drop 16).drop 16).take 16, code) := gg_pb_ok (by decide +kernel)
set_option maxRecDepth 100000 in
theorem gg_o287_2_5 : gg_po (((((((gg_d287_2).drop 16).drop 16).drop 16).drop 16).drop 16).take 16, code) := gg_pb_ok (by decide +kernel)
set_option maxRecDepth 100000 in
theorem gg_o287_2_6 : gg_po ((((((((gg_d287_2).drop 16).drop 16).drop 16).drop 16).drop 16).drop 16).take 16, code) := gg_pb_ok (by decide +kernel)
set_option maxRecDepth 100000 in
theorem gg_o287_2_7 : gg_po ((((((((gg_d287_2).drop 16).drop 16).drop 16).drop 16).drop 16).drop 16).drop 16, code) := gg_pb_ok (by decide +kernel)
theorem gg_o287_2 : gg_po (gg_d287_2, code) := gg_po_cut 16 gg_o287_2_0 (gg_po_cut 16 gg_o287_2_1 (gg_po_cut 16 gg_o287_2_2 (gg_po_cut 16 gg_o287_2_3 (gg_po_cut 16 gg_o287_2_4 (gg_po_cut 16 gg_o287_2_5 (gg_po_cut 16 gg_o287_2_6 (gg_o287_2_7)))))))
set_option maxRecDepth 100000 in
theorem gg_o287_3_0 : gg_po ((gg_d287_3).take 16, code) := gg_pb_ok (by decide +kernel)
set_option maxRecDepth 100000 in
theorem gg_o287_3_1 : gg_po (((gg_d287_3).drop 16).take 16, code) := gg_pb_ok (by decide +kernel)
set_option maxRecDepth 100000 in
theorem gg_o287_3_2 : gg_po ((((gg_d287_3).drop 16).drop 16).take 16, code) := gg_pb_ok (by decide +kernel)
set_option maxRecDepth 100000 in
theorem gg_o287_3_3 : gg_po (((((gg_d287_3).drop 16).drop 16).drop 16).take 16, code) := gg_pb_ok (by decide +kernel)
set_option maxRecDepth 100000 in
theorem gg_o287_3_4 : gg_po ((((((gg_d287_3).drop 16).drop 16).drop 16).drop 16).take 16, code) := gg_pb_ok (by decide +kernel)
set_option maxRecDepth 100000 in
theorem gg_o287_3_5 : gg_po (((((((gg_d287_3).drop 16).drop 16).drop 16).drop 16).drop 16).take 16, code) := gg_pb_ok (by decide +kernel)
set_option maxRecDepth 100000 in
theorem gg_o287_3_6 : gg_po ((((((((gg_d287_3).drop 16).drop 16).drop 16).drop 16).drop 16).drop 16).take 16, code) := gg_pb_ok (by decide +kernel)
set_option maxRecDepth 100000 in
theorem gg_o287_3_7 : gg_po ((((((((gg_d287_3).drop 16).drop 16).drop 16).drop 16).drop 16).drop 16).drop 16, code) := gg_pb_ok (by decide +kernel)
theorem gg_o287_3 : gg_po (gg_d287_3, code) := gg_po_cut 16 gg_o287_3_0 (gg_po_cut 16 gg_o287_3_1 (gg_po_cut 16 gg_o287_3_2 (gg_po_cut 16 gg_o287_3_3 (gg_po_cut 16 gg_o287_3_4 (gg_po_cut 16 gg_o287_3_5 (gg_po_cut 16 gg_o287_3_6 (gg_o287_3_7)))))))
