/-! the decoded instructions are the bytes' -/
set_option maxRecDepth 100000 in
theorem gg_o287_4_0 : gg_po ((gg_d287_4).take 16, code) := gg_pb_ok (by decide +kernel)
set_option maxRecDepth 100000 in
theorem gg_o287_4_1 : gg_po (((gg_d287_4).drop 16).take 16, code) := gg_pb_ok (by decide +kernel)
set_option maxRecDepth 100000 in
theorem gg_o287_4_2 : gg_po ((((gg_d287_4).drop 16).drop 16).take 16, code) := gg_pb_ok (by decide +kernel)
set_option maxRecDepth 100000 in
theorem gg_o287_4_3 : gg_po (((((gg_d287_4).drop 16).drop 16).drop 16).take 16, code) := gg_pb_ok (by decide +kernel)
set_option maxRecDepth 100000 in
theorem gg_o287_4_4 : gg_po ((((((gg_d287_4).drop 16).drop 16).drop 16).drop 16).take 16, code) := gg_pb_ok (by decide +kernel)
set_option maxRecDepth 100000 in
theorem gg_o287_4_5 : gg_po (((((((gg_d287_4).drop 16).drop 16).drop 16).drop 16).drop 16).take 16, code) := gg_pb_ok (by decide +kernel)
set_option maxRecDepth 100000 in
theorem gg_o287_4_6 : gg_po ((((((((gg_d287_4).drop 16).drop 16).drop 16).drop 16).drop 16).drop 16).take 16, code) := gg_pb_ok (by decide +kernel)
set_option maxRecDepth 100000 in
theorem gg_o287_4_7 : gg_po ((((((((gg_d287_4).drop 16).drop 16).drop 16).drop 16).drop 16).drop 16).drop 16, code) := gg_pb_ok (by decide +kernel)
theorem gg_o287_4 : gg_po (gg_d287_4, code) := gg_po_cut 16 gg_o287_4_0 (gg_po_cut 16 gg_o287_4_1 (gg_po_cut 16 gg_o287_4_2 (gg_po_cut 16 gg_o287_4_3 (gg_po_cut 16 gg_o287_4_4 (gg_po_cut 16 gg_o287_4_5 (gg_po_cut 16 gg_o287_4_6 (gg_o287_4_7)))))))
set_option maxRecDepth 100000 in
theorem gg_o287_5_0 : gg_po ((gg_d287_5).take 16, code) := gg_pb_ok (by decide +kernel)
set_option maxRecDepth 100000 in
theorem gg_o287_5_1 : gg_po (((gg_d287_5).drop 16).take 16, code) := gg_pb_ok (by decide +kernel)
set_option maxRecDepth 100000 in
theorem gg_o287_5_2 : gg_po ((((gg_d287_5).drop 16).drop 16).take 16, code) := gg_pb_ok (by decide +kernel)
set_option maxRecDepth 100000 in
theorem gg_o287_5_3 : gg_po (((((gg_d287_5).drop 16).drop 16).drop 16).take 16, code) := gg_pb_ok (by decide +kernel)
set_option maxRecDepth 100000 in
theorem gg_o287_5_4 : gg_po ((((((gg_d287_5).drop 16).drop 16).drop 16).drop 16).take 16, code) := gg_pb_ok (by decide +kernel)
set_option maxRecDepth 100000 in
theorem gg_o287_5_5 : gg_po (((((((gg_d287_5).drop 16).drop 16).drop 16).drop 16).drop 16).take 16, code) := gg_pb_ok (by decide +kernel)
set_option maxRecDepth 100000 in
theorem gg_o287_5_6 : gg_po ((((((((gg_d287_5).drop 16).drop 16).drop 16).drop 16).drop 16).drop 16).take 16, code) := gg_pb_ok (by decide +kernel)
set_option maxRecDepth 100000 in
theorem gg_o287_5_7 : gg_po ((((((((gg_d287_5).drop 16).drop 16).drop 16).drop 16).drop 16).drop 16).drop 16, code) := gg_pb_ok (by decide +kernel)
theorem gg_o287_5 : gg_po (gg_d287_5, code) := gg_po_cut 16 gg_o287_5_0 (gg_po_cut 16 gg_o287_5_1 (gg_po_cut 16 gg_o287_5_2 (gg_po_cut 16 gg_o287_5_3 (gg_po_cut 16 gg_o287_5_4 (gg_po_cut 16 gg_o287_5_5 (gg_po_cut 16 gg_o287_5_6 (gg_o287_5_7)))))))
set_option maxRecDepth 100000 in
theorem gg_o287_6_0 : gg_po ((gg_d287_6).take 16, code) := gg_pb_ok (by decide +kernel)
set_option maxRecDepth 100000 in
theorem gg_o287_6_1 : gg_po (((gg_d287_6).drop 16).take 16, code) := gg_pb_ok (by decide +kernel)
set_option maxRecDepth 100000 in
theorem gg_o287_6_2 : gg_po ((((gg_d287_6).drop 16).drop 16).take 16, code) := gg_pb_ok (by decide +kernel)
set_option maxRecDepth 100000 in
theorem gg_o287_6_3 : gg_po (((((gg_d287_6).drop 16).drop 16).drop 16).take 16, code) := gg_pb_ok (by decide +kernel)
set_option maxRecDepth 100000 in
theorem gg_o287_6_4 : gg_po ((((((gg_d287_6).drop 16).drop 16).drop 16).drop 16).take 16, code) := gg_pb_ok (by decide +kernel)
set_option maxRecDepth 100000 in
theorem gg_o287_6_5 : gg_po (((((((gg_d287_6).drop 16).drop 16).drop 16).drop 16).drop 16).take 16, code) := gg_pb_ok (by decide +kernel)
set_option maxRecDepth 100000 in
theorem gg_o287_6_6 : gg_po ((((((((gg_d287_6).drop 16).drop 16).drop 16).drop 16).drop 16).drop 16).take 16, code) := gg_pb_ok (by decide +kernel)
set_option maxRecDepth 100000 in
theorem gg_o287_6_7 : gg_po ((((((((gg_d287_6).drop 16).drop 16).drop 16).drop 16).drop 16).drop 16).drop 16, code) := gg_pb_ok (by decide +kernel)
theorem gg_o287_6 : gg_po (gg_d287_6, code) := gg_po_cut 16 gg_o287_6_0 (gg_po_cut 16 gg_o287_6_1 (gg_po_cut 16 gg_o287_6_2 (gg_po_cut 16 gg_o287_6_3 (gg_po_cut 16 gg_o287_6_4 (gg_po_cut 16 gg_o287_6_5 (gg_po_cut 16 gg_o287_6_6 (gg_o287_6_7)))))))
set_option maxRecDepth 100000 in
theorem gg_o287_7_0 : gg_po ((gg_d287_7).take 16, code) := gg_pb_ok (by decide +kernel)
set_option maxRecDepth 100000 in
theorem gg_o287_7_1 : gg_po (((gg_d287_7).drop 16).take 16, code) := gg_pb_ok (by decide +kernel)
set_option maxRecDepth 100000 in
theorem gg_o287_7_2 : gg_po ((((gg_d287_7).drop 16).drop 16).take 16, code) := gg_pb_ok (by decide +kernel)
set_option maxRecDepth 100000 in
theorem gg_o287_7_3 : gg_po (((((gg_d287_7).drop 16).drop 16).drop 16).take 16, code) := gg_pb_ok (by decide +kernel)
set_option maxRecDepth 100000 in
theorem gg_o287_7_4 : gg_po ((((((gg_d287_7).drop 16).drop 16).drop 16).drop 16).take 16, code) := gg_pb_ok (by decide +kernel)
set_option maxRecDepth 100000 in
theorem gg_o287_7_5 : gg_po (((((((gg_d287_7).drop 16).drop 16).drop 16).drop 16).drop 16).take 16, code) := gg_pb_ok (by decide +kernel)
set_option maxRecDepth 100000 in
theorem gg_o287_7_6 : gg_po ((((((((gg_d287_7).drop 16).drop 16).drop 16).drop 16).drop 16).drop 16).take 16, code) := gg_pb_ok (by decide +kernel)
set_option maxRecDepth 100000 in
theorem gg_o287_7_7 : gg_po ((((((((gg_d287_7).drop 16).drop 16).drop 16).drop 16).drop 16).drop 16).drop 16, code) := gg_pb_ok (by decide +kernel)
theorem gg_o287_7 : gg_po (gg_d287_7, code) := gg_po_cut 16 gg_o287_7_0 (gg_po_cut 16 gg_o287_7_1 (gg_po_cut 16 gg_o287_7_2 (gg_po_cut 16 gg_o287_7_3 (gg_po_cut 16 gg_o287_7_4 (gg_po_cut 16 gg_o287_7_5 (gg_po_cut 16 gg_o287_7_6 (gg_o287_7_7)))))))
