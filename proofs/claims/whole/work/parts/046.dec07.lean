/-! the decoded instructions are the bytes' -/
set_option maxRecDepth 100000 in
theorem gg_o287_12_0 : gg_po ((gg_d287_12).take 16, code) := gg_pb_ok (by decide +kernel)
set_option maxRecDepth 100000 in
theorem gg_o287_12_1 : gg_po (((gg_d287_12).drop 16).take 16, code) := gg_pb_ok (by decide +kernel)
set_option maxRecDepth 100000 in
theorem gg_o287_12_2 : gg_po ((((gg_d287_12).drop 16).drop 16).take 16, code) := gg_pb_ok (by decide +kernel)
set_option maxRecDepth 100000 in
theorem gg_o287_12_3 : gg_po (((((gg_d287_12).drop 16).drop 16).drop 16).take 16, code) := gg_pb_ok (by decide +kernel)
set_option maxRecDepth 100000 in
theorem gg_o287_12_4 : gg_po ((((((gg_d287_12).drop 16).drop 16).drop 16).drop 16).take 16, code) := gg_pb_ok (by decide +kernel)
set_option maxRecDepth 100000 in
theorem gg_o287_12_5 : gg_po (((((((gg_d287_12).drop 16).drop 16).drop 16).drop 16).drop 16).take 16, code) := gg_pb_ok (by decide +kernel)
set_option maxRecDepth 100000 in
theorem gg_o287_12_6 : gg_po ((((((((gg_d287_12).drop 16).drop 16).drop 16).drop 16).drop 16).drop 16).take 16, code) := gg_pb_ok (by decide +kernel)
set_option maxRecDepth 100000 in
theorem gg_o287_12_7 : gg_po ((((((((gg_d287_12).drop 16).drop 16).drop 16).drop 16).drop 16).drop 16).drop 16, code) := gg_pb_ok (by decide +kernel)
theorem gg_o287_12 : gg_po (gg_d287_12, code) := gg_po_cut 16 gg_o287_12_0 (gg_po_cut 16 gg_o287_12_1 (gg_po_cut 16 gg_o287_12_2 (gg_po_cut 16 gg_o287_12_3 (gg_po_cut 16 gg_o287_12_4 (gg_po_cut 16 gg_o287_12_5 (gg_po_cut 16 gg_o287_12_6 (gg_o287_12_7)))))))
set_option maxRecDepth 100000 in
theorem gg_o287_13_0 : gg_po ((gg_d287_13).take 16, code) := gg_pb_ok (by decide +kernel)
set_option maxRecDepth 100000 in
theorem gg_o287_13_1 : gg_po (((gg_d287_13).drop 16).take 16, code) := gg_pb_ok (by decide +kernel)
set_option maxRecDepth 100000 in
theorem gg_o287_13_2 : gg_po ((((gg_d287_13).drop 16).drop 16).take 16, code) := gg_pb_ok (by decide +kernel)
set_option maxRecDepth 100000 in
theorem gg_o287_13_3 : gg_po (((((gg_d287_13).drop 16).drop 16).drop 16).take 16, code) := gg_pb_ok (by decide +kernel)
set_option maxRecDepth 100000 in
theorem gg_o287_13_4 : gg_po ((((((gg_d287_13).drop 16).drop 16).drop 16).drop 16).take 16, code) := gg_pb_ok (by decide +kernel)
set_option maxRecDepth 100000 in
theorem gg_o287_13_5 : gg_po (((((((gg_d287_13).drop 16).drop 16).drop 16).drop 16).drop 16).take 16, code) := gg_pb_ok (by decide +kernel)
set_option maxRecDepth 100000 in
theorem gg_o287_13_6 : gg_po ((((((((gg_d287_13).drop 16).drop 16).drop 16).drop 16).drop 16).drop 16).take 16, code) := gg_pb_ok (by decide +kernel)
set_option maxRecDepth 100000 in
theorem gg_o287_13_7 : gg_po ((((((((gg_d287_13).drop 16).drop 16).drop 16).drop 16).drop 16).drop 16).drop 16, code) := gg_pb_ok (by decide +kernel)
theorem gg_o287_13 : gg_po (gg_d287_13, code) := gg_po_cut 16 gg_o287_13_0 (gg_po_cut 16 gg_o287_13_1 (gg_po_cut 16 gg_o287_13_2 (gg_po_cut 16 gg_o287_13_3 (gg_po_cut 16 gg_o287_13_4 (gg_po_cut 16 gg_o287_13_5 (gg_po_cut 16 gg_o287_13_6 (gg_o287_13_7)))))))
set_option maxRecDepth 100000 in
theorem gg_o287_14_0 : gg_po ((gg_d287_14).take 16, code) := gg_pb_ok (by decide +kernel)
set_option maxRecDepth 100000 in
theorem gg_o287_14_1 : gg_po (((gg_d287_14).drop 16).take 16, code) := gg_pb_ok (by decide +kernel)
set_option maxRecDepth 100000 in
theorem gg_o287_14_2 : gg_po ((((gg_d287_14).drop 16).drop 16).take 16, code) := gg_pb_ok (by decide +kernel)
set_option maxRecDepth 100000 in
theorem gg_o287_14_3 : gg_po (((((gg_d287_14).drop 16).drop 16).drop 16).take 16, code) := gg_pb_ok (by decide +kernel)
set_option maxRecDepth 100000 in
theorem gg_o287_14_4 : gg_po ((((((gg_d287_14).drop 16).drop 16).drop 16).drop 16).take 16, code) := gg_pb_ok (by decide +kernel)
set_option maxRecDepth 100000 in
theorem gg_o287_14_5 : gg_po (((((((gg_d287_14).drop 16).drop 16).drop 16).drop 16).drop 16).take 16, code) := gg_pb_ok (by decide +kernel)
set_option maxRecDepth 100000 in
theorem gg_o287_14_6 : gg_po ((((((((gg_d287_14).drop 16).drop 16).drop 16).drop 16).drop 16).drop 16).take 16, code) := gg_pb_ok (by decide +kernel)
set_option maxRecDepth 100000 in
theorem gg_o287_14_7 : gg_po ((((((((gg_d287_14).drop 16).drop 16).drop 16).drop 16).drop 16).drop 16).drop 16, code) := gg_pb_ok (by decide +kernel)
theorem gg_o287_14 : gg_po (gg_d287_14, code) := gg_po_cut 16 gg_o287_14_0 (gg_po_cut 16 gg_o287_14_1 (gg_po_cut 16 gg_o287_14_2 (gg_po_cut 16 gg_o287_14_3 (gg_po_cut 16 gg_o287_14_4 (gg_po_cut 16 gg_o287_14_5 (gg_po_cut 16 gg_o287_14_6 (gg_o287_14_7)))))))
set_option maxRecDepth 100000 in
theorem gg_o287_15_0 : gg_po ((gg_d287_15).take 16, code) := gg_pb_ok (by decide +kernel)
set_option maxRecDepth 100000 in
theorem gg_o287_15_1 : gg_po (((gg_d287_15).drop 16).take 16, code) := gg_pb_ok (by decide +kernel)
set_option maxRecDepth 100000 in
theorem gg_o287_15_2 : gg_po ((((gg_d287_15).drop 16).drop 16).take 16, code) := gg_pb_ok (by decide +kernel)
set_option maxRecDepth 100000 in
theorem gg_o287_15_3 : gg_po (((((gg_d287_15).drop 16).drop 16).drop 16).take 16, code) := gg_pb_ok (by decide +kernel)
set_option maxRecDepth 100000 in
theorem gg_o287_15_4 : gg_po ((((((gg_d287_15).drop 16).drop 16).drop 16).drop 16).take 16, code) := gg_pb_ok (by decide +kernel)
set_option maxRecDepth 100000 in
theorem gg_o287_15_5 : gg_po (((((((gg_d287_15).drop 16).drop 16).drop 16).drop 16).drop 16).take 16, code) := gg_pb_ok (by decide +kernel)
set_option maxRecDepth 100000 in
theorem gg_o287_15_6 : gg_po ((((((((gg_d287_15).drop 16).drop 16).drop 16).drop 16).drop 16).drop 16).take 16, code) := gg_pb_ok (by decide +kernel)
set_option maxRecDepth 100000 in
theorem gg_o287_15_7 : gg_po ((((((((gg_d287_15).drop 16).drop 16).drop 16).drop 16).drop 16).drop 16).drop 16, code) := gg_pb_ok (by decide +kernel)
theorem gg_o287_15 : gg_po (gg_d287_15, code) := gg_po_cut 16 gg_o287_15_0 (gg_po_cut 16 gg_o287_15_1 (gg_po_cut 16 gg_o287_15_2 (gg_po_cut 16 gg_o287_15_3 (gg_po_cut 16 gg_o287_15_4 (gg_po_cut 16 gg_o287_15_5 (gg_po_cut 16 gg_o287_15_6 (gg_o287_15_7)))))))
