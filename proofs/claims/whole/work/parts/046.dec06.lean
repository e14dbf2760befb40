/-! the decoded instructions are the bytes' -/
set_option maxRecDepth 100000 in
theorem gg_o287_8_0 : gg_po ((gg_d287_8).take 16, code) := gg_pb_ok (by decide +kernel)
set_option maxRecDepth 100000 in
theorem gg_o287_8_1 : gg_po (((gg_d287_8).drop 16).take 16, code) := gg_pb_ok (by decide +kernel)
set_option maxRecDepth 100000 in
theorem gg_o287_8_2 : gg_po ((((gg_d287_8).drop 16).drop 16).take 16, code) := gg_pb_ok (by decide +kernel)
set_option maxRecDepth 100000 in
theorem gg_o287_8_3 : gg_po (((((gg_d287_8).drop 16).drop 16).drop 16).take 16, code) := gg_pb_ok (by decide +kernel)
set_option maxRecDepth 100000 in
theorem gg_o287_8_4 : gg_po ((((((gg_d287_8).drop 16).drop 16).drop 16).drop 16).take 16, code) := gg_pb_ok (by decide +kernel)
set_option maxRecDepth 100000 in
theorem gg_o287_8_5 : gg_po (((((((gg_d287_8).drop 16).drop 16).drop 16).drop 16).drop 16).take 16, code) := gg_pb_ok (by decide +kernel)
set_option maxRecDepth 100000 in
theorem gg_o287_8_6 : gg_po ((((((((gg_d287_8).drop 16).drop 16).drop 16).drop 16).drop 16).drop 16).take 16, code) := gg_pb_ok (by decide +kernel)
set_option maxRecDepth 100000 in
theorem gg_o287_8_7 : gg_po ((((((((gg_d287_8).drop 16).drop 16).drop 16).drop 16).drop 16).drop 16).drop 16, code) := gg_pb_ok (by decide +kernel)
theorem gg_o287_8 : gg_po (gg_d287_8, code) := gg_po_cut 16 gg_o287_8_0 (gg_po_cut 16 gg_o287_8_1 (gg_po_cut 16 gg_o287_8_2 (gg_po_cut 16 gg_o287_8_3 (gg_po_cut 16 gg_o287_8_4 (gg_po_cut 16 gg_o287_8_5 (gg_po_cut 16 gg_o287_8_6 (gg_o287_8_7)))))))
set_option maxRecDepth 100000 in
theorem gg_o287_9_0 : gg_po ((gg_d287_9).take 16, code) := gg_pb_ok (by decide +kernel)
set_option maxRecDepth 100000 in
theorem gg_o287_9_1 : gg_po (((gg_d287_9).drop 16).take 16, code) := gg_pb_ok (by decide +kernel)
set_option maxRecDepth 100000 in
theorem gg_o287_9_2 : gg_po ((((gg_d287_9).drop 16).drop 16).take 16, code) := gg_pb_ok (by decide +kernel)
set_option maxRecDepth 100000 in
theorem gg_o287_9_3 : gg_po (((((gg_d287_9).drop 16).drop 16).drop 16).take 16, code) := gg_pb_ok (by decide +kernel)
set_option maxRecDepth 100000 in
theorem gg_o287_9_4 : gg_po ((((((gg_d287_9).drop 16).drop 16).drop 16).drop 16).take 16, code) := gg_pb_ok (by decide +kernel)
set_option maxRecDepth 100000 in
theorem gg_o287_9_5 : gg_po (((((((gg_d287_9).drop 16).drop 16).drop 16).drop 16).drop 16).take 16, code) := gg_pb_ok (by decide +kernel)
set_option maxRecDepth 100000 in
theorem gg_o287_9_6 : gg_po ((((((((gg_d287_9).drop 16).drop 16).drop 16).drop 16).drop 16).drop 16).take 16, code) := gg_pb_ok (by decide +kernel)
set_option maxRecDepth 100000 in
theorem gg_o287_9_7 : gg_po ((((((((gg_d287_9).drop 16).drop 16).drop 16).drop 16).drop 16).drop 16).drop 16, code) := gg_pb_ok (by decide +kernel)
theorem gg_o287_9 : gg_po (gg_d287_9, code) := gg_po_cut 16 gg_o287_9_0 (gg_po_cut 16 gg_o287_9_1 (gg_po_cut 16 gg_o287_9_2 (gg_po_cut 16 gg_o287_9_3 (gg_po_cut 16 gg_o287_9_4 (gg_po_cut 16 gg_o287_9_5 (gg_po_cut 16 gg_o287_9_6 (gg_o287_9_7)))))))
set_option maxRecDepth 100000 in
theorem gg_o287_10_0 : gg_po ((gg_d287_10).take 16, code) := gg_pb_ok (by decide +kernel)
set_option maxRecDepth 100000 in
theorem gg_o287_10_1 : gg_po (((gg_d287_10).drop 16).take 16, code) := gg_pb_ok (by decide +kernel)
set_option maxRecDepth 100000 in
theorem gg_o287_10_2 : gg_po ((((gg_d287_10).drop 16).drop 16).take 16, code) := gg_pb_ok (by decide +kernel)
set_option maxRecDepth 100000 in
theorem gg_o287_10_3 : gg_po (((((gg_d287_10).drop 16).drop 16).drop 16).take 16, code) := gg_pb_ok (by decide +kernel)
set_option maxRecDepth 100000 in
theorem gg_o287_10_4 : gg_po ((((((gg_d287_10).drop 16).drop 16).drop 16).drop 16).take 16, code) := gg_pb_ok (by decide +kernel)
set_option maxRecDepth 100000 in
theorem gg_o287_10_5 : gg_po (((((((gg_d287_10).drop 16).drop 16).drop 16).drop 16).drop 16).take 16, code) := gg_pb_ok (by decide +kernel)
set_option maxRecDepth 100000 in
theorem gg_o287_10_6 : gg_po ((((((((gg_d287_10).drop 16).drop 16).drop 16).drop 16).drop 16).drop 16).take 16, code) := gg_pb_ok (by decide +kernel)
set_option maxRecDepth 100000 in
theorem gg_o287_10_7 : gg_po ((((((((gg_d287_10).drop 16).drop 16).drop 16).drop 16).drop 16).drop 16).drop 16, code) := gg_pb_ok (by decide +kernel)
theorem gg_o287_10 : gg_po (gg_d287_10, code) := gg_po_cut 16 gg_o287_10_0 (gg_po_cut 16 gg_o287_10_1 (gg_po_cut 16 gg_o287_10_2 (gg_po_cut 16 gg_o287_10_3 (gg_po_cut 16 gg_o287_10_4 (gg_po_cut 16 gg_o287_10_5 (gg_po_cut 16 gg_o287_10_6 (gg_o287_10_7)))))))
set_option maxRecDepth 100000 in
theorem gg_o287_11_0 : gg_po ((gg_d287_11).take 16, code) := gg_pb_ok (by decide +kernel)
set_option maxRecDepth 100000 in
theorem gg_o287_11_1 : gg_po (((gg_d287_11).drop 16).take 16, code) := gg_pb_ok (by decide +kernel)
set_option maxRecDepth 100000 in
theorem gg_o287_11_2 : gg_po ((((gg_d287_11).drop 16).drop 16).take 16, code) := gg_pb_ok (by decide +kernel)
set_option maxRecDepth 100000 in
theorem gg_o287_11_3 : gg_po (((((gg_d287_11).drop 16).drop 16).drop 16).take 16, code) := gg_pb_ok (by decide +kernel)
set_option maxRecDepth 100000 in
theorem gg_o287_11_4 : gg_po ((((((gg_d287_11).drop 16).drop 16).drop 16).drop 16).take 16, code) := gg_pb_ok (by decide +kernel)
set_option maxRecDepth 100000 in
theorem gg_o287_11_5 : gg_po (((((((gg_d287_11).drop 16).drop 16).drop 16).drop 16).drop 16).take 16, code) := gg_pb_ok (by decide +kernel)
set_option maxRecDepth 100000 in
theorem gg_o287_11_6 : gg_po ((((((((gg_d287_11).drop 16).drop 16).drop 16).drop 16).drop 16).drop 16).take 16, code) := gg_pb_ok (by decide +kernel)
set_option maxRecDepth 100000 in
theorem gg_o287_11_7 : gg_po ((((((((gg_d287_11).drop 16).drop 16).drop 16).drop 16).drop 16).drop 16).drop 16, code) := gg_pb_ok (by decide +kernel)
theorem gg_o287_11 : gg_po (gg_d287_11, code) := gg_po_cut 16 gg_o287_11_0 (gg_po_cut 16 gg_o287_11_1 (gg_po_cut 16 gg_o287_11_2 (gg_po_cut 16 gg_o287_11_3 (gg_po_cut 16 gg_o287_11_4 (gg_po_cut 16 gg_o287_11_5 (gg_po_cut 16 gg_o287_11_6 (gg_o287_11_7)))))))
