/-! the decoded instructions are the bytes' -/
set_option maxRecDepth 100000 in
theorem gg_o264 : gg_po (gg_d264, prog_9_method_104_code) := gg_pb_ok (by decide +kernel)
set_option maxRecDepth 100000 in
theorem gg_o265 : gg_po (gg_d265, prog_9_method_105_code) := gg_pb_ok (by decide +kernel)
set_option maxRecDepth 100000 in
theorem gg_o266_0 : gg_po ((gg_d266).take 40, prog_9_method_106_code) := gg_pb_ok (by decide +kernel)
set_option maxRecDepth 100000 in
theorem gg_o266_1 : gg_po ((gg_d266).drop 40, prog_9_method_106_code) := gg_pb_ok (by decide +kernel)
theorem gg_o266 : gg_po (gg_d266, prog_9_method_106_code) := gg_po_cut 40 gg_o266_0 (gg_o266_1)
set_option maxRecDepth 100000 in
theorem gg_o267_0 : gg_po ((gg_d267).take 40, prog_9_method_107_code) := gg_pb_ok (by decide +kernel)
set_option maxRecDepth 100000 in
theorem gg_o267_1 : gg_po ((gg_d267).drop 40, prog_9_method_107_code) := gg_pb_ok (by decide +kernel)
theorem gg_o267 : gg_po (gg_d267, prog_9_method_107_code) := gg_po_cut 40 gg_o267_0 (gg_o267_1)
set_option maxRecDepth 100000 in
theorem gg_o268 : gg_po (gg_d268, prog_9_method_108_code) := gg_pb_ok (by decide +kernel)
set_option maxRecDepth 100000 in
theorem gg_o269_0 : gg_po ((gg_d269).take 40, prog_9_method_109_code) := gg_pb_ok (by decide +kernel)
set_option maxRecDepth 100000 in
theorem gg_o269_1 : gg_po (((gg_d269).drop 40).take 40, prog_9_method_109_code) := gg_pb_ok (by decide +kernel)
set_option maxRecDepth 100000 in
theorem gg_o269_2 : gg_po (((gg_d269).drop 40).drop 40, prog_9_method_109_code) := gg_pb_ok (by decide +kernel)
theorem gg_o269 : gg_po (gg_d269, prog_9_method_109_code) := gg_po_cut 40 gg_o269_0 (gg_po_cut 40 gg_o269_1 (gg_o269_2))
set_option maxRecDepth 100000 in
theorem gg_o270 : gg_po (gg_d270, prog_9_method_110_code) := gg_pb_ok (by decide +kernel)
set_option maxRecDepth 100000 in
theorem gg_o271_0 : gg_po ((gg_d271).take 40, prog_9_method_111_code) := gg_pb_ok (by decide +kernel)
set_option maxRecDepth 100000 in
theorem gg_o271_1 : gg_po ((gg_d271).drop 40, prog_9_method_111_code) := gg_pb_ok (by decide +kernel)
theorem gg_o271 : gg_po (gg_d271, prog_9_method_111_code) := gg_po_cut 40 gg_o271_0 (gg_o271_1)
set_option maxRecDepth 100000 in
theorem gg_o272 : gg_po (gg_d272, prog_9_method_112_code) := gg_pb_ok (by decide +kernel)
set_option maxRecDepth 100000 in
theorem gg_o273 : gg_po (gg_d273, prog_9_method_113_code) := gg_pb_ok (by decide +kernel)
set_option maxRecDepth 100000 in
theorem gg_o274 : gg_po (gg_d274, prog_9_method_114_code) := gg_pb_ok (by decide +kernel)
set_option maxRecDepth 100000 in
theorem gg_o275 : gg_po (gg_d275, prog_9_method_115_code) := gg_pb_ok (by decide +kernel)
set_option maxRecDepth 100000 in
theorem gg_o276_0 : gg_po ((gg_d276).take 40, prog_9_method_116_code) := gg_pb_ok (by decide +kernel)
set_option maxRecDepth 100000 in
theorem gg_o276_1 : gg_po ((gg_d276).drop 40, prog_9_method_116_code) := gg_pb_ok (by decide +kernel)
theorem gg_o276 : gg_po (gg_d276, prog_9_method_116_code) := gg_po_cut 40 gg_o276_0 (gg_o276_1)
set_option maxRecDepth 100000 in
theorem gg_o277_0 : gg_po ((gg_d277).take 40, prog_9_method_117_code) := gg_pb_ok (by decide +kernel)
set_option maxRecDepth 100000 in
theorem gg_o277_1 : gg_po (((gg_d277).drop 40).take 40, prog_9_method_117_code) := gg_pb_ok (by decide +kernel)
set_option maxRecDepth 100000 in
theorem gg_o277_2 : gg_po (((gg_d277).drop 40).drop 40, prog_9_method_117_code) := gg_pb_ok (by decide +kernel)
theorem gg_o277 : gg_po (gg_d277, prog_9_method_117_code) := gg_po_cut 40 gg_o277_0 (gg_po_cut 40 gg_o277_1 (gg_o277_2))
set_option maxRecDepth 100000 in
theorem gg_o278 : gg_po (gg_d278, prog_9_method_118_code) := gg_pb_ok (by decide +kernel)
set_option maxRecDepth 100000 in
theorem gg_o279_0 : gg_po ((gg_d279).take 40, prog_9_method_119_code) := gg_pb_ok (by decide +kernel)
set_option maxRecDepth 100000 in
theorem gg_o279_1 : gg_po (((gg_d279).drop 40).take 40, prog_9_method_119_code) := gg_pb_ok (by decide +kernel)
set_option maxRecDepth 100000 in
theorem gg_o279_2 : gg_po (((gg_d279).drop 40).drop 40, prog_9_method_119_code) := gg_pb_ok (by decide +kernel)
theorem gg_o279 : gg_po (gg_d279, prog_9_method_119_code) := gg_po_cut 40 gg_o279_0 (gg_po_cut 40 gg_o279_1 (gg_o279_2))
set_option maxRecDepth 100000 in
theorem gg_o280 : gg_po (gg_d280, prog_9_method_120_code) := gg_pb_ok (by decide +kernel)
set_option maxRecDepth 100000 in
theorem gg_o281_0 : gg_po ((gg_d281).take 40, prog_9_method_121_code) := gg_pb_ok (by decide +kernel)
set_option maxRecDepth 100000 in
theorem gg_o281_1 : gg_po ((gg_d281).drop 40, prog_9_method_121_code) := gg_pb_ok (by decide +kernel)
theorem gg_o281 : gg_po (gg_d281, prog_9_method_121_code) := gg_po_cut 40 gg_o281_0 (gg_o281_1)
set_option maxRecDepth 100000 in
theorem gg_o282 : gg_po (gg_d282, prog_9_method_122_code) := gg_pb_ok (by decide +kernel)
set_option maxRecDepth 100000 in
theorem gg_o283 : gg_po (gg_d283, prog_9_method_123_code) := gg_pb_ok (by decide +kernel)
set_option maxRecDepth 100000 in
theorem gg_o284 : gg_po (gg_d284, prog_9_method_124_code) := gg_pb_ok (by decide +kernel)
set_option maxRecDepth 100000 in
theorem gg_o285 : gg_po (gg_d285, prog_9_method_125_code) := gg_pb_ok (by decide +kernel)
set_option maxRecDepth 100000 in
theorem gg_o286 : gg_po (gg_d286, prog_9_method_126_code) := gg_pb_ok (by decide +kernel)
set_option maxRecDepth 100000 in
theorem gg_o288 : gg_po (gg_d288, method_3_code) := gg_pb_ok (by decide +kernel)
set_option maxRecDepth 100000 in
theorem gg_o289 : gg_po (gg_d289, method_4_code) := gg_pb_ok (by decide +kernel)
set_option maxRecDepth 100000 in
theorem gg_o290 : gg_po (gg_d290, method_5_code) := gg_pb_ok (by decide +kernel)
set_option maxRecDepth 100000 in
theorem gg_o291 : gg_po (gg_d291, method_6_code) := gg_pb_ok (by decide +kernel)
set_option maxRecDepth 100000 in
theorem gg_o292 : gg_po (gg_d292, method_7_code) := gg_pb_ok (by decide +kernel)
set_option maxRecDepth 100000 in
theorem gg_o293 : gg_po (gg_d293, method_8_code) := gg_pb_ok (by decide +kernel)
set_option maxRecDepth 100000 in
theorem gg_o294 : gg_po (gg_d294, method_9_code) := gg_pb_ok (by decide +kernel)
set_option maxRecDepth 100000 in
theorem gg_o295 : gg_po (gg_d295, method_10_code) := gg_pb_ok (by decide +kernel)
set_option maxRecDepth 100000 in
theorem gg_o296 : gg_po (gg_d296, method_11_code) := gg_pb_ok (by decide +kernel)
set_option maxRecDepth 100000 in
theorem gg_o297 : gg_po (gg_d297, method_12_code) := gg_pb_ok (by decide +kernel)
set_option maxRecDepth 100000 in
theorem gg_o298 : gg_po (gg_d298, method_13_code) := gg_pb_ok (by decide +kernel)
set_option maxRecDepth 100000 in
theorem gg_o299 : gg_po (gg_d299, method_14_code) := gg_pb_ok (by decide +kernel)
set_option maxRecDepth 100000 in
theorem gg_o300 : gg_po (gg_d300, method_15_code) := gg_pb_ok (by decide +kernel)
set_option maxRecDepth 100000 in
theorem gg_o301 : gg_po (gg_d301, method_16_code) := gg_pb_ok (by decide +kernel)
set_option maxRecDepth 100000 in
theorem gg_o302 : gg_po (gg_d302, method_17_code) := gg_pb_ok (by decide +kernel)
set_option maxRecDepth 100000 in
theorem gg_o303 : gg_po (gg_d303, method_18_code) := gg_pb_ok (by decide +kernel)
set_option maxRecDepth 100000 in
theorem gg_o304 : gg_po (gg_d304, method_19_code) := gg_pb_ok (by decide +kernel)
set_option maxRecDepth 100000 in
theorem gg_o305 : gg_po (gg_d305, method_20_code) := gg_pb_ok (by decide +kernel)
set_option maxRecDepth 100000 in
theorem gg_o306 : gg_po (gg_d306, method_21_code) := gg_pb_ok (by decide +kernel)
set_option maxRecDepth 100000 in
theorem gg_o307 : gg_po (gg_d307, method_22_code) := gg_pb_ok (by decide +kernel)
set_option maxRecDepth 100000 in
theorem gg_o308 : gg_po (gg_d308, method_23_code) := gg_pb_ok (by decide +kernel)
set_option maxRecDepth 100000 in
theorem gg_o309 : gg_po (gg_d309, method_24_code) := gg_pb_ok (by decide +kernel)
set_option maxRecDepth 100000 in
theorem gg_o310 : gg_po (gg_d310, method_25_code) := gg_pb_ok (by decide +kernel)
set_option maxRecDepth 100000 in
theorem gg_o311 : gg_po (gg_d311, method_26_code) := gg_pb_ok (by decide +kernel)
set_option maxRecDepth 100000 in
theorem gg_o312 : gg_po (gg_d312, method_27_code) := gg_pb_ok (by decide +kernel)
set_option maxRecDepth 100000 in
theorem gg_o313 : gg_po (gg_d313, method_28_code) := gg_pb_ok (by decide +kernel)
set_option maxRecDepth 100000 in
theorem gg_o314 : gg_po (gg_d314, method_29_code) := gg_pb_ok (by decide +kernel)
set_option maxRecDepth 100000 in
theorem gg_o315 : gg_po (gg_d315, method_30_code) := gg_pb_ok (by decide +kernel)
set_option maxRecDepth 100000 in
theorem gg_o316 : gg_po (gg_d316, method_31_code) := gg_pb_ok (by decide +kernel)
set_option maxRecDepth 100000 in
theorem gg_o317 : gg_po (gg_d317, method_32_code) := gg_pb_ok (by decide +kernel)
set_option maxRecDepth 100000 in
theorem gg_o318 : gg_po (gg_d318, method_33_code) := gg_pb_ok (by decide +kernel)
set_option maxRecDepth 100000 in
theorem gg_o319 : gg_po (gg_d319, method_34_code) := gg_pb_ok (by decide +kernel)
set_option maxRecDepth 100000 in
theorem gg_o320 : gg_po (gg_d320, method_35_code) := gg_pb_ok (by decide +kernel)
set_option maxRecDepth 100000 in
theorem gg_o321 : gg_po (gg_d321, method_36_code) := gg_pb_ok (by decide +kernel)
set_option maxRecDepth 100000 in
theorem gg_o322 : gg_po (gg_d322, method_37_code) := gg_pb_ok (by decide +kernel)
set_option maxRecDepth 100000 in
theorem gg_o323 : gg_po (gg_d323, method_38_code) := gg_pb_ok (by decide +kernel)
set_option maxRecDepth 100000 in
theorem gg_o324 : gg_po (gg_d324, method_39_code) := gg_pb_ok (by decide +kernel)
set_option maxRecDepth 100000 in
theorem gg_o325 : gg_po (gg_d325, method_40_code) := gg_pb_ok (by decide +kernel)
set_option maxRecDepth 100000 in
theorem gg_o326 : gg_po (gg_d326, method_41_code) := gg_pb_ok (by decide +kernel)
set_option maxRecDepth 100000 in
theorem gg_o327 : gg_po (gg_d327, method_42_code) := gg_pb_ok (by decide +kernel)
set_option maxRecDepth 100000 in
theorem gg_o328 : gg_po (gg_d328, method_43_code) := gg_pb_ok (by decide +kernel)
set_option maxRecDepth 100000 in
theorem gg_o329 : gg_po (gg_d329, method_44_code) := gg_pb_ok (by decide +kernel)
set_option maxRecDepth 100000 in
theorem gg_o330 : gg_po (gg_d330, method_45_code) := gg_pb_ok (by decide +kernel)
set_option maxRecDepth 100000 in
theorem gg_o331 : gg_po (gg_d331, method_46_code) := gg_pb_ok (by decide +kernel)
set_option maxRecDepth 100000 in
theorem gg_o332 : gg_po (gg_d332, method_47_code) := gg_pb_ok (by decide +kernel)
set_option maxRecDepth 100000 in
theorem gg_o333 : gg_po (gg_d333, method_48_code) := gg_pb_ok (by decide +kernel)
set_option maxRecDepth 100000 in
theorem gg_o334 : gg_po (gg_d334, method_49_code) := gg_pb_ok (by decide +kernel)
set_option maxRecDepth 100000 in
theorem gg_o335 : gg_po (gg_d335, prog_17_method_54_code) := gg_pb_ok (by decide +kernel)
set_option maxRecDepth 100000 in
theorem gg_o336 : gg_po (gg_d336, prog_17_method_56_code) := gg_pb_ok (by decide +kernel)
set_option maxRecDepth 100000 in
theorem gg_o337 : gg_po (gg_d337, prog_17_method_152_code) := gg_pb_ok (by decide +kernel)
set_option maxRecDepth 100000 in
theorem gg_o338 : gg_po (gg_d338, prog_17_method_154_code) := gg_pb_ok (by decide +kernel)
set_option maxRecDepth 100000 in
theorem gg_o339 : gg_po (gg_d339, prog_17_method_155_code) := gg_pb_ok (by decide +kernel)
set_option maxRecDepth 100000 in
theorem gg_o340 : gg_po (gg_d340, prog_18_method_2_code) := gg_pb_ok (by decide +kernel)
set_option maxRecDepth 100000 in
theorem gg_o341 : gg_po (gg_d341, prog_22_method_11_code) := gg_pb_ok (by decide +kernel)
set_option maxRecDepth 100000 in
theorem gg_o342_0 : gg_po ((gg_d342).take 40, prog_13_method_49_code) := gg_pb_ok (by decide +kernel)
set_option maxRecDepth 100000 in
theorem gg_o342_1 : gg_po ((gg_d342).drop 40, prog_13_method_49_code) := gg_pb_ok (by decide +kernel)
theorem gg_o342 : gg_po (gg_d342, prog_13_method_49_code) := gg_po_cut 40 gg_o342_0 (gg_o342_1)
set_option maxRecDepth 100000 in
theorem gg_o343_0 : gg_po ((gg_d343).take 40, prog_14_method_50_code) := gg_pb_ok (by decide +kernel)
set_option maxRecDepth 100000 in
theorem gg_o343_1 : gg_po ((gg_d343).drop 40, prog_14_method_50_code) := gg_pb_ok (by decide +kernel)
theorem gg_o343 : gg_po (gg_d343, prog_14_method_50_code) := gg_po_cut 40 gg_o343_0 (gg_o343_1)
