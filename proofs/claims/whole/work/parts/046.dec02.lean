/-! the decoded instructions are the bytes' -/
set_option maxRecDepth 100000 in
theorem gg_o192 : gg_po (gg_d192, prog_9_method_32_code) := gg_pb_ok (by decide +kernel)
set_option maxRecDepth 100000 in
theorem gg_o193_0 : gg_po ((gg_d193).take 40, prog_9_method_33_code) := gg_pb_ok (by decide +kernel)
set_option maxRecDepth 100000 in
theorem gg_o193_1 : gg_po ((gg_d193).drop 40, prog_9_method_33_code) := gg_pb_ok (by decide +kernel)
theorem gg_o193 : gg_po (gg_d193, prog_9_method_33_code) := gg_po_cut 40 gg_o193_0 (gg_o193_1)
set_option maxRecDepth 100000 in
theorem gg_o194 : gg_po (gg_d194, prog_9_method_34_code) := gg_pb_ok (by decide +kernel)
set_option maxRecDepth 100000 in
theorem gg_o195_0 : gg_po ((gg_d195).take 40, prog_9_method_35_code) := gg_pb_ok (by decide +kernel)
set_option maxRecDepth 100000 in
theorem gg_o195_1 : gg_po ((gg_d195).drop 40, prog_9_method_35_code) := gg_pb_ok (by decide +kernel)
theorem gg_o195 : gg_po (gg_d195, prog_9_method_35_code) := gg_po_cut 40 gg_o195_0 (gg_o195_1)
set_option maxRecDepth 100000 in
theorem gg_o196 : gg_po (gg_d196, prog_9_method_36_code) := gg_pb_ok (by decide +kernel)
set_option maxRecDepth 100000 in
theorem gg_o197_0 : gg_po ((gg_d197).take 40, prog_9_method_37_code) := gg_pb_ok (by decide +kernel)
set_option maxRecDepth 100000 in
theorem gg_o197_1 : gg_po ((gg_d197).drop 40, prog_9_method_37_code) := gg_pb_ok (by decide +kernel)
theorem gg_o197 : gg_po (gg_d197, prog_9_method_37_code) := gg_po_cut 40 gg_o197_0 (gg_o197_1)
set_option maxRecDepth 100000 in
theorem gg_o198_0 : gg_po ((gg_d198).take 40, prog_9_method_38_code) := gg_pb_ok (by decide +kernel)
set_option maxRecDepth 100000 in
theorem gg_o198_1 : gg_po (((gg_d198).drop 40).take 40, prog_9_method_38_code) := gg_pb_ok (by decide +kernel)
set_option maxRecDepth 100000 in
theorem gg_o198_2 : gg_po (((gg_d198).drop 40).drop 40, prog_9_method_38_code) := gg_pb_ok (by decide +kernel)
theorem gg_o198 : gg_po (gg_d198, prog_9_method_38_code) := gg_po_cut 40 gg_o198_0 (gg_po_cut 40 gg_o198_1 (gg_o198_2))
set_option maxRecDepth 100000 in
theorem gg_o199_0 : gg_po ((gg_d199).take 40, prog_9_method_39_code) := gg_pb_ok (by decide +kernel)
set_option maxRecDepth 100000 in
theorem gg_o199_1 : gg_po ((gg_d199).drop 40, prog_9_method_39_code) := gg_pb_ok (by decide +kernel)
theorem gg_o199 : gg_po (gg_d199, prog_9_method_39_code) := gg_po_cut 40 gg_o199_0 (gg_o199_1)
set_option maxRecDepth 100000 in
theorem gg_o200 : gg_po (gg_d200, prog_9_method_40_code) := gg_pb_ok (by decide +kernel)
set_option maxRecDepth 100000 in
theorem gg_o201 : gg_po (gg_d201, prog_9_method_41_code) := gg_pb_ok (by decide +kernel)
set_option maxRecDepth 100000 in
theorem gg_o202 : gg_po (gg_d202, prog_9_method_42_code) := gg_pb_ok (by decide +kernel)
set_option maxRecDepth 100000 in
theorem gg_o203 : gg_po (gg_d203, prog_9_method_43_code) := gg_pb_ok (by decide +kernel)
set_option maxRecDepth 100000 in
theorem gg_o204 : gg_po (gg_d204, prog_9_method_44_code) := gg_pb_ok (by decide +kernel)
set_option maxRecDepth 100000 in
theorem gg_o205 : gg_po (gg_d205, prog_9_method_45_code) := gg_pb_ok (by decide +kernel)
set_option maxRecDepth 100000 in
theorem gg_o206 : gg_po (gg_d206, prog_9_method_46_code) := gg_pb_ok (by decide +kernel)
set_option maxRecDepth 100000 in
theorem gg_o207 : gg_po (gg_d207, prog_9_method_47_code) := gg_pb_ok (by decide +kernel)
set_option maxRecDepth 100000 in
theorem gg_o208_0 : gg_po ((gg_d208).take 40, prog_9_method_48_code) := gg_pb_ok (by decide +kernel)
set_option maxRecDepth 100000 in
theorem gg_o208_1 : gg_po (((gg_d208).drop 40).take 40, prog_9_method_48_code) := gg_pb_ok (by decide +kernel)
set_option maxRecDepth 100000 in
theorem gg_o208_2 : gg_po ((((gg_d208).drop 40).drop 40).take 40, prog_9_method_48_code) := gg_pb_ok (by decide +kernel)
set_option maxRecDepth 100000 in
theorem gg_o208_3 : gg_po ((((gg_d208).drop 40).drop 40).drop 40, prog_9_method_48_code) := gg_pb_ok (by decide +kernel)
theorem gg_o208 : gg_po (gg_d208, prog_9_method_48_code) := gg_po_cut 40 gg_o208_0 (gg_po_cut 40 gg_o208_1 (gg_po_cut 40 gg_o208_2 (gg_o208_3)))
set_option maxRecDepth 100000 in
theorem gg_o209 : gg_po (gg_d209, prog_9_method_49_code) := gg_pb_ok (by decide +kernel)
set_option maxRecDepth 100000 in
theorem gg_o210 : gg_po (gg_d210, prog_9_method_50_code) := gg_pb_ok (by decide +kernel)
set_option maxRecDepth 100000 in
theorem gg_o211 : gg_po (gg_d211, prog_9_method_51_code) := gg_pb_ok (by decide +kernel)
set_option maxRecDepth 100000 in
theorem gg_o212 : gg_po (gg_d212, prog_9_method_52_code) := gg_pb_ok (by decide +kernel)
set_option maxRecDepth 100000 in
theorem gg_o213_0 : gg_po ((gg_d213).take 40, prog_9_method_53_code) := gg_pb_ok (by decide +kernel)
set_option maxRecDepth 100000 in
theorem gg_o213_1 : gg_po (((gg_d213).drop 40).take 40, prog_9_method_53_code) := gg_pb_ok (by decide +kernel)
set_option maxRecDepth 100000 in
theorem gg_o213_2 : gg_po (((gg_d213).drop 40).drop 40, prog_9_method_53_code) := gg_pb_ok (by decide +kernel)
theorem gg_o213 : gg_po (gg_d213, prog_9_method_53_code) := gg_po_cut 40 gg_o213_0 (gg_po_cut 40 gg_o213_1 (gg_o213_2))
set_option maxRecDepth 100000 in
theorem gg_o214 : gg_po (gg_d214, prog_9_method_54_code) := gg_pb_ok (by decide +kernel)
set_option maxRecDepth 100000 in
theorem gg_o215 : gg_po (gg_d215, prog_9_method_55_code) := gg_pb_ok (by decide +kernel)
set_option maxRecDepth 100000 in
theorem gg_o216 : gg_po (gg_d216, prog_9_method_56_code) := gg_pb_ok (by decide +kernel)
set_option maxRecDepth 100000 in
theorem gg_o217 : gg_po (gg_d217, prog_9_method_57_code) := gg_pb_ok (by decide +kernel)
set_option maxRecDepth 100000 in
theorem gg_o218_0 : gg_po ((gg_d218).take 40, prog_9_method_58_code) := gg_pb_ok (by decide +kernel)
set_option maxRecDepth 100000 in
theorem gg_o218_1 : gg_po ((gg_d218).drop 40, prog_9_method_58_code) := gg_pb_ok (by decide +kernel)
theorem gg_o218 : gg_po (gg_d218, prog_9_method_58_code) := gg_po_cut 40 gg_o218_0 (gg_o218_1)
set_option maxRecDepth 100000 in
theorem gg_o219 : gg_po (gg_d219, prog_9_method_59_code) := gg_pb_ok (by decide +kernel)
set_option maxRecDepth 100000 in
theorem gg_o220 : gg_po (gg_d220, prog_9_method_60_code) := gg_pb_ok (by decide +kernel)
set_option maxRecDepth 100000 in
theorem gg_o221 : gg_po (gg_d221, prog_9_method_61_code) := gg_pb_ok (by decide +kernel)
set_option maxRecDepth 100000 in
theorem gg_o222_0 : gg_po ((gg_d222).take 40, prog_9_method_62_code) := gg_pb_ok (by decide +kernel)
set_option maxRecDepth 100000 in
theorem gg_o222_1 : gg_po ((gg_d222).drop 40, prog_9_method_62_code) := gg_pb_ok (by decide +kernel)
theorem gg_o222 : gg_po (gg_d222, prog_9_method_62_code) := gg_po_cut 40 gg_o222_0 (gg_o222_1)
set_option maxRecDepth 100000 in
theorem gg_o223 : gg_po (gg_d223, prog_9_method_63_code) := gg_pb_ok (by decide +kernel)
set_option maxRecDepth 100000 in
theorem gg_o224 : gg_po (gg_d224, prog_9_method_64_code) := gg_pb_ok (by decide +kernel)
set_option maxRecDepth 100000 in
theorem gg_o225_0 : gg_po ((gg_d225).take 40, prog_9_method_65_code) := gg_pb_ok (by decide +kernel)
set_option maxRecDepth 100000 in
theorem gg_o225_1 : gg_po ((gg_d225).drop 40, prog_9_method_65_code) := gg_pb_ok (by decide +kernel)
theorem gg_o225 : gg_po (gg_d225, prog_9_method_65_code) := gg_po_cut 40 gg_o225_0 (gg_o225_1)
set_option maxRecDepth 100000 in
theorem gg_o226_0 : gg_po ((gg_d226).take 40, prog_9_method_66_code) := gg_pb_ok (by decide +kernel)
set_option maxRecDepth 100000 in
theorem gg_o226_1 : gg_po ((gg_d226).drop 40, prog_9_method_66_code) := gg_pb_ok (by decide +kernel)
theorem gg_o226 : gg_po (gg_d226, prog_9_method_66_code) := gg_po_cut 40 gg_o226_0 (gg_o226_1)
set_option maxRecDepth 100000 in
theorem gg_o227 : gg_po (gg_d227, prog_9_method_67_code) := gg_pb_ok (by decide +kernel)
set_option maxRecDepth 100000 in
theorem gg_o228 : gg_po (gg_d228, prog_9_method_68_code) := gg_pb_ok (by decide +kernel)
set_option maxRecDepth 100000 in
theorem gg_o229_0 : gg_po ((gg_d229).take 40, prog_9_method_69_code) := gg_pb_ok (by decide +kernel)
set_option maxRecDepth 100000 in
theorem gg_o229_1 : gg_po ((gg_d229).drop 40, prog_9_method_69_code) := gg_pb_ok (by decide +kernel)
theorem gg_o229 : gg_po (gg_d229, prog_9_method_69_code) := gg_po_cut 40 gg_o229_0 (gg_o229_1)
set_option maxRecDepth 100000 in
theorem gg_o230 : gg_po (gg_d230, prog_9_method_70_code) := gg_pb_ok (by decide +kernel)
set_option maxRecDepth 100000 in
theorem gg_o231 : gg_po (gg_d231, prog_9_method_71_code) := gg_pb_ok (by decide +kernel)
set_option maxRecDepth 100000 in
theorem gg_o232 : gg_po (gg_d232, prog_9_method_72_code) := gg_pb_ok (by decide +kernel)
set_option maxRecDepth 100000 in
theorem gg_o233 : gg_po (gg_d233, prog_9_method_73_code) := gg_pb_ok (by decide +kernel)
set_option maxRecDepth 100000 in
theorem gg_o234_0 : gg_po ((gg_d234).take 40, prog_9_method_74_code) := gg_pb_ok (by decide +kernel)
set_option maxRecDepth 100000 in
theorem gg_o234_1 : gg_po ((gg_d234).drop 40, prog_9_method_74_code) := gg_pb_ok (by decide +kernel)
theorem gg_o234 : gg_po (gg_d234, prog_9_method_74_code) := gg_po_cut 40 gg_o234_0 (gg_o234_1)
set_option maxRecDepth 100000 in
theorem gg_o235 : gg_po (gg_d235, prog_9_method_75_code) := gg_pb_ok (by decide +kernel)
set_option maxRecDepth 100000 in
theorem gg_o236 : gg_po (gg_d236, prog_9_method_76_code) := gg_pb_ok (by decide +kernel)
set_option maxRecDepth 100000 in
theorem gg_o237 : gg_po (gg_d237, prog_9_method_77_code) := gg_pb_ok (by decide +kernel)
set_option maxRecDepth 100000 in
theorem gg_o238 : gg_po (gg_d238, prog_9_method_78_code) := gg_pb_ok (by decide +kernel)
set_option maxRecDepth 100000 in
theorem gg_o239_0 : gg_po ((gg_d239).take 40, prog_9_method_79_code) := gg_pb_ok (by decide +kernel)
set_option maxRecDepth 100000 in
theorem gg_o239_1 : gg_po ((gg_d239).drop 40, prog_9_method_79_code) := gg_pb_ok (by decide +kernel)
theorem gg_o239 : gg_po (gg_d239, prog_9_method_79_code) := gg_po_cut 40 gg_o239_0 (gg_o239_1)
set_option maxRecDepth 100000 in
theorem gg_o240_0 : gg_po ((gg_d240).take 40, prog_9_method_80_code) := gg_pb_ok (by decide +kernel)
set_option maxRecDepth 100000 in
theorem gg_o240_1 : gg_po (((gg_d240).drop 40).take 40, prog_9_method_80_code) := gg_pb_ok (by decide +kernel)
set_option maxRecDepth 100000 in
theorem gg_o240_2 : gg_po (((gg_d240).drop 40).drop 40, prog_9_method_80_code) := gg_pb_ok (by decide +kernel)
theorem gg_o240 : gg_po (gg_d240, prog_9_method_80_code) := gg_po_cut 40 gg_o240_0 (gg_po_cut 40 gg_o240_1 (gg_o240_2))
set_option maxRecDepth 100000 in
theorem gg_o241 : gg_po (gg_d241, prog_9_method_81_code) := gg_pb_ok (by decide +kernel)
set_option maxRecDepth 100000 in
theorem gg_o242 : gg_po (gg_d242, prog_9_method_82_code) := gg_pb_ok (by decide +kernel)
set_option maxRecDepth 100000 in
theorem gg_o243 : gg_po (gg_d243, prog_9_method_83_code) := gg_pb_ok (by decide +kernel)
set_option maxRecDepth 100000 in
theorem gg_o244_0 : gg_po ((gg_d244).take 40, prog_9_method_84_code) := gg_pb_ok (by decide +kernel)
set_option maxRecDepth 100000 in
theorem gg_o244_1 : gg_po ((gg_d244).drop 40, prog_9_method_84_code) := gg_pb_ok (by decide +kernel)
theorem gg_o244 : gg_po (gg_d244, prog_9_method_84_code) := gg_po_cut 40 gg_o244_0 (gg_o244_1)
set_option maxRecDepth 100000 in
theorem gg_o245_0 : gg_po ((gg_d245).take 40, prog_9_method_85_code) := gg_pb_ok (by decide +kernel)
set_option maxRecDepth 100000 in
theorem gg_o245_1 : gg_po ((gg_d245).drop 40, prog_9_method_85_code) := gg_pb_ok (by decide +kernel)
theorem gg_o245 : gg_po (gg_d245, prog_9_method_85_code) := gg_po_cut 40 gg_o245_0 (gg_o245_1)
set_option maxRecDepth 100000 in
theorem gg_o246 : gg_po (gg_d246, prog_9_method_86_code) := gg_pb_ok (by decide +kernel)
set_option maxRecDepth 100000 in
theorem gg_o247_0 : gg_po ((gg_d247).take 40, prog_9_method_87_code) := gg_pb_ok (by decide +kernel)
set_option maxRecDepth 100000 in
theorem gg_o247_1 : gg_po ((gg_d247).drop 40, prog_9_method_87_code) := gg_pb_ok (by decide +kernel)
theorem gg_o247 : gg_po (gg_d247, prog_9_method_87_code) := gg_po_cut 40 gg_o247_0 (gg_o247_1)
set_option maxRecDepth 100000 in
theorem gg_o248 : gg_po (gg_d248, prog_9_method_88_code) := gg_pb_ok (by decide +kernel)
set_option maxRecDepth 100000 in
theorem gg_o249_0 : gg_po ((gg_d249).take 40, prog_9_method_89_code) := gg_pb_ok (by decide +kernel)
set_option maxRecDepth 100000 in
theorem gg_o249_1 : gg_po ((gg_d249).drop 40, prog_9_method_89_code) := gg_pb_ok (by decide +kernel)
theorem gg_o249 : gg_po (gg_d249, prog_9_method_89_code) := gg_po_cut 40 gg_o249_0 (gg_o249_1)
set_option maxRecDepth 100000 in
theorem gg_o250 : gg_po (gg_d250, prog_9_method_90_code) := gg_pb_ok (by decide +kernel)
set_option maxRecDepth 100000 in
theorem gg_o251 : gg_po (gg_d251, prog_9_method_91_code) := gg_pb_ok (by decide +kernel)
set_option maxRecDepth 100000 in
theorem gg_o252 : gg_po (gg_d252, prog_9_method_92_code) := gg_pb_ok (by decide +kernel)
set_option maxRecDepth 100000 in
theorem gg_o253 : gg_po (gg_d253, prog_9_method_93_code) := gg_pb_ok (by decide +kernel)
set_option maxRecDepth 100000 in
theorem gg_o254 : gg_po (gg_d254, prog_9_method_94_code) := gg_pb_ok (by decide +kernel)
set_option maxRecDepth 100000 in
theorem gg_o255 : gg_po (gg_d255, prog_9_method_95_code) := gg_pb_ok (by decide +kernel)
set_option maxRecDepth 100000 in
theorem gg_o256_0 : gg_po ((gg_d256).take 40, prog_9_method_96_code) := gg_pb_ok (by decide +kernel)
set_option maxRecDepth 100000 in
theorem gg_o256_1 : gg_po ((gg_d256).drop 40, prog_9_method_96_code) := gg_pb_ok (by decide +kernel)
theorem gg_o256 : gg_po (gg_d256, prog_9_method_96_code) := gg_po_cut 40 gg_o256_0 (gg_o256_1)
set_option maxRecDepth 100000 in
theorem gg_o257 : gg_po (gg_d257, prog_9_method_97_code) := gg_pb_ok (by decide +kernel)
set_option maxRecDepth 100000 in
theorem gg_o258 : gg_po (gg_d258, prog_9_method_98_code) := gg_pb_ok (by decide +kernel)
set_option maxRecDepth 100000 in
theorem gg_o259 : gg_po (gg_d259, prog_9_method_99_code) := gg_pb_ok (by decide +kernel)
set_option maxRecDepth 100000 in
theorem gg_o260_0 : gg_po ((gg_d260).take 40, prog_9_method_100_code) := gg_pb_ok (by decide +kernel)
set_option maxRecDepth 100000 in
theorem gg_o260_1 : gg_po ((gg_d260).drop 40, prog_9_method_100_code) := gg_pb_ok (by decide +kernel)
theorem gg_o260 : gg_po (gg_d260, prog_9_method_100_code) := gg_po_cut 40 gg_o260_0 (gg_o260_1)
set_option maxRecDepth 100000 in
theorem gg_o261_0 : gg_po ((gg_d261).take 40, prog_9_method_101_code) := gg_pb_ok (by decide +kernel)
set_option maxRecDepth 100000 in
theorem gg_o261_1 : gg_po (((gg_d261).drop 40).take 40, prog_9_method_101_code) := gg_pb_ok (by decide +kernel)
set_option maxRecDepth 100000 in
theorem gg_o261_2 : gg_po (((gg_d261).drop 40).drop 40, prog_9_method_101_code) := gg_pb_ok (by decide +kernel)
theorem gg_o261 : gg_po (gg_d261, prog_9_method_101_code) := gg_po_cut 40 gg_o261_0 (gg_po_cut 40 gg_o261_1 (gg_o261_2))
set_option maxRecDepth 100000 in
theorem gg_o262 : gg_po (gg_d262, prog_9_method_102_code) := gg_pb_ok (by decide +kernel)
set_option maxRecDepth 100000 in
theorem gg_o263_0 : gg_po ((gg_d263).take 40, prog_9_method_103_code) := gg_pb_ok (by decide +kernel)
set_option maxRecDepth 100000 in
theorem gg_o263_1 : gg_po (((gg_d263).drop 40).take 40, prog_9_method_103_code) := gg_pb_ok (by decide +kernel)
set_option maxRecDepth 100000 in
theorem gg_o263_2 : gg_po ((((gg_d263).drop 40).drop 40).take 40, prog_9_method_103_code) := gg_pb_ok (by decide +kernel)
set_option maxRecDepth 100000 in
theorem gg_o263_3 : gg_po ((((gg_d263).drop 40).drop 40).drop 40, prog_9_method_103_code) := gg_pb_ok (by decide +kernel)
theorem gg_o263 : gg_po (gg_d263, prog_9_method_103_code) := gg_po_cut 40 gg_o263_0 (gg_po_cut 40 gg_o263_1 (gg_po_cut 40 gg_o263_2 (gg_o263_3)))
