/-! the decoded instructions are the bytes' -/
set_option maxRecDepth 100000 in
theorem gg_o76 : gg_po (gg_d76, prog_7_method_17_code) := gg_pb_ok (by decide +kernel)
set_option maxRecDepth 100000 in
theorem gg_o77 : gg_po (gg_d77, prog_7_method_18_code) := gg_pb_ok (by decide +kernel)
set_option maxRecDepth 100000 in
theorem gg_o78 : gg_po (gg_d78, prog_7_method_19_code) := gg_pb_ok (by decide +kernel)
set_option maxRecDepth 100000 in
theorem gg_o79 : gg_po (gg_d79, prog_7_method_20_code) := gg_pb_ok (by decide +kernel)
set_option maxRecDepth 100000 in
theorem gg_o80 : gg_po (gg_d80, prog_7_method_21_code) := gg_pb_ok (by decide +kernel)
set_option maxRecDepth 100000 in
theorem gg_o81 : gg_po (gg_d81, prog_7_method_22_code) := gg_pb_ok (by decide +kernel)
set_option maxRecDepth 100000 in
theorem gg_o82 : gg_po (gg_d82, prog_7_method_23_code) := gg_pb_ok (by decide +kernel)
set_option maxRecDepth 100000 in
theorem gg_o83 : gg_po (gg_d83, prog_7_method_24_code) := gg_pb_ok (by decide +kernel)
set_option maxRecDepth 100000 in
theorem gg_o84_0 : gg_po ((gg_d84).take 40, prog_7_method_25_code) := gg_pb_ok (by decide +kernel)
set_option maxRecDepth 100000 in
theorem gg_o84_1 : gg_po ((gg_d84).drop 40, prog_7_method_25_code) := gg_pb_ok (by decide +kernel)
theorem gg_o84 : gg_po (gg_d84, prog_7_method_25_code) := gg_po_cut 40 gg_o84_0 (gg_o84_1)
set_option maxRecDepth 100000 in
theorem gg_o85 : gg_po (gg_d85, prog_7_method_26_code) := gg_pb_ok (by decide +kernel)
set_option maxRecDepth 100000 in
theorem gg_o86_0 : gg_po ((gg_d86).take 40, prog_1_method_1_code) := gg_pb_ok (by decide +kernel)
set_option maxRecDepth 100000 in
theorem gg_o86_1 : gg_po ((gg_d86).drop 40, prog_1_method_1_code) := gg_pb_ok (by decide +kernel)
theorem gg_o86 : gg_po (gg_d86, prog_1_method_1_code) := gg_po_cut 40 gg_o86_0 (gg_o86_1)
set_option maxRecDepth 100000 in
theorem gg_o87 : gg_po (gg_d87, prog_1_method_2_code) := gg_pb_ok (by decide +kernel)
set_option maxRecDepth 100000 in
theorem gg_o88 : gg_po (gg_d88, prog_1_method_3_code) := gg_pb_ok (by decide +kernel)
set_option maxRecDepth 100000 in
theorem gg_o89 : gg_po (gg_d89, prog_1_method_4_code) := gg_pb_ok (by decide +kernel)
set_option maxRecDepth 100000 in
theorem gg_o90 : gg_po (gg_d90, prog_1_method_5_code) := gg_pb_ok (by decide +kernel)
set_option maxRecDepth 100000 in
theorem gg_o91 : gg_po (gg_d91, prog_1_method_6_code) := gg_pb_ok (by decide +kernel)
set_option maxRecDepth 100000 in
theorem gg_o92_0 : gg_po ((gg_d92).take 40, prog_1_method_7_code) := gg_pb_ok (by decide +kernel)
set_option maxRecDepth 100000 in
theorem gg_o92_1 : gg_po ((gg_d92).drop 40, prog_1_method_7_code) := gg_pb_ok (by decide +kernel)
theorem gg_o92 : gg_po (gg_d92, prog_1_method_7_code) := gg_po_cut 40 gg_o92_0 (gg_o92_1)
set_option maxRecDepth 100000 in
theorem gg_o93 : gg_po (gg_d93, prog_1_method_8_code) := gg_pb_ok (by decide +kernel)
set_option maxRecDepth 100000 in
theorem gg_o94 : gg_po (gg_d94, prog_1_method_9_code) := gg_pb_ok (by decide +kernel)
set_option maxRecDepth 100000 in
theorem gg_o95 : gg_po (gg_d95, prog_1_method_10_code) := gg_pb_ok (by decide +kernel)
set_option maxRecDepth 100000 in
theorem gg_o96 : gg_po (gg_d96, prog_1_method_11_code) := gg_pb_ok (by decide +kernel)
set_option maxRecDepth 100000 in
theorem gg_o97 : gg_po (gg_d97, prog_1_method_12_code) := gg_pb_ok (by decide +kernel)
set_option maxRecDepth 100000 in
theorem gg_o98 : gg_po (gg_d98, prog_1_method_13_code) := gg_pb_ok (by decide +kernel)
set_option maxRecDepth 100000 in
theorem gg_o99 : gg_po (gg_d99, prog_1_method_14_code) := gg_pb_ok (by decide +kernel)
set_option maxRecDepth 100000 in
theorem gg_o100_0 : gg_po ((gg_d100).take 40, prog_1_method_15_code) := gg_pb_ok (by decide +kernel)
set_option maxRecDepth 100000 in
theorem gg_o100_1 : gg_po ((gg_d100).drop 40, prog_1_method_15_code) := gg_pb_ok (by decide +kernel)
theorem gg_o100 : gg_po (gg_d100, prog_1_method_15_code) := gg_po_cut 40 gg_o100_0 (gg_o100_1)
set_option maxRecDepth 100000 in
theorem gg_o101 : gg_po (gg_d101, prog_1_method_16_code) := gg_pb_ok (by decide +kernel)
set_option maxRecDepth 100000 in
theorem gg_o102 : gg_po (gg_d102, prog_1_method_17_code) := gg_pb_ok (by decide +kernel)
set_option maxRecDepth 100000 in
theorem gg_o103 : gg_po (gg_d103, prog_1_method_18_code) := gg_pb_ok (by decide +kernel)
set_option maxRecDepth 100000 in
theorem gg_o104 : gg_po (gg_d104, prog_1_method_19_code) := gg_pb_ok (by decide +kernel)
set_option maxRecDepth 100000 in
theorem gg_o105 : gg_po (gg_d105, prog_1_method_20_code) := gg_pb_ok (by decide +kernel)
set_option maxRecDepth 100000 in
theorem gg_o106 : gg_po (gg_d106, prog_1_method_21_code) := gg_pb_ok (by decide +kernel)
set_option maxRecDepth 100000 in
theorem gg_o107 : gg_po (gg_d107, prog_1_method_22_code) := gg_pb_ok (by decide +kernel)
set_option maxRecDepth 100000 in
theorem gg_o108 : gg_po (gg_d108, prog_1_method_23_code) := gg_pb_ok (by decide +kernel)
set_option maxRecDepth 100000 in
theorem gg_o109 : gg_po (gg_d109, prog_1_method_24_code) := gg_pb_ok (by decide +kernel)
set_option maxRecDepth 100000 in
theorem gg_o110 : gg_po (gg_d110, prog_1_method_25_code) := gg_pb_ok (by decide +kernel)
set_option maxRecDepth 100000 in
theorem gg_o111 : gg_po (gg_d111, prog_1_method_26_code) := gg_pb_ok (by decide +kernel)
set_option maxRecDepth 100000 in
theorem gg_o112 : gg_po (gg_d112, prog_1_method_27_code) := gg_pb_ok (by decide +kernel)
set_option maxRecDepth 100000 in
theorem gg_o113 : gg_po (gg_d113, prog_1_method_28_code) := gg_pb_ok (by decide +kernel)
set_option maxRecDepth 100000 in
theorem gg_o114 : gg_po (gg_d114, prog_1_method_29_code) := gg_pb_ok (by decide +kernel)
set_option maxRecDepth 100000 in
theorem gg_o115 : gg_po (gg_d115, prog_1_method_30_code) := gg_pb_ok (by decide +kernel)
set_option maxRecDepth 100000 in
theorem gg_o116 : gg_po (gg_d116, prog_1_method_31_code) := gg_pb_ok (by decide +kernel)
set_option maxRecDepth 100000 in
theorem gg_o117 : gg_po (gg_d117, prog_1_method_32_code) := gg_pb_ok (by decide +kernel)
set_option maxRecDepth 100000 in
theorem gg_o118 : gg_po (gg_d118, prog_1_method_33_code) := gg_pb_ok (by decide +kernel)
set_option maxRecDepth 100000 in
theorem gg_o119 : gg_po (gg_d119, prog_1_method_34_code) := gg_pb_ok (by decide +kernel)
set_option maxRecDepth 100000 in
theorem gg_o120_0 : gg_po ((gg_d120).take 40, prog_1_method_35_code) := gg_pb_ok (by decide +kernel)
set_option maxRecDepth 100000 in
theorem gg_o120_1 : gg_po ((gg_d120).drop 40, prog_1_method_35_code) := gg_pb_ok (by decide +kernel)
theorem gg_o120 : gg_po (gg_d120, prog_1_method_35_code) := gg_po_cut 40 gg_o120_0 (gg_o120_1)
set_option maxRecDepth 100000 in
theorem gg_o121 : gg_po (gg_d121, prog_1_method_36_code) := gg_pb_ok (by decide +kernel)
set_option maxRecDepth 100000 in
theorem gg_o122 : gg_po (gg_d122, prog_1_method_37_code) := gg_pb_ok (by decide +kernel)
set_option maxRecDepth 100000 in
theorem gg_o123 : gg_po (gg_d123, prog_1_method_38_code) := gg_pb_ok (by decide +kernel)
set_option maxRecDepth 100000 in
theorem gg_o124 : gg_po (gg_d124, prog_1_method_39_code) := gg_pb_ok (by decide +kernel)
set_option maxRecDepth 100000 in
theorem gg_o125 : gg_po (gg_d125, prog_1_method_40_code) := gg_pb_ok (by decide +kernel)
set_option maxRecDepth 100000 in
theorem gg_o126 : gg_po (gg_d126, prog_1_method_41_code) := gg_pb_ok (by decide +kernel)
set_option maxRecDepth 100000 in
theorem gg_o127 : gg_po (gg_d127, prog_1_method_42_code) := gg_pb_ok (by decide +kernel)
set_option maxRecDepth 100000 in
theorem gg_o128 : gg_po (gg_d128, prog_1_method_43_code) := gg_pb_ok (by decide +kernel)
set_option maxRecDepth 100000 in
theorem gg_o129 : gg_po (gg_d129, prog_1_method_44_code) := gg_pb_ok (by decide +kernel)
set_option maxRecDepth 100000 in
theorem gg_o130 : gg_po (gg_d130, prog_1_method_45_code) := gg_pb_ok (by decide +kernel)
set_option maxRecDepth 100000 in
theorem gg_o131 : gg_po (gg_d131, prog_1_method_46_code) := gg_pb_ok (by decide +kernel)
set_option maxRecDepth 100000 in
theorem gg_o132 : gg_po (gg_d132, prog_1_method_47_code) := gg_pb_ok (by decide +kernel)
set_option maxRecDepth 100000 in
theorem gg_o133 : gg_po (gg_d133, prog_1_method_48_code) := gg_pb_ok (by decide +kernel)
set_option maxRecDepth 100000 in
theorem gg_o134 : gg_po (gg_d134, prog_1_method_49_code) := gg_pb_ok (by decide +kernel)
set_option maxRecDepth 100000 in
theorem gg_o135 : gg_po (gg_d135, prog_1_method_50_code) := gg_pb_ok (by decide +kernel)
set_option maxRecDepth 100000 in
theorem gg_o136 : gg_po (gg_d136, prog_1_method_51_code) := gg_pb_ok (by decide +kernel)
set_option maxRecDepth 100000 in
theorem gg_o137 : gg_po (gg_d137, prog_1_method_52_code) := gg_pb_ok (by decide +kernel)
set_option maxRecDepth 100000 in
theorem gg_o138 : gg_po (gg_d138, prog_1_method_53_code) := gg_pb_ok (by decide +kernel)
set_option maxRecDepth 100000 in
theorem gg_o139 : gg_po (gg_d139, prog_1_method_54_code) := gg_pb_ok (by decide +kernel)
set_option maxRecDepth 100000 in
theorem gg_o140 : gg_po (gg_d140, prog_1_method_55_code) := gg_pb_ok (by decide +kernel)
set_option maxRecDepth 100000 in
theorem gg_o141 : gg_po (gg_d141, prog_1_method_56_code) := gg_pb_ok (by decide +kernel)
set_option maxRecDepth 100000 in
theorem gg_o142 : gg_po (gg_d142, prog_1_method_57_code) := gg_pb_ok (by decide +kernel)
set_option maxRecDepth 100000 in
theorem gg_o143 : gg_po (gg_d143, prog_1_method_58_code) := gg_pb_ok (by decide +kernel)
set_option maxRecDepth 100000 in
theorem gg_o144 : gg_po (gg_d144, prog_1_method_59_code) := gg_pb_ok (by decide +kernel)
set_option maxRecDepth 100000 in
theorem gg_o145 : gg_po (gg_d145, prog_1_method_60_code) := gg_pb_ok (by decide +kernel)
set_option maxRecDepth 100000 in
theorem gg_o146 : gg_po (gg_d146, prog_1_method_61_code) := gg_pb_ok (by decide +kernel)
set_option maxRecDepth 100000 in
theorem gg_o147 : gg_po (gg_d147, prog_1_method_62_code) := gg_pb_ok (by decide +kernel)
set_option maxRecDepth 100000 in
theorem gg_o148 : gg_po (gg_d148, prog_1_method_63_code) := gg_pb_ok (by decide +kernel)
set_option maxRecDepth 100000 in
theorem gg_o149 : gg_po (gg_d149, prog_1_method_64_code) := gg_pb_ok (by decide +kernel)
set_option maxRecDepth 100000 in
theorem gg_o150 : gg_po (gg_d150, prog_1_method_65_code) := gg_pb_ok (by decide +kernel)
set_option maxRecDepth 100000 in
theorem gg_o151_0 : gg_po ((gg_d151).take 40, prog_1_method_66_code) := gg_pb_ok (by decide +kernel)
set_option maxRecDepth 100000 in
theorem gg_o151_1 : gg_po ((gg_d151).drop 40, prog_1_method_66_code) := gg_pb_ok (by decide +kernel)
theorem gg_o151 : gg_po (gg_d151, prog_1_method_66_code) := gg_po_cut 40 gg_o151_0 (gg_o151_1)
set_option maxRecDepth 100000 in
theorem gg_o152 : gg_po (gg_d152, prog_1_method_67_code) := gg_pb_ok (by decide +kernel)
set_option maxRecDepth 100000 in
theorem gg_o153 : gg_po (gg_d153, prog_1_method_68_code) := gg_pb_ok (by decide +kernel)
set_option maxRecDepth 100000 in
theorem gg_o154 : gg_po (gg_d154, prog_1_method_69_code) := gg_pb_ok (by decide +kernel)
set_option maxRecDepth 100000 in
theorem gg_o155 : gg_po (gg_d155, prog_1_method_70_code) := gg_pb_ok (by decide +kernel)
set_option maxRecDepth 100000 in
theorem gg_o156 : gg_po (gg_d156, prog_1_method_71_code) := gg_pb_ok (by decide +kernel)
set_option maxRecDepth 100000 in
theorem gg_o157 : gg_po (gg_d157, prog_1_method_72_code) := gg_pb_ok (by decide +kernel)
set_option maxRecDepth 100000 in
theorem gg_o158 : gg_po (gg_d158, prog_1_method_73_code) := gg_pb_ok (by decide +kernel)
set_option maxRecDepth 100000 in
theorem gg_o159 : gg_po (gg_d159, prog_1_method_74_code) := gg_pb_ok (by decide +kernel)
set_option maxRecDepth 100000 in
theorem gg_o160 : gg_po (gg_d160, prog_1_method_75_code) := gg_pb_ok (by decide +kernel)
set_option maxRecDepth 100000 in
theorem gg_o161_0 : gg_po ((gg_d161).take 40, prog_9_method_1_code) := gg_pb_ok (by decide +kernel)
set_option maxRecDepth 100000 in
theorem gg_o161_1 : gg_po ((gg_d161).drop 40, prog_9_method_1_code) := gg_pb_ok (by decide +kernel)
theorem gg_o161 : gg_po (gg_d161, prog_9_method_1_code) := gg_po_cut 40 gg_o161_0 (gg_o161_1)
set_option maxRecDepth 100000 in
theorem gg_o162 : gg_po (gg_d162, prog_9_method_2_code) := gg_pb_ok (by decide +kernel)
set_option maxRecDepth 100000 in
theorem gg_o163 : gg_po (gg_d163, prog_9_method_3_code) := gg_pb_ok (by decide +kernel)
set_option maxRecDepth 100000 in
theorem gg_o164 : gg_po (gg_d164, prog_9_method_4_code) := gg_pb_ok (by decide +kernel)
set_option maxRecDepth 100000 in
theorem gg_o165 : gg_po (gg_d165, prog_9_method_5_code) := gg_pb_ok (by decide +kernel)
set_option maxRecDepth 100000 in
theorem gg_o166 : gg_po (gg_d166, prog_9_method_6_code) := gg_pb_ok (by decide +kernel)
set_option maxRecDepth 100000 in
theorem gg_o167 : gg_po (gg_d167, prog_9_method_7_code) := gg_pb_ok (by decide +kernel)
set_option maxRecDepth 100000 in
theorem gg_o168 : gg_po (gg_d168, prog_9_method_8_code) := gg_pb_ok (by decide +kernel)
set_option maxRecDepth 100000 in
theorem gg_o169 : gg_po (gg_d169, prog_9_method_9_code) := gg_pb_ok (by decide +kernel)
set_option maxRecDepth 100000 in
theorem gg_o170 : gg_po (gg_d170, prog_9_method_10_code) := gg_pb_ok (by decide +kernel)
set_option maxRecDepth 100000 in
theorem gg_o171 : gg_po (gg_d171, prog_9_method_11_code) := gg_pb_ok (by decide +kernel)
set_option maxRecDepth 100000 in
theorem gg_o172 : gg_po (gg_d172, prog_9_method_12_code) := gg_pb_ok (by decide +kernel)
set_option maxRecDepth 100000 in
theorem gg_o173 : gg_po (gg_d173, prog_9_method_13_code) := gg_pb_ok (by decide +kernel)
set_option maxRecDepth 100000 in
theorem gg_o174 : gg_po (gg_d174, prog_9_method_14_code) := gg_pb_ok (by decide +kernel)
set_option maxRecDepth 100000 in
theorem gg_o175 : gg_po (gg_d175, prog_9_method_15_code) := gg_pb_ok (by decide +kernel)
set_option maxRecDepth 100000 in
theorem gg_o176_0 : gg_po ((gg_d176).take 40, prog_9_method_16_code) := gg_pb_ok (by decide +kernel)
set_option maxRecDepth 100000 in
theorem gg_o176_1 : gg_po ((gg_d176).drop 40, prog_9_method_16_code) := gg_pb_ok (by decide +kernel)
theorem gg_o176 : gg_po (gg_d176, prog_9_method_16_code) := gg_po_cut 40 gg_o176_0 (gg_o176_1)
set_option maxRecDepth 100000 in
theorem gg_o177 : gg_po (gg_d177, prog_9_method_17_code) := gg_pb_ok (by decide +kernel)
set_option maxRecDepth 100000 in
theorem gg_o178 : gg_po (gg_d178, prog_9_method_18_code) := gg_pb_ok (by decide +kernel)
set_option maxRecDepth 100000 in
theorem gg_o179 : gg_po (gg_d179, prog_9_method_19_code) := gg_pb_ok (by decide +kernel)
set_option maxRecDepth 100000 in
theorem gg_o180 : gg_po (gg_d180, prog_9_method_20_code) := gg_pb_ok (by decide +kernel)
set_option maxRecDepth 100000 in
theorem gg_o181 : gg_po (gg_d181, prog_9_method_21_code) := gg_pb_ok (by decide +kernel)
set_option maxRecDepth 100000 in
theorem gg_o182_0 : gg_po ((gg_d182).take 40, prog_9_method_22_code) := gg_pb_ok (by decide +kernel)
set_option maxRecDepth 100000 in
theorem gg_o182_1 : gg_po ((gg_d182).drop 40, prog_9_method_22_code) := gg_pb_ok (by decide +kernel)
theorem gg_o182 : gg_po (gg_d182, prog_9_method_22_code) := gg_po_cut 40 gg_o182_0 (gg_o182_1)
set_option maxRecDepth 100000 in
theorem gg_o183 : gg_po (gg_d183, prog_9_method_23_code) := gg_pb_ok (by decide +kernel)
set_option maxRecDepth 100000 in
theorem gg_o184_0 : gg_po ((gg_d184).take 40, prog_9_method_24_code) := gg_pb_ok (by decide +kernel)
set_option maxRecDepth 100000 in
theorem gg_o184_1 : gg_po (((gg_d184).drop 40).take 40, prog_9_method_24_code) := gg_pb_ok (by decide +kernel)
set_option maxRecDepth 100000 in
theorem gg_o184_2 : gg_po (((gg_d184).drop 40).drop 40, prog_9_method_24_code) := gg_pb_ok (by decide +kernel)
theorem gg_o184 : gg_po (gg_d184, prog_9_method_24_code) := gg_po_cut 40 gg_o184_0 (gg_po_cut 40 gg_o184_1 (gg_o184_2))
set_option maxRecDepth 100000 in
theorem gg_o185 : gg_po (gg_d185, prog_9_method_25_code) := gg_pb_ok (by decide +kernel)
set_option maxRecDepth 100000 in
theorem gg_o186 : gg_po (gg_d186, prog_9_method_26_code) := gg_pb_ok (by decide +kernel)
set_option maxRecDepth 100000 in
theorem gg_o187 : gg_po (gg_d187, prog_9_method_27_code) := gg_pb_ok (by decide +kernel)
set_option maxRecDepth 100000 in
theorem gg_o188_0 : gg_po ((gg_d188).take 40, prog_9_method_28_code) := gg_pb_ok (by decide +kernel)
set_option maxRecDepth 100000 in
theorem gg_o188_1 : gg_po ((gg_d188).drop 40, prog_9_method_28_code) := gg_pb_ok (by decide +kernel)
theorem gg_o188 : gg_po (gg_d188, prog_9_method_28_code) := gg_po_cut 40 gg_o188_0 (gg_o188_1)
set_option maxRecDepth 100000 in
theorem gg_o189 : gg_po (gg_d189, prog_9_method_29_code) := gg_pb_ok (by decide +kernel)
set_option maxRecDepth 100000 in
theorem gg_o190 : gg_po (gg_d190, prog_9_method_30_code) := gg_pb_ok (by decide +kernel)
set_option maxRecDepth 100000 in
theorem gg_o191 : gg_po (gg_d191, prog_9_method_31_code) := gg_pb_ok (by decide +kernel)
