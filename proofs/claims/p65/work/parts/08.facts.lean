/-! what the tables say, checked by program -/
def gg_tb (j : Nat) : List Cond := match j with
  | 0 => k2_sels lw_privs
  | 1 => tables_1_1
  | 2 => tables_1_2
  | 3 => tables_1_3
  | 4 => tables_1_4
  | 5 => tables_1_5
  | _ => tables_1_6
theorem gg_tb_in {j : Nat} {w : Cond} (h : w ∈ gg_tb j) : w ∈ lw_tbl := by
  show w ∈ k2_sels lw_privs ++ tables_1
  unfold tables_1
  simp only [List.mem_append]
  match j, h with
  | 0, h => exact Or.inl h
  | 1, h => exact Or.inr (Or.inl h)
  | 2, h => exact Or.inr (Or.inr (Or.inl h))
  | 3, h => exact Or.inr (Or.inr (Or.inr (Or.inl h)))
  | 4, h => exact Or.inr (Or.inr (Or.inr (Or.inr (Or.inl h))))
  | 5, h => exact Or.inr (Or.inr (Or.inr (Or.inr (Or.inr (Or.inl h)))))
  | n + 6, h => exact Or.inr (Or.inr (Or.inr (Or.inr (Or.inr (Or.inr h)))))
def gg_bnd : List Nat := [25, 240, 240, 240, 240, 240, 221]
/-- a place in lw_tbl, as a list's number and a place there -/
def gg_spl : Nat → Nat → List Nat → Nat × Nat
  | j, pos, [] => (j, pos)
  | j, pos, n :: r => if pos < n then (j, pos) else gg_spl (j + 1) (pos - n) r
def gg_at (pos : Nat) (w : Cond) : Bool := decide ((gg_tb (gg_spl 0 pos gg_bnd).1)[(gg_spl 0 pos gg_bnd).2]? = some w) && goodWord w
theorem gg_at_in {pos : Nat} {w : Cond} (h : gg_at pos w = true) : w ∈ gg_gw := by
  unfold gg_at at h
  rw [Bool.and_eq_true, decide_eq_true_eq] at h
  exact gg_gw_tb (gg_tb_in (List.mem_of_getElem? h.1)) h.2
def gg_cln (c : Nat) : String × u_T × Nat := gg_cl.getD c ("", TX0, 0)
def gg_tyn (c : Nat) : Nat → FieldType := [tyX0, tyX1, tyX2, tyX3, tyX4, tyX5, tyX6, tyX7, tyX0, tyX9, tyX0, tyX0, tyX0, tyX0, tyX14, tyX15, tyX16, tyX17].getD c tyX0
def gg_ckf (e : Nat × Nat × Nat × Nat × Nat × Nat) : Bool := match e with
  | (o, i, c, k, t, pos) => gy_ob c && decide (k < (gg_cln c).2.2) && gg_at pos (.fieldLink (gg_c o) i ((gg_cln c).2.1 k).1 ((gg_cln c).2.1 k).2.1 ((gg_cln c).2.1 k).2.2.1) && decide (gg_ft c k = t) && decide (((gg_cln c).2.1 k).2.2.2 = (t == 2 || t == 5)) && decide (t = 2 ∨ t = 5 → ((gg_cln c).2.1 k).1 = gg_c c)
set_option maxRecDepth 100000 in
theorem gg_ckf_all : gg_lfs.all gg_ckf = true := by decide +kernel
theorem gg_lf_ok {o i c k t : Nat} (h : gg_lf o i = some (c, k, t)) : gy_ob c = true ∧ k < (gg_cln c).2.2 ∧ Cond.fieldLink (gg_c o) i ((gg_cln c).2.1 k).1 ((gg_cln c).2.1 k).2.1 ((gg_cln c).2.1 k).2.2.1 ∈ gg_gw ∧ gg_ft c k = t ∧ ((gg_cln c).2.1 k).2.2.2 = (t == 2 || t == 5) ∧ (t = 2 ∨ t = 5 → ((gg_cln c).2.1 k).1 = gg_c c) := by
  unfold gg_lf at h
  cases hf : gg_lfs.find? (fun e => e.1 == o && e.2.1 == i) with
  | none => rw [hf] at h; cases h
  | some e =>
    rw [hf] at h
    obtain ⟨o', i', c', k', t', pos⟩ := e
    have h1 := List.find?_some hf
    simp only [Bool.and_eq_true, beq_iff_eq] at h1
    obtain ⟨rfl, rfl⟩ := h1
    cases h
    have h2 := List.all_eq_true.mp gg_ckf_all _ (List.mem_of_find?_eq_some hf)
    simp only [gg_ckf, Bool.and_eq_true, decide_eq_true_eq] at h2
    obtain ⟨⟨⟨⟨⟨a1, a2⟩, a3⟩, a4⟩, a5⟩, a6⟩ := h2
    exact ⟨a1, a2, gg_at_in a3, a4, a5, a6⟩
def gg_mps : List (Nat × Nat × Nat) := [(70, 69, 0), (75, 73, 74), (458, 456, 457), (306, 304, 305), (1204, 1202, 1203), (1160, 1158, 1159), (1181, 1179, 1180), (0, 0, 0), (0, 0, 0), (392, 390, 391), (396, 394, 395), (653, 651, 652), (1212, 1210, 1211), (1229, 1227, 1228), (1200, 1198, 1199), (1244, 1242, 1243), (1249, 1248, 0), (1152, 1150, 1151), (1073, 1071, 1072), (1069, 1067, 1068), (1177, 1175, 1176), (1156, 1154, 1155), (1065, 1063, 1064), (79, 77, 78), (947, 945, 946), (1172, 1170, 1171), (1186, 1185, 0), (141, 140, 0), (1129, 1127, 1128), (454, 452, 453), (203, 202, 0), (384, 382, 383), (421, 419, 420), (0, 0, 0), (0, 0, 0), (0, 0, 0), (388, 386, 387), (161, 160, 0), (590, 588, 589), (599, 597, 598), (603, 602, 3), (644, 643, 12), (649, 648, 13), (658, 657, 14), (607, 606, 4), (630, 629, 9), (624, 623, 8), (611, 610, 5), (634, 633, 10), (615, 614, 6), (638, 637, 11), (619, 618, 7), (252, 251, 0), (0, 0, 0), (0, 0, 0), (0, 0, 0), (0, 0, 0), (0, 0, 0), (0, 0, 0), (0, 0, 0), (197, 196, 0), (463, 461, 462), (380, 378, 379), (414, 413, 2), (417, 416, 0), (0, 0, 0), (0, 0, 0), (376, 374, 375), (429, 427, 428), (1287, 1285, 1286), (0, 0, 0), (0, 0, 0), (0, 0, 0), (0, 0, 0), (0, 0, 0), (0, 0, 0), (0, 0, 0), (0, 0, 0), (410, 408, 409), (0, 0, 0), (443, 441, 442), (446, 445, 0), (0, 0, 0), (0, 0, 0), (0, 0, 0), (0, 0, 0), (62, 61, 0), (586, 584, 585), (595, 593, 594), (290, 288, 289), (294, 292, 293), (942, 940, 941), (1011, 1009, 1010), (0, 0, 0), (1006, 1004, 1005), (0, 0, 0), (0, 0, 0), (0, 0, 0), (0, 0, 0), (0, 0, 0), (0, 0, 0), (298, 296, 297), (0, 0, 0), (0, 0, 0), (0, 0, 0), (0, 0, 0), (0, 0, 0), (0, 0, 0), (0, 0, 0), (406, 404, 405), (0, 0, 0), (439, 437, 438), (0, 0, 0), (0, 0, 0), (0, 0, 0), (0, 0, 0), (0, 0, 0), (0, 0, 0), (0, 0, 0), (0, 0, 0), (0, 0, 0), (1291, 1289, 1290), (1049, 1047, 1048), (0, 0, 0), (0, 0, 0), (1061, 1059, 1060), (0, 0, 0), (1144, 1142, 1143), (1164, 1162, 1163), (1168, 1166, 1167), (0, 0, 0), (0, 0, 0), (0, 0, 0), (0, 0, 0), (0, 0, 0), (1117, 1115, 1116), (1260, 1258, 1259), (1208, 1206, 1207), (1216, 1214, 1215), (1220, 1218, 1219), (1225, 1223, 1224), (1196, 1194, 1195), (1239, 1237, 1238), (1256, 1254, 1255), (1283, 1281, 1282), (1057, 1055, 1056), (450, 448, 449), (0, 0, 0), (0, 0, 0), (663, 662, 15), (1125, 1124, 23), (0, 0, 0), (1053, 1052, 20), (1015, 1014, 19), (0, 0, 0), (302, 301, 0), (1121, 1120, 22), (1148, 1147, 24), (1294, 1293, 0), (309, 308, 0), (0, 0, 0), (0, 0, 0), (0, 0, 0), (0, 0, 0), (0, 0, 0), (0, 0, 0), (0, 0, 0), (0, 0, 0), (0, 0, 0), (0, 0, 0), (0, 0, 0), (0, 0, 0), (0, 0, 0), (0, 0, 0), (0, 0, 0), (0, 0, 0), (0, 0, 0), (0, 0, 0), (0, 0, 0), (0, 0, 0), (0, 0, 0), (0, 0, 0), (0, 0, 0), (0, 0, 0), (0, 0, 0), (0, 0, 0), (0, 0, 0), (0, 0, 0), (0, 0, 0), (0, 0, 0), (0, 0, 0), (0, 0, 0), (0, 0, 0), (0, 0, 0), (0, 0, 0), (0, 0, 0), (0, 0, 0), (0, 0, 0), (0, 0, 0), (0, 0, 0), (0, 0, 0), (0, 0, 0), (0, 0, 0), (0, 0, 0), (0, 0, 0), (0, 0, 0), (0, 0, 0), (0, 0, 0), (0, 0, 0), (0, 0, 0), (0, 0, 0), (0, 0, 0), (0, 0, 0), (0, 0, 0), (0, 0, 0), (0, 0, 0), (0, 0, 0), (0, 0, 0), (0, 0, 0), (0, 0, 0), (0, 0, 0), (0, 0, 0), (0, 0, 0), (0, 0, 0), (0, 0, 0), (0, 0, 0), (0, 0, 0), (0, 0, 0), (0, 0, 0), (0, 0, 0), (0, 0, 0), (0, 0, 0), (0, 0, 0), (0, 0, 0), (0, 0, 0), (0, 0, 0), (0, 0, 0), (0, 0, 0), (0, 0, 0), (0, 0, 0), (0, 0, 0), (0, 0, 0), (0, 0, 0), (0, 0, 0), (0, 0, 0), (0, 0, 0), (0, 0, 0), (0, 0, 0), (0, 0, 0), (0, 0, 0), (0, 0, 0), (0, 0, 0), (0, 0, 0), (0, 0, 0), (0, 0, 0), (0, 0, 0), (0, 0, 0), (0, 0, 0), (0, 0, 0), (0, 0, 0), (0, 0, 0), (0, 0, 0), (0, 0, 0), (0, 0, 0), (0, 0, 0), (0, 0, 0), (0, 0, 0), (0, 0, 0), (0, 0, 0), (0, 0, 0), (0, 0, 0), (0, 0, 0), (0, 0, 0), (0, 0, 0), (0, 0, 0), (0, 0, 0), (0, 0, 0), (0, 0, 0), (0, 0, 0), (0, 0, 0), (0, 0, 0), (0, 0, 0), (0, 0, 0), (0, 0, 0), (0, 0, 0), (0, 0, 0), (0, 0, 0), (0, 0, 0), (0, 0, 0), (0, 0, 0), (0, 0, 0), (0, 0, 0), (0, 0, 0), (0, 0, 0), (0, 0, 0), (0, 0, 0), (0, 0, 0), (0, 0, 0), (0, 0, 0), (0, 0, 0), (0, 0, 0), (0, 0, 0), (0, 0, 0), (0, 0, 0), (0, 0, 0), (0, 0, 0), (0, 0, 0), (0, 0, 0), (0, 0, 0), (0, 0, 0), (0, 0, 0), (0, 0, 0), (0, 0, 0), (0, 0, 0), (0, 0, 0), (0, 0, 0), (0, 0, 0), (0, 0, 0), (0, 0, 0), (0, 0, 0), (0, 0, 0), (0, 0, 0), (0, 0, 0), (0, 0, 0), (0, 0, 0), (0, 0, 0), (0, 0, 0), (0, 0, 0), (0, 0, 0), (0, 0, 0), (0, 0, 0), (0, 0, 0), (0, 0, 0), (0, 0, 0), (0, 0, 0), (538, 536, 537), (548, 546, 547), (542, 540, 541), (552, 550, 551), (558, 557, 0), (555, 554, 0), (563, 562, 0), (432, 431, 0), (0, 0, 0), (814, 813, 0), (1077, 1076, 0), (530, 529, 0), (666, 665, 0), (1298, 1297, 0), (1306, 1305, 0), (1303, 1302, 0), (915, 914, 0), (534, 533, 0), (1339, 1338, 0), (1336, 1335, 0), (769, 767, 768), (806, 805, 0), (784, 783, 0), (1002, 1000, 1001), (781, 780, 0), (895, 894, 0), (468, 467, 0), (1272, 1270, 1271), (1135, 1133, 1134), (1041, 1039, 1040), (1264, 1262, 1263), (527, 525, 526), (1233, 1231, 1232), (1090, 1088, 1089), (1252, 1251, 0), (919, 917, 918), (951, 949, 950), (1276, 1274, 1275), (1268, 1266, 1267), (1045, 1043, 1044), (1190, 1188, 1189), (474, 473, 0), (846, 844, 845), (850, 849, 16), (1098, 1096, 1097), (935, 933, 934), (1085, 1084, 21), (927, 925, 926), (854, 853, 17), (858, 857, 18), (955, 953, 954), (1081, 1079, 1080), (1140, 1138, 1139), (923, 921, 922), (1108, 1106, 0), (960, 959, 0), (997, 995, 996), (984, 982, 0), (993, 991, 0), (1311, 1310, 0), (800, 798, 799), (775, 773, 774), (671, 669, 670), (1351, 1350, 0), (1331, 1329, 1330), (1314, 1313, 0), (803, 802, 0), (778, 777, 0), (675, 674, 0), (683, 682, 0), (1345, 1342, 0), (738, 737, 0), (713, 710, 0), (1353, 1347, 0), (687, 686, 0), (734, 733, 0), (1363, 1362, 0), (699, 698, 0), (862, 861, 0), (885, 884, 0), (1357, 1356, 0), (1360, 1359, 0), (690, 689, 0), (930, 929, 0), (477, 476, 0), (480, 479, 0)]
def gg_ips : List Nat := [27, 28, 31, 29, 32, 30, 26, 57, 25, 54, 56, 45, 38, 0, 33, 36, 50, 53, 52, 42, 40, 44, 35, 34]
def gg_ins : List Nat := [67, 138, 200, 158, 249, 194, 59, 811, 0, 1333, 0, 0, 0, 0, 465, 471, 957, 1308]
def gg_lys : List (List Nat) := [[113, 115, 117, 119, 121, 123, 125, 127, 129, 131, 133], [150, 152, 154], [212, 214, 216, 218, 220], [175, 177, 179, 181, 183, 185, 187, 189], [255, 257, 259], [231, 233, 235, 237, 239, 241, 243], [270, 272, 274, 276, 278, 280, 282, 284], [830, 832, 834, 836, 838], [], [1395, 1397, 1399, 1401], [], [], [], [], [511, 513, 515, 517, 519, 521], [496, 492, 494], [966, 968, 970, 972], [1320, 1322, 1324, 1326]]
theorem gg_cl_at {c : Nat} (h : gy_ob c = true) : gg_cl[c]? = some (gg_cln c) := by
  have h2 : c < 18 := by
    unfold gy_ob at h
    rw [Bool.and_eq_true, decide_eq_true_eq] at h
    exact h.1
  have key : ((List.range 18).all fun c => decide (c < gg_cl.length)) = true := by decide
  have h3 := of_decide_eq_true (List.all_eq_true.mp key c (List.mem_range.mpr h2))
  unfold gg_cln
  rw [List.getD_eq_getElem?_getD, List.getElem?_eq_getElem h3]
  rfl
def gg_ckc (c : Nat) : Bool := decide ((gg_cln c).1 = gg_c c) && decide (gg_nf c = (gg_cln c).2.2) && gg_at (gg_ips.getD c 0) (.initialized (gg_c c)) && gg_at (gg_ins.getD c 0) (.instantiable (gg_c c) (gg_cln c).2.2) &&
  (List.range (gg_cln c).2.2).all (fun k => gg_at ((gg_lys.getD c []).getD k 0) (u_lay (gg_cln c).1 (gg_cln c).2.1 k)) &&
  (List.range (gg_cln c).2.2).all (fun k => decide (parseFieldDescriptor ((gg_cln c).2.1 k).2.2.1 = some (gg_tyn c k)) && decide ((gg_ft c k = 0 ∧ gg_tyn c k = .int) ∨ (gg_ft c k = 1 ∧ gg_tyn c k = .boolean) ∨ ((gg_ft c k = 2 ∨ gg_ft c k = 4) ∧ fits (gg_tyn c k) (.ref 0) = true ∧ defaultValue (gg_tyn c k) = .null) ∨ ((gg_ft c k = 3 ∨ gg_ft c k = 5) ∧ gg_tyn c k = .byte)) && (List.range (gg_cln c).2.2).all (fun j => decide (k = j ∨ ((gg_cln c).2.1 k).2.1 ≠ ((gg_cln c).2.1 j).2.1)))
set_option maxRecDepth 100000 in
theorem gg_ckc_all : (List.range 18).all (fun c => !gy_ob c || gg_ckc c) = true := by decide +kernel
def gg_cfacts (c : Nat) : Prop := (gg_cln c).1 = gg_c c ∧ gg_nf c = (gg_cln c).2.2 ∧ Cond.initialized (gg_c c) ∈ gg_gw ∧ Cond.instantiable (gg_c c) (gg_cln c).2.2 ∈ gg_gw ∧ (∀ w ∈ u_ws (gg_cln c).1 (gg_cln c).2.1 (gg_cln c).2.2, w ∈ gg_gw) ∧ (∀ k, k < (gg_cln c).2.2 → parseFieldDescriptor ((gg_cln c).2.1 k).2.2.1 = some (gg_tyn c k)) ∧
  (∀ k, k < (gg_cln c).2.2 → (gg_ft c k = 0 ∧ gg_tyn c k = .int) ∨ (gg_ft c k = 1 ∧ gg_tyn c k = .boolean) ∨ ((gg_ft c k = 2 ∨ gg_ft c k = 4) ∧ fits (gg_tyn c k) (.ref 0) = true ∧ defaultValue (gg_tyn c k) = .null) ∨ ((gg_ft c k = 3 ∨ gg_ft c k = 5) ∧ gg_tyn c k = .byte)) ∧ (∀ a, a < (gg_cln c).2.2 → ∀ b, b < (gg_cln c).2.2 → a ≠ b → ((gg_cln c).2.1 a).2.1 ≠ ((gg_cln c).2.1 b).2.1)
theorem gg_cf {c : Nat} (h : gy_ob c = true) : gg_cfacts c := by
  have h0 : c < 18 := by
    unfold gy_ob at h
    rw [Bool.and_eq_true, decide_eq_true_eq] at h
    exact h.1
  have h2 := List.all_eq_true.mp gg_ckc_all c (List.mem_range.mpr h0)
  rw [h] at h2
  simp only [Bool.not_true, Bool.false_or, gg_ckc, Bool.and_eq_true, decide_eq_true_eq, List.all_eq_true, List.mem_range] at h2
  obtain ⟨⟨⟨⟨⟨a1, a2⟩, a3⟩, a4⟩, a5⟩, a6⟩ := h2
  refine ⟨a1, a2, gg_at_in a3, gg_at_in a4, fun w hw => ?_, fun k hk => (a6 k hk).1.1, fun k hk => (a6 k hk).1.2, fun a ha b hb hne => ((a6 a ha).2 b hb).resolve_left hne⟩
  obtain ⟨k, hk, rfl⟩ := List.mem_map.mp hw
  exact gg_at_in (a5 k (List.mem_range.mp hk))
/-- the name of a class by its code in the tables -/
def gy_cn (c : Nat) : String := if c = 24 then "java/lang/Object" else if c = 100 then "java/lang/IllegalArgumentException" else if c = 101 then "java/lang/IndexOutOfBoundsException" else if c = 110 then "[B" else if c = 111 then "[Ljava/lang/Object;" else if c = 112 then "[I" else if c = 113 then "[[I" else gg_c c
def gg_cke (e : Nat × Nat × Nat × Nat) : Bool := match e with
  | (o, i, c, pos) => gg_at pos (.classLink (gg_c o) i (gy_cn c))
set_option maxRecDepth 100000 in
theorem gg_cke_all : gg_lcs.all gg_cke = true := by decide +kernel
theorem gg_lc_ok {o i c : Nat} (h : gg_lc o i = some c) : Cond.classLink (gg_c o) i (gy_cn c) ∈ gg_gw := by
  unfold gg_lc at h
  cases hf : gg_lcs.find? (fun e => e.1 == o && e.2.1 == i) with
  | none => rw [hf] at h; cases h
  | some e =>
    rw [hf] at h
    obtain ⟨o', i', c', pos⟩ := e
    have h1 := List.find?_some hf
    simp only [Bool.and_eq_true, beq_iff_eq] at h1
    obtain ⟨rfl, rfl⟩ := h1
    cases h
    exact gg_at_in (List.all_eq_true.mp gg_cke_all _ (List.mem_of_find?_eq_some hf))
def gg_ckk (e : Nat × Nat × Int × Nat) : Bool := match e with
  | (o, i, v, pos) => gg_at pos (.constant (gg_c o) i (gg_i v))
set_option maxRecDepth 100000 in
theorem gg_ckk_all : gg_lks.all gg_ckk = true := by decide +kernel
theorem gg_lk_ok {o i : Nat} {v : Int} (h : gg_lk o i = some v) : Cond.constant (gg_c o) i (gg_i v) ∈ gg_gw := by
  unfold gg_lk at h
  cases hf : gg_lks.find? (fun e => e.1 == o && e.2.1 == i) with
  | none => rw [hf] at h; cases h
  | some e =>
    rw [hf] at h
    obtain ⟨o', i', c', pos⟩ := e
    have h1 := List.find?_some hf
    simp only [Bool.and_eq_true, beq_iff_eq] at h1
    obtain ⟨rfl, rfl⟩ := h1
    cases h
    exact gg_at_in (List.all_eq_true.mp gg_ckk_all _ (List.mem_of_find?_eq_some hf))
def gg_ckL (e : Nat × Nat × Int × Nat) : Bool := match e with
  | (o, i, v, pos) => gg_at pos (.constantLong (gg_c o) i (gg_l v))
set_option maxRecDepth 100000 in
theorem gg_ckL_all : gg_lls.all gg_ckL = true := by decide +kernel
theorem gg_ll_ok {o i : Nat} {v : Int} (h : gg_ll o i = some v) : Cond.constantLong (gg_c o) i (gg_l v) ∈ gg_gw := by
  unfold gg_ll at h
  cases hf : gg_lls.find? (fun e => e.1 == o && e.2.1 == i) with
  | none => rw [hf] at h; cases h
  | some e =>
    rw [hf] at h
    obtain ⟨o', i', c', pos⟩ := e
    have h1 := List.find?_some hf
    simp only [Bool.and_eq_true, beq_iff_eq] at h1
    obtain ⟨rfl, rfl⟩ := h1
    cases h
    exact gg_at_in (List.all_eq_true.mp gg_ckL_all _ (List.mem_of_find?_eq_some hf))
theorem gg_ls_ok {o i t : Nat} (h : gg_ls o i = some t) : ∃ pos, (o, i, t, pos) ∈ gg_lss := by
  unfold gg_ls at h
  cases hf : gg_lss.find? (fun e => e.1 == o && e.2.1 == i) with
  | none => rw [hf] at h; cases h
  | some e =>
    rw [hf] at h
    obtain ⟨o', i', c', pos⟩ := e
    have h1 := List.find?_some hf
    simp only [Bool.and_eq_true, beq_iff_eq] at h1
    obtain ⟨rfl, rfl⟩ := h1
    cases h
    exact ⟨pos, List.mem_of_find?_eq_some hf⟩
/-- methods that no row of the tables selects for their own class -/
abbrev gy_nos (c y : Nat) : Prop := c = 18 ∨ y = 389 ∨ y = 392 ∨ y = 393 ∨ y = 398
/-- the word of a method's code -/
def gg_wd (y : Nat) : Cond := if gg_hd y = [] then .code (gg_nm y) (gg_bt y) (gg_mt y).2.2.1 (gg_rt y) else .codeWith (gg_nm y) (gg_bt y) (gg_mt y).2.2.1 (gg_rt y) ((gg_hd y).map fun h => (h.1, h.2.1, h.2.2.1, h.2.2.2.2))
def gg_rok (rk : Nat) (r : Option FieldType) : Bool := match rk, r with
  | 0, none => true
  | 1, some .int => true
  | 2, some .boolean => true
  | 3, some .long => true
  | 4, some (.object _) => true
  | 4, some (.array _) => true
  | 5, some .char => true
  | 6, some .byte => true
  | _, _ => false
/-- long methods: their word is found otherwise -/
def gy_big (y : Nat) : Bool := decide (y = 345 ∨ y = 347 ∨ y = 351 ∨ y = 372)
def gg_ckm (y : Nat) : Bool := match gg_mt y, gg_mps.getD y (0, 0, 0) with
  | (c, kd, ml, tg, rk), (p1, p2, p3) => (gy_big y || gg_at p1 (gg_wd y)) && decide ((gg_nm y).cls = gg_c c) && decide (plainName (gg_c c) = true) && decide (gg_c c ≠ "java/lang/invoke/MethodHandle" ∧ gg_c c ≠ "java/lang/invoke/VarHandle") &&
    gg_at (gg_ips.getD c 0) (.initialized (gg_c c)) && gg_rok rk (gg_rt y) && decide (ml ≤ 30) && decide ((parseMethodDescriptor (gg_nm y).desc).map (fun d => d.parameters.length) = some (if kd = 1 then tg.length else tg.length - 1)) &&
    (if kd = 1 then gg_at p2 (.static (gg_nm y)) else gg_at p2 (.instanceMethod (gg_nm y)) && decide (1 ≤ tg.length)) && (if kd = 0 then decide (gy_nos c y) || gg_at p3 (.selects (gg_c c) (gg_nm y) (gg_nm y)) else true) && (if kd = 2 then decide ((gg_nm y).name = "<init>" ∧ rk = 0) else true) && decide (kd ≤ 2) && decide (kd = 1 ∨ gg_hd y = [])
def gg_ckr (a n : Nat) : Bool := (List.range n).all fun i => decide (a + i = 287) || decide ((gg_mt (a + i)).1 = 99) || gg_ckm (a + i)
