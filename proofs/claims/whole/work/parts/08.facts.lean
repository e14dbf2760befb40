/-! what the tables say, checked by program -/
def gg_tb (j : Nat) : List Cond := match j with
  | 0 => k2_sels lw_privs
  | 1 => tables_1_1
  | 2 => tables_1_2
  | 3 => tables_1_3
  | 4 => tables_1_4
  | 5 => tables_1_5
  | 6 => tables_1_6
  | 7 => tables_1_7
  | _ => tables_1_8
theorem gg_tb_in {j : Nat} {w : Cond} (h : w ∈ gg_tb j) : w ∈ lw_tbl := by
  show w ∈ k2_sels lw_privs ++ tables_1
  unfold tables_1
  simp only [List.mem_append]
  match j, h with
  | 0, h => exact Or.inl h
  | 1, h => exact Or.inr (Or.inl h)
  | 2, h => exact Or.inr (Or.inr (Or.inl h))
  | 3, h => exact Or.inr (Or.inr (Or.inr (Or.inl h)))
  | 4, h => exact Or.inr (Or.inr (Or.inr (Or.inr (Or.inl h))))
  | 5, h => exact Or.inr (Or.inr (Or.inr (Or.inr (Or.inr (Or.inl h)))))
  | 6, h => exact Or.inr (Or.inr (Or.inr (Or.inr (Or.inr (Or.inr (Or.inl h))))))
  | 7, h => exact Or.inr (Or.inr (Or.inr (Or.inr (Or.inr (Or.inr (Or.inr (Or.inl h)))))))
  | n + 8, h => exact Or.inr (Or.inr (Or.inr (Or.inr (Or.inr (Or.inr (Or.inr (Or.inr h)))))))
def gg_bnd : List Nat := [81, 240, 240, 240, 240, 240, 240, 240, 111]
/-- a place in lw_tbl, as a list's number and a place there -/
def gg_spl : Nat → Nat → List Nat → Nat × Nat
  | j, pos, [] => (j, pos)
  | j, pos, n :: r => if pos < n then (j, pos) else gg_spl (j + 1) (pos - n) r
def gg_at (pos : Nat) (w : Cond) : Bool := decide ((gg_tb (gg_spl 0 pos gg_bnd).1)[(gg_spl 0 pos gg_bnd).2]? = some w) && goodWord w
theorem gg_at_in {pos : Nat} {w : Cond} (h : gg_at pos w = true) : w ∈ gg_gw := by
  unfold gg_at at h
  rw [Bool.and_eq_true, decide_eq_true_eq] at h
  exact List.mem_filter.mpr ⟨gg_tb_in (List.mem_of_getElem? h.1), h.2⟩
def gg_cln (c : Nat) : String × u_T × Nat := gg_cl.getD c ("", TX0, 0)
def gg_tyn (c : Nat) : Nat → FieldType := [tyX0, tyX1, tyX2, tyX3, tyX4, tyX5, tyX6, tyX7].getD c tyX0
def gg_ckf (e : Nat × Nat × Nat × Nat × Nat × Nat) : Bool := match e with
  | (o, i, c, k, t, pos) => decide (c < 8) && decide (k < (gg_cln c).2.2) && gg_at pos (.fieldLink (gg_c o) i ((gg_cln c).2.1 k).1 ((gg_cln c).2.1 k).2.1 ((gg_cln c).2.1 k).2.2.1) && decide (gg_ft c k = t) && decide (((gg_cln c).2.1 k).2.2.2 = (t == 2)) && decide (((gg_cln c).2.1 k).1 = gg_c c)
set_option maxRecDepth 100000 in
theorem gg_ckf_all : gg_lfs.all gg_ckf = true := by decide +kernel
theorem gg_lf_ok {o i c k t : Nat} (h : gg_lf o i = some (c, k, t)) : c < 8 ∧ k < (gg_cln c).2.2 ∧ Cond.fieldLink (gg_c o) i ((gg_cln c).2.1 k).1 ((gg_cln c).2.1 k).2.1 ((gg_cln c).2.1 k).2.2.1 ∈ gg_gw ∧ gg_ft c k = t ∧ ((gg_cln c).2.1 k).2.2.2 = (t == 2) ∧ ((gg_cln c).2.1 k).1 = gg_c c := by
  unfold gg_lf at h
  cases hf : gg_lfs.find? (fun e => e.1 == o && e.2.1 == i) with
  | none => rw [hf] at h; cases h
  | some e =>
    rw [hf] at h
    obtain ⟨o', i', c', k', t', pos⟩ := e
    have h1 := List.find?_some hf
    simp only [Bool.and_eq_true, beq_iff_eq] at h1
    obtain ⟨rfl, rfl⟩ := h1
    cases h
    have h2 := List.all_eq_true.mp gg_ckf_all _ (List.mem_of_find?_eq_some hf)
    simp only [gg_ckf, Bool.and_eq_true, decide_eq_true_eq] at h2
    obtain ⟨⟨⟨⟨⟨a1, a2⟩, a3⟩, a4⟩, a5⟩, a6⟩ := h2
    exact ⟨a1, a2, gg_at_in a3, a4, a5, a6⟩
def gg_mps : List (Nat × Nat × Nat) := [(115, 114, 0), (120, 118, 119), (471, 469, 470), (502, 500, 501), (1167, 1165, 1166), (1095, 1093, 1094), (650, 648, 649), (814, 812, 813), (1004, 1002, 1003), (530, 528, 529), (534, 532, 533), (462, 460, 461), (1191, 1189, 1190), (1216, 1214, 1215), (1227, 1225, 1226), (1239, 1237, 1238), (1244, 1243, 0), (593, 591, 592), (613, 611, 612), (609, 607, 608), (646, 644, 645), (1091, 1089, 1090), (605, 603, 604), (124, 122, 123), (622, 620, 621), (676, 674, 675), (681, 680, 0), (191, 190, 0), (670, 668, 669), (702, 700, 701), (253, 252, 0), (514, 512, 513), (521, 519, 520), (859, 857, 858), (910, 908, 909), (915, 913, 914), (526, 524, 525), (211, 210, 0), (351, 349, 350), (360, 358, 359), (364, 363, 0), (453, 452, 9), (458, 457, 10), (467, 466, 11), (368, 367, 1), (437, 436, 6), (385, 384, 5), (372, 371, 2), (441, 440, 7), (376, 375, 3), (445, 444, 8), (380, 379, 4), (306, 305, 0), (630, 628, 629), (1061, 1059, 1060), (634, 632, 633), (1046, 1044, 1045), (1050, 1049, 24), (642, 641, 14), (638, 637, 0), (247, 246, 0), (482, 480, 481), (546, 544, 545), (510, 509, 13), (517, 516, 0), (832, 830, 831), (580, 578, 579), (542, 540, 541), (550, 548, 549), (693, 691, 692), (906, 904, 905), (941, 939, 940), (945, 943, 944), (953, 952, 22), (949, 948, 21), (981, 980, 23), (965, 963, 964), (977, 975, 976), (506, 504, 505), (992, 990, 991), (564, 562, 563), (567, 566, 0), (575, 573, 574), (1129, 1127, 1128), (588, 586, 587), (597, 595, 596), (107, 106, 0), (347, 345, 346), (356, 354, 355), (486, 484, 485), (490, 488, 489), (710, 708, 709), (780, 778, 779), (806, 804, 805), (494, 492, 493), (821, 819, 820), (839, 837, 838), (847, 845, 846), (855, 853, 854), (866, 864, 865), (873, 871, 872), (887, 885, 886), (895, 893, 894), (902, 900, 901), (922, 920, 921), (929, 927, 928), (937, 935, 936), (961, 959, 960), (973, 971, 972), (498, 496, 497), (988, 986, 987), (560, 558, 559), (1000, 998, 999), (1011, 1009, 1010), (571, 569, 570), (1018, 1016, 1017), (1028, 1026, 1027), (1035, 1033, 1034), (1042, 1040, 1041), (584, 582, 583), (1057, 1055, 1056), (1068, 1066, 1067), (1076, 1074, 1075), (1083, 1081, 1082), (1102, 1100, 1101), (601, 599, 600), (618, 616, 617), (1111, 1109, 1110), (1118, 1116, 1117), (662, 660, 661), (1125, 1123, 1124), (1138, 1136, 1137), (1149, 1147, 1148), (1156, 1154, 1155), (1163, 1161, 1162), (1175, 1173, 1174), (685, 683, 684), (1187, 1185, 1186), (1198, 1196, 1197), (1205, 1203, 1204), (1212, 1210, 1211), (1223, 1221, 1222), (1235, 1233, 1234), (1251, 1249, 1250), (689, 687, 688), (1258, 1256, 1257), (698, 696, 697), (1265, 1263, 1264), (1272, 1270, 1271), (478, 477, 12), (666, 665, 15), (1142, 1141, 26), (810, 809, 18), (784, 783, 17), (877, 876, 20), (825, 824, 19), (1179, 1178, 27), (1087, 1086, 25), (1021, 1020, 0), (828, 827, 0), (625, 624, 0), (1277, 1276, 0), (1358, 1356, 1357), (1391, 1390, 0), (1431, 1430, 0), (1281, 1280, 0), (1448, 1447, 39), (1472, 1471, 42), (1463, 1462, 41), (1492, 1491, 45), (1488, 1487, 44), (1499, 1498, 0), (1451, 1450, 0), (1507, 1506, 48), (1649, 1648, 0), (1365, 1364, 0), (1362, 1360, 1361), (1386, 1385, 31), (1382, 1381, 30), (1402, 1401, 33), (1378, 1377, 29), (1396, 1395, 32), (1406, 1405, 34), (1374, 1373, 28), (1423, 1422, 37), (1428, 1427, 38), (1418, 1417, 36), (1414, 1413, 35), (1370, 1368, 1369), (1435, 1433, 1434), (1439, 1437, 1438), (1455, 1454, 40), (1443, 1441, 1442), (1459, 1457, 1458), (1476, 1475, 43), (1468, 1466, 1467), (1480, 1478, 1479), (1511, 1510, 49), (1503, 1502, 47), (1496, 1495, 46), (1515, 1514, 50), (1551, 1550, 53), (1484, 1482, 1483), (1519, 1517, 1518), (1527, 1526, 51), (1523, 1521, 1522), (1531, 1529, 1530), (1535, 1533, 1534), (1539, 1537, 1538), (1547, 1546, 52), (1543, 1541, 1542), (1559, 1558, 54), (1555, 1553, 1554), (1563, 1561, 1562), (1567, 1565, 1566), (1575, 1574, 55), (1571, 1569, 1570), (1583, 1582, 56), (1595, 1594, 59), (1599, 1598, 60), (1591, 1590, 58), (1587, 1586, 57), (1604, 1603, 61), (1579, 1577, 1578), (1608, 1606, 1607), (1613, 1611, 1612), (1621, 1620, 62), (1617, 1615, 1616), (1625, 1623, 1624), (1630, 1628, 1629), (1634, 1632, 1633), (1638, 1636, 1637), (1642, 1640, 1641), (1661, 1660, 0), (1658, 1657, 64), (1654, 1653, 63), (1646, 1644, 1645), (1665, 1663, 1664), (1669, 1667, 1668), (1692, 1691, 68), (1688, 1687, 67), (1679, 1678, 65), (1732, 1731, 74), (1696, 1695, 69), (1684, 1683, 66), (1674, 1672, 1673), (1700, 1698, 1699), (1704, 1702, 1703), (1708, 1707, 70), (1712, 1711, 71), (1728, 1727, 73), (1724, 1723, 72), (1716, 1714, 1715), (1720, 1718, 1719), (1736, 1734, 1735), (1740, 1738, 1739), (1744, 1742, 1743), (1749, 1747, 1748), (1757, 1755, 1756), (1761, 1759, 1760), (1765, 1763, 1764), (1773, 1772, 76), (1769, 1767, 1768), (1777, 1775, 1776), (1781, 1779, 1780), (1785, 1783, 1784), (1789, 1787, 1788), (1753, 1752, 75), (1809, 1807, 1808), (1813, 1811, 1812), (1817, 1815, 1816), (1802, 1801, 79), (1821, 1819, 1820), (1829, 1828, 80), (1825, 1823, 1824), (1833, 1831, 1832), (1838, 1836, 1837), (1798, 1797, 78), (1842, 1840, 1841), (1794, 1793, 77), (1805, 1804, 0), (1846, 1844, 1845), (1850, 1848, 1849), (1854, 1852, 1853), (1858, 1856, 1857), (1863, 1861, 1862), (1867, 1865, 1866), (0, 0, 0), (705, 704, 0), (775, 774, 0), (802, 801, 0), (817, 816, 0), (835, 834, 0), (843, 842, 0), (851, 850, 0), (862, 861, 0), (869, 868, 0), (883, 882, 0), (891, 890, 0), (898, 897, 0), (918, 917, 0), (925, 924, 0), (933, 932, 0), (957, 956, 0), (969, 968, 0), (984, 983, 0), (996, 995, 0), (1007, 1006, 0), (1014, 1013, 0), (1024, 1023, 0), (1031, 1030, 0), (1038, 1037, 0), (1053, 1052, 0), (1064, 1063, 0), (1072, 1071, 0), (1079, 1078, 0), (1098, 1097, 0), (1107, 1106, 0), (1114, 1113, 0), (1121, 1120, 0), (1134, 1133, 0), (1145, 1144, 0), (1152, 1151, 0), (1159, 1158, 0), (1171, 1170, 0), (1183, 1182, 0), (1194, 1193, 0), (1201, 1200, 0), (1208, 1207, 0), (1219, 1218, 0), (1231, 1230, 0), (1247, 1246, 0), (1254, 1253, 0), (1261, 1260, 0), (1268, 1267, 0), (389, 387, 388), (399, 397, 398), (393, 391, 392), (403, 401, 402), (409, 408, 0), (406, 405, 0), (414, 413, 0), (553, 552, 0), (655, 654, 0)]
def gg_ips : List Nat := [83, 84, 87, 85, 88, 86, 82, 89, 81, 90, 91, 92, 96, 102]
def gg_ins : List Nat := [112, 188, 250, 208, 303, 244, 104, 1274]
def gg_lys : List (List Nat) := [[163, 165, 167, 169, 171, 173, 175, 177, 179, 181, 183], [200, 202, 204], [265, 267, 269, 271, 273], [225, 227, 229, 231, 233, 235, 237, 239], [312, 314, 316], [285, 287, 289, 291, 293, 295, 297], [327, 329, 331, 333, 335, 337, 339, 341], [1306, 1308, 1310, 1312, 1314, 1316, 1318, 1320, 1322, 1324, 1326, 1328, 1330, 1332, 1334, 1336, 1338, 1340, 1342, 1344, 1346, 1348, 1350, 1352]]
theorem gg_cl_at {c : Nat} (h : c < 8) : gg_cl[c]? = some (gg_cln c) := by
  match c, h with
  | 0, _ => rfl
  | 1, _ => rfl
  | 2, _ => rfl
  | 3, _ => rfl
  | 4, _ => rfl
  | 5, _ => rfl
  | 6, _ => rfl
  | 7, _ => rfl
def gg_ckc (c : Nat) : Bool := decide ((gg_cln c).1 = gg_c c) && decide (gg_nf c = (gg_cln c).2.2) && gg_at (gg_ips.getD c 0) (.initialized (gg_c c)) && gg_at (gg_ins.getD c 0) (.instantiable (gg_c c) (gg_cln c).2.2) &&
  (List.range (gg_cln c).2.2).all (fun k => gg_at ((gg_lys.getD c []).getD k 0) (u_lay (gg_cln c).1 (gg_cln c).2.1 k)) &&
  (List.range (gg_cln c).2.2).all (fun k => decide (parseFieldDescriptor ((gg_cln c).2.1 k).2.2.1 = some (gg_tyn c k)) && decide ((gg_ft c k = 0 ∧ gg_tyn c k = .int) ∨ (gg_ft c k = 1 ∧ gg_tyn c k = .boolean) ∨ (gg_ft c k = 2 ∧ fits (gg_tyn c k) (.ref 0) = true ∧ defaultValue (gg_tyn c k) = .null)) && (List.range (gg_cln c).2.2).all (fun j => decide (k = j ∨ ((gg_cln c).2.1 k).2.1 ≠ ((gg_cln c).2.1 j).2.1)))
set_option maxRecDepth 100000 in
theorem gg_ckc_all : (List.range 8).all gg_ckc = true := by decide +kernel
def gg_cfacts (c : Nat) : Prop := (gg_cln c).1 = gg_c c ∧ gg_nf c = (gg_cln c).2.2 ∧ Cond.initialized (gg_c c) ∈ gg_gw ∧ Cond.instantiable (gg_c c) (gg_cln c).2.2 ∈ gg_gw ∧ (∀ w ∈ u_ws (gg_cln c).1 (gg_cln c).2.1 (gg_cln c).2.2, w ∈ gg_gw) ∧ (∀ k, k < (gg_cln c).2.2 → parseFieldDescriptor ((gg_cln c).2.1 k).2.2.1 = some (gg_tyn c k)) ∧
  (∀ k, k < (gg_cln c).2.2 → (gg_ft c k = 0 ∧ gg_tyn c k = .int) ∨ (gg_ft c k = 1 ∧ gg_tyn c k = .boolean) ∨ (gg_ft c k = 2 ∧ fits (gg_tyn c k) (.ref 0) = true ∧ defaultValue (gg_tyn c k) = .null)) ∧ (∀ a, a < (gg_cln c).2.2 → ∀ b, b < (gg_cln c).2.2 → a ≠ b → ((gg_cln c).2.1 a).2.1 ≠ ((gg_cln c).2.1 b).2.1)
theorem gg_cf {c : Nat} (h : c < 8) : gg_cfacts c := by
  have h2 := List.all_eq_true.mp gg_ckc_all c (List.mem_range.mpr h)
  simp only [gg_ckc, Bool.and_eq_true, decide_eq_true_eq, List.all_eq_true, List.mem_range] at h2
  obtain ⟨⟨⟨⟨⟨a1, a2⟩, a3⟩, a4⟩, a5⟩, a6⟩ := h2
  refine ⟨a1, a2, gg_at_in a3, gg_at_in a4, fun w hw => ?_, fun k hk => (a6 k hk).1.1, fun k hk => (a6 k hk).1.2, fun a ha b hb hne => ((a6 a ha).2 b hb).resolve_left hne⟩
  obtain ⟨k, hk, rfl⟩ := List.mem_map.mp hw
  exact gg_at_in (a5 k (List.mem_range.mp hk))
def gg_cke (e : Nat × Nat × Nat × Nat) : Bool := match e with
  | (o, i, c, pos) => gg_at pos (.classLink (gg_c o) i (if c = 100 then "java/lang/IllegalArgumentException" else if c = 101 then "java/lang/IndexOutOfBoundsException" else gg_c c))
set_option maxRecDepth 100000 in
theorem gg_cke_all : gg_lcs.all gg_cke = true := by decide +kernel
theorem gg_lc_ok {o i c : Nat} (h : gg_lc o i = some c) : Cond.classLink (gg_c o) i (if c = 100 then "java/lang/IllegalArgumentException" else if c = 101 then "java/lang/IndexOutOfBoundsException" else gg_c c) ∈ gg_gw := by
  unfold gg_lc at h
  cases hf : gg_lcs.find? (fun e => e.1 == o && e.2.1 == i) with
  | none => rw [hf] at h; cases h
  | some e =>
    rw [hf] at h
    obtain ⟨o', i', c', pos⟩ := e
    have h1 := List.find?_some hf
    simp only [Bool.and_eq_true, beq_iff_eq] at h1
    obtain ⟨rfl, rfl⟩ := h1
    cases h
    exact gg_at_in (List.all_eq_true.mp gg_cke_all _ (List.mem_of_find?_eq_some hf))
def gg_ckk (e : Nat × Nat × Int × Nat) : Bool := match e with
  | (o, i, v, pos) => gg_at pos (.constant (gg_c o) i (gg_i v))
set_option maxRecDepth 100000 in
theorem gg_ckk_all : gg_lks.all gg_ckk = true := by decide +kernel
theorem gg_lk_ok {o i : Nat} {v : Int} (h : gg_lk o i = some v) : Cond.constant (gg_c o) i (gg_i v) ∈ gg_gw := by
  unfold gg_lk at h
  cases hf : gg_lks.find? (fun e => e.1 == o && e.2.1 == i) with
  | none => rw [hf] at h; cases h
  | some e =>
    rw [hf] at h
    obtain ⟨o', i', c', pos⟩ := e
    have h1 := List.find?_some hf
    simp only [Bool.and_eq_true, beq_iff_eq] at h1
    obtain ⟨rfl, rfl⟩ := h1
    cases h
    exact gg_at_in (List.all_eq_true.mp gg_ckk_all _ (List.mem_of_find?_eq_some hf))
def gg_ckL (e : Nat × Nat × Int × Nat) : Bool := match e with
  | (o, i, v, pos) => gg_at pos (.constantLong (gg_c o) i (gg_l v))
set_option maxRecDepth 100000 in
theorem gg_ckL_all : gg_lls.all gg_ckL = true := by decide +kernel
theorem gg_ll_ok {o i : Nat} {v : Int} (h : gg_ll o i = some v) : Cond.constantLong (gg_c o) i (gg_l v) ∈ gg_gw := by
  unfold gg_ll at h
  cases hf : gg_lls.find? (fun e => e.1 == o && e.2.1 == i) with
  | none => rw [hf] at h; cases h
  | some e =>
    rw [hf] at h
    obtain ⟨o', i', c', pos⟩ := e
    have h1 := List.find?_some hf
    simp only [Bool.and_eq_true, beq_iff_eq] at h1
    obtain ⟨rfl, rfl⟩ := h1
    cases h
    exact gg_at_in (List.all_eq_true.mp gg_ckL_all _ (List.mem_of_find?_eq_some hf))
theorem gg_ls_ok {o i t : Nat} (h : gg_ls o i = some t) : ∃ pos, (o, i, t, pos) ∈ gg_lss := by
  unfold gg_ls at h
  cases hf : gg_lss.find? (fun e => e.1 == o && e.2.1 == i) with
  | none => rw [hf] at h; cases h
  | some e =>
    rw [hf] at h
    obtain ⟨o', i', c', pos⟩ := e
    have h1 := List.find?_some hf
    simp only [Bool.and_eq_true, beq_iff_eq] at h1
    obtain ⟨rfl, rfl⟩ := h1
    cases h
    exact ⟨pos, List.mem_of_find?_eq_some hf⟩
/-- the word of a method's code -/
def gg_wd (y : Nat) : Cond := if gg_hd y = [] then .code (gg_nm y) (gg_bt y) (gg_mt y).2.2.1 (gg_rt y) else .codeWith (gg_nm y) (gg_bt y) (gg_mt y).2.2.1 (gg_rt y) ((gg_hd y).map fun h => (h.1, h.2.1, h.2.2.1, h.2.2.2.2))
def gg_rok (rk : Nat) (r : Option FieldType) : Bool := match rk, r with
  | 0, none => true
  | 1, some .int => true
  | 2, some .boolean => true
  | 3, some .long => true
  | 4, some (.object _) => true
  | 5, some .char => true
  | 6, some .byte => true
  | _, _ => false
def gg_ckm (y : Nat) : Bool := match gg_mt y, gg_mps.getD y (0, 0, 0) with
  | (c, kd, ml, tg, rk), (p1, p2, p3) => gg_at p1 (gg_wd y) && decide ((gg_nm y).cls = gg_c c) && decide (plainName (gg_c c) = true) && decide (gg_c c ≠ "java/lang/invoke/MethodHandle" ∧ gg_c c ≠ "java/lang/invoke/VarHandle") &&
    gg_at (gg_ips.getD c 0) (.initialized (gg_c c)) && gg_rok rk (gg_rt y) && decide (ml ≤ 30) && decide ((parseMethodDescriptor (gg_nm y).desc).map (fun d => d.parameters.length) = some (if kd = 1 then tg.length else tg.length - 1)) &&
    (if kd = 1 then gg_at p2 (.static (gg_nm y)) else gg_at p2 (.instanceMethod (gg_nm y)) && decide (1 ≤ tg.length)) && (if kd = 0 then gg_at p3 (.selects (gg_c c) (gg_nm y) (gg_nm y)) else true) && (if kd = 2 then decide ((gg_nm y).name = "<init>" ∧ rk = 0) else true) && decide (kd ≤ 2) && decide (kd = 1 ∨ gg_hd y = [])
def gg_ckr (a n : Nat) : Bool := (List.range n).all fun i => decide (a + i = 287) || gg_ckm (a + i)
set_option maxRecDepth 100000 in
theorem gg_ckm_0 : gg_ckr 0 43 = true := by decide +kernel
set_option maxRecDepth 100000 in
theorem gg_ckm_43 : gg_ckr 43 43 = true := by decide +kernel
set_option maxRecDepth 100000 in
theorem gg_ckm_86 : gg_ckr 86 43 = true := by decide +kernel
set_option maxRecDepth 100000 in
theorem gg_ckm_129 : gg_ckr 129 43 = true := by decide +kernel
set_option maxRecDepth 100000 in
theorem gg_ckm_172 : gg_ckr 172 43 = true := by decide +kernel
set_option maxRecDepth 100000 in
theorem gg_ckm_215 : gg_ckr 215 43 = true := by decide +kernel
set_option maxRecDepth 100000 in
theorem gg_ckm_258 : gg_ckr 258 43 = true := by decide +kernel
set_option maxRecDepth 100000 in
theorem gg_ckm_301 : gg_ckr 301 43 = true := by decide +kernel
