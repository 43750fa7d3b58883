/-! what the checks give -/
theorem am_mem_of {l : List Cond} {a n w : Nat} {L : List Nat} (h : l = List.map am_wt L) (hL : L = List.range' a n) (h1 : a ≤ w) (h2 : w < a + n) : am_wt w ∈ l := by
  rw [h, hL]
  exact List.mem_map.mpr ⟨w, List.mem_range'_1.mpr ⟨h1, h2⟩, rfl⟩
set_option maxRecDepth 100000 in
theorem am_wt_in {w : Nat} (h : w < am_nw) : am_wt w ∈ lw_tbl := by
  have h : w < 2067 := h
  unfold lw_tbl tables_1
  rcases Nat.lt_or_ge w 100 with q | q
  · exact List.mem_append_left _ (am_mem_of (a := 0) (n := 100) am_t0 rfl (Nat.zero_le w) (by omega))
  refine List.mem_append_right _ ?_
  rcases Nat.lt_or_ge w 340 with q0 | q0
  · exact List.mem_append_left _ (am_mem_of (a := 100) (n := 240) am_t1 rfl (by omega) (by omega))
  refine List.mem_append_right _ ?_
  rcases Nat.lt_or_ge w 580 with q1 | q1
  · exact List.mem_append_left _ (am_mem_of (a := 340) (n := 240) am_t2 rfl (by omega) (by omega))
  refine List.mem_append_right _ ?_
  rcases Nat.lt_or_ge w 820 with q2 | q2
  · exact List.mem_append_left _ (am_mem_of (a := 580) (n := 240) am_t3 rfl (by omega) (by omega))
  refine List.mem_append_right _ ?_
  rcases Nat.lt_or_ge w 1060 with q3 | q3
  · exact List.mem_append_left _ (am_mem_of (a := 820) (n := 240) am_t4 rfl (by omega) (by omega))
  refine List.mem_append_right _ ?_
  rcases Nat.lt_or_ge w 1300 with q4 | q4
  · exact List.mem_append_left _ (am_mem_of (a := 1060) (n := 240) am_t5 rfl (by omega) (by omega))
  refine List.mem_append_right _ ?_
  rcases Nat.lt_or_ge w 1540 with q5 | q5
  · exact List.mem_append_left _ (am_mem_of (a := 1300) (n := 240) am_t6 rfl (by omega) (by omega))
  refine List.mem_append_right _ ?_
  rcases Nat.lt_or_ge w 1780 with q6 | q6
  · exact List.mem_append_left _ (am_mem_of (a := 1540) (n := 240) am_t7 rfl (by omega) (by omega))
  refine List.mem_append_right _ ?_
  rcases Nat.lt_or_ge w 2020 with q7 | q7
  · exact List.mem_append_left _ (am_mem_of (a := 1780) (n := 240) am_t8 rfl (by omega) (by omega))
  refine List.mem_append_right _ ?_
  exact am_mem_of (a := 2020) (n := 47) am_t9 rfl (by omega) (by omega)
theorem am_kPL : ((List.range am_nw).all fun w => Nat.beq (am_pl w).1 0 || am_pls.contains w) = true := by decide +kernel
set_option maxRecDepth 100000 in
theorem am_kWm : ∀ w ∈ am_pls, am_wt w = am_say (am_pl w) := by
  show ∀ w ∈ ([126, 128, 131, 134, 136, 139, 140, 141, 142, 143, 144, 145, 146, 147, 148, 149, 150, 151, 152, 169, 171, 174, 175, 179, 181, 184, 187, 191, 192, 193, 194, 195, 196, 211, 213, 216, 217, 219, 220, 221, 222, 223, 224, 225, 239, 241, 244, 245, 247, 250, 251, 254, 255, 256, 257, 258, 259, 260, 261, 262] ++ ([263, 264, 265, 266, 267, 268, 269, 292, 293, 294, 295, 296, 297, 298, 312, 314, 317, 318, 320, 321, 322, 323, 324, 325, 326, 327, 328, 329, 330, 331, 332, 358, 360, 363, 364, 365, 366, 367, 368, 369, 381, 383, 386, 387, 388, 389, 390, 391, 392, 393, 394, 395, 396, 397, 398, 399, 400, 401, 431, 433] ++ ([434, 435, 436, 437, 438, 439, 440, 441, 442, 443, 444, 445, 446, 447, 448, 449, 450, 451, 452, 453, 495, 499, 503, 507, 511, 515, 519, 523, 527, 530, 533, 536, 540, 544, 554, 599, 603, 607, 608, 612, 616, 617, 618, 621, 625, 629, 631, 633, 637, 641, 645, 649, 653, 657, 660, 661, 663, 664, 665, 666] ++ ([667, 668, 669, 670, 671, 672, 673, 674, 675, 676, 677, 678, 679, 680, 681, 682, 683, 703, 707, 711, 715, 719, 720, 721, 725, 726, 730, 731, 735, 739, 743, 744, 745, 749, 753, 757, 761, 765, 766, 770, 774, 777, 781, 785, 786, 790, 794, 798, 802, 805, 806, 807, 808, 809, 813, 817, 821, 825, 826, 830] ++ ([834, 838, 839, 843, 847, 851, 853, 856, 857, 858, 859, 860, 861, 862, 863, 864, 865, 866, 867, 868, 869, 870, 871, 872, 873, 897, 901, 902, 903, 907, 913, 914, 915, 919, 922, 925, 926, 930, 931, 932, 939, 943, 947, 951, 955, 959, 963, 967, 971, 975, 979, 983, 987, 988, 989, 990, 994, 998, 999, 1003] ++ ([1007, 1008, 1012, 1015, 1020, 1023, 1024, 1025, 1026, 1027, 1028, 1029, 1030, 1031, 1032, 1033, 1034, 1035, 1036, 1037, 1038, 1039, 1040, 1041, 1042, 1043, 1044, 1045, 1046, 1064, 1068, 1072, 1073, 1077, 1081, 1085, 1089, 1093, 1097, 1098, 1099, 1100, 1104, 1108, 1112, 1116, 1120, 1124, 1128, 1129, 1133, 1134, 1138, 1142, 1143, 1146, 1149, 1150, 1151, 1152] ++ ([1156, 1160, 1161, 1165, 1169, 1173, 1177, 1181, 1185, 1189, 1193, 1197, 1201, 1205, 1206, 1210, 1214, 1218, 1222, 1223, 1224, 1225, 1228, 1231, 1235, 1239, 1243, 1247, 1251, 1252, 1256, 1260, 1261, 1265, 1269, 1273, 1274, 1278, 1282, 1283, 1287, 1291, 1295, 1299, 1303, 1307, 1311, 1313, 1316, 1317, 1354, 1376, 1378, 1379, 1380, 1381, 1382, 1383, 1384, 1385] ++ ([1386, 1387, 1388, 1389, 1390, 1391, 1392, 1393, 1394, 1395, 1396, 1397, 1398, 1399, 1400, 1401, 1402, 1403, 1404, 1405, 1406, 1407, 1408, 1409, 1410, 1411, 1412, 1413, 1414, 1415, 1416, 1417, 1418, 1419, 1420, 1421, 1422, 1423, 1424, 1425, 1426, 1427, 1428, 1429, 1430, 1431, 1432, 1433, 1434, 1435, 1436, 1437, 1438, 1439, 1440, 1441, 1442, 1443, 1444, 1445] ++ ([1446, 1447, 1448, 1449, 1450, 1451, 1452, 1453, 1454, 1455, 1456, 1457, 1458, 1459, 1626, 1630, 1634, 1638, 1641, 1645, 1646, 1650, 1654, 1658, 1662, 1666, 1669, 1672, 1677, 1681, 1682, 1683, 1687, 1691, 1695, 1699, 1710, 1712, 1714, 1718, 1722, 1726, 1730, 1731, 1732, 1733, 1737, 1740, 1741, 1742, 1743, 1747, 1751, 1755, 1759, 1762, 1766, 1770, 1773, 1777] ++ ([1781, 1785, 1789, 1790, 1794, 1798, 1802, 1806, 1810, 1814, 1818, 1819, 1823, 1827, 1831, 1835, 1845, 1849, 1855, 1859, 1863, 1867, 1870, 1871, 1875, 1879, 1882, 1883, 1887, 1891, 1895, 1899, 1903, 1904, 1908, 1912, 1916, 1920, 1924, 1928, 1932, 1936, 1940, 1944, 1948, 1952, 1956, 1960, 1964, 1968, 1972, 1976, 1980, 1984, 1985, 1989, 1993, 1997, 1998, 2002] ++ [2003, 2007, 2011, 2015, 2019, 2023, 2027, 2031, 2035, 2039, 2043, 2044, 2048, 2052, 2056, 2060])))))))))), am_wt w = am_say (am_pl w)
  exact List.forall_mem_append.mpr ⟨List.map_inj_left.mp am_kW0, List.forall_mem_append.mpr ⟨List.map_inj_left.mp am_kW1, List.forall_mem_append.mpr ⟨List.map_inj_left.mp am_kW2, List.forall_mem_append.mpr ⟨List.map_inj_left.mp am_kW3, List.forall_mem_append.mpr ⟨List.map_inj_left.mp am_kW4, List.forall_mem_append.mpr ⟨List.map_inj_left.mp am_kW5, List.forall_mem_append.mpr ⟨List.map_inj_left.mp am_kW6, List.forall_mem_append.mpr ⟨List.map_inj_left.mp am_kW7, List.forall_mem_append.mpr ⟨List.map_inj_left.mp am_kW8, List.forall_mem_append.mpr ⟨List.map_inj_left.mp am_kW9, List.map_inj_left.mp am_kW10⟩⟩⟩⟩⟩⟩⟩⟩⟩⟩
theorem am_kW {w : Nat} (h : (am_pl w).1 ≠ 0) : am_wt w = am_say (am_pl w) ∧ am_wt w ∈ lw_tbl := by
  have hlt : w < am_nw := by
    rcases Nat.lt_or_ge w am_nw with q | q
    · exact q
    · exfalso
      apply h
      have e : Nat.blt w 2067 = false := by
        cases hh : Nat.blt w 2067 with
        | false => rfl
        | true => exact absurd (Nat.le_of_ble_eq_true hh) (by have : 2067 ≤ w := q; omega)
      unfold am_pl
      rw [e]
      rfl
  refine ⟨?_, am_wt_in hlt⟩
  have h1 := List.all_eq_true.mp am_kPL w (List.mem_range.mpr hlt)
  rw [Bool.or_eq_true] at h1
  rcases h1 with q | q
  · exact absurd (Nat.eq_of_beq_eq_true q) h
  · exact am_kWm w (by simpa using q)
set_option maxRecDepth 100000 in
theorem am_mC {y : Nat} (h1 : 1 ≤ y) (h2 : y < am_NM) : am_wt (am_wd y).1 = am_cw y := by
  have h : ∀ y ∈ ([1, 2, 3, 4, 5, 6, 7, 8, 9, 10, 11, 12, 13, 14, 15, 16, 17, 18, 19, 20, 21, 22, 23, 24, 25, 26, 27, 28, 29, 30, 31, 32, 33, 34, 35, 36, 37, 38, 39, 40, 41, 42, 43, 44] ++ ([45, 46, 47, 48, 49, 50, 51, 52, 53, 54, 55, 56, 57, 58, 59, 60, 61, 62, 63, 64, 65, 66, 67, 68, 69, 70, 71, 72, 73, 74, 75, 76, 77, 78, 79, 80, 81, 82, 83, 84, 85, 86, 87, 88] ++ ([89, 90, 91, 92, 93, 94, 95, 96, 97, 98, 99, 100, 101, 102, 103, 104, 105, 106, 107, 108, 109, 110, 111, 112, 113, 114, 115, 116, 117, 118, 119, 120, 121, 122, 123, 124, 125, 126, 127, 128, 129, 130, 131, 132] ++ ([133, 134, 135, 136, 137, 138, 139, 140, 141, 142, 143, 144, 145, 146, 147, 148, 149, 150, 151, 152, 153, 154, 155, 156, 157, 158, 159, 160, 161, 162, 163, 164, 165, 166, 167, 168, 169, 170, 171, 172, 173, 174, 175, 176] ++ ([177, 178, 179, 180, 181, 182, 183, 184, 185, 186, 187, 188, 189, 190, 191, 192, 193, 194, 195, 196, 197, 198, 199, 200, 201, 202, 203, 204, 205, 206, 207, 208, 209, 210, 211, 212, 213, 214, 215, 216, 217, 218, 219, 220] ++ [221, 222, 223, 224, 225, 226, 227, 228, 229, 230, 231, 232, 233, 234, 235, 236, 237, 238, 239, 240, 241, 242, 243, 244, 245, 246, 247, 248, 249, 250, 251, 252, 253, 254, 255, 256, 257, 258, 259, 260, 261, 262, 263]))))), am_wt (am_wd y).1 = am_cw y := List.forall_mem_append.mpr ⟨List.map_inj_left.mp am_mC0, List.forall_mem_append.mpr ⟨List.map_inj_left.mp am_mC1, List.forall_mem_append.mpr ⟨List.map_inj_left.mp am_mC2, List.forall_mem_append.mpr ⟨List.map_inj_left.mp am_mC3, List.forall_mem_append.mpr ⟨List.map_inj_left.mp am_mC4, List.map_inj_left.mp am_mC5⟩⟩⟩⟩⟩
  refine h y ?_
  rw [show ([1, 2, 3, 4, 5, 6, 7, 8, 9, 10, 11, 12, 13, 14, 15, 16, 17, 18, 19, 20, 21, 22, 23, 24, 25, 26, 27, 28, 29, 30, 31, 32, 33, 34, 35, 36, 37, 38, 39, 40, 41, 42, 43, 44] ++ ([45, 46, 47, 48, 49, 50, 51, 52, 53, 54, 55, 56, 57, 58, 59, 60, 61, 62, 63, 64, 65, 66, 67, 68, 69, 70, 71, 72, 73, 74, 75, 76, 77, 78, 79, 80, 81, 82, 83, 84, 85, 86, 87, 88] ++ ([89, 90, 91, 92, 93, 94, 95, 96, 97, 98, 99, 100, 101, 102, 103, 104, 105, 106, 107, 108, 109, 110, 111, 112, 113, 114, 115, 116, 117, 118, 119, 120, 121, 122, 123, 124, 125, 126, 127, 128, 129, 130, 131, 132] ++ ([133, 134, 135, 136, 137, 138, 139, 140, 141, 142, 143, 144, 145, 146, 147, 148, 149, 150, 151, 152, 153, 154, 155, 156, 157, 158, 159, 160, 161, 162, 163, 164, 165, 166, 167, 168, 169, 170, 171, 172, 173, 174, 175, 176] ++ ([177, 178, 179, 180, 181, 182, 183, 184, 185, 186, 187, 188, 189, 190, 191, 192, 193, 194, 195, 196, 197, 198, 199, 200, 201, 202, 203, 204, 205, 206, 207, 208, 209, 210, 211, 212, 213, 214, 215, 216, 217, 218, 219, 220] ++ [221, 222, 223, 224, 225, 226, 227, 228, 229, 230, 231, 232, 233, 234, 235, 236, 237, 238, 239, 240, 241, 242, 243, 244, 245, 246, 247, 248, 249, 250, 251, 252, 253, 254, 255, 256, 257, 258, 259, 260, 261, 262, 263]))))) = List.range' 1 263 from rfl]
  exact List.mem_range'_1.mpr ⟨h1, by have : y < 264 := h2; omega⟩
set_option maxRecDepth 100000 in
theorem am_mK {y : Nat} (h1 : 1 ≤ y) (h2 : y < am_NM) : am_wt (am_wd y).2.1 = am_kw y := by
  have h : ∀ y ∈ ([1, 2, 3, 4, 5, 6, 7, 8, 9, 10, 11, 12, 13, 14, 15, 16, 17, 18, 19, 20, 21, 22, 23, 24, 25, 26, 27, 28, 29, 30, 31, 32, 33, 34, 35, 36, 37, 38, 39, 40, 41, 42, 43, 44] ++ ([45, 46, 47, 48, 49, 50, 51, 52, 53, 54, 55, 56, 57, 58, 59, 60, 61, 62, 63, 64, 65, 66, 67, 68, 69, 70, 71, 72, 73, 74, 75, 76, 77, 78, 79, 80, 81, 82, 83, 84, 85, 86, 87, 88] ++ ([89, 90, 91, 92, 93, 94, 95, 96, 97, 98, 99, 100, 101, 102, 103, 104, 105, 106, 107, 108, 109, 110, 111, 112, 113, 114, 115, 116, 117, 118, 119, 120, 121, 122, 123, 124, 125, 126, 127, 128, 129, 130, 131, 132] ++ ([133, 134, 135, 136, 137, 138, 139, 140, 141, 142, 143, 144, 145, 146, 147, 148, 149, 150, 151, 152, 153, 154, 155, 156, 157, 158, 159, 160, 161, 162, 163, 164, 165, 166, 167, 168, 169, 170, 171, 172, 173, 174, 175, 176] ++ ([177, 178, 179, 180, 181, 182, 183, 184, 185, 186, 187, 188, 189, 190, 191, 192, 193, 194, 195, 196, 197, 198, 199, 200, 201, 202, 203, 204, 205, 206, 207, 208, 209, 210, 211, 212, 213, 214, 215, 216, 217, 218, 219, 220] ++ [221, 222, 223, 224, 225, 226, 227, 228, 229, 230, 231, 232, 233, 234, 235, 236, 237, 238, 239, 240, 241, 242, 243, 244, 245, 246, 247, 248, 249, 250, 251, 252, 253, 254, 255, 256, 257, 258, 259, 260, 261, 262, 263]))))), am_wt (am_wd y).2.1 = am_kw y := List.forall_mem_append.mpr ⟨List.map_inj_left.mp am_mK0, List.forall_mem_append.mpr ⟨List.map_inj_left.mp am_mK1, List.forall_mem_append.mpr ⟨List.map_inj_left.mp am_mK2, List.forall_mem_append.mpr ⟨List.map_inj_left.mp am_mK3, List.forall_mem_append.mpr ⟨List.map_inj_left.mp am_mK4, List.map_inj_left.mp am_mK5⟩⟩⟩⟩⟩
  refine h y ?_
  rw [show ([1, 2, 3, 4, 5, 6, 7, 8, 9, 10, 11, 12, 13, 14, 15, 16, 17, 18, 19, 20, 21, 22, 23, 24, 25, 26, 27, 28, 29, 30, 31, 32, 33, 34, 35, 36, 37, 38, 39, 40, 41, 42, 43, 44] ++ ([45, 46, 47, 48, 49, 50, 51, 52, 53, 54, 55, 56, 57, 58, 59, 60, 61, 62, 63, 64, 65, 66, 67, 68, 69, 70, 71, 72, 73, 74, 75, 76, 77, 78, 79, 80, 81, 82, 83, 84, 85, 86, 87, 88] ++ ([89, 90, 91, 92, 93, 94, 95, 96, 97, 98, 99, 100, 101, 102, 103, 104, 105, 106, 107, 108, 109, 110, 111, 112, 113, 114, 115, 116, 117, 118, 119, 120, 121, 122, 123, 124, 125, 126, 127, 128, 129, 130, 131, 132] ++ ([133, 134, 135, 136, 137, 138, 139, 140, 141, 142, 143, 144, 145, 146, 147, 148, 149, 150, 151, 152, 153, 154, 155, 156, 157, 158, 159, 160, 161, 162, 163, 164, 165, 166, 167, 168, 169, 170, 171, 172, 173, 174, 175, 176] ++ ([177, 178, 179, 180, 181, 182, 183, 184, 185, 186, 187, 188, 189, 190, 191, 192, 193, 194, 195, 196, 197, 198, 199, 200, 201, 202, 203, 204, 205, 206, 207, 208, 209, 210, 211, 212, 213, 214, 215, 216, 217, 218, 219, 220] ++ [221, 222, 223, 224, 225, 226, 227, 228, 229, 230, 231, 232, 233, 234, 235, 236, 237, 238, 239, 240, 241, 242, 243, 244, 245, 246, 247, 248, 249, 250, 251, 252, 253, 254, 255, 256, 257, 258, 259, 260, 261, 262, 263]))))) = List.range' 1 263 from rfl]
  exact List.mem_range'_1.mpr ⟨h1, by have : y < 264 := h2; omega⟩
set_option maxRecDepth 100000 in
theorem am_mS {y : Nat} (h1 : 1 ≤ y) (h2 : y < am_NM) : am_wt (am_wd y).2.2.1 = am_sw y := by
  have h : ∀ y ∈ ([1, 2, 3, 4, 5, 6, 7, 8, 9, 10, 11, 12, 13, 14, 15, 16, 17, 18, 19, 20, 21, 22, 23, 24, 25, 26, 27, 28, 29, 30, 31, 32, 33, 34, 35, 36, 37, 38, 39, 40, 41, 42, 43, 44] ++ ([45, 46, 47, 48, 49, 50, 51, 52, 53, 54, 55, 56, 57, 58, 59, 60, 61, 62, 63, 64, 65, 66, 67, 68, 69, 70, 71, 72, 73, 74, 75, 76, 77, 78, 79, 80, 81, 82, 83, 84, 85, 86, 87, 88] ++ ([89, 90, 91, 92, 93, 94, 95, 96, 97, 98, 99, 100, 101, 102, 103, 104, 105, 106, 107, 108, 109, 110, 111, 112, 113, 114, 115, 116, 117, 118, 119, 120, 121, 122, 123, 124, 125, 126, 127, 128, 129, 130, 131, 132] ++ ([133, 134, 135, 136, 137, 138, 139, 140, 141, 142, 143, 144, 145, 146, 147, 148, 149, 150, 151, 152, 153, 154, 155, 156, 157, 158, 159, 160, 161, 162, 163, 164, 165, 166, 167, 168, 169, 170, 171, 172, 173, 174, 175, 176] ++ ([177, 178, 179, 180, 181, 182, 183, 184, 185, 186, 187, 188, 189, 190, 191, 192, 193, 194, 195, 196, 197, 198, 199, 200, 201, 202, 203, 204, 205, 206, 207, 208, 209, 210, 211, 212, 213, 214, 215, 216, 217, 218, 219, 220] ++ [221, 222, 223, 224, 225, 226, 227, 228, 229, 230, 231, 232, 233, 234, 235, 236, 237, 238, 239, 240, 241, 242, 243, 244, 245, 246, 247, 248, 249, 250, 251, 252, 253, 254, 255, 256, 257, 258, 259, 260, 261, 262, 263]))))), am_wt (am_wd y).2.2.1 = am_sw y := List.forall_mem_append.mpr ⟨List.map_inj_left.mp am_mS0, List.forall_mem_append.mpr ⟨List.map_inj_left.mp am_mS1, List.forall_mem_append.mpr ⟨List.map_inj_left.mp am_mS2, List.forall_mem_append.mpr ⟨List.map_inj_left.mp am_mS3, List.forall_mem_append.mpr ⟨List.map_inj_left.mp am_mS4, List.map_inj_left.mp am_mS5⟩⟩⟩⟩⟩
  refine h y ?_
  rw [show ([1, 2, 3, 4, 5, 6, 7, 8, 9, 10, 11, 12, 13, 14, 15, 16, 17, 18, 19, 20, 21, 22, 23, 24, 25, 26, 27, 28, 29, 30, 31, 32, 33, 34, 35, 36, 37, 38, 39, 40, 41, 42, 43, 44] ++ ([45, 46, 47, 48, 49, 50, 51, 52, 53, 54, 55, 56, 57, 58, 59, 60, 61, 62, 63, 64, 65, 66, 67, 68, 69, 70, 71, 72, 73, 74, 75, 76, 77, 78, 79, 80, 81, 82, 83, 84, 85, 86, 87, 88] ++ ([89, 90, 91, 92, 93, 94, 95, 96, 97, 98, 99, 100, 101, 102, 103, 104, 105, 106, 107, 108, 109, 110, 111, 112, 113, 114, 115, 116, 117, 118, 119, 120, 121, 122, 123, 124, 125, 126, 127, 128, 129, 130, 131, 132] ++ ([133, 134, 135, 136, 137, 138, 139, 140, 141, 142, 143, 144, 145, 146, 147, 148, 149, 150, 151, 152, 153, 154, 155, 156, 157, 158, 159, 160, 161, 162, 163, 164, 165, 166, 167, 168, 169, 170, 171, 172, 173, 174, 175, 176] ++ ([177, 178, 179, 180, 181, 182, 183, 184, 185, 186, 187, 188, 189, 190, 191, 192, 193, 194, 195, 196, 197, 198, 199, 200, 201, 202, 203, 204, 205, 206, 207, 208, 209, 210, 211, 212, 213, 214, 215, 216, 217, 218, 219, 220] ++ [221, 222, 223, 224, 225, 226, 227, 228, 229, 230, 231, 232, 233, 234, 235, 236, 237, 238, 239, 240, 241, 242, 243, 244, 245, 246, 247, 248, 249, 250, 251, 252, 253, 254, 255, 256, 257, 258, 259, 260, 261, 262, 263]))))) = List.range' 1 263 from rfl]
  exact List.mem_range'_1.mpr ⟨h1, by have : y < 264 := h2; omega⟩
set_option maxRecDepth 100000 in
theorem am_mI {y : Nat} (h1 : 1 ≤ y) (h2 : y < am_NM) : am_wt (am_wd y).2.2.2 = Cond.initialized (am_nm y).cls := by
  have h : ∀ y ∈ ([1, 2, 3, 4, 5, 6, 7, 8, 9, 10, 11, 12, 13, 14, 15, 16, 17, 18, 19, 20, 21, 22, 23, 24, 25, 26, 27, 28, 29, 30, 31, 32, 33, 34, 35, 36, 37, 38, 39, 40, 41, 42, 43, 44] ++ ([45, 46, 47, 48, 49, 50, 51, 52, 53, 54, 55, 56, 57, 58, 59, 60, 61, 62, 63, 64, 65, 66, 67, 68, 69, 70, 71, 72, 73, 74, 75, 76, 77, 78, 79, 80, 81, 82, 83, 84, 85, 86, 87, 88] ++ ([89, 90, 91, 92, 93, 94, 95, 96, 97, 98, 99, 100, 101, 102, 103, 104, 105, 106, 107, 108, 109, 110, 111, 112, 113, 114, 115, 116, 117, 118, 119, 120, 121, 122, 123, 124, 125, 126, 127, 128, 129, 130, 131, 132] ++ ([133, 134, 135, 136, 137, 138, 139, 140, 141, 142, 143, 144, 145, 146, 147, 148, 149, 150, 151, 152, 153, 154, 155, 156, 157, 158, 159, 160, 161, 162, 163, 164, 165, 166, 167, 168, 169, 170, 171, 172, 173, 174, 175, 176] ++ ([177, 178, 179, 180, 181, 182, 183, 184, 185, 186, 187, 188, 189, 190, 191, 192, 193, 194, 195, 196, 197, 198, 199, 200, 201, 202, 203, 204, 205, 206, 207, 208, 209, 210, 211, 212, 213, 214, 215, 216, 217, 218, 219, 220] ++ [221, 222, 223, 224, 225, 226, 227, 228, 229, 230, 231, 232, 233, 234, 235, 236, 237, 238, 239, 240, 241, 242, 243, 244, 245, 246, 247, 248, 249, 250, 251, 252, 253, 254, 255, 256, 257, 258, 259, 260, 261, 262, 263]))))), am_wt (am_wd y).2.2.2 = Cond.initialized (am_nm y).cls := List.forall_mem_append.mpr ⟨List.map_inj_left.mp am_mI0, List.forall_mem_append.mpr ⟨List.map_inj_left.mp am_mI1, List.forall_mem_append.mpr ⟨List.map_inj_left.mp am_mI2, List.forall_mem_append.mpr ⟨List.map_inj_left.mp am_mI3, List.forall_mem_append.mpr ⟨List.map_inj_left.mp am_mI4, List.map_inj_left.mp am_mI5⟩⟩⟩⟩⟩
  refine h y ?_
  rw [show ([1, 2, 3, 4, 5, 6, 7, 8, 9, 10, 11, 12, 13, 14, 15, 16, 17, 18, 19, 20, 21, 22, 23, 24, 25, 26, 27, 28, 29, 30, 31, 32, 33, 34, 35, 36, 37, 38, 39, 40, 41, 42, 43, 44] ++ ([45, 46, 47, 48, 49, 50, 51, 52, 53, 54, 55, 56, 57, 58, 59, 60, 61, 62, 63, 64, 65, 66, 67, 68, 69, 70, 71, 72, 73, 74, 75, 76, 77, 78, 79, 80, 81, 82, 83, 84, 85, 86, 87, 88] ++ ([89, 90, 91, 92, 93, 94, 95, 96, 97, 98, 99, 100, 101, 102, 103, 104, 105, 106, 107, 108, 109, 110, 111, 112, 113, 114, 115, 116, 117, 118, 119, 120, 121, 122, 123, 124, 125, 126, 127, 128, 129, 130, 131, 132] ++ ([133, 134, 135, 136, 137, 138, 139, 140, 141, 142, 143, 144, 145, 146, 147, 148, 149, 150, 151, 152, 153, 154, 155, 156, 157, 158, 159, 160, 161, 162, 163, 164, 165, 166, 167, 168, 169, 170, 171, 172, 173, 174, 175, 176] ++ ([177, 178, 179, 180, 181, 182, 183, 184, 185, 186, 187, 188, 189, 190, 191, 192, 193, 194, 195, 196, 197, 198, 199, 200, 201, 202, 203, 204, 205, 206, 207, 208, 209, 210, 211, 212, 213, 214, 215, 216, 217, 218, 219, 220] ++ [221, 222, 223, 224, 225, 226, 227, 228, 229, 230, 231, 232, 233, 234, 235, 236, 237, 238, 239, 240, 241, 242, 243, 244, 245, 246, 247, 248, 249, 250, 251, 252, 253, 254, 255, 256, 257, 258, 259, 260, 261, 262, 263]))))) = List.range' 1 263 from rfl]
  exact List.mem_range'_1.mpr ⟨h1, by have : y < 264 := h2; omega⟩
set_option maxRecDepth 100000 in
theorem am_mN {y : Nat} (h1 : 1 ≤ y) (h2 : y < am_NM) : (am_nm y).cls = am_cn (am_in y).1 := by
  have h : ∀ y ∈ ([1, 2, 3, 4, 5, 6, 7, 8, 9, 10, 11, 12, 13, 14, 15, 16, 17, 18, 19, 20, 21, 22, 23, 24, 25, 26, 27, 28, 29, 30, 31, 32, 33, 34, 35, 36, 37, 38, 39, 40, 41, 42, 43, 44] ++ ([45, 46, 47, 48, 49, 50, 51, 52, 53, 54, 55, 56, 57, 58, 59, 60, 61, 62, 63, 64, 65, 66, 67, 68, 69, 70, 71, 72, 73, 74, 75, 76, 77, 78, 79, 80, 81, 82, 83, 84, 85, 86, 87, 88] ++ ([89, 90, 91, 92, 93, 94, 95, 96, 97, 98, 99, 100, 101, 102, 103, 104, 105, 106, 107, 108, 109, 110, 111, 112, 113, 114, 115, 116, 117, 118, 119, 120, 121, 122, 123, 124, 125, 126, 127, 128, 129, 130, 131, 132] ++ ([133, 134, 135, 136, 137, 138, 139, 140, 141, 142, 143, 144, 145, 146, 147, 148, 149, 150, 151, 152, 153, 154, 155, 156, 157, 158, 159, 160, 161, 162, 163, 164, 165, 166, 167, 168, 169, 170, 171, 172, 173, 174, 175, 176] ++ ([177, 178, 179, 180, 181, 182, 183, 184, 185, 186, 187, 188, 189, 190, 191, 192, 193, 194, 195, 196, 197, 198, 199, 200, 201, 202, 203, 204, 205, 206, 207, 208, 209, 210, 211, 212, 213, 214, 215, 216, 217, 218, 219, 220] ++ [221, 222, 223, 224, 225, 226, 227, 228, 229, 230, 231, 232, 233, 234, 235, 236, 237, 238, 239, 240, 241, 242, 243, 244, 245, 246, 247, 248, 249, 250, 251, 252, 253, 254, 255, 256, 257, 258, 259, 260, 261, 262, 263]))))), (am_nm y).cls = am_cn (am_in y).1 := List.forall_mem_append.mpr ⟨List.map_inj_left.mp am_mN0, List.forall_mem_append.mpr ⟨List.map_inj_left.mp am_mN1, List.forall_mem_append.mpr ⟨List.map_inj_left.mp am_mN2, List.forall_mem_append.mpr ⟨List.map_inj_left.mp am_mN3, List.forall_mem_append.mpr ⟨List.map_inj_left.mp am_mN4, List.map_inj_left.mp am_mN5⟩⟩⟩⟩⟩
  refine h y ?_
  rw [show ([1, 2, 3, 4, 5, 6, 7, 8, 9, 10, 11, 12, 13, 14, 15, 16, 17, 18, 19, 20, 21, 22, 23, 24, 25, 26, 27, 28, 29, 30, 31, 32, 33, 34, 35, 36, 37, 38, 39, 40, 41, 42, 43, 44] ++ ([45, 46, 47, 48, 49, 50, 51, 52, 53, 54, 55, 56, 57, 58, 59, 60, 61, 62, 63, 64, 65, 66, 67, 68, 69, 70, 71, 72, 73, 74, 75, 76, 77, 78, 79, 80, 81, 82, 83, 84, 85, 86, 87, 88] ++ ([89, 90, 91, 92, 93, 94, 95, 96, 97, 98, 99, 100, 101, 102, 103, 104, 105, 106, 107, 108, 109, 110, 111, 112, 113, 114, 115, 116, 117, 118, 119, 120, 121, 122, 123, 124, 125, 126, 127, 128, 129, 130, 131, 132] ++ ([133, 134, 135, 136, 137, 138, 139, 140, 141, 142, 143, 144, 145, 146, 147, 148, 149, 150, 151, 152, 153, 154, 155, 156, 157, 158, 159, 160, 161, 162, 163, 164, 165, 166, 167, 168, 169, 170, 171, 172, 173, 174, 175, 176] ++ ([177, 178, 179, 180, 181, 182, 183, 184, 185, 186, 187, 188, 189, 190, 191, 192, 193, 194, 195, 196, 197, 198, 199, 200, 201, 202, 203, 204, 205, 206, 207, 208, 209, 210, 211, 212, 213, 214, 215, 216, 217, 218, 219, 220] ++ [221, 222, 223, 224, 225, 226, 227, 228, 229, 230, 231, 232, 233, 234, 235, 236, 237, 238, 239, 240, 241, 242, 243, 244, 245, 246, 247, 248, 249, 250, 251, 252, 253, 254, 255, 256, 257, 258, 259, 260, 261, 262, 263]))))) = List.range' 1 263 from rfl]
  exact List.mem_range'_1.mpr ⟨h1, by have : y < 264 := h2; omega⟩
set_option maxRecDepth 100000 in
theorem am_mV {y : Nat} (h1 : 1 ≤ y) (h2 : y < am_NM) : (bif Nat.beq (am_in y).2.2.2 2 then (am_nm y).name else "<init>") = "<init>" := by
  have h : ∀ y ∈ ([1, 2, 3, 4, 5, 6, 7, 8, 9, 10, 11, 12, 13, 14, 15, 16, 17, 18, 19, 20, 21, 22, 23, 24, 25, 26, 27, 28, 29, 30, 31, 32, 33, 34, 35, 36, 37, 38, 39, 40, 41, 42, 43, 44] ++ ([45, 46, 47, 48, 49, 50, 51, 52, 53, 54, 55, 56, 57, 58, 59, 60, 61, 62, 63, 64, 65, 66, 67, 68, 69, 70, 71, 72, 73, 74, 75, 76, 77, 78, 79, 80, 81, 82, 83, 84, 85, 86, 87, 88] ++ ([89, 90, 91, 92, 93, 94, 95, 96, 97, 98, 99, 100, 101, 102, 103, 104, 105, 106, 107, 108, 109, 110, 111, 112, 113, 114, 115, 116, 117, 118, 119, 120, 121, 122, 123, 124, 125, 126, 127, 128, 129, 130, 131, 132] ++ ([133, 134, 135, 136, 137, 138, 139, 140, 141, 142, 143, 144, 145, 146, 147, 148, 149, 150, 151, 152, 153, 154, 155, 156, 157, 158, 159, 160, 161, 162, 163, 164, 165, 166, 167, 168, 169, 170, 171, 172, 173, 174, 175, 176] ++ ([177, 178, 179, 180, 181, 182, 183, 184, 185, 186, 187, 188, 189, 190, 191, 192, 193, 194, 195, 196, 197, 198, 199, 200, 201, 202, 203, 204, 205, 206, 207, 208, 209, 210, 211, 212, 213, 214, 215, 216, 217, 218, 219, 220] ++ [221, 222, 223, 224, 225, 226, 227, 228, 229, 230, 231, 232, 233, 234, 235, 236, 237, 238, 239, 240, 241, 242, 243, 244, 245, 246, 247, 248, 249, 250, 251, 252, 253, 254, 255, 256, 257, 258, 259, 260, 261, 262, 263]))))), (bif Nat.beq (am_in y).2.2.2 2 then (am_nm y).name else "<init>") = "<init>" := List.forall_mem_append.mpr ⟨List.map_inj_left.mp am_mV0, List.forall_mem_append.mpr ⟨List.map_inj_left.mp am_mV1, List.forall_mem_append.mpr ⟨List.map_inj_left.mp am_mV2, List.forall_mem_append.mpr ⟨List.map_inj_left.mp am_mV3, List.forall_mem_append.mpr ⟨List.map_inj_left.mp am_mV4, List.map_inj_left.mp am_mV5⟩⟩⟩⟩⟩
  refine h y ?_
  rw [show ([1, 2, 3, 4, 5, 6, 7, 8, 9, 10, 11, 12, 13, 14, 15, 16, 17, 18, 19, 20, 21, 22, 23, 24, 25, 26, 27, 28, 29, 30, 31, 32, 33, 34, 35, 36, 37, 38, 39, 40, 41, 42, 43, 44] ++ ([45, 46, 47, 48, 49, 50, 51, 52, 53, 54, 55, 56, 57, 58, 59, 60, 61, 62, 63, 64, 65, 66, 67, 68, 69, 70, 71, 72, 73, 74, 75, 76, 77, 78, 79, 80, 81, 82, 83, 84, 85, 86, 87, 88] ++ ([89, 90, 91, 92, 93, 94, 95, 96, 97, 98, 99, 100, 101, 102, 103, 104, 105, 106, 107, 108, 109, 110, 111, 112, 113, 114, 115, 116, 117, 118, 119, 120, 121, 122, 123, 124, 125, 126, 127, 128, 129, 130, 131, 132] ++ ([133, 134, 135, 136, 137, 138, 139, 140, 141, 142, 143, 144, 145, 146, 147, 148, 149, 150, 151, 152, 153, 154, 155, 156, 157, 158, 159, 160, 161, 162, 163, 164, 165, 166, 167, 168, 169, 170, 171, 172, 173, 174, 175, 176] ++ ([177, 178, 179, 180, 181, 182, 183, 184, 185, 186, 187, 188, 189, 190, 191, 192, 193, 194, 195, 196, 197, 198, 199, 200, 201, 202, 203, 204, 205, 206, 207, 208, 209, 210, 211, 212, 213, 214, 215, 216, 217, 218, 219, 220] ++ [221, 222, 223, 224, 225, 226, 227, 228, 229, 230, 231, 232, 233, 234, 235, 236, 237, 238, 239, 240, 241, 242, 243, 244, 245, 246, 247, 248, 249, 250, 251, 252, 253, 254, 255, 256, 257, 258, 259, 260, 261, 262, 263]))))) = List.range' 1 263 from rfl]
  exact List.mem_range'_1.mpr ⟨h1, by have : y < 264 := h2; omega⟩
theorem am_cl : ∀ ci, ci < 14 → vwCl[ci]? = some (am_cn ci, am_TT ci, am_N ci)
  | 0, _ => rfl
  | 1, _ => rfl
  | 2, _ => rfl
  | 3, _ => rfl
  | 4, _ => rfl
  | 5, _ => rfl
  | 6, _ => rfl
  | 7, _ => rfl
  | 8, _ => rfl
  | 9, _ => rfl
  | 10, _ => rfl
  | 11, _ => rfl
  | 12, _ => rfl
  | 13, _ => rfl
  | n + 14, h => absurd h (by omega)
theorem am_kL : ((List.range 14).all fun ci => ((List.range (am_N ci)).all fun k => Nat.blt (am_lw ci k) am_nw) && Nat.blt (am_iw ci).1 am_nw && Nat.blt (am_iw ci).2 am_nw) = true := by decide +kernel
theorem am_cT : ∀ ci, ci < 14 → (∀ k, k < am_N ci → parseFieldDescriptor (am_TT ci k).2.2.1 = some (am_ty ci k)) ∧ (∀ a, a < am_N ci → ∀ b, b < am_N ci → a ≠ b → (am_TT ci a).2.1 ≠ (am_TT ci b).2.1)
  | 0, _ => ⟨tyX0_ok, nmX0⟩
  | 1, _ => ⟨tyX1_ok, nmX1⟩
  | 2, _ => ⟨tyX2_ok, nmX2⟩
  | 3, _ => ⟨tyX3_ok, nmX3⟩
  | 4, _ => ⟨tyX4_ok, nmX4⟩
  | 5, _ => ⟨tyX5_ok, nmX5⟩
  | 6, _ => ⟨tyX6_ok, nmX6⟩
  | 7, _ => ⟨tyX7_ok, nmX7⟩
  | 8, _ => ⟨tyX8_ok, nmX8⟩
  | 9, _ => ⟨tyX9_ok, nmX9⟩
  | 10, _ => ⟨tyX10_ok, nmX10⟩
  | 11, _ => ⟨tyX11_ok, nmX11⟩
  | 12, _ => ⟨tyX12_ok, nmX12⟩
  | 13, _ => ⟨tyX13_ok, nmX13⟩
  | n + 14, h => absurd h (by omega)
theorem am_lay1 : ∀ ci, ci < 14 → ∀ k, k < am_N ci → am_wt (am_lw ci k) = u_lay (am_cn ci) (am_TT ci) k
  | 0, _ => fun k hk => List.map_inj_left.mp am_l0 k (by rw [show ([0, 1, 2, 3, 4, 5] : List Nat) = List.range' 0 6 from rfl]; exact List.mem_range'_1.mpr ⟨Nat.zero_le k, by have : k < 6 := hk; omega⟩)
  | 1, _ => fun k hk => List.map_inj_left.mp am_l1 k (by rw [show ([0, 1, 2, 3, 4, 5, 6, 7] : List Nat) = List.range' 0 8 from rfl]; exact List.mem_range'_1.mpr ⟨Nat.zero_le k, by have : k < 8 := hk; omega⟩)
  | 2, _ => fun k hk => List.map_inj_left.mp am_l2 k (by rw [show ([0, 1, 2, 3, 4, 5, 6, 7, 8, 9, 10, 11] : List Nat) = List.range' 0 12 from rfl]; exact List.mem_range'_1.mpr ⟨Nat.zero_le k, by have : k < 12 := hk; omega⟩)
  | 3, _ => fun k hk => List.map_inj_left.mp am_l3 k (by rw [show ([0, 1, 2, 3, 4, 5, 6, 7, 8, 9] : List Nat) = List.range' 0 10 from rfl]; exact List.mem_range'_1.mpr ⟨Nat.zero_le k, by have : k < 10 := hk; omega⟩)
  | 4, _ => fun k hk => List.map_inj_left.mp am_l4 k (by rw [show ([0, 1, 2, 3, 4, 5, 6, 7, 8, 9, 10] : List Nat) = List.range' 0 11 from rfl]; exact List.mem_range'_1.mpr ⟨Nat.zero_le k, by have : k < 11 := hk; omega⟩)
  | 5, _ => fun k hk => List.map_inj_left.mp am_l5 k (by rw [show ([0, 1, 2, 3, 4] : List Nat) = List.range' 0 5 from rfl]; exact List.mem_range'_1.mpr ⟨Nat.zero_le k, by have : k < 5 := hk; omega⟩)
  | 6, _ => fun k hk => List.map_inj_left.mp am_l6 k (by rw [show ([0, 1, 2, 3, 4, 5, 6, 7, 8] : List Nat) = List.range' 0 9 from rfl]; exact List.mem_range'_1.mpr ⟨Nat.zero_le k, by have : k < 9 := hk; omega⟩)
  | 7, _ => fun k hk => List.map_inj_left.mp am_l7 k (by rw [show ([0, 1, 2, 3, 4, 5] : List Nat) = List.range' 0 6 from rfl]; exact List.mem_range'_1.mpr ⟨Nat.zero_le k, by have : k < 6 := hk; omega⟩)
  | 8, _ => fun k hk => List.map_inj_left.mp am_l8 k (by rw [show ([0, 1, 2, 3, 4, 5] : List Nat) = List.range' 0 6 from rfl]; exact List.mem_range'_1.mpr ⟨Nat.zero_le k, by have : k < 6 := hk; omega⟩)
  | 9, _ => fun k hk => List.map_inj_left.mp am_l9 k (by rw [show ([0, 1, 2, 3, 4, 5, 6] : List Nat) = List.range' 0 7 from rfl]; exact List.mem_range'_1.mpr ⟨Nat.zero_le k, by have : k < 7 := hk; omega⟩)
  | 10, _ => fun k hk => List.map_inj_left.mp am_l10 k (by rw [show ([0, 1, 2, 3, 4, 5, 6, 7, 8, 9, 10, 11, 12, 13] : List Nat) = List.range' 0 14 from rfl]; exact List.mem_range'_1.mpr ⟨Nat.zero_le k, by have : k < 14 := hk; omega⟩)
  | 11, _ => fun k hk => List.map_inj_left.mp am_l11 k (by rw [show ([0, 1, 2, 3, 4, 5, 6, 7, 8, 9, 10, 11, 12, 13, 14, 15, 16, 17, 18, 19] : List Nat) = List.range' 0 20 from rfl]; exact List.mem_range'_1.mpr ⟨Nat.zero_le k, by have : k < 20 := hk; omega⟩)
  | 12, _ => fun k hk => List.map_inj_left.mp am_l12 k (by rw [show ([0, 1, 2, 3, 4, 5] : List Nat) = List.range' 0 6 from rfl]; exact List.mem_range'_1.mpr ⟨Nat.zero_le k, by have : k < 6 := hk; omega⟩)
  | 13, _ => fun k hk => List.map_inj_left.mp am_l13 k (by rw [show ([0, 1, 2, 3, 4, 5, 6, 7, 8, 9, 10, 11, 12, 13, 14, 15, 16, 17, 18, 19, 20, 21, 22, 23, 24, 25, 26, 27, 28, 29, 30, 31, 32, 33, 34, 35, 36, 37, 38, 39, 40, 41, 42, 43, 44, 45, 46, 47, 48, 49, 50, 51, 52, 53, 54, 55, 56, 57, 58, 59, 60, 61, 62, 63, 64, 65, 66, 67, 68, 69, 70, 71, 72, 73, 74, 75, 76, 77, 78, 79, 80, 81] : List Nat) = List.range' 0 82 from rfl]; exact List.mem_range'_1.mpr ⟨Nat.zero_le k, by have : k < 82 := hk; omega⟩)
  | n + 14, h => absurd h (by omega)
theorem am_ini1 : ∀ ci, ci < 14 → am_wt (am_iw ci).1 = .instantiable (am_cn ci) (am_N ci) ∧ am_wt (am_iw ci).2 = .initialized (am_cn ci)
  | 0, _ => am_i0
  | 1, _ => am_i1
  | 2, _ => am_i2
  | 3, _ => am_i3
  | 4, _ => am_i4
  | 5, _ => am_i5
  | 6, _ => am_i6
  | 7, _ => am_i7
  | 8, _ => am_i8
  | 9, _ => am_i9
  | 10, _ => am_i10
  | 11, _ => am_i11
  | 12, _ => am_i12
  | 13, _ => am_i13
  | n + 14, h => absurd h (by omega)
theorem am_d0 : List.map (fun k => (am_TT 0 k).1) [0, 1, 2, 3, 4, 5] = List.map (fun _ => am_cn 0) [0, 1, 2, 3, 4, 5] := rfl
theorem am_d1 : List.map (fun k => (am_TT 1 k).1) [0, 1, 2, 3, 4, 5, 6, 7] = List.map (fun _ => am_cn 1) [0, 1, 2, 3, 4, 5, 6, 7] := rfl
theorem am_d2 : List.map (fun k => (am_TT 2 k).1) [0, 1, 2, 3, 4, 5, 6, 7, 8, 9, 10, 11] = List.map (fun _ => am_cn 2) [0, 1, 2, 3, 4, 5, 6, 7, 8, 9, 10, 11] := rfl
theorem am_d3 : List.map (fun k => (am_TT 3 k).1) [0, 1, 2, 3, 4, 5, 6, 7, 8, 9] = List.map (fun _ => am_cn 3) [0, 1, 2, 3, 4, 5, 6, 7, 8, 9] := rfl
theorem am_d4 : List.map (fun k => (am_TT 4 k).1) [0, 1, 2, 3, 4, 5, 6, 7, 8, 9, 10] = List.map (fun _ => am_cn 4) [0, 1, 2, 3, 4, 5, 6, 7, 8, 9, 10] := rfl
theorem am_d5 : List.map (fun k => (am_TT 5 k).1) [0, 1, 2, 3, 4] = List.map (fun _ => am_cn 5) [0, 1, 2, 3, 4] := rfl
theorem am_d6 : List.map (fun k => (am_TT 6 k).1) [0, 1, 2, 3, 4, 5, 6, 7, 8] = List.map (fun _ => am_cn 6) [0, 1, 2, 3, 4, 5, 6, 7, 8] := rfl
theorem am_d7 : List.map (fun k => (am_TT 7 k).1) [0, 1, 2, 3, 4, 5] = List.map (fun _ => am_cn 7) [0, 1, 2, 3, 4, 5] := rfl
theorem am_d8 : List.map (fun k => (am_TT 8 k).1) [0, 1, 2, 3, 4, 5] = List.map (fun _ => am_cn 8) [0, 1, 2, 3, 4, 5] := rfl
theorem am_d9 : List.map (fun k => (am_TT 9 k).1) [0, 1, 2, 3, 4, 5, 6] = List.map (fun _ => am_cn 9) [0, 1, 2, 3, 4, 5, 6] := rfl
theorem am_d10 : List.map (fun k => (am_TT 10 k).1) [0, 1, 2, 3, 4, 5, 6, 7, 8, 9, 10, 11, 12, 13] = List.map (fun _ => am_cn 10) [0, 1, 2, 3, 4, 5, 6, 7, 8, 9, 10, 11, 12, 13] := rfl
theorem am_d11 : List.map (fun k => (am_TT 11 k).1) [0, 1, 2, 3, 4, 5, 6, 7, 8, 9, 10, 11, 12, 13, 14, 15, 16, 17, 18, 19] = List.map (fun _ => am_cn 11) [0, 1, 2, 3, 4, 5, 6, 7, 8, 9, 10, 11, 12, 13, 14, 15, 16, 17, 18, 19] := rfl
theorem am_d13 : List.map (fun k => (am_TT 13 k).1) [0, 1, 2, 3, 4, 5, 6, 7, 8, 9, 10, 11, 12, 13, 14, 15, 16, 17, 18, 19, 20, 21, 22, 23, 24, 25, 26, 27, 28, 29, 30, 31, 32, 33, 34, 35, 36, 37, 38, 39, 40, 41, 42, 43, 44, 45, 46, 47, 48, 49, 50, 51, 52, 53, 54, 55, 56, 57, 58, 59, 60, 61, 62, 63, 64, 65, 66, 67, 68, 69, 70, 71, 72, 73, 74, 75, 76, 77, 78, 79, 80, 81] = List.map (fun _ => am_cn 13) [0, 1, 2, 3, 4, 5, 6, 7, 8, 9, 10, 11, 12, 13, 14, 15, 16, 17, 18, 19, 20, 21, 22, 23, 24, 25, 26, 27, 28, 29, 30, 31, 32, 33, 34, 35, 36, 37, 38, 39, 40, 41, 42, 43, 44, 45, 46, 47, 48, 49, 50, 51, 52, 53, 54, 55, 56, 57, 58, 59, 60, 61, 62, 63, 64, 65, 66, 67, 68, 69, 70, 71, 72, 73, 74, 75, 76, 77, 78, 79, 80, 81] := rfl
theorem am_decl : ∀ ci, ci < 14 → ci ≠ 12 → ∀ k, k < am_N ci → (am_TT ci k).1 = am_cn ci
  | 0, _, _ => fun k hk => List.map_inj_left.mp am_d0 k (by rw [show ([0, 1, 2, 3, 4, 5] : List Nat) = List.range' 0 6 from rfl]; exact List.mem_range'_1.mpr ⟨Nat.zero_le k, by have : k < 6 := hk; omega⟩)
  | 1, _, _ => fun k hk => List.map_inj_left.mp am_d1 k (by rw [show ([0, 1, 2, 3, 4, 5, 6, 7] : List Nat) = List.range' 0 8 from rfl]; exact List.mem_range'_1.mpr ⟨Nat.zero_le k, by have : k < 8 := hk; omega⟩)
  | 2, _, _ => fun k hk => List.map_inj_left.mp am_d2 k (by rw [show ([0, 1, 2, 3, 4, 5, 6, 7, 8, 9, 10, 11] : List Nat) = List.range' 0 12 from rfl]; exact List.mem_range'_1.mpr ⟨Nat.zero_le k, by have : k < 12 := hk; omega⟩)
  | 3, _, _ => fun k hk => List.map_inj_left.mp am_d3 k (by rw [show ([0, 1, 2, 3, 4, 5, 6, 7, 8, 9] : List Nat) = List.range' 0 10 from rfl]; exact List.mem_range'_1.mpr ⟨Nat.zero_le k, by have : k < 10 := hk; omega⟩)
  | 4, _, _ => fun k hk => List.map_inj_left.mp am_d4 k (by rw [show ([0, 1, 2, 3, 4, 5, 6, 7, 8, 9, 10] : List Nat) = List.range' 0 11 from rfl]; exact List.mem_range'_1.mpr ⟨Nat.zero_le k, by have : k < 11 := hk; omega⟩)
  | 5, _, _ => fun k hk => List.map_inj_left.mp am_d5 k (by rw [show ([0, 1, 2, 3, 4] : List Nat) = List.range' 0 5 from rfl]; exact List.mem_range'_1.mpr ⟨Nat.zero_le k, by have : k < 5 := hk; omega⟩)
  | 6, _, _ => fun k hk => List.map_inj_left.mp am_d6 k (by rw [show ([0, 1, 2, 3, 4, 5, 6, 7, 8] : List Nat) = List.range' 0 9 from rfl]; exact List.mem_range'_1.mpr ⟨Nat.zero_le k, by have : k < 9 := hk; omega⟩)
  | 7, _, _ => fun k hk => List.map_inj_left.mp am_d7 k (by rw [show ([0, 1, 2, 3, 4, 5] : List Nat) = List.range' 0 6 from rfl]; exact List.mem_range'_1.mpr ⟨Nat.zero_le k, by have : k < 6 := hk; omega⟩)
  | 8, _, _ => fun k hk => List.map_inj_left.mp am_d8 k (by rw [show ([0, 1, 2, 3, 4, 5] : List Nat) = List.range' 0 6 from rfl]; exact List.mem_range'_1.mpr ⟨Nat.zero_le k, by have : k < 6 := hk; omega⟩)
  | 9, _, _ => fun k hk => List.map_inj_left.mp am_d9 k (by rw [show ([0, 1, 2, 3, 4, 5, 6] : List Nat) = List.range' 0 7 from rfl]; exact List.mem_range'_1.mpr ⟨Nat.zero_le k, by have : k < 7 := hk; omega⟩)
  | 10, _, _ => fun k hk => List.map_inj_left.mp am_d10 k (by rw [show ([0, 1, 2, 3, 4, 5, 6, 7, 8, 9, 10, 11, 12, 13] : List Nat) = List.range' 0 14 from rfl]; exact List.mem_range'_1.mpr ⟨Nat.zero_le k, by have : k < 14 := hk; omega⟩)
  | 11, _, _ => fun k hk => List.map_inj_left.mp am_d11 k (by rw [show ([0, 1, 2, 3, 4, 5, 6, 7, 8, 9, 10, 11, 12, 13, 14, 15, 16, 17, 18, 19] : List Nat) = List.range' 0 20 from rfl]; exact List.mem_range'_1.mpr ⟨Nat.zero_le k, by have : k < 20 := hk; omega⟩)
  | 12, _, h => absurd rfl h
  | 13, _, _ => fun k hk => List.map_inj_left.mp am_d13 k (by rw [show ([0, 1, 2, 3, 4, 5, 6, 7, 8, 9, 10, 11, 12, 13, 14, 15, 16, 17, 18, 19, 20, 21, 22, 23, 24, 25, 26, 27, 28, 29, 30, 31, 32, 33, 34, 35, 36, 37, 38, 39, 40, 41, 42, 43, 44, 45, 46, 47, 48, 49, 50, 51, 52, 53, 54, 55, 56, 57, 58, 59, 60, 61, 62, 63, 64, 65, 66, 67, 68, 69, 70, 71, 72, 73, 74, 75, 76, 77, 78, 79, 80, 81] : List Nat) = List.range' 0 82 from rfl]; exact List.mem_range'_1.mpr ⟨Nat.zero_le k, by have : k < 82 := hk; omega⟩)
  | n + 14, h, _ => absurd h (by omega)
def am_big : List Cond := lw_tbl.filter goodWord
theorem am_big_of {w : Cond} (h : w ∈ lw_tbl) (hg : goodWord w = true) : w ∈ am_big := List.mem_filter.mpr ⟨h, hg⟩
theorem am_cls {ci : Nat} (h : ci < 14) : (∀ w ∈ u_ws (am_cn ci) (am_TT ci) (am_N ci), w ∈ am_big) ∧ Cond.instantiable (am_cn ci) (am_N ci) ∈ am_big ∧ Cond.initialized (am_cn ci) ∈ am_big := by
  have h1 := List.all_eq_true.mp am_kL ci (List.mem_range.mpr h)
  simp only [Bool.and_eq_true] at h1
  obtain ⟨⟨a1, a2⟩, a3⟩ := h1
  refine ⟨fun w hw => ?_, ?_, ?_⟩
  · obtain ⟨k, hk, rfl⟩ := List.mem_map.mp hw
    have hk := List.mem_range.mp hk
    refine am_big_of ?_ ?_
    · rw [← am_lay1 ci h k hk]
      exact am_wt_in (Nat.le_of_ble_eq_true (List.all_eq_true.mp a1 k (List.mem_range.mpr hk)))
    · unfold u_lay
      split <;> rfl
  · refine am_big_of ?_ rfl
    rw [← (am_ini1 ci h).1]
    exact am_wt_in (Nat.le_of_ble_eq_true a2)
  · refine am_big_of ?_ rfl
    rw [← (am_ini1 ci h).2]
    exact am_wt_in (Nat.le_of_ble_eq_true a3)
theorem am_arrC : ∀ tc, tc < 4 → Cond.arrayClass (am_aty tc) ∈ am_big
  | 0, _ => am_big_of (show am_wt 210 ∈ lw_tbl from am_wt_in (by decide)) rfl
  | 1, _ => am_big_of (show am_wt 168 ∈ lw_tbl from am_wt_in (by decide)) rfl
  | 2, _ => am_big_of (show am_wt 1625 ∈ lw_tbl from am_wt_in (by decide)) rfl
  | 3, _ => am_big_of (show am_wt 291 ∈ lw_tbl from am_wt_in (by decide)) rfl
  | n + 4, h => absurd h (by omega)
