/-! the regions, 5 -/
theorem bm_c33_10 : bm_chk 400 10 (6, 33, [(-2147483648, 2147483647), (9, 9)]) = true := by decide +kernel
theorem bm_c33_11 : bm_chk 400 10 (6, 33, [(-2147483648, 2147483647), (10, 10)]) = true := by decide +kernel
theorem bm_c33_12 : bm_chk 400 10 (6, 33, [(-2147483648, 2147483647), (11, 11)]) = true := by decide +kernel
theorem bm_c33_13 : bm_chk 400 10 (6, 33, [(-2147483648, 2147483647), (12, 12)]) = true := by decide +kernel
theorem bm_c33_14 : bm_chk 400 10 (6, 33, [(-2147483648, 2147483647), (13, 13)]) = true := by decide +kernel
theorem bm_c33_15 : bm_chk 400 10 (6, 33, [(-2147483648, 2147483647), (14, 14)]) = true := by decide +kernel
theorem bm_c33_16 : bm_chk 400 10 (6, 33, [(-2147483648, 2147483647), (15, 15)]) = true := by decide +kernel
theorem bm_c33_17 : bm_chk 400 10 (6, 33, [(-2147483648, 2147483647), (16, 16)]) = true := by decide +kernel
theorem bm_c33_18 : bm_chk 400 10 (6, 33, [(-2147483648, 2147483647), (17, 17)]) = true := by decide +kernel
theorem bm_c33_19 : bm_chk 400 10 (6, 33, [(-2147483648, 2147483647), (18, 18)]) = true := by decide +kernel
theorem bm_c33_20 : bm_chk 400 10 (6, 33, [(-2147483648, 2147483647), (19, 19)]) = true := by decide +kernel
theorem bm_c33_21 : bm_chk 400 10 (6, 33, [(-2147483648, 2147483647), (20, 2147483647)]) = true := by decide +kernel
theorem bm_c34_0 : bm_chk 400 10 (6, 34, [(-2147483648, 2147483647), (-2147483648, 0)]) = true := by decide +kernel
theorem bm_c34_1 : bm_chk 400 10 (6, 34, [(-2147483648, 2147483647), (1, 63), (-2147483648, -1)]) = true := by decide +kernel
theorem bm_c34_2 : bm_chk 400 10 (6, 34, [(-2147483648, 2147483647), (1, 63), (0, 29999)]) = true := by decide +kernel
theorem bm_c34_3 : bm_chk 400 10 (6, 34, [(-2147483648, 2147483647), (1, 63), (30000, 2147483647)]) = true := by decide +kernel
theorem bm_c34_4 : bm_chk 400 10 (6, 34, [(-2147483648, 2147483647), (64, 2147483647)]) = true := by decide +kernel
theorem bm_c35_0 : bm_chk 400 10 (6, 35, [(-2147483648, 2147483647), (-2147483648, -1)]) = true := by decide +kernel
theorem bm_c35_1 : bm_chk 400 10 (6, 35, [(-2147483648, 2147483647), (0, 2147483647)]) = true := by decide +kernel
theorem bm_c36_0 : bm_chk 400 10 (6, 36, []) = true := by decide +kernel
theorem bm_c37_0 : bm_chk 400 10 (6, 37, [(-2147483648, 2147483647), (-2147483648, -1)]) = true := by decide +kernel
theorem bm_c37_1 : bm_chk 400 10 (6, 37, [(-2147483648, 2147483647), (0, 0)]) = true := by decide +kernel
theorem bm_c37_2 : bm_chk 400 10 (6, 37, [(-2147483648, 2147483647), (1, 1)]) = true := by decide +kernel
theorem bm_c37_3 : bm_chk 400 10 (6, 37, [(-2147483648, 2147483647), (2, 2)]) = true := by decide +kernel
theorem bm_c37_4 : bm_chk 400 10 (6, 37, [(-2147483648, 2147483647), (3, 3)]) = true := by decide +kernel
theorem bm_c37_5 : bm_chk 400 10 (6, 37, [(-2147483648, 2147483647), (4, 4)]) = true := by decide +kernel
theorem bm_c37_6 : bm_chk 400 10 (6, 37, [(-2147483648, 2147483647), (5, 5)]) = true := by decide +kernel
theorem bm_c37_7 : bm_chk 400 10 (6, 37, [(-2147483648, 2147483647), (6, 6)]) = true := by decide +kernel
theorem bm_c37_8 : bm_chk 400 10 (6, 37, [(-2147483648, 2147483647), (7, 2147483647)]) = true := by decide +kernel
