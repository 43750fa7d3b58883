/-! the regions, 2 -/
theorem bm_c5_11 : bm_chk 400 10 (6, 5, [(-2147483648, 2147483647), (10, 10)]) = true := by decide +kernel
theorem bm_c5_12 : bm_chk 400 10 (6, 5, [(-2147483648, 2147483647), (11, 11)]) = true := by decide +kernel
theorem bm_c5_13 : bm_chk 400 10 (6, 5, [(-2147483648, 2147483647), (12, 12)]) = true := by decide +kernel
theorem bm_c5_14 : bm_chk 400 10 (6, 5, [(-2147483648, 2147483647), (13, 13)]) = true := by decide +kernel
theorem bm_c5_15 : bm_chk 400 10 (6, 5, [(-2147483648, 2147483647), (14, 14)]) = true := by decide +kernel
theorem bm_c5_16 : bm_chk 400 10 (6, 5, [(-2147483648, 2147483647), (15, 15)]) = true := by decide +kernel
theorem bm_c5_17 : bm_chk 400 10 (6, 5, [(-2147483648, 2147483647), (16, 2147483647)]) = true := by decide +kernel
theorem bm_c6_0 : bm_chk 400 10 (6, 6, [(-2147483648, 2147483647), (-2147483648, -1)]) = true := by decide +kernel
theorem bm_c6_1 : bm_chk 400 10 (6, 6, [(-2147483648, 2147483647), (0, 19), (-2147483648, -1)]) = true := by decide +kernel
theorem bm_c6_2 : bm_chk 400 10 (6, 6, [(-2147483648, 2147483647), (0, 19), (0, 2100), (-2147483648, -1)]) = true := by decide +kernel
theorem bm_c6_3 : bm_chk 400 10 (6, 6, [(-2147483648, 2147483647), (0, 19), (0, 2100), (0, 19), (-2147483648, -1)]) = true := by decide +kernel
theorem bm_c6_4 : bm_chk 400 10 (6, 6, [(-2147483648, 2147483647), (0, 19), (0, 2100), (0, 19), (0, 99)]) = true := by decide +kernel
theorem bm_c6_5 : bm_chk 400 10 (6, 6, [(-2147483648, 2147483647), (0, 19), (0, 2100), (0, 19), (100, 2147483647)]) = true := by decide +kernel
theorem bm_c6_6 : bm_chk 400 10 (6, 6, [(-2147483648, 2147483647), (0, 19), (0, 2100), (20, 2147483647)]) = true := by decide +kernel
theorem bm_c6_7 : bm_chk 400 10 (6, 6, [(-2147483648, 2147483647), (0, 19), (2101, 2147483647)]) = true := by decide +kernel
theorem bm_c6_8 : bm_chk 400 10 (6, 6, [(-2147483648, 2147483647), (20, 2147483647)]) = true := by decide +kernel
theorem bm_c7_0 : bm_chk 400 10 (6, 7, [(-2147483648, 2147483647), (-2147483648, -1)]) = true := by decide +kernel
theorem bm_c7_1 : bm_chk 400 10 (6, 7, [(-2147483648, 2147483647), (0, 2147483647)]) = true := by decide +kernel
theorem bm_c8_0 : bm_chk 400 10 (6, 8, [(-2147483648, 2147483647), (-2147483648, -1)]) = true := by decide +kernel
theorem bm_c8_1 : bm_chk 400 10 (6, 8, [(-2147483648, 2147483647), (0, 2147483647)]) = true := by decide +kernel
theorem bm_c9_0 : bm_chk 400 10 (6, 9, [(-2147483648, 2147483647), (-2147483648, -1)]) = true := by decide +kernel
theorem bm_c9_1 : bm_chk 400 10 (6, 9, [(-2147483648, 2147483647), (0, 2147483647)]) = true := by decide +kernel
theorem bm_c10_0 : bm_chk 400 10 (6, 10, [(-2147483648, 2147483647), (-2147483648, -1)]) = true := by decide +kernel
theorem bm_c10_1 : bm_chk 400 10 (6, 10, [(-2147483648, 2147483647), (0, 2147483647)]) = true := by decide +kernel
theorem bm_c11_0 : bm_chk 400 10 (6, 11, [(-2147483648, 2147483647), (-2147483648, -1)]) = true := by decide +kernel
theorem bm_c11_1 : bm_chk 400 10 (6, 11, [(-2147483648, 2147483647), (0, 2147483647)]) = true := by decide +kernel
theorem bm_c12_0 : bm_chk 400 10 (6, 12, [(-2147483648, 2147483647), (-2147483648, -1)]) = true := by decide +kernel
theorem bm_c12_1 : bm_chk 400 10 (6, 12, [(-2147483648, 2147483647), (0, 2147483647)]) = true := by decide +kernel
theorem bm_c13_0 : bm_chk 400 10 (6, 13, [(-2147483648, 2147483647), (-2147483648, -1)]) = true := by decide +kernel
