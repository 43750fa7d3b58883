/-! the regions, 3 -/
theorem bm_c13_1 : bm_chk 400 10 (6, 13, [(-2147483648, 2147483647), (0, 2147483647)]) = true := by decide +kernel
theorem bm_c14_0 : bm_chk 400 10 (6, 14, [(-2147483648, 2147483647), (-2147483648, -1)]) = true := by decide +kernel
theorem bm_c14_1 : bm_chk 400 10 (6, 14, [(-2147483648, 2147483647), (0, 2147483647)]) = true := by decide +kernel
theorem bm_c15_0 : bm_chk 400 10 (6, 15, [(-2147483648, 2147483647), (-2147483648, -1)]) = true := by decide +kernel
theorem bm_c15_1 : bm_chk 400 10 (6, 15, [(-2147483648, 2147483647), (0, 2147483647)]) = true := by decide +kernel
theorem bm_c16_0 : bm_chk 400 10 (6, 16, [(-2147483648, 2147483647), (-2147483648, -1)]) = true := by decide +kernel
theorem bm_c16_1 : bm_chk 400 10 (6, 16, [(-2147483648, 2147483647), (0, 19), (-2147483648, -1)]) = true := by decide +kernel
theorem bm_c16_2 : bm_chk 400 10 (6, 16, [(-2147483648, 2147483647), (0, 19), (0, 29999)]) = true := by decide +kernel
theorem bm_c16_3 : bm_chk 400 10 (6, 16, [(-2147483648, 2147483647), (0, 19), (30000, 2147483647)]) = true := by decide +kernel
theorem bm_c16_4 : bm_chk 400 10 (6, 16, [(-2147483648, 2147483647), (20, 2147483647)]) = true := by decide +kernel
theorem bm_c17_0 : bm_chk 400 10 (6, 17, [(-2147483648, 2147483647), (-2147483648, -1)]) = true := by decide +kernel
theorem bm_c17_1 : bm_chk 400 10 (6, 17, [(-2147483648, 2147483647), (0, 2147483647)]) = true := by decide +kernel
theorem bm_c18_0 : bm_chk 400 10 (6, 18, [(-2147483648, 2147483647), (-2147483648, -1)]) = true := by decide +kernel
theorem bm_c18_1 : bm_chk 400 10 (6, 18, [(-2147483648, 2147483647), (0, 2147483647)]) = true := by decide +kernel
theorem bm_c19_0 : bm_chk 400 10 (6, 19, [(-2147483648, 2147483647), (-2147483648, 0)]) = true := by decide +kernel
theorem bm_c19_1 : bm_chk 400 10 (6, 19, [(-2147483648, 2147483647), (1, 63), (-2147483648, -1)]) = true := by decide +kernel
theorem bm_c19_2 : bm_chk 400 10 (6, 19, [(-2147483648, 2147483647), (1, 63), (0, 29999)]) = true := by decide +kernel
theorem bm_c19_3 : bm_chk 400 10 (6, 19, [(-2147483648, 2147483647), (1, 63), (30000, 2147483647)]) = true := by decide +kernel
theorem bm_c19_4 : bm_chk 400 10 (6, 19, [(-2147483648, 2147483647), (64, 2147483647)]) = true := by decide +kernel
theorem bm_c20_0 : bm_chk 400 10 (6, 20, [(-2147483648, 2147483647), (-2147483648, -1)]) = true := by decide +kernel
theorem bm_c20_1 : bm_chk 400 10 (6, 20, [(-2147483648, 2147483647), (0, 2147483647)]) = true := by decide +kernel
theorem bm_c21_0 : bm_chk 400 10 (6, 21, [(-2147483648, 2147483647), (-2147483648, -1)]) = true := by decide +kernel
theorem bm_c21_1 : bm_chk 400 10 (6, 21, [(-2147483648, 2147483647), (0, 2147483647)]) = true := by decide +kernel
theorem bm_c22_0 : bm_chk 400 10 (6, 22, []) = true := by decide +kernel
theorem bm_c23_0 : bm_chk 400 10 (6, 23, []) = true := by decide +kernel
theorem bm_c24_0 : bm_chk 400 10 (6, 24, [(-2147483648, 2147483647), (-2147483648, -1)]) = true := by decide +kernel
theorem bm_c24_1 : bm_chk 400 10 (6, 24, [(-2147483648, 2147483647), (0, 0)]) = true := by decide +kernel
theorem bm_c24_2 : bm_chk 400 10 (6, 24, [(-2147483648, 2147483647), (1, 2147483647)]) = true := by decide +kernel
theorem bm_c25_0 : bm_chk 400 10 (6, 25, [(-2147483648, 2147483647), (-2147483648, -1)]) = true := by decide +kernel
