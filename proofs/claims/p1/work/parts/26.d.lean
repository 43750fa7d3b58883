/-! the regions, 4 -/
theorem bm_c25_1 : bm_chk 400 10 (6, 25, [(-2147483648, 2147483647), (0, 0)]) = true := by decide +kernel
theorem bm_c25_2 : bm_chk 400 10 (6, 25, [(-2147483648, 2147483647), (1, 2147483647)]) = true := by decide +kernel
theorem bm_c26_0 : bm_chk 400 10 (6, 26, []) = true := by decide +kernel
theorem bm_c27_0 : bm_chk 400 10 (6, 27, [(-2147483648, 2147483647), (-2147483648, -1)]) = true := by decide +kernel
theorem bm_c27_1 : bm_chk 400 10 (6, 27, [(-2147483648, 2147483647), (0, 2147483647)]) = true := by decide +kernel
theorem bm_c28_0 : bm_chk 400 10 (6, 28, [(-2147483648, 2147483647), (-2147483648, -1)]) = true := by decide +kernel
theorem bm_c28_1 : bm_chk 400 10 (6, 28, [(-2147483648, 2147483647), (0, 0)]) = true := by decide +kernel
theorem bm_c28_2 : bm_chk 400 10 (6, 28, [(-2147483648, 2147483647), (1, 1)]) = true := by decide +kernel
theorem bm_c28_3 : bm_chk 400 10 (6, 28, [(-2147483648, 2147483647), (2, 2)]) = true := by decide +kernel
theorem bm_c28_4 : bm_chk 400 10 (6, 28, [(-2147483648, 2147483647), (3, 3)]) = true := by decide +kernel
theorem bm_c28_5 : bm_chk 400 10 (6, 28, [(-2147483648, 2147483647), (4, 2147483647)]) = true := by decide +kernel
theorem bm_c29_0 : bm_chk 400 10 (6, 29, [(-2147483648, 2147483647), (-2147483648, -1)]) = true := by decide +kernel
theorem bm_c29_1 : bm_chk 400 10 (6, 29, [(-2147483648, 2147483647), (0, 2147483647)]) = true := by decide +kernel
theorem bm_c30_0 : bm_chk 400 10 (6, 30, [(-2147483648, 2147483647), (-2147483648, -1)]) = true := by decide +kernel
theorem bm_c30_1 : bm_chk 400 10 (6, 30, [(-2147483648, 2147483647), (0, 2147483647)]) = true := by decide +kernel
theorem bm_c31_0 : bm_chk 400 10 (6, 31, []) = true := by decide +kernel
theorem bm_c32_0 : bm_chk 400 10 (6, 32, [(-2147483648, 2147483647), (-2147483648, -1)]) = true := by decide +kernel
theorem bm_c32_1 : bm_chk 400 10 (6, 32, [(-2147483648, 2147483647), (0, 9999999)]) = true := by decide +kernel
theorem bm_c32_2 : bm_chk 400 10 (6, 32, [(-2147483648, 2147483647), (10000000, 2147483647)]) = true := by decide +kernel
theorem bm_c33_0 : bm_chk 400 10 (6, 33, [(-2147483648, 2147483647), (-2147483648, -1)]) = true := by decide +kernel
theorem bm_c33_1 : bm_chk 400 10 (6, 33, [(-2147483648, 2147483647), (0, 0)]) = true := by decide +kernel
theorem bm_c33_2 : bm_chk 400 10 (6, 33, [(-2147483648, 2147483647), (1, 1)]) = true := by decide +kernel
theorem bm_c33_3 : bm_chk 400 10 (6, 33, [(-2147483648, 2147483647), (2, 2)]) = true := by decide +kernel
theorem bm_c33_4 : bm_chk 400 10 (6, 33, [(-2147483648, 2147483647), (3, 3)]) = true := by decide +kernel
theorem bm_c33_5 : bm_chk 400 10 (6, 33, [(-2147483648, 2147483647), (4, 4)]) = true := by decide +kernel
theorem bm_c33_6 : bm_chk 400 10 (6, 33, [(-2147483648, 2147483647), (5, 5)]) = true := by decide +kernel
theorem bm_c33_7 : bm_chk 400 10 (6, 33, [(-2147483648, 2147483647), (6, 6)]) = true := by decide +kernel
theorem bm_c33_8 : bm_chk 400 10 (6, 33, [(-2147483648, 2147483647), (7, 7)]) = true := by decide +kernel
theorem bm_c33_9 : bm_chk 400 10 (6, 33, [(-2147483648, 2147483647), (8, 8)]) = true := by decide +kernel
