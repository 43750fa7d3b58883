/-! the regions, 1 -/
theorem bm_cL0 : bm_chk 400 10 (0, -1, []) = true := by decide +kernel
theorem bm_cL1 : bm_chk 400 10 (1, -1, []) = true := by decide +kernel
theorem bm_cL2 : bm_chk 400 10 (2, -1, []) = true := by decide +kernel
theorem bm_cL3 : bm_chk 400 10 (3, -1, []) = true := by decide +kernel
theorem bm_cL4 : bm_chk 400 10 (4, -1, []) = true := by decide +kernel
theorem bm_cL5 : bm_chk 400 10 (5, -1, []) = true := by decide +kernel
theorem bm_c0_0 : bm_chk 400 10 (6, 0, []) = true := by decide +kernel
theorem bm_c1_0 : bm_chk 400 10 (6, 1, [(-2147483648, 2147483647), (-2147483648, -1)]) = true := by decide +kernel
theorem bm_c1_1 : bm_chk 400 10 (6, 1, [(-2147483648, 2147483647), (0, 0)]) = true := by decide +kernel
theorem bm_c1_2 : bm_chk 400 10 (6, 1, [(-2147483648, 2147483647), (1, 2147483647)]) = true := by decide +kernel
theorem bm_c2_0 : bm_chk 400 10 (6, 2, [(-2147483648, 2147483647), (-2147483648, 0)]) = true := by decide +kernel
theorem bm_c2_1 : bm_chk 400 10 (6, 2, [(-2147483648, 2147483647), (1, 9999)]) = true := by decide +kernel
theorem bm_c2_2 : bm_chk 400 10 (6, 2, [(-2147483648, 2147483647), (10000, 2147483647)]) = true := by decide +kernel
theorem bm_c3_0 : bm_chk 400 10 (6, 3, []) = true := by decide +kernel
theorem bm_c4_0 : bm_chk 400 10 (6, 4, [(-2147483648, 2147483647), (-2147483648, -1)]) = true := by decide +kernel
theorem bm_c4_1 : bm_chk 400 10 (6, 4, [(-2147483648, 2147483647), (0, 0)]) = true := by decide +kernel
theorem bm_c4_2 : bm_chk 400 10 (6, 4, [(-2147483648, 2147483647), (1, 1)]) = true := by decide +kernel
theorem bm_c4_3 : bm_chk 400 10 (6, 4, [(-2147483648, 2147483647), (2, 2147483647)]) = true := by decide +kernel
theorem bm_c5_0 : bm_chk 400 10 (6, 5, [(-2147483648, 2147483647), (-2147483648, -1)]) = true := by decide +kernel
theorem bm_c5_1 : bm_chk 400 10 (6, 5, [(-2147483648, 2147483647), (0, 0)]) = true := by decide +kernel
theorem bm_c5_2 : bm_chk 400 10 (6, 5, [(-2147483648, 2147483647), (1, 1)]) = true := by decide +kernel
theorem bm_c5_3 : bm_chk 400 10 (6, 5, [(-2147483648, 2147483647), (2, 2)]) = true := by decide +kernel
theorem bm_c5_4 : bm_chk 400 10 (6, 5, [(-2147483648, 2147483647), (3, 3)]) = true := by decide +kernel
theorem bm_c5_5 : bm_chk 400 10 (6, 5, [(-2147483648, 2147483647), (4, 4)]) = true := by decide +kernel
theorem bm_c5_6 : bm_chk 400 10 (6, 5, [(-2147483648, 2147483647), (5, 5)]) = true := by decide +kernel
theorem bm_c5_7 : bm_chk 400 10 (6, 5, [(-2147483648, 2147483647), (6, 6)]) = true := by decide +kernel
theorem bm_c5_8 : bm_chk 400 10 (6, 5, [(-2147483648, 2147483647), (7, 7)]) = true := by decide +kernel
theorem bm_c5_9 : bm_chk 400 10 (6, 5, [(-2147483648, 2147483647), (8, 8)]) = true := by decide +kernel
theorem bm_c5_10 : bm_chk 400 10 (6, 5, [(-2147483648, 2147483647), (9, 9)]) = true := by decide +kernel
