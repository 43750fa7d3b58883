section
/-! CONTRACTS: 111_2 111_1 111 109 106 114 117 115 122 121 120 123 126 125 119 127 118 131 129 128 133 134 132 -/
def ct_111_2 : cq_Ct := (14, [(5, (0, []), 63), (1, (0, [(0, 1)]), 0), (1, (0, [(1, 1)]), 0), (1, (0, [(2, 1)]), 0), (1, (0, [(3, 1)]), 0), (1, (0, [(4, 1)]), 0)], cq_mk 5 ([(0, 2, 14), (1, (-2147483648), 2147483647), (2, (-2147483648), 2147483647), (3, (-2147483648), 2147483647), (4, (-2147483648), 2147483647)], []) [] [] [] [((false, 63), (3, []), (5, (0, []), 74))] [] [] none 0 0, [(false, 63, 10, 0), (false, 63, 11, 0), (false, 63, 12, 0), (false, 63, 9, 0), (false, 64, 0, 0)], [(false, [], cq_mk 5 ([], []) [] [] [] [] [] [] none 0 0)])
theorem wf_111_2 : cq_wfC ct_111_2 = true := by decide +kernel
def lp_111_2 (pc : Nat) : Option (Option (Nat × Nat) × cq_Lp) := none
theorem ok_111_2 : cq_CT 111 ct_111_2 := cq_meth (f := 100000) (cts := (cq_tc 111 ct_111_3 (cq_tc 112 ct_112 (cq_tc 113 ct_113 cq_t0)))) (lps := lp_111_2) (cq_tc_ok wf_111_3 ok_111_3 (cq_tc_ok wf_112 ok_112 (cq_tc_ok wf_113 ok_113 cq_t0_ok))) wf_111_2 (by decide +kernel) (by decide +kernel)
def ct_111_1 : cq_Ct := (15, [(5, (0, []), 63), (1, (0, [(0, 1)]), 0), (1, (0, [(1, 1)]), 0), (1, (0, [(2, 1)]), 0), (1, (0, [(3, 1)]), 0), (1, (0, [(4, 1)]), 0)], cq_mk 5 ([(0, 1, 14), (1, (-2147483648), 2147483647), (2, (-2147483648), 2147483647), (3, (-2147483648), 2147483647), (4, (-2147483648), 2147483647)], []) [] [] [] [((false, 63), (3, []), (5, (0, []), 74))] [] [] none 0 0, [(false, 63, 10, 0), (false, 63, 11, 0), (false, 63, 12, 0), (false, 63, 9, 0), (false, 64, 0, 0)], [(false, [], cq_mk 5 ([], []) [] [] [] [] [] [] none 0 0)])
theorem wf_111_1 : cq_wfC ct_111_1 = true := by decide +kernel
def lp_111_1 (pc : Nat) : Option (Option (Nat × Nat) × cq_Lp) := none
theorem ok_111_1 : cq_CT 111 ct_111_1 := cq_meth (f := 100000) (cts := (cq_tc 111 ct_111_2 (cq_tc 112 ct_112 (cq_tc 113 ct_113 cq_t0)))) (lps := lp_111_1) (cq_tc_ok wf_111_2 ok_111_2 (cq_tc_ok wf_112 ok_112 (cq_tc_ok wf_113 ok_113 cq_t0_ok))) wf_111_1 (by decide +kernel) (by decide +kernel)
def ct_111 : cq_Ct := (16, [(5, (0, []), 63), (1, (0, [(0, 1)]), 0), (1, (0, [(1, 1)]), 0), (1, (0, [(2, 1)]), 0), (1, (0, [(3, 1)]), 0), (1, (0, [(4, 1)]), 0)], cq_mk 5 ([(0, 0, 14), (1, (-2147483648), 2147483647), (2, (-2147483648), 2147483647), (3, (-2147483648), 2147483647), (4, (-2147483648), 2147483647)], []) [] [] [] [((false, 63), (3, []), (5, (0, []), 74))] [] [] none 0 0, [(false, 63, 10, 0), (false, 63, 11, 0), (false, 63, 12, 0), (false, 63, 9, 0), (false, 64, 0, 0)], [(false, [], cq_mk 5 ([], []) [] [] [] [] [] [] none 0 0)])
theorem wf_111 : cq_wfC ct_111 = true := by decide +kernel
def lp_111 (pc : Nat) : Option (Option (Nat × Nat) × cq_Lp) := none
theorem ok_111 : cq_CT 111 ct_111 := cq_meth (f := 100000) (cts := (cq_tc 111 ct_111_1 (cq_tc 112 ct_112 (cq_tc 113 ct_113 cq_t0)))) (lps := lp_111) (cq_tc_ok wf_111_1 ok_111_1 (cq_tc_ok wf_112 ok_112 (cq_tc_ok wf_113 ok_113 cq_t0_ok))) wf_111 (by decide +kernel) (by decide +kernel)
def ct_109 : cq_Ct := (17, [(5, (0, []), 63), (5, (0, []), 74), (1, (0, [(0, 1)]), 0), (5, (0, []), 43)], cq_mk 2 ([(0, 0, 14), (1, 0, 14)], [(0, [(0, (-1)), (1, 1)])]) [] [] [] [((false, 40), (13, []), (1, (0, [(1, 1)]), 0))] [] [] none 0 0, [(false, 63, 1, 0), (false, 63, 10, 0), (false, 63, 11, 0), (false, 63, 12, 0), (false, 63, 4, 0), (false, 63, 5, 0), (false, 63, 6, 0), (false, 63, 7, 0), (false, 63, 8, 0), (false, 63, 9, 0), (false, 64, 0, 0), (false, 65, 0, 0)], [(false, [(1, (0, [(2, 1)]), 0)], cq_mk 3 ([(2, (-2147483648), 2147483647)], []) [] [] [] [] [] [] none 0 0)])
theorem wf_109 : cq_wfC ct_109 = true := by decide +kernel
def lp_109 (pc : Nat) : Option (Option (Nat × Nat) × cq_Lp) := bif Nat.beq pc 39 then some (none, ([(0, 4, 0, (-1), 13)], [], [(false, 65, 0, 0)], [(0, [(0, (-1)), (1, 1)])], (0, false), [])) else none
theorem ok_109 : cq_CT 109 ct_109 := cq_meth (f := 100000) (cts := (cq_tc 110 ct_110 (cq_tc 111 ct_111 cq_t0))) (lps := lp_109) (cq_tc_ok wf_110 ok_110 (cq_tc_ok wf_111 ok_111 cq_t0_ok)) wf_109 (by decide +kernel) (by decide +kernel)
def ct_106 : cq_Ct := (18, [(5, (0, []), 40)], cq_mk 0 ([], []) [] [] [] [] [] [] none 0 0, [(false, 58, 0, 0), (false, 59, 0, 0), (false, 60, 0, 0), (false, 63, 1, 0), (false, 63, 10, 0), (false, 63, 11, 0), (false, 63, 12, 0), (false, 63, 4, 0), (false, 63, 5, 0), (false, 63, 6, 0), (false, 63, 7, 0), (false, 63, 8, 0), (false, 63, 9, 0), (false, 64, 0, 0), (false, 65, 0, 0), (true, 0, 1, 3), (true, 0, 1, 4), (true, 0, 1, 5), (true, 0, 1, 6), (true, 0, 1, 7), (true, 0, 1, 8), (true, 0, 3, 10), (true, 0, 3, 7), (true, 0, 3, 8), (true, 0, 3, 9), (true, 1, 0, 0)], [(false, [(1, (0, [(0, 1)]), 0)], cq_mk 1 ([(0, (-2147483648), 2147483647)], []) [] [] [] [] [] [] none 0 0)])
theorem wf_106 : cq_wfC ct_106 = true := by decide +kernel
def lp_106 (pc : Nat) : Option (Option (Nat × Nat) × cq_Lp) := none
theorem ok_106 : cq_CT 106 ct_106 := cq_meth (f := 100000) (cts := (cq_tc 108 ct_108 (cq_tc 109 ct_109 cq_t0))) (lps := lp_106) (cq_tc_ok wf_108 ok_108 (cq_tc_ok wf_109 ok_109 cq_t0_ok)) wf_106 (by decide +kernel) (by decide +kernel)
def ct_114 : cq_Ct := (0, [(5, (0, []), 40)], cq_mk 0 ([], []) [] [] [] [] [] [] none 0 0, [], [(false, [(1, (0, [(0, 1)]), 0)], cq_mk 1 ([(0, (-2147483648), 2147483647)], []) [] [] [] [] [] [] none 0 0)])
theorem wf_114 : cq_wfC ct_114 = true := by decide +kernel
def lp_114 (pc : Nat) : Option (Option (Nat × Nat) × cq_Lp) := none
theorem ok_114 : cq_CT 114 ct_114 := cq_meth (f := 100000) (cts := cq_t0) (lps := lp_114) cq_t0_ok wf_114 (by decide +kernel) (by decide +kernel)
def ct_117 : cq_Ct := (2, [(5, (0, []), 63), (1, (0, [(0, 1)]), 0), (5, (0, []), 74), (1, (0, [(1, 1)]), 0), (5, (0, []), 43)], cq_mk 3 ([(0, (-2147483648), 2147483647), (1, 0, 14), (2, 0, 14)], [(0, [(1, (-1)), (2, 1)])]) [] [] [] [((false, 40), (13, []), (1, (0, [(2, 1)]), 0))] [] [] none 0 0, [(false, 63, 4, 0), (false, 63, 5, 0), (false, 63, 6, 0), (false, 63, 7, 0), (false, 63, 8, 0), (false, 64, 0, 0)], [(false, [(1, (0, [(3, 1)]), 0)], cq_mk 4 ([(3, (-2147483648), 2147483647)], []) [] [] [] [] [] [] none 0 0)])
theorem wf_117 : cq_wfC ct_117 = true := by decide +kernel
def lp_117 (pc : Nat) : Option (Option (Nat × Nat) × cq_Lp) := bif Nat.beq pc 29 then some (none, ([(0, 5, 0, (-2147483648), 2147483647), (0, 6, 0, (-2147483648), 2147483647), (0, 7, 0, (-2147483648), 2147483647), (0, 8, 0, 0, 14)], [9], [(false, 64, 0, 0)], [(0, [(6, 1), (7, (-1))])], (3, true), [])) else none
theorem ok_117 : cq_CT 117 ct_117 := cq_meth (f := 100000) (cts := (cq_tc 110 ct_110 (cq_tc 113 ct_113 cq_t0))) (lps := lp_117) (cq_tc_ok wf_110 ok_110 (cq_tc_ok wf_113 ok_113 cq_t0_ok)) wf_117 (by decide +kernel) (by decide +kernel)
def ct_115 : cq_Ct := (6, [(5, (0, []), 40), (1, (0, [(0, 1)]), 0)], cq_mk 1 ([(0, (-2147483648), 2147483647)], []) [] [] [] [] [] [] none 0 0, [(false, 58, 0, 0), (false, 59, 0, 0), (false, 60, 0, 0), (false, 63, 4, 0), (false, 63, 5, 0), (false, 63, 6, 0), (false, 63, 7, 0), (false, 63, 8, 0), (false, 64, 0, 0), (true, 0, 1, 3), (true, 0, 1, 4), (true, 0, 1, 5), (true, 0, 1, 6), (true, 0, 1, 7), (true, 0, 1, 8), (true, 0, 3, 10), (true, 0, 3, 7), (true, 0, 3, 8), (true, 0, 3, 9), (true, 1, 0, 0)], [(false, [(1, (0, [(1, 1)]), 0)], cq_mk 2 ([(1, (-2147483648), 2147483647)], []) [] [] [] [] [] [] none 0 0)])
theorem wf_115 : cq_wfC ct_115 = true := by decide +kernel
def lp_115 (pc : Nat) : Option (Option (Nat × Nat) × cq_Lp) := none
theorem ok_115 : cq_CT 115 ct_115 := cq_meth (f := 100000) (cts := (cq_tc 108 ct_108 (cq_tc 117 ct_117 cq_t0))) (lps := lp_115) (cq_tc_ok wf_108 ok_108 (cq_tc_ok wf_117 ok_117 cq_t0_ok)) wf_115 (by decide +kernel) (by decide +kernel)
def ct_122 : cq_Ct := (1, [(6, (0, []), 0), (6, (0, []), 1)], cq_mk 2 ([], []) [] [(0, (0, 1, 0)), (1, (0, 1, 0))] [] [] [] [] none 0 0, [], [(false, [(1, (0, [(2, 1)]), 0)], cq_mk 3 ([(2, 0, 1)], []) [] [] [] [] [] [] none 0 0)])
theorem wf_122 : cq_wfC ct_122 = true := by decide +kernel
def lp_122 (pc : Nat) : Option (Option (Nat × Nat) × cq_Lp) := none
theorem ok_122 : cq_CT 122 ct_122 := cq_meth (f := 100000) (cts := cq_t0) (lps := lp_122) cq_t0_ok wf_122 (by decide +kernel) (by decide +kernel)
def ct_121 : cq_Ct := (2, [(6, (0, []), 0), (6, (0, []), 1)], cq_mk 2 ([], []) [] [(0, (0, 1, 0)), (1, (0, 1, 0))] [] [] [] [] none 0 0, [], [(false, [(1, (0, [(2, 1)]), 0)], cq_mk 3 ([(2, (-1), 2147483647)], []) [] [] [] [] [] [] none 0 0)])
theorem wf_121 : cq_wfC ct_121 = true := by decide +kernel
def lp_121 (pc : Nat) : Option (Option (Nat × Nat) × cq_Lp) := none
theorem ok_121 : cq_CT 121 ct_121 := cq_meth (f := 100000) (cts := (cq_tc 122 ct_122 cq_t0)) (lps := lp_121) (cq_tc_ok wf_122 ok_122 cq_t0_ok) wf_121 (by decide +kernel) (by decide +kernel)
def ct_120 : cq_Ct := (3, [(5, (0, []), 67), (1, (0, [(0, 1)]), 0), (5, (0, []), 74), (1, (0, [(1, 1)]), 0)], cq_mk 3 ([(0, (-2147483648), 2147483647), (1, 0, 14), (2, 0, 14)], [(0, [(1, (-1)), (2, 1)])]) [] [] [] [((false, 40), (13, []), (1, (0, [(2, 1)]), 0))] [] [] none 0 0, [(false, 67, 5, 0), (false, 69, 0, 0), (false, 70, 0, 0)], [(false, [], cq_mk 3 ([], []) [] [] [] [] [] [] none 0 0)])
theorem wf_120 : cq_wfC ct_120 = true := by decide +kernel
def lp_120 (pc : Nat) : Option (Option (Nat × Nat) × cq_Lp) := bif Nat.beq pc 8 then some (none, ([(1, 67, 4, 0, 10), (0, 4, 0, 0, 14)], [], [(false, 67, 5, 0), (false, 69, 0, 0)], [(0, [(0, 1), (1, (-1))]), (0, [(0, (-1)), (4, 1)]), (0, [(2, 1), (3, (-1))]), (0, [(0, (-1)), (2, 1)])], (1, true), [(40, 13)])) else bif Nat.beq pc 69 then some (none, ([(0, 4, 0, 0, 10)], [5, 6], [], [(0, [(0, 1), (1, (-1))])], (0, true), [])) else bif Nat.beq pc 81 then some (none, ([(0, 5, 0, 0, 10)], [6], [(false, 70, 0, 0)], [(0, [(0, 1), (1, (-1))])], (0, true), [])) else none
theorem ok_120 : cq_CT 120 ct_120 := cq_meth (f := 100000) (cts := (cq_tc 121 ct_121 cq_t0)) (lps := lp_120) (cq_tc_ok wf_121 ok_121 cq_t0_ok) wf_120 (by decide +kernel) (by decide +kernel)
def ct_123 : cq_Ct := (1, [(5, (0, []), 67), (1, (0, [(0, 1)]), 0), (1, (0, [(1, 1)]), 0)], cq_mk 2 ([(0, 0, 1023), (1, 0, 9)], []) [] [] [] [] [] [] none 0 0, [], [(false, [(1, (0, [(2, 1)]), 0)], cq_mk 3 ([(2, (-2147483648), 1000000)], []) [] [] [] [] [] [] none 0 0)])
theorem wf_123 : cq_wfC ct_123 = true := by decide +kernel
def lp_123 (pc : Nat) : Option (Option (Nat × Nat) × cq_Lp) := bif Nat.beq pc 12 then some (none, ([(0, 3, 0, (-2147483648), 1000000), (0, 4, 0, 0, 10)], [5], [], [(0, [(0, (-1)), (1, 1)]), (0, [(2, 1), (3, (-1))])], (1, true), [])) else none
theorem ok_123 : cq_CT 123 ct_123 := cq_meth (f := 100000) (cts := cq_t0) (lps := lp_123) cq_t0_ok wf_123 (by decide +kernel) (by decide +kernel)
def ct_126 : cq_Ct := (1, [(5, (0, []), 67), (1, (0, [(0, 1)]), 0), (1, (0, [(1, 1)]), 0), (1, (0, [(2, 1)]), 0)], cq_mk 3 ([(0, 0, 1023), (1, (-1), 9), (2, (-2147483648), 2147483647)], []) [] [] [] [] [] [] none 0 0, [], [(false, [(1, (0, [(3, 1)]), 0)], cq_mk 4 ([(3, (-1), 9)], []) [] [] [] [] [] [] none 0 0)])
theorem wf_126 : cq_wfC ct_126 = true := by decide +kernel
def lp_126 (pc : Nat) : Option (Option (Nat × Nat) × cq_Lp) := bif Nat.beq pc 3 then some (none, ([(0, 4, 0, 0, 10)], [5], [], [(0, [(0, 1), (1, (-1))])], (0, true), [])) else none
theorem ok_126 : cq_CT 126 ct_126 := cq_meth (f := 100000) (cts := cq_t0) (lps := lp_126) cq_t0_ok wf_126 (by decide +kernel) (by decide +kernel)
def ct_125 : cq_Ct := (2, [(5, (0, []), 67), (1, (0, [(0, 1)]), 0), (1, (0, [(1, 1)]), 0)], cq_mk 2 ([(0, 0, 1023), (1, (-2147483648), 2147483647)], []) [] [] [] [] [] [] none 0 0, [(false, 68, 0, 0)], [(false, [], cq_mk 2 ([], []) [] [] [] [] [] [] none 0 0)])
theorem wf_125 : cq_wfC ct_125 = true := by decide +kernel
def lp_125 (pc : Nat) : Option (Option (Nat × Nat) × cq_Lp) := bif Nat.beq pc 11 then some (none, ([(0, 3, 0, 0, 1023), (0, 4, 0, (-1), 9), (0, 5, 0, (-2147483648), 2147483647), (0, 6, 0, 0, 10)], [7], [(false, 68, 0, 0)], [(0, [(2, 1), (3, (-1))]), (0, [(6, 1), (7, (-1))])], (3, true), [])) else none
theorem ok_125 : cq_CT 125 ct_125 := cq_meth (f := 100000) (cts := (cq_tc 126 ct_126 cq_t0)) (lps := lp_125) (cq_tc_ok wf_126 ok_126 cq_t0_ok) wf_125 (by decide +kernel) (by decide +kernel)
def ct_119 : cq_Ct := (4, [(5, (0, []), 67), (1, (0, [(0, 1)]), 0), (5, (0, []), 74), (1, (0, [(1, 1)]), 0)], cq_mk 3 ([(0, (-2147483648), 2147483647), (1, 0, 14), (2, 0, 14)], [(0, [(1, (-1)), (2, 1)])]) [] [] [] [((false, 40), (13, []), (1, (0, [(2, 1)]), 0))] [] [] none 0 0, [(false, 67, 5, 0), (false, 68, 0, 0), (false, 69, 0, 0), (false, 70, 0, 0), (false, 71, 0, 0)], [(false, [(1, ((-1), []), 0)], cq_mk 3 ([], []) [] [] [] [] [] [] none 0 0), (false, [(1, (0, [(3, 1)]), 0)], cq_mk 4 ([(3, (-2147483648), 2147483647)], [((-1), [(2, 1)])]) [] [] [] [] [] [] none 0 0)])
theorem wf_119 : cq_wfC ct_119 = true := by decide +kernel
def lp_119 (pc : Nat) : Option (Option (Nat × Nat) × cq_Lp) := bif Nat.beq pc 20 then some (none, ([(0, 5, 0, 1, 1024)], [6], [], [(0, [(0, 1), (1, (-1))])], (0, true), [])) else bif Nat.beq pc 30 then some (none, ([(0, 6, 0, 0, 10)], [], [(false, 71, 0, 0)], [(0, [(0, 1), (1, (-1))])], (0, true), [])) else bif Nat.beq pc 128 then some (none, ([(0, 5, 0, (-2147483648), 1000000), (0, 6, 0, 1, 10)], [], [], [(0, [(0, (-1)), (1, 1)]), (0, [(2, 1), (3, (-1))])], (1, true), [])) else none
theorem ok_119 : cq_CT 119 ct_119 := cq_meth (f := 100000) (cts := (cq_tc 120 ct_120 (cq_tc 123 ct_123 (cq_tc 125 ct_125 cq_t0)))) (lps := lp_119) (cq_tc_ok wf_120 ok_120 (cq_tc_ok wf_123 ok_123 (cq_tc_ok wf_125 ok_125 cq_t0_ok))) wf_119 (by decide +kernel) (by decide +kernel)
def ct_127 : cq_Ct := (0, [(5, (0, []), 40), (1, (0, [(0, 1)]), 0)], cq_mk 2 ([(0, 0, 14), (1, 0, 14)], [(0, [(0, (-1)), (1, 14)])]) [] [] [] [((false, 40), (13, []), (1, (0, [(1, 1)]), 0))] [] [] none 0 0, [(false, 40, 16, 0), (false, 40, 19, 0), (false, 72, 1, 0), (false, 75, 0, 0)], [(false, [], cq_mk 2 ([], []) [] [] [] [] [] [] none 0 0)])
theorem wf_127 : cq_wfC ct_127 = true := by decide +kernel
def lp_127 (pc : Nat) : Option (Option (Nat × Nat) × cq_Lp) := bif Nat.beq pc 2 then some (none, ([(0, 2, 0, 0, 14)], [], [(false, 75, 0, 0)], [(0, [(0, 1), (1, (-1))])], (0, true), [])) else none
theorem ok_127 : cq_CT 127 ct_127 := cq_meth (f := 100000) (cts := cq_t0) (lps := lp_127) cq_t0_ok wf_127 (by decide +kernel) (by decide +kernel)
def ct_118 : cq_Ct := (6, [(5, (0, []), 40), (1, (0, [(0, 1)]), 0)], cq_mk 1 ([(0, (-2147483648), 2147483647)], []) [] [] [] [] [] [] none 0 0, [(false, 40, 16, 0), (false, 40, 19, 0), (false, 58, 0, 0), (false, 59, 0, 0), (false, 60, 0, 0), (false, 67, 5, 0), (false, 68, 0, 0), (false, 69, 0, 0), (false, 70, 0, 0), (false, 71, 0, 0), (false, 72, 1, 0), (false, 75, 0, 0), (true, 0, 1, 3), (true, 0, 1, 4), (true, 0, 1, 5), (true, 0, 1, 6), (true, 0, 1, 7), (true, 0, 1, 8), (true, 0, 3, 10), (true, 0, 3, 7), (true, 0, 3, 8), (true, 0, 3, 9), (true, 1, 0, 0)], [(false, [(1, (0, [(1, 1)]), 0)], cq_mk 2 ([(1, (-2147483648), 2147483647)], []) [] [] [] [] [] [] none 0 0)])
theorem wf_118 : cq_wfC ct_118 = true := by decide +kernel
def lp_118 (pc : Nat) : Option (Option (Nat × Nat) × cq_Lp) := none
theorem ok_118 : cq_CT 118 ct_118 := cq_meth (f := 100000) (cts := (cq_tc 64 ct_64 (cq_tc 108 ct_108 (cq_tc 119 ct_119 (cq_tc 127 ct_127 cq_t0))))) (lps := lp_118) (cq_tc_ok wf_64 ok_64 (cq_tc_ok wf_108 ok_108 (cq_tc_ok wf_119 ok_119 (cq_tc_ok wf_127 ok_127 cq_t0_ok)))) wf_118 (by decide +kernel) (by decide +kernel)
def ct_131 : cq_Ct := (3, [(5, (0, []), 67), (1, (0, [(0, 1)]), 0), (5, (0, []), 74), (1, (0, [(1, 1)]), 0)], cq_mk 3 ([(0, (-2147483648), 2147483647), (1, 0, 14), (2, 0, 14)], [(0, [(1, (-1)), (2, 1)])]) [] [] [] [((false, 40), (13, []), (1, (0, [(2, 1)]), 0))] [] [] none 0 0, [], [(false, [(1, (0, [(3, 1)]), 0)], cq_mk 4 ([(3, (-2147483648), 2147483647)], []) [] [] [] [] [] [] none 0 0)])
theorem wf_131 : cq_wfC ct_131 = true := by decide +kernel
def lp_131 (pc : Nat) : Option (Option (Nat × Nat) × cq_Lp) := bif Nat.beq pc 6 then some (none, ([(0, 4, 0, (-2147483648), 2147483647), (0, 5, 0, 1, 14)], [6], [], [(0, [(2, 1), (3, (-1))])], (1, true), [])) else none
theorem ok_131 : cq_CT 131 ct_131 := cq_meth (f := 100000) (cts := (cq_tc 121 ct_121 cq_t0)) (lps := lp_131) (cq_tc_ok wf_121 ok_121 cq_t0_ok) wf_131 (by decide +kernel) (by decide +kernel)
def ct_129 : cq_Ct := (6, [(5, (0, []), 40)], cq_mk 0 ([], []) [] [] [] [] [] [] none 0 0, [(false, 40, 16, 0), (false, 40, 19, 0), (false, 58, 0, 0), (false, 59, 0, 0), (false, 60, 0, 0), (false, 68, 0, 0), (false, 72, 1, 0), (false, 75, 0, 0), (true, 0, 1, 3), (true, 0, 1, 4), (true, 0, 1, 5), (true, 0, 1, 6), (true, 0, 1, 7), (true, 0, 1, 8), (true, 0, 3, 10), (true, 0, 3, 7), (true, 0, 3, 8), (true, 0, 3, 9), (true, 1, 0, 0)], [(false, [(1, (0, [(0, 1)]), 0)], cq_mk 1 ([(0, (-2147483648), 2147483647)], []) [] [] [] [] [] [] none 0 0)])
theorem wf_129 : cq_wfC ct_129 = true := by decide +kernel
def lp_129 (pc : Nat) : Option (Option (Nat × Nat) × cq_Lp) := bif Nat.beq pc 89 then some (none, ([(0, 2, 0, (-2147483648), 2147483647), (0, 3, 0, 1, 14), (0, 4, 0, 0, 13)], [], [(false, 68, 0, 0)], [(0, [(2, 1), (3, (-1))])], (1, true), [])) else none
theorem ok_129 : cq_CT 129 ct_129 := cq_meth (f := 100000) (cts := (cq_tc 108 ct_108 (cq_tc 127 ct_127 (cq_tc 131 ct_131 cq_t0)))) (lps := lp_129) (cq_tc_ok wf_108 ok_108 (cq_tc_ok wf_127 ok_127 (cq_tc_ok wf_131 ok_131 cq_t0_ok))) wf_129 (by decide +kernel) (by decide +kernel)
def ct_128 : cq_Ct := (7, [(5, (0, []), 40)], cq_mk 0 ([], []) [] [] [] [] [] [] none 0 0, [(false, 40, 16, 0), (false, 40, 19, 0), (false, 41, 2, 0), (false, 58, 0, 0), (false, 59, 0, 0), (false, 60, 0, 0), (false, 68, 0, 0), (false, 72, 1, 0), (false, 75, 0, 0), (true, 0, 1, 3), (true, 0, 1, 4), (true, 0, 1, 5), (true, 0, 1, 6), (true, 0, 1, 7), (true, 0, 1, 8), (true, 0, 3, 10), (true, 0, 3, 7), (true, 0, 3, 8), (true, 0, 3, 9), (true, 1, 0, 0)], [(false, [(1, (0, [(0, 1)]), 0)], cq_mk 1 ([(0, (-2147483648), 2147483647)], []) [] [] [] [] [] [] none 0 0)])
theorem wf_128 : cq_wfC ct_128 = true := by decide +kernel
def lp_128 (pc : Nat) : Option (Option (Nat × Nat) × cq_Lp) := none
theorem ok_128 : cq_CT 128 ct_128 := cq_meth (f := 100000) (cts := (cq_tc 129 ct_129 cq_t0)) (lps := lp_128) (cq_tc_ok wf_129 ok_129 cq_t0_ok) wf_128 (by decide +kernel) (by decide +kernel)
def ct_133 : cq_Ct := (5, [(5, (0, []), 40)], cq_mk 0 ([], []) [] [] [] [] [] [] none 0 0, [(false, 58, 0, 0), (false, 59, 0, 0), (false, 60, 0, 0), (true, 0, 1, 3), (true, 0, 1, 4), (true, 0, 1, 5), (true, 0, 1, 6), (true, 0, 1, 7), (true, 0, 1, 8), (true, 0, 3, 10), (true, 0, 3, 7), (true, 0, 3, 8), (true, 0, 3, 9), (true, 1, 0, 0)], [(false, [(1, (0, [(0, 1)]), 0)], cq_mk 1 ([(0, 0, 1)], []) [] [] [] [] [] [] none 0 0)])
theorem wf_133 : cq_wfC ct_133 = true := by decide +kernel
def lp_133 (pc : Nat) : Option (Option (Nat × Nat) × cq_Lp) := bif Nat.beq pc 4 then some (none, ([(0, 1, 0, 0, 1), (0, 2, 0, 0, 14)], [], [(false, 58, 0, 0), (false, 59, 0, 0), (false, 60, 0, 0), (true, 0, 1, 3), (true, 0, 1, 4), (true, 0, 1, 5), (true, 0, 1, 6), (true, 0, 1, 7), (true, 0, 1, 8), (true, 0, 3, 10), (true, 0, 3, 7), (true, 0, 3, 8), (true, 0, 3, 9), (true, 1, 0, 0)], [(0, [(0, (-1)), (1, 1)]), (0, [(2, 1), (3, (-1))])], (1, true), [])) else none
theorem ok_133 : cq_CT 133 ct_133 := cq_meth (f := 100000) (cts := (cq_tc 104 ct_104 cq_t0)) (lps := lp_133) (cq_tc_ok wf_104 ok_104 cq_t0_ok) wf_133 (by decide +kernel) (by decide +kernel)
def ct_134 : cq_Ct := (1, [(5, (0, []), 40), (1, (0, [(0, 1)]), 0)], cq_mk 1 ([(0, (-2147483648), 2147483647)], []) [] [] [] [] [] [] none 0 0, [], [(false, [(1, (0, [(1, 1)]), 0)], cq_mk 2 ([(1, (-2147483648), 2147483647)], []) [] [] [] [] [] [] none 0 0)])
theorem wf_134 : cq_wfC ct_134 = true := by decide +kernel
def lp_134 (pc : Nat) : Option (Option (Nat × Nat) × cq_Lp) := bif Nat.beq pc 11 then some (none, ([(0, 2, 0, (-2147483648), 2147483647), (0, 3, 0, 0, 14)], [], [], [(0, [(2, 1), (3, (-1))])], (1, true), [])) else none
theorem ok_134 : cq_CT 134 ct_134 := cq_meth (f := 100000) (cts := cq_t0) (lps := lp_134) cq_t0_ok wf_134 (by decide +kernel) (by decide +kernel)
def ct_132 : cq_Ct := (6, [(5, (0, []), 40), (1, (0, [(0, 1)]), 0), (1, (0, [(1, 1)]), 0)], cq_mk 2 ([(0, (-2147483648), 2147483647), (1, (-2147483648), 2147483647)], []) [] [] [] [] [] [] none 0 0, [(false, 58, 0, 0), (false, 59, 0, 0), (false, 60, 0, 0), (true, 0, 1, 3), (true, 0, 1, 4), (true, 0, 1, 5), (true, 0, 1, 6), (true, 0, 1, 7), (true, 0, 1, 8), (true, 0, 3, 10), (true, 0, 3, 7), (true, 0, 3, 8), (true, 0, 3, 9), (true, 1, 0, 0)], [(false, [(1, (0, [(2, 1)]), 0)], cq_mk 3 ([(2, (-2147483648), 2147483647)], []) [] [] [] [] [] [] none 0 0)])
theorem wf_132 : cq_wfC ct_132 = true := by decide +kernel
def lp_132 (pc : Nat) : Option (Option (Nat × Nat) × cq_Lp) := none
theorem ok_132 : cq_CT 132 ct_132 := cq_meth (f := 100000) (cts := (cq_tc 133 ct_133 (cq_tc 134 ct_134 cq_t0))) (lps := lp_132) (cq_tc_ok wf_133 ok_133 (cq_tc_ok wf_134 ok_134 cq_t0_ok)) wf_132 (by decide +kernel) (by decide +kernel)
end
section
/-! CONTRACTS: 135 139 137 136 143 146 147 145 144 142 150 149 153 154 155 152 151 156 -/
def ct_135 : cq_Ct := (6, [(5, (0, []), 40), (1, (0, [(0, 1)]), 0)], cq_mk 1 ([(0, (-2147483648), 2147483647)], []) [] [] [] [] [] [] none 0 0, [(false, 58, 0, 0), (false, 59, 0, 0), (false, 60, 0, 0), (true, 0, 1, 3), (true, 0, 1, 4), (true, 0, 1, 5), (true, 0, 1, 6), (true, 0, 1, 7), (true, 0, 1, 8), (true, 0, 3, 10), (true, 0, 3, 7), (true, 0, 3, 8), (true, 0, 3, 9), (true, 1, 0, 0)], [(false, [(1, (0, [(1, 1)]), 0)], cq_mk 2 ([(1, (-2147483648), 2147483647)], []) [] [] [] [] [] [] none 0 0)])
theorem wf_135 : cq_wfC ct_135 = true := by decide +kernel
def lp_135 (pc : Nat) : Option (Option (Nat × Nat) × cq_Lp) := none
theorem ok_135 : cq_CT 135 ct_135 := cq_meth (f := 100000) (cts := (cq_tc 133 ct_133 (cq_tc 134 ct_134 cq_t0))) (lps := lp_135) (cq_tc_ok wf_133 ok_133 (cq_tc_ok wf_134 ok_134 cq_t0_ok)) wf_135 (by decide +kernel) (by decide +kernel)
def ct_139 : cq_Ct := (2, [(6, (0, []), 0), (6, (0, []), 1)], cq_mk 2 ([], []) [(0, true), (1, true)] [(0, (0, 3, 0)), (1, (0, 3, 0))] [] [] [] [] none 0 0, [], [(false, [(1, (0, [(2, 1)]), 0)], cq_mk 3 ([(2, (-1), 1)], []) [] [] [] [] [] [] none 0 0)])
theorem wf_139 : cq_wfC ct_139 = true := by decide +kernel
def lp_139 (pc : Nat) : Option (Option (Nat × Nat) × cq_Lp) := bif Nat.beq pc 16 then some (none, ([(0, 3, 0, 0, 2147483647)], [4], [], [(0, [(0, 1), (1, (-1))])], (0, true), [])) else none
theorem ok_139 : cq_CT 139 ct_139 := cq_meth (f := 100000) (cts := (cq_tc 70 ct_70 (cq_tc 72 ct_72 cq_t0))) (lps := lp_139) (cq_tc_ok wf_70 ok_70 (cq_tc_ok wf_72 ok_72 cq_t0_ok)) wf_139 (by decide +kernel) (by decide +kernel)
def ct_137 : cq_Ct := (3, [(5, (0, []), 40), (1, (0, [(0, 1)]), 0)], cq_mk 3 ([(0, 0, 13), (1, 1, 14), (2, 1, 14)], [(0, [(1, (-1)), (2, 14)]), ((-1), [(0, (-1)), (1, 1)])]) [] [] [] [((false, 40), (13, []), (1, (0, [(2, 1)]), 0)), ((false, 40), (15, []), (1, (0, [(1, 1)]), 0))] [] [] none 0 0, [], [(false, [(1, (0, [(3, 1)]), 0)], cq_mk 4 ([(3, (-2147483648), 2147483647)], []) [] [] [] [] [] [] none 0 0)])
theorem wf_137 : cq_wfC ct_137 = true := by decide +kernel
def lp_137 (pc : Nat) : Option (Option (Nat × Nat) × cq_Lp) := bif Nat.beq pc 11 then some (none, ([(0, 3, 0, (-2147483648), 2147483647), (0, 4, 0, 0, 14)], [5, 6], [], [(0, [(2, 1), (3, (-1))])], (1, true), [])) else none
theorem ok_137 : cq_CT 137 ct_137 := cq_meth (f := 100000) (cts := (cq_tc 139 ct_139 cq_t0)) (lps := lp_137) (cq_tc_ok wf_139 ok_139 cq_t0_ok) wf_137 (by decide +kernel) (by decide +kernel)
def ct_136 : cq_Ct := (6, [(5, (0, []), 40), (1, (0, [(0, 1)]), 0)], cq_mk 1 ([(0, (-2147483648), 2147483647)], []) [] [] [] [] [] [] none 0 0, [(false, 58, 0, 0), (false, 59, 0, 0), (false, 60, 0, 0), (true, 0, 1, 3), (true, 0, 1, 4), (true, 0, 1, 5), (true, 0, 1, 6), (true, 0, 1, 7), (true, 0, 1, 8), (true, 0, 3, 10), (true, 0, 3, 7), (true, 0, 3, 8), (true, 0, 3, 9), (true, 1, 0, 0)], [(false, [(1, (0, [(1, 1)]), 0)], cq_mk 2 ([(1, (-1), 13)], []) [] [] [] [] [] [] none 0 0)])
theorem wf_136 : cq_wfC ct_136 = true := by decide +kernel
def lp_136 (pc : Nat) : Option (Option (Nat × Nat) × cq_Lp) := bif Nat.beq pc 23 then some (none, ([(0, 2, 0, 0, 14)], [], [], [(0, [(0, 1), (1, (-1))])], (0, true), [])) else none
theorem ok_136 : cq_CT 136 ct_136 := cq_meth (f := 100000) (cts := (cq_tc 133 ct_133 (cq_tc 137 ct_137 cq_t0))) (lps := lp_136) (cq_tc_ok wf_133 ok_133 (cq_tc_ok wf_137 ok_137 cq_t0_ok)) wf_136 (by decide +kernel) (by decide +kernel)
def ct_143 : cq_Ct := (0, [(5, (0, []), 72), (5, (0, []), 74), (5, (0, []), 75), (1, (0, [(0, 1)]), 0), (1, (0, [(1, 1)]), 0)], cq_mk 4 ([(0, 1, 14), (1, 0, 13), (2, 1, 14), (3, 0, 14)], [(0, [(2, (-1)), (3, 14)]), (0, [(0, (-1)), (2, 1)]), ((-1), [(0, 1), (1, (-1))])]) [] [] [] [((false, 40), (13, []), (1, (0, [(3, 1)]), 0)), ((false, 40), (15, []), (1, (0, [(2, 1)]), 0))] [] [] none 0 0, [(false, 72, 5, 0), (false, 72, 6, 0), (false, 72, 7, 0), (false, 72, 8, 0), (false, 72, 9, 0)], [(false, [], cq_mk 4 ([], []) [] [] [] [] [] [] none 0 0)])
theorem wf_143 : cq_wfC ct_143 = true := by decide +kernel
def lp_143 (pc : Nat) : Option (Option (Nat × Nat) × cq_Lp) := bif Nat.beq pc 76 then some (none, ([(1, 72, 8, (-2147483648), 2147483647), (0, 5, 0, 0, 14)], [], [(false, 72, 9, 0)], [(0, [(2, 1), (3, (-1))])], (1, true), [])) else none
theorem ok_143 : cq_CT 143 ct_143 := cq_meth (f := 100000) (cts := cq_t0) (lps := lp_143) cq_t0_ok wf_143 (by decide +kernel) (by decide +kernel)
def ct_146 : cq_Ct := (2, [(5, (0, []), 72), (6, (0, []), 0), (6, (0, []), 1)], cq_mk 2 ([], []) [] [(0, (0, 1, 0)), (1, (0, 1, 0))] [] [] [] [] none 0 0, [], [(false, [(1, (0, [(2, 1)]), 0)], cq_mk 3 ([(2, 0, 1)], []) [] [] [] [] [] [] none 0 0)])
theorem wf_146 : cq_wfC ct_146 = true := by decide +kernel
def lp_146 (pc : Nat) : Option (Option (Nat × Nat) × cq_Lp) := none
theorem ok_146 : cq_CT 146 ct_146 := cq_meth (f := 100000) (cts := (cq_tc 122 ct_122 cq_t0)) (lps := lp_146) (cq_tc_ok wf_122 ok_122 cq_t0_ok) wf_146 (by decide +kernel) (by decide +kernel)
def ct_147 : cq_Ct := (0, [(5, (0, []), 72), (1, (0, [(0, 1)]), 0), (1, (0, [(1, 1)]), 0), (1, (0, [(2, 1)]), 0)], cq_mk 3 ([(0, (-2147483648), 2147483647), (1, (-2147483648), 2147483647), (2, (-2147483648), 2147483647)], []) [] [] [] [] [] [] none 0 0, [], [(false, [(1, (0, [(3, 1)]), 0)], cq_mk 4 ([(3, 0, 1)], []) [] [] [] [] [] [] none 0 0)])
theorem wf_147 : cq_wfC ct_147 = true := by decide +kernel
def lp_147 (pc : Nat) : Option (Option (Nat × Nat) × cq_Lp) := none
theorem ok_147 : cq_CT 147 ct_147 := cq_meth (f := 100000) (cts := cq_t0) (lps := lp_147) cq_t0_ok wf_147 (by decide +kernel) (by decide +kernel)
def ct_145 : cq_Ct := (3, [(5, (0, []), 72), (6, (0, []), 0), (1, (0, [(1, 1)]), 0), (6, (0, []), 2), (1, (0, [(3, 1)]), 0)], cq_mk 4 ([(1, (-2147483648), 2147483647), (3, (-2147483648), 2147483647)], []) [] [(0, (0, 1, 0)), (2, (0, 1, 0))] [] [] [] [] none 0 0, [(false, 72, 10, 0), (false, 72, 11, 0), (false, 72, 12, 0), (false, 72, 13, 0), (false, 72, 14, 0)], [(false, [], cq_mk 4 ([], []) [] [] [] [] [] [] none 0 0)])
theorem wf_145 : cq_wfC ct_145 = true := by decide +kernel
def lp_145 (pc : Nat) : Option (Option (Nat × Nat) × cq_Lp) := bif Nat.beq pc 69 then some (none, ([(1, 72, 10, (-2147483648), 2147483647), (1, 72, 11, (-2147483648), 2147483647), (1, 72, 12, (-2147483648), 2147483647), (1, 72, 13, (-2147483648), 2147483647), (1, 72, 9, (-2147483648), 2147483647), (0, 7, 0, 0, 4)], [8], [(false, 72, 10, 0), (false, 72, 11, 0), (false, 72, 12, 0), (false, 72, 13, 0), (false, 72, 14, 0)], [(0, [(10, 1), (11, (-1))])], (5, true), [])) else none
theorem ok_145 : cq_CT 145 ct_145 := cq_meth (f := 100000) (cts := (cq_tc 146 ct_146 (cq_tc 147 ct_147 cq_t0))) (lps := lp_145) (cq_tc_ok wf_146 ok_146 (cq_tc_ok wf_147 ok_147 cq_t0_ok)) wf_145 (by decide +kernel) (by decide +kernel)
def ct_144 : cq_Ct := (4, [(5, (0, []), 72), (5, (0, []), 74), (1, (0, [(0, 1)]), 0)], cq_mk 2 ([(0, 0, 14), (1, 0, 14)], [(0, [(0, (-1)), (1, 1)])]) [] [] [] [((false, 40), (13, []), (1, (0, [(1, 1)]), 0))] [] [] none 0 0, [(false, 72, 1, 0), (false, 72, 10, 0), (false, 72, 11, 0), (false, 72, 12, 0), (false, 72, 13, 0), (false, 72, 14, 0), (false, 72, 2, 0), (false, 72, 3, 0), (false, 72, 4, 0)], [(false, [(1, (0, [(2, 1)]), 0)], cq_mk 3 ([(2, (-2147483648), 2147483647)], []) [] [] [] [] [] [] none 0 0)])
theorem wf_144 : cq_wfC ct_144 = true := by decide +kernel
def lp_144 (pc : Nat) : Option (Option (Nat × Nat) × cq_Lp) := bif Nat.beq pc 15 then some (none, ([(1, 72, 10, (-2147483648), 2147483647), (1, 72, 11, (-2147483648), 2147483647), (1, 72, 12, (-2147483648), 2147483647), (1, 72, 13, (-2147483648), 2147483647), (1, 72, 9, (-2147483648), 2147483647), (0, 3, 0, 0, 14)], [4], [(false, 72, 10, 0), (false, 72, 11, 0), (false, 72, 12, 0), (false, 72, 13, 0), (false, 72, 14, 0)], [(0, [(10, 1), (11, (-1))])], (5, true), [])) else bif Nat.beq pc 57 then some (none, ([(1, 72, 10, (-2147483648), 2147483647), (1, 72, 11, (-2147483648), 2147483647), (1, 72, 12, (-2147483648), 2147483647), (1, 72, 13, (-2147483648), 2147483647), (1, 72, 9, (-2147483648), 2147483647), (0, 4, 0, 0, 14)], [], [(false, 72, 10, 0), (false, 72, 11, 0), (false, 72, 12, 0), (false, 72, 13, 0), (false, 72, 14, 0)], [(0, [(10, 1), (11, (-1))])], (5, true), [])) else none
theorem ok_144 : cq_CT 144 ct_144 := cq_meth (f := 100000) (cts := (cq_tc 122 ct_122 (cq_tc 145 ct_145 cq_t0))) (lps := lp_144) (cq_tc_ok wf_122 ok_122 (cq_tc_ok wf_145 ok_145 cq_t0_ok)) wf_144 (by decide +kernel) (by decide +kernel)
def ct_142 : cq_Ct := (6, [(5, (0, []), 40), (1, (0, [(0, 1)]), 0)], cq_mk 1 ([(0, (-2147483648), 2147483647)], []) [] [] [] [] [] [] none 0 0, [(false, 58, 0, 0), (false, 59, 0, 0), (false, 60, 0, 0), (false, 72, 1, 0), (false, 72, 10, 0), (false, 72, 11, 0), (false, 72, 12, 0), (false, 72, 13, 0), (false, 72, 14, 0), (false, 72, 2, 0), (false, 72, 3, 0), (false, 72, 4, 0), (false, 72, 5, 0), (false, 72, 6, 0), (false, 72, 7, 0), (false, 72, 8, 0), (false, 72, 9, 0), (true, 0, 1, 3), (true, 0, 1, 4), (true, 0, 1, 5), (true, 0, 1, 6), (true, 0, 1, 7), (true, 0, 1, 8), (true, 0, 3, 10), (true, 0, 3, 7), (true, 0, 3, 8), (true, 0, 3, 9), (true, 1, 0, 0)], [(false, [(1, (0, [(1, 1)]), 0)], cq_mk 2 ([(1, (-2147483648), 2147483647)], []) [] [] [] [] [] [] none 0 0)])
theorem wf_142 : cq_wfC ct_142 = true := by decide +kernel
def lp_142 (pc : Nat) : Option (Option (Nat × Nat) × cq_Lp) := bif Nat.beq pc 26 then some (none, ([(0, 2, 0, 0, 14)], [], [], [(0, [(0, 1), (1, (-1))])], (0, true), [])) else none
theorem ok_142 : cq_CT 142 ct_142 := cq_meth (f := 100000) (cts := (cq_tc 108 ct_108 (cq_tc 143 ct_143 (cq_tc 144 ct_144 cq_t0)))) (lps := lp_142) (cq_tc_ok wf_108 ok_108 (cq_tc_ok wf_143 ok_143 (cq_tc_ok wf_144 ok_144 cq_t0_ok))) wf_142 (by decide +kernel) (by decide +kernel)
def ct_150 : cq_Ct := (0, [(5, (0, []), 72), (1, (0, [(0, 1)]), 0)], cq_mk 1 ([(0, (-2147483648), 2147483647)], []) [] [] [] [] [] [] none 0 0, [], [(false, [(1, (0, [(1, 1)]), 0)], cq_mk 2 ([(1, (-2147483648), 2147483647)], []) [] [] [] [] [] [] none 0 0)])
theorem wf_150 : cq_wfC ct_150 = true := by decide +kernel
def lp_150 (pc : Nat) : Option (Option (Nat × Nat) × cq_Lp) := none
theorem ok_150 : cq_CT 150 ct_150 := cq_meth (f := 100000) (cts := cq_t0) (lps := lp_150) cq_t0_ok wf_150 (by decide +kernel) (by decide +kernel)
def ct_149 : cq_Ct := (1, [(5, (0, []), 40), (1, (0, [(0, 1)]), 0)], cq_mk 1 ([(0, (-2147483648), 2147483647)], []) [] [] [] [] [] [] none 0 0, [], [(false, [(1, (0, [(1, 1)]), 0)], cq_mk 2 ([(1, (-2147483648), 2147483647)], []) [] [] [] [] [] [] none 0 0)])
theorem wf_149 : cq_wfC ct_149 = true := by decide +kernel
def lp_149 (pc : Nat) : Option (Option (Nat × Nat) × cq_Lp) := none
theorem ok_149 : cq_CT 149 ct_149 := cq_meth (f := 100000) (cts := (cq_tc 150 ct_150 cq_t0)) (lps := lp_149) (cq_tc_ok wf_150 ok_150 cq_t0_ok) wf_149 (by decide +kernel) (by decide +kernel)
def ct_153 : cq_Ct := (1, [(5, (0, []), 40), (1, (0, [(0, 1)]), 0)], cq_mk 3 ([(0, 0, 13), (1, 1, 14), (2, 1, 14)], [(0, [(1, (-1)), (2, 14)]), ((-1), [(0, (-1)), (1, 1)])]) [] [] [] [((false, 40), (13, []), (1, (0, [(2, 1)]), 0)), ((false, 40), (15, []), (1, (0, [(1, 1)]), 0))] [] [] none 0 0, [], [(false, [(1, (0, [(3, 1)]), 0)], cq_mk 4 ([(3, 0, 30)], []) [] [] [] [] [] [] none 0 0)])
theorem wf_153 : cq_wfC ct_153 = true := by decide +kernel
def lp_153 (pc : Nat) : Option (Option (Nat × Nat) × cq_Lp) := none
theorem ok_153 : cq_CT 153 ct_153 := cq_meth (f := 100000) (cts := cq_t0) (lps := lp_153) cq_t0_ok wf_153 (by decide +kernel) (by decide +kernel)
def ct_154 : cq_Ct := (2, [(5, (0, []), 40), (1, (0, [(0, 1)]), 0), (1, (0, [(1, 1)]), 0), (1, (0, [(2, 1)]), 0)], cq_mk 5 ([(0, 0, 13), (1, (-2147483648), 2147483647), (2, 1, 2147483647), (3, 1, 14), (4, 1, 14)], [(0, [(3, (-1)), (4, 14)]), ((-1), [(0, (-1)), (3, 1)])]) [] [] [] [((false, 40), (13, []), (1, (0, [(4, 1)]), 0)), ((false, 40), (15, []), (1, (0, [(3, 1)]), 0))] [] [] none 0 0, [], [(false, [(1, (0, [(5, 1)]), 0)], cq_mk 6 ([(5, (-2147483648), 2147483647)], []) [] [] [] [] [] [] none 0 0)])
theorem wf_154 : cq_wfC ct_154 = true := by decide +kernel
def lp_154 (pc : Nat) : Option (Option (Nat × Nat) × cq_Lp) := bif Nat.beq pc 23 then some (none, ([(0, 5, 0, (-2147483648), 2147483647), (0, 6, 0, 0, 14)], [7], [], [(0, [(2, 1), (3, (-1))])], (1, true), [])) else none
theorem ok_154 : cq_CT 154 ct_154 := cq_meth (f := 100000) (cts := (cq_tc 153 ct_153 cq_t0)) (lps := lp_154) (cq_tc_ok wf_153 ok_153 cq_t0_ok) wf_154 (by decide +kernel) (by decide +kernel)
def ct_155 : cq_Ct := (0, [(5, (0, []), 40), (6, (0, []), 0), (1, (0, [(1, 1)]), 0)], cq_mk 2 ([(1, (-2147483648), 2147483647)], []) [(0, true)] [(0, (0, 6, 0))] [] [] [] [] none 0 0, [(false, 76, 0, 0)], [(false, [], cq_mk 2 ([], []) [] [] [] [] [] [] none 0 0)])
theorem wf_155 : cq_wfC ct_155 = true := by decide +kernel
def lp_155 (pc : Nat) : Option (Option (Nat × Nat) × cq_Lp) := none
theorem ok_155 : cq_CT 155 ct_155 := cq_meth (f := 100000) (cts := cq_t0) (lps := lp_155) cq_t0_ok wf_155 (by decide +kernel) (by decide +kernel)
def ct_152 : cq_Ct := (3, [(5, (0, []), 40), (1, (0, [(0, 1)]), 0)], cq_mk 1 ([(0, (-2147483648), 2147483647)], []) [] [] [] [] [] [] none 0 0, [(false, 76, 0, 0)], [(false, [], cq_mk 1 ([], []) [] [] [] [] [] [] none 0 0)])
theorem wf_152 : cq_wfC ct_152 = true := by decide +kernel
def lp_152 (pc : Nat) : Option (Option (Nat × Nat) × cq_Lp) := bif Nat.beq pc 7 then some (none, ([(0, 2, 0, 0, 420), (0, 4, 0, 0, 14)], [], [], [(0, [(0, 1), (1, (-1))]), (0, [(2, 1), (3, (-1))]), (0, [(0, (-1)), (2, 30)])], (1, true), [])) else bif Nat.beq pc 47 then some (none, ([(0, 3, 0, (-2147483648), 2147483647), (0, 4, 0, 0, 14)], [], [], [(0, [(2, 1), (3, (-1))])], (1, true), [])) else bif Nat.beq pc 78 then some (none, ([(0, 4, 0, 0, 14)], [5], [(false, 76, 0, 0)], [(0, [(0, 1), (1, (-1))])], (0, true), [])) else none
theorem ok_152 : cq_CT 152 ct_152 := cq_meth (f := 100000) (cts := (cq_tc 153 ct_153 (cq_tc 154 ct_154 (cq_tc 155 ct_155 cq_t0)))) (lps := lp_152) (cq_tc_ok wf_153 ok_153 (cq_tc_ok wf_154 ok_154 (cq_tc_ok wf_155 ok_155 cq_t0_ok))) wf_152 (by decide +kernel) (by decide +kernel)
def ct_151 : cq_Ct := (6, [(5, (0, []), 40), (1, (0, [(0, 1)]), 0)], cq_mk 1 ([(0, (-2147483648), 2147483647)], []) [] [] [] [] [] [] none 0 0, [(false, 58, 0, 0), (false, 59, 0, 0), (false, 60, 0, 0), (false, 76, 0, 0), (true, 0, 1, 3), (true, 0, 1, 4), (true, 0, 1, 5), (true, 0, 1, 6), (true, 0, 1, 7), (true, 0, 1, 8), (true, 0, 3, 10), (true, 0, 3, 7), (true, 0, 3, 8), (true, 0, 3, 9), (true, 1, 0, 0)], [(false, [(1, (0, [(1, 1)]), 0)], cq_mk 2 ([(1, (-4), 1)], []) [] [] [] [] [] [] none 0 0)])
theorem wf_151 : cq_wfC ct_151 = true := by decide +kernel
def lp_151 (pc : Nat) : Option (Option (Nat × Nat) × cq_Lp) := none
theorem ok_151 : cq_CT 151 ct_151 := cq_meth (f := 100000) (cts := (cq_tc 133 ct_133 (cq_tc 152 ct_152 cq_t0))) (lps := lp_151) (cq_tc_ok wf_133 ok_133 (cq_tc_ok wf_152 ok_152 cq_t0_ok)) wf_151 (by decide +kernel) (by decide +kernel)
def ct_156 : cq_Ct := (1, [(5, (0, []), 40), (1, (0, [(0, 1)]), 0)], cq_mk 1 ([(0, (-2147483648), 2147483647)], []) [] [] [] [] [] [] none 0 0, [], [(false, [(1, (0, [(1, 1)]), 0)], cq_mk 2 ([(1, (-2147483648), 2147483647)], []) [] [] [] [] [] [] none 0 0)])
theorem wf_156 : cq_wfC ct_156 = true := by decide +kernel
def lp_156 (pc : Nat) : Option (Option (Nat × Nat) × cq_Lp) := none
theorem ok_156 : cq_CT 156 ct_156 := cq_meth (f := 100000) (cts := cq_t0) (lps := lp_156) cq_t0_ok wf_156 (by decide +kernel) (by decide +kernel)
end
section
/-! CONTRACTS: 157 158 159 160 162 164 166 170 175 174 -/
def ct_157 : cq_Ct := (2, [(5, (0, []), 40), (1, (0, [(0, 1)]), 0), (1, (0, [(1, 1)]), 0)], cq_mk 2 ([(0, (-2147483648), 2147483647), (1, (-2147483648), 2147483647)], []) [] [] [] [] [] [] none 0 0, [(false, 40, 19, 0), (false, 40, 20, 0), (false, 77, 0, 0)], [(false, [(1, (0, [(2, 1)]), 0)], cq_mk 3 ([(2, (-2147483648), 2147483647)], []) [] [] [] [] [] [] none 0 0)])
theorem wf_157 : cq_wfC ct_157 = true := by decide +kernel
def lp_157 (pc : Nat) : Option (Option (Nat × Nat) × cq_Lp) := bif Nat.beq pc 30 then some (none, ([(1, 40, 19, (-2147483648), 2147483647), (0, 3, 0, (-2147483648), 2147483647), (0, 4, 0, 0, 14)], [5, 6], [(false, 40, 20, 0), (false, 77, 0, 0)], [(0, [(4, 1), (5, (-1))])], (2, true), [])) else none
theorem ok_157 : cq_CT 157 ct_157 := cq_meth (f := 100000) (cts := (cq_tc 93 ct_93 (cq_tc 95 ct_95 cq_t0))) (lps := lp_157) (cq_tc_ok wf_93 ok_93 (cq_tc_ok wf_95 ok_95 cq_t0_ok)) wf_157 (by decide +kernel) (by decide +kernel)
def ct_158 : cq_Ct := (0, [(5, (0, []), 40), (1, (0, [(0, 1)]), 0)], cq_mk 1 ([(0, (-2147483648), 2147483647)], []) [] [] [] [] [] [] none 0 0, [], [(false, [(1, (0, [(1, 1)]), 0)], cq_mk 2 ([(1, (-2147483648), 2147483647)], []) [] [] [] [] [] [] none 0 0)])
theorem wf_158 : cq_wfC ct_158 = true := by decide +kernel
def lp_158 (pc : Nat) : Option (Option (Nat × Nat) × cq_Lp) := none
theorem ok_158 : cq_CT 158 ct_158 := cq_meth (f := 100000) (cts := cq_t0) (lps := lp_158) cq_t0_ok wf_158 (by decide +kernel) (by decide +kernel)
def ct_159 : cq_Ct := (0, [(5, (0, []), 40)], cq_mk 0 ([], []) [] [] [] [] [] [] none 0 0, [], [(false, [(1, (0, [(0, 1)]), 0)], cq_mk 1 ([(0, (-2147483648), 2147483647)], []) [] [] [] [] [] [] none 0 0)])
theorem wf_159 : cq_wfC ct_159 = true := by decide +kernel
def lp_159 (pc : Nat) : Option (Option (Nat × Nat) × cq_Lp) := none
theorem ok_159 : cq_CT 159 ct_159 := cq_meth (f := 100000) (cts := cq_t0) (lps := lp_159) cq_t0_ok wf_159 (by decide +kernel) (by decide +kernel)
def ct_160 : cq_Ct := (0, [(5, (0, []), 40), (1, (0, [(0, 1)]), 0)], cq_mk 1 ([(0, (-2147483648), 2147483647)], []) [] [] [] [] [] [] none 0 0, [], [(false, [(1, (0, [(1, 1)]), 0)], cq_mk 2 ([(1, (-2147483648), 2147483647)], []) [] [] [] [] [] [] none 0 0)])
theorem wf_160 : cq_wfC ct_160 = true := by decide +kernel
def lp_160 (pc : Nat) : Option (Option (Nat × Nat) × cq_Lp) := none
theorem ok_160 : cq_CT 160 ct_160 := cq_meth (f := 100000) (cts := cq_t0) (lps := lp_160) cq_t0_ok wf_160 (by decide +kernel) (by decide +kernel)
def ct_162 : cq_Ct := (1, [(5, (0, []), 78), (1, (0, [(0, 1)]), 0), (1, (0, [(1, 1)]), 0), (1, (0, [(2, 1)]), 0), (1, (0, [(3, 1)]), 0), (1, (0, [(4, 1)]), 0)], cq_mk 5 ([(0, (-2147483648), 2147483647), (1, (-2147483648), 2147483647), (2, (-2147483648), 2147483647), (3, (-2147483648), 2147483647), (4, (-2147483648), 2147483647)], []) [] [] [] [] [] [] none 0 0, [(false, 78, 3, 0), (false, 80, 0, 0)], [(false, [(1, (0, [(5, 1)]), 0)], cq_mk 6 ([(5, (-3), 1600)], []) [] [] [] [] [] [] none 0 0)])
theorem wf_162 : cq_wfC ct_162 = true := by decide +kernel
def lp_162 (pc : Nat) : Option (Option (Nat × Nat) × cq_Lp) := none
theorem ok_162 : cq_CT 162 ct_162 := cq_meth (f := 100000) (cts := cq_t0) (lps := lp_162) cq_t0_ok wf_162 (by decide +kernel) (by decide +kernel)
def ct_164 : cq_Ct := (1, [(5, (0, []), 78), (1, (0, [(0, 1)]), 0)], cq_mk 1 ([(0, (-2147483648), 2147483647)], []) [] [] [] [] [] [] none 0 0, [(false, 78, 3, 0)], [(false, [(1, (0, [(1, 1)]), 0)], cq_mk 2 ([(1, (-1), 1600)], []) [] [] [] [] [] [] none 0 0)])
theorem wf_164 : cq_wfC ct_164 = true := by decide +kernel
def lp_164 (pc : Nat) : Option (Option (Nat × Nat) × cq_Lp) := none
theorem ok_164 : cq_CT 164 ct_164 := cq_meth (f := 100000) (cts := cq_t0) (lps := lp_164) cq_t0_ok wf_164 (by decide +kernel) (by decide +kernel)
def ct_166 : cq_Ct := (1, [(5, (0, []), 78), (1, (0, [(0, 1)]), 0)], cq_mk 1 ([(0, (-2147483648), 2147483647)], []) [] [] [] [] [] [] none 0 0, [(false, 78, 16, 0)], [(false, [(1, (0, [(1, 1)]), 0)], cq_mk 2 ([(1, (-2), 39997)], []) [] [] [] [] [] [] none 0 0)])
theorem wf_166 : cq_wfC ct_166 = true := by decide +kernel
def lp_166 (pc : Nat) : Option (Option (Nat × Nat) × cq_Lp) := none
theorem ok_166 : cq_CT 166 ct_166 := cq_meth (f := 100000) (cts := cq_t0) (lps := lp_166) cq_t0_ok wf_166 (by decide +kernel) (by decide +kernel)
def ct_170 : cq_Ct := (1, [(5, (0, []), 78)], cq_mk 2 ([(0, 0, 1600), (1, 0, 1600)], [(0, [(0, 1), (1, (-1))])]) [] [] [] [((false, 78), (3, []), (1, (0, [(0, 1)]), 0)), ((false, 78), (5, []), (1, (0, [(1, 1)]), 0))] [] [] none 0 0, [(false, 78, 5, 0), (false, 78, 6, 0), (false, 78, 7, 0), (false, 78, 8, 0)], [(false, [], cq_mk 4 ([(2, 0, 1600), (3, 0, 0)], [(0, [(0, 1), (2, (-1))]), (0, [(1, (-1)), (2, 1)])]) [] [] [] [((false, 78), (5, []), (1, (0, [(2, 1)]), 0)), ((false, 78), (6, []), (1, (0, [(3, 1)]), 0))] [] [] none 0 0), (false, [], cq_mk 4 ([(2, 0, 1600), (3, 1, 4)], [(0, [(0, 1), (2, (-1))]), ((-1), [(1, (-1)), (2, 1)])]) [] [] [] [((false, 78), (5, []), (1, (0, [(2, 1)]), 0)), ((false, 78), (6, []), (1, (0, [(3, 1)]), 0))] [] [] none 0 0)])
theorem wf_170 : cq_wfC ct_170 = true := by decide +kernel
def lp_170 (pc : Nat) : Option (Option (Nat × Nat) × cq_Lp) := bif Nat.beq pc 0 then some (none, ([(1, 78, 5, 0, 1600)], [], [(false, 78, 6, 0)], [(0, [(0, 1), (1, (-1))]), (0, [(0, (-1)), (2, 1)])], (0, true), [(78, 3)])) else bif Nat.beq pc 119 then some (none, ([(1, 78, 5, 1, 1600)], [], [(false, 78, 6, 0)], [(0, [(0, 1), (1, (-1))]), (0, [(0, (-1)), (2, 1)])], (0, true), [(78, 3)])) else bif Nat.beq pc 220 then some (none, ([(1, 78, 5, 1, 1600), (1, 78, 7, (-2147483648), 2147483647)], [], [(false, 78, 6, 0), (false, 78, 8, 0)], [(0, [(0, 1), (1, (-1))]), (0, [(0, (-1)), (4, 1)])], (0, true), [(78, 3)])) else none
theorem ok_170 : cq_CT 170 ct_170 := cq_meth (f := 100000) (cts := cq_t0) (lps := lp_170) cq_t0_ok wf_170 (by decide +kernel) (by decide +kernel)
def ct_175 : cq_Ct := (5, [(5, (0, []), 78), (6, (0, []), 0)], cq_mk 1 ([], []) [(0, true)] [(0, (2, 0, 0))] [] [] [] [] none 0 0, [], [(false, [(1, (0, [(1, 1)]), 0)], cq_mk 2 ([(1, 0, 1)], []) [] [] [] [] [] [] none 0 0)])
theorem wf_175 : cq_wfC ct_175 = true := by decide +kernel
def lp_175 (pc : Nat) : Option (Option (Nat × Nat) × cq_Lp) := bif Nat.beq pc 32 then some (none, ([(0, 2, 0, 0, 1), (0, 3, 0, 0, 1600)], [], [], [(0, [(0, (-1)), (1, 1)]), (0, [(2, 1), (3, (-1))])], (1, true), [])) else none
theorem ok_175 : cq_CT 175 ct_175 := cq_meth (f := 100000) (cts := cq_t0) (lps := lp_175) cq_t0_ok wf_175 (by decide +kernel) (by decide +kernel)
def ct_174 : cq_Ct := (7, [(5, (0, []), 78)], cq_mk 2 ([(0, 0, 1600), (1, 0, 1600)], [(0, [(0, 1), (1, (-1))])]) [] [] [] [((false, 78), (3, []), (1, (0, [(0, 1)]), 0)), ((false, 78), (5, []), (1, (0, [(1, 1)]), 0))] [] [] none 0 0, [(false, 78, 10, 0), (false, 78, 5, 0), (false, 78, 6, 0), (false, 78, 7, 0), (false, 78, 8, 0), (false, 78, 9, 0), (false, 83, 0, 0), (false, 84, 0, 0), (false, 85, 0, 0)], [(false, [(1, (0, [(2, 1)]), 0)], cq_mk 4 ([(2, (-2147483648), 2147483647), (3, 2, 32)], []) [] [] [] [((false, 83), (1, []), (1, (0, [(3, 1)]), 0))] [] [] none 0 0), (true, [], cq_mk 2 ([], []) [] [] [] [] [] [] none 0 0)])
theorem wf_174 : cq_wfC ct_174 = true := by decide +kernel
def lp_174 (pc : Nat) : Option (Option (Nat × Nat) × cq_Lp) := bif Nat.beq pc 70 then some (some (78, 6), ([(1, 78, 4, 0, 1600), (1, 78, 5, 0, 1600), (1, 78, 6, 0, 4), (1, 78, 7, (-2147483648), 2147483647), (1, 83, 1, 2, 32), (0, 1, 0, (-2147483648), 2147483647)], [2], [(false, 78, 5, 0), (false, 78, 6, 0), (false, 78, 7, 0), (false, 78, 8, 0), (false, 83, 0, 0), (false, 84, 0, 0), (false, 85, 0, 0)], [(0, [(2, 1), (3, (-1))]), (0, [(2, (-1)), (12, 1)])], (1, true), [(78, 3)])) else none
theorem ok_174 : cq_CT 174 ct_174 := cq_meth (f := 100000) (cts := (cq_tc 170 ct_170 (cq_tc 175 ct_175 cq_t0))) (lps := lp_174) (cq_tc_ok wf_170 ok_170 (cq_tc_ok wf_175 ok_175 cq_t0_ok)) wf_174 (by decide +kernel) (by decide +kernel)
end
section
/-! CONTRACTS: 167 183 184 185 187 193 192 190 200 201s 206 -/
def ct_167 : cq_Ct := (8, [(5, (0, []), 78)], cq_mk 0 ([], []) [] [] [] [] [] [] none 0 0, [(false, 78, 10, 0), (false, 78, 3, 0), (false, 78, 4, 0), (false, 78, 5, 0), (false, 78, 6, 0), (false, 78, 7, 0), (false, 78, 8, 0), (false, 78, 9, 0), (false, 81, 0, 0), (false, 82, 0, 0), (false, 83, 0, 0), (false, 84, 0, 0), (false, 85, 0, 0)], [(false, [(1, (0, [(0, 1)]), 0)], cq_mk 1 ([(0, (-2147483648), 2147483647)], []) [] [] [] [] [] [] none 0 0)])
theorem wf_167 : cq_wfC ct_167 = true := by decide +kernel
def lp_167 (pc : Nat) : Option (Option (Nat × Nat) × cq_Lp) := none
theorem ok_167 : cq_CT 167 ct_167 := cq_meth (f := 100000) (cts := (cq_tc 170 ct_170 (cq_tc 174 ct_174 cq_t0))) (lps := lp_167) (cq_tc_ok wf_170 ok_170 (cq_tc_ok wf_174 ok_174 cq_t0_ok)) wf_167 (by decide +kernel) (by decide +kernel)
def ct_183 : cq_Ct := (0, [(5, (0, []), 78), (1, (0, [(0, 1)]), 0)], cq_mk 1 ([(0, (-2147483648), 2147483647)], []) [] [] [] [] [] [] none 0 0, [], [(false, [(1, (0, [(1, 1)]), 0)], cq_mk 2 ([(1, (-2147483648), 2147483647)], []) [] [] [] [] [] [] none 0 0)])
theorem wf_183 : cq_wfC ct_183 = true := by decide +kernel
def lp_183 (pc : Nat) : Option (Option (Nat × Nat) × cq_Lp) := none
theorem ok_183 : cq_CT 183 ct_183 := cq_meth (f := 100000) (cts := cq_t0) (lps := lp_183) cq_t0_ok wf_183 (by decide +kernel) (by decide +kernel)
def ct_184 : cq_Ct := (1, [(5, (0, []), 78), (1, (0, [(0, 1)]), 0)], cq_mk 1 ([(0, (-2147483648), 2147483647)], []) [] [] [] [] [] [] none 0 0, [], [(false, [(1, (0, [(1, 1)]), 0)], cq_mk 2 ([(1, (-2147483648), 2147483647)], []) [] [] [] [] [] [] none 0 0)])
theorem wf_184 : cq_wfC ct_184 = true := by decide +kernel
def lp_184 (pc : Nat) : Option (Option (Nat × Nat) × cq_Lp) := none
theorem ok_184 : cq_CT 184 ct_184 := cq_meth (f := 100000) (cts := cq_t0) (lps := lp_184) cq_t0_ok wf_184 (by decide +kernel) (by decide +kernel)
def ct_185 : cq_Ct := (2, [(5, (0, []), 78), (1, (0, [(0, 1)]), 0), (1, (0, [(1, 1)]), 0), (1, (0, [(2, 1)]), 0), (1, (0, [(3, 1)]), 0)], cq_mk 4 ([(0, (-2147483648), 2147483647), (1, (-2147483648), 2147483647), (2, (-2147483648), 2147483647), (3, (-2147483648), 2147483647)], []) [] [] [] [] [] [] none 0 0, [(false, 78, 17, 0), (false, 86, 0, 0), (false, 87, 0, 0), (false, 88, 0, 0), (false, 89, 0, 0), (false, 90, 0, 0)], [(false, [(1, (0, [(4, 1)]), 0)], cq_mk 5 ([(4, (-3), 39)], []) [] [] [] [] [] [] none 0 0)])
theorem wf_185 : cq_wfC ct_185 = true := by decide +kernel
def lp_185 (pc : Nat) : Option (Option (Nat × Nat) × cq_Lp) := none
theorem ok_185 : cq_CT 185 ct_185 := cq_meth (f := 100000) (cts := cq_t0) (lps := lp_185) cq_t0_ok wf_185 (by decide +kernel) (by decide +kernel)
def ct_187 : cq_Ct := (2, [(5, (0, []), 78), (1, (0, [(0, 1)]), 0), (1, (0, [(1, 1)]), 0), (1, (0, [(2, 1)]), 0)], cq_mk 3 ([(0, (-2147483648), 2147483647), (1, (-2147483648), 2147483647), (2, (-2147483648), 2147483647)], []) [] [] [] [] [] [] none 0 0, [(false, 90, 0, 0), (false, 91, 0, 0)], [(false, [(1, (0, [(3, 1)]), 0)], cq_mk 4 ([(3, (-4), 1)], []) [] [] [] [] [] [] none 0 0)])
theorem wf_187 : cq_wfC ct_187 = true := by decide +kernel
def lp_187 (pc : Nat) : Option (Option (Nat × Nat) × cq_Lp) := none
theorem ok_187 : cq_CT 187 ct_187 := cq_meth (f := 100000) (cts := cq_t0) (lps := lp_187) cq_t0_ok wf_187 (by decide +kernel) (by decide +kernel)
def ct_193 : cq_Ct := (0, [(5, (0, []), 78)], cq_mk 0 ([], []) [] [] [] [] [] [] none 0 0, [], [(false, [(2, (0, [(0, 1)]), 0)], cq_mk 1 ([], []) [] [] [] [] [] [] none 0 0)])
theorem wf_193 : cq_wfC ct_193 = true := by decide +kernel
def lp_193 (pc : Nat) : Option (Option (Nat × Nat) × cq_Lp) := bif Nat.beq pc 4 then some (none, ([(0, 3, 0, 0, 12), (2, 1, 0, 0, 0)], [2], [], [(0, [(0, 1), (1, (-1))])], (0, true), [])) else none
theorem ok_193 : cq_CT 193 ct_193 := cq_meth (f := 100000) (cts := cq_t0) (lps := lp_193) cq_t0_ok wf_193 (by decide +kernel) (by decide +kernel)
def ct_192 : cq_Ct := (2, [(5, (0, []), 78)], cq_mk 2 ([(0, 0, 1600), (1, 0, 1600)], [(0, [(0, 1), (1, (-1))])]) [] [] [] [((false, 78), (3, []), (1, (0, [(0, 1)]), 0)), ((false, 78), (5, []), (1, (0, [(1, 1)]), 0))] [] [] none 0 0, [(false, 78, 10, 0), (false, 78, 5, 0), (false, 78, 6, 0), (false, 78, 7, 0), (false, 78, 8, 0), (false, 78, 9, 0), (false, 93, 0, 0), (false, 94, 0, 0), (false, 95, 0, 0), (false, 97, 0, 0)], [(false, [], cq_mk 5 ([(2, 0, 1600), (3, 0, 0), (4, 1, 30)], [(0, [(0, 1), (2, (-1))]), (0, [(1, (-1)), (2, 1)])]) [] [] [] [((false, 78), (5, []), (1, (0, [(2, 1)]), 0)), ((false, 78), (6, []), (1, (0, [(3, 1)]), 0)), ((false, 93), (120, []), (1, (0, [(4, 1)]), 0))] [] [] none 0 0), (false, [], cq_mk 5 ([(2, 0, 1600), (3, 1, 4), (4, 1, 30)], [(0, [(0, 1), (2, (-1))]), ((-1), [(1, (-1)), (2, 1)])]) [] [] [] [((false, 78), (5, []), (1, (0, [(2, 1)]), 0)), ((false, 78), (6, []), (1, (0, [(3, 1)]), 0)), ((false, 93), (120, []), (1, (0, [(4, 1)]), 0))] [] [] none 0 0), (true, [], cq_mk 2 ([], []) [] [] [] [] [] [] none 0 0)])
theorem wf_192 : cq_wfC ct_192 = true := by decide +kernel
def lp_192 (pc : Nat) : Option (Option (Nat × Nat) × cq_Lp) := bif Nat.beq pc 123 then some (some (78, 6), ([(1, 78, 4, 0, 1600), (1, 78, 5, 1, 1600), (1, 78, 6, 1, 4), (1, 78, 7, (-2147483648), 2147483647)], [], [(false, 78, 5, 0), (false, 78, 6, 0), (false, 78, 7, 0), (false, 78, 8, 0), (false, 94, 0, 0), (false, 95, 0, 0)], [(0, [(2, 1), (3, (-1))]), (0, [(4, 1), (5, (-1))]), (0, [(2, (-1)), (8, 1)])], (1, true), [(78, 3)])) else none
theorem ok_192 : cq_CT 192 ct_192 := cq_meth (f := 100000) (cts := (cq_tc 170 ct_170 (cq_tc 193 ct_193 cq_t0))) (lps := lp_192) (cq_tc_ok wf_170 ok_170 (cq_tc_ok wf_193 ok_193 cq_t0_ok)) wf_192 (by decide +kernel) (by decide +kernel)
def ct_190 : cq_Ct := (3, [(5, (0, []), 78)], cq_mk 2 ([(0, 0, 1600), (1, 0, 1600)], [(0, [(0, 1), (1, (-1))])]) [] [] [] [((false, 78), (3, []), (1, (0, [(0, 1)]), 0)), ((false, 78), (5, []), (1, (0, [(1, 1)]), 0))] [] [] none 0 0, [(false, 78, 10, 0), (false, 78, 5, 0), (false, 78, 6, 0), (false, 78, 7, 0), (false, 78, 8, 0), (false, 78, 9, 0), (false, 93, 0, 0), (false, 94, 0, 0), (false, 95, 0, 0), (false, 96, 0, 0), (false, 97, 0, 0)], [(false, [], cq_mk 5 ([(2, 0, 1600), (3, 0, 0), (4, 1, 30)], [(0, [(0, 1), (2, (-1))]), (0, [(1, (-1)), (2, 1)])]) [] [] [] [((false, 78), (5, []), (1, (0, [(2, 1)]), 0)), ((false, 78), (6, []), (1, (0, [(3, 1)]), 0)), ((false, 93), (120, []), (1, (0, [(4, 1)]), 0)), ((false, 96), (3600, []), (1, (1, []), 0))] [] [] none 0 0), (false, [], cq_mk 5 ([(2, 0, 1600), (3, 1, 4), (4, 1, 30)], [(0, [(0, 1), (2, (-1))]), (0, [(1, (-1)), (2, 1)])]) [] [] [] [((false, 78), (5, []), (1, (0, [(2, 1)]), 0)), ((false, 78), (6, []), (1, (0, [(3, 1)]), 0)), ((false, 93), (120, []), (1, (0, [(4, 1)]), 0)), ((false, 96), (3600, []), (1, (1, []), 0))] [] [] none 0 0), (true, [], cq_mk 2 ([], []) [] [] [] [] [] [] none 0 0)])
theorem wf_190 : cq_wfC ct_190 = true := by decide +kernel
def lp_190 (pc : Nat) : Option (Option (Nat × Nat) × cq_Lp) := bif Nat.beq pc 24 then some (some (78, 6), ([(1, 78, 4, 0, 1600), (1, 78, 5, 1, 1600), (1, 78, 6, 1, 4), (1, 78, 7, (-2147483648), 2147483647), (1, 78, 8, (-2147483648), 2147483647), (1, 78, 9, (-2147483648), 2147483647), (1, 93, 120, 1, 30)], [1], [(false, 78, 10, 0), (false, 78, 5, 0), (false, 78, 6, 0), (false, 78, 7, 0), (false, 78, 8, 0), (false, 78, 9, 0), (false, 93, 0, 0), (false, 94, 0, 0), (false, 95, 0, 0), (false, 96, 0, 0), (false, 97, 0, 0)], [(0, [(2, 1), (3, (-1))]), (0, [(2, (-1)), (14, 1)])], (1, true), [(78, 3), (96, 3600)])) else none
theorem ok_190 : cq_CT 190 ct_190 := cq_meth (f := 100000) (cts := (cq_tc 170 ct_170 (cq_tc 192 ct_192 cq_t0))) (lps := lp_190) (cq_tc_ok wf_170 ok_170 (cq_tc_ok wf_192 ok_192 cq_t0_ok)) wf_190 (by decide +kernel) (by decide +kernel)
def ct_200 : cq_Ct := (1, [(5, (0, []), 78), (1, (0, [(0, 1)]), 0), (1, (0, [(1, 1)]), 0), (1, (0, [(2, 1)]), 0)], cq_mk 3 ([(0, 0, 119), (1, 0, 29), (2, 0, 29)], []) [] [] [] [] [] [] none 0 0, [], [(false, [(1, (0, [(3, 1)]), 0)], cq_mk 4 ([(3, (-2147483648), 2147483647)], []) [] [] [] [] [] [] none 0 0)])
theorem wf_200 : cq_wfC ct_200 = true := by decide +kernel
def lp_200 (pc : Nat) : Option (Option (Nat × Nat) × cq_Lp) := bif Nat.beq pc 23 then some (none, ([(0, 4, 0, (-2147483648), 2147483647), (0, 5, 0, 1, 30)], [], [], [(0, [(2, 1), (3, (-1))])], (1, true), [])) else none
theorem ok_200 : cq_CT 200 ct_200 := cq_meth (f := 100000) (cts := cq_t0) (lps := lp_200) cq_t0_ok wf_200 (by decide +kernel) (by decide +kernel)
def ct_201s : cq_Ct := (1, [(5, (0, []), 78), (1, (0, [(0, 1)]), 0), (1, (0, [(1, 1)]), 0)], cq_mk 2 ([(0, 0, 119), (1, 0, 29)], []) [] [] [] [((false, 96), (0, [(0, 30)]), (1, (1, []), 0))] [] [] none 0 0, [], [(false, [(1, (0, [(2, 1)]), 0)], cq_mk 3 ([(2, 0, 1)], []) [] [] [] [] [] [] none 0 0)])
theorem wf_201s : cq_wfC ct_201s = true := by decide +kernel
def lp_201s (pc : Nat) : Option (Option (Nat × Nat) × cq_Lp) := bif Nat.beq pc 34 then some (none, ([(0, 2, 0, 0, 29), (0, 3, 0, 1, 30)], [], [], [(0, [(0, 1), (1, (-1))]), (0, [(0, (-1)), (1, 1)]), (0, [(2, 1), (3, (-1))]), (1, [(0, 1), (2, (-1))])], (1, true), [])) else bif Nat.beq pc 60 then some (none, ([(0, 4, 0, 1, 30)], [], [], [(0, [(0, 1), (1, (-1))])], (0, true), [])) else none
theorem ok_201s : cq_CT 201 ct_201s := cq_methR (f := 100000) (cts := cq_t0) (lps := lp_201s) cq_t0_ok wf_201s (by decide +kernel) (by decide +kernel)
def ct_206 : cq_Ct := (1, [(5, (0, []), 78), (1, (0, [(0, 1)]), 0), (1, (0, [(1, 1)]), 0)], cq_mk 2 ([(0, 0, 3629), (1, 0, 3629)], []) [] [] [] [] [] [] none 0 0, [(false, 101, 0, 0)], [(false, [(1, (0, [(2, 1)]), 0)], cq_mk 3 ([(2, (-2147483648), 2147483647)], []) [] [] [] [] [] [] none 0 0)])
theorem wf_206 : cq_wfC ct_206 = true := by decide +kernel
def lp_206 (pc : Nat) : Option (Option (Nat × Nat) × cq_Lp) := bif Nat.beq pc 2 then some (none, ([(0, 3, 0, 0, 9)], [4, 5, 6], [], [(0, [(0, 1), (1, (-1))])], (0, true), [])) else bif Nat.beq pc 15 then some (none, ([(0, 4, 0, 0, 9)], [5, 6], [(false, 101, 0, 0)], [(0, [(0, 1), (1, (-1))])], (0, true), [])) else none
theorem ok_206 : cq_CT 206 ct_206 := cq_meth (f := 100000) (cts := cq_t0) (lps := lp_206) cq_t0_ok wf_206 (by decide +kernel) (by decide +kernel)
end
section
/-! CONTRACTS: 205 204 207 210 212 211 209 208 -/
def ct_205 : cq_Ct := (2, [(5, (0, []), 78), (1, (0, [(0, 1)]), 0), (1, (0, [(1, 1)]), 0)], cq_mk 2 ([(0, 0, 119), (1, 0, 119)], []) [] [] [] [] [] [] none 0 0, [(false, 101, 0, 0), (false, 102, 0, 0)], [(false, [(1, (0, [(2, 1)]), 0)], cq_mk 3 ([(2, (-2147483648), 2147483647)], []) [] [] [] [] [] [] none 0 0)])
theorem wf_205 : cq_wfC ct_205 = true := by decide +kernel
def lp_205 (pc : Nat) : Option (Option (Nat × Nat) × cq_Lp) := bif Nat.beq pc 2 then some (none, ([(0, 3, 0, 0, 31)], [4, 5, 6], [], [(0, [(0, 1), (1, (-1))])], (0, true), [])) else bif Nat.beq pc 15 then some (none, ([(0, 4, 0, 0, 31)], [5, 6], [(false, 101, 0, 0), (false, 102, 0, 0)], [(0, [(0, 1), (1, (-1))])], (0, true), [])) else none
theorem ok_205 : cq_CT 205 ct_205 := cq_meth (f := 100000) (cts := (cq_tc 206 ct_206 cq_t0)) (lps := lp_205) (cq_tc_ok wf_206 ok_206 cq_t0_ok) wf_205 (by decide +kernel) (by decide +kernel)
def ct_204 : cq_Ct := (3, [(5, (0, []), 78), (1, (0, [(0, 1)]), 0), (1, (0, [(1, 1)]), 0), (1, (0, [(2, 1)]), 0)], cq_mk 3 ([(0, (-2147483648), 2147483647), (1, (-2147483648), 2147483647), (2, (-2147483648), 2147483647)], []) [] [] [] [] [] [] none 0 0, [(false, 101, 0, 0), (false, 102, 0, 0)], [(false, [(1, (0, [(3, 1)]), 0)], cq_mk 4 ([(3, (-2147483648), 2147483647)], []) [] [] [] [] [] [] none 0 0)])
theorem wf_204 : cq_wfC ct_204 = true := by decide +kernel
def lp_204 (pc : Nat) : Option (Option (Nat × Nat) × cq_Lp) := none
theorem ok_204 : cq_CT 204 ct_204 := cq_meth (f := 100000) (cts := (cq_tc 205 ct_205 cq_t0)) (lps := lp_204) (cq_tc_ok wf_205 ok_205 cq_t0_ok) wf_204 (by decide +kernel) (by decide +kernel)
def ct_207 : cq_Ct := (3, [(5, (0, []), 78), (1, (0, [(0, 1)]), 0), (1, (0, [(1, 1)]), 0)], cq_mk 2 ([(0, (-2147483648), 2147483647), (1, (-2147483648), 2147483647)], []) [] [] [] [] [] [] none 0 0, [(false, 101, 0, 0), (false, 102, 0, 0)], [(false, [(1, (0, [(2, 1)]), 0)], cq_mk 3 ([(2, (-2), 1)], []) [] [] [] [] [] [] none 0 0)])
theorem wf_207 : cq_wfC ct_207 = true := by decide +kernel
def lp_207 (pc : Nat) : Option (Option (Nat × Nat) × cq_Lp) := bif Nat.beq pc 22 then some (none, ([(0, 3, 0, (-1), 1), (0, 4, 0, (-2147483648), 1000000000), (0, 5, 0, 0, 2)], [6], [(false, 101, 0, 0), (false, 102, 0, 0)], [(0, [(0, 1), (1, (-1))]), (0, [(2, (-1)), (3, 1)]), (0, [(4, 1), (5, (-1))])], (2, true), [])) else none
theorem ok_207 : cq_CT 207 ct_207 := cq_meth (f := 100000) (cts := (cq_tc 205 ct_205 cq_t0)) (lps := lp_207) (cq_tc_ok wf_205 ok_205 cq_t0_ok) wf_207 (by decide +kernel) (by decide +kernel)
def ct_210 : cq_Ct := (6, [(5, (0, []), 78)], cq_mk 0 ([], []) [] [] [] [] [] [] none 0 0, [], [(false, [(1, (0, [(0, 1)]), 0)], cq_mk 1 ([(0, (-1), 5)], []) [] [] [] [] [] [] none 0 0)])
theorem wf_210 : cq_wfC ct_210 = true := by decide +kernel
def lp_210 (pc : Nat) : Option (Option (Nat × Nat) × cq_Lp) := none
theorem ok_210 : cq_CT 210 ct_210 := cq_meth (f := 100000) (cts := (cq_tc 175 ct_175 cq_t0)) (lps := lp_210) (cq_tc_ok wf_175 ok_175 cq_t0_ok) wf_210 (by decide +kernel) (by decide +kernel)
def ct_212 : cq_Ct := (3, [(5, (0, []), 78), (1, (0, [(0, 1)]), 0)], cq_mk 3 ([(0, 1, 20), (1, 0, 1600), (2, 0, 1600)], [(0, [(1, 1), (2, (-1))])]) [] [] [] [((false, 78), (3, []), (1, (0, [(1, 1)]), 0)), ((false, 78), (5, []), (1, (0, [(2, 1)]), 0))] [] [] none 0 0, [(false, 78, 10, 0), (false, 78, 5, 0), (false, 78, 6, 0), (false, 78, 7, 0), (false, 78, 8, 0), (false, 78, 9, 0)], [(false, [(1, (0, [(5, 1)]), 0)], cq_mk 6 ([(3, 0, 1600), (4, 0, 0), (5, (-2147483648), 2147483647)], [(0, [(1, 1), (3, (-1))]), (0, [(2, (-1)), (3, 1)])]) [] [] [] [((false, 78), (5, []), (1, (0, [(3, 1)]), 0)), ((false, 78), (6, []), (1, (0, [(4, 1)]), 0))] [] [] none 0 0), (false, [(1, (0, [(5, 1)]), 0)], cq_mk 6 ([(3, 0, 1600), (4, 1, 4), (5, (-2147483648), 2147483647)], [(0, [(1, 1), (3, (-1))]), ((-1), [(2, (-1)), (3, 1)])]) [] [] [] [((false, 78), (5, []), (1, (0, [(3, 1)]), 0)), ((false, 78), (6, []), (1, (0, [(4, 1)]), 0))] [] [] none 0 0), (true, [], cq_mk 3 ([], []) [] [] [] [] [] [] none 0 0)])
theorem wf_212 : cq_wfC ct_212 = true := by decide +kernel
def lp_212 (pc : Nat) : Option (Option (Nat × Nat) × cq_Lp) := bif Nat.beq pc 2 then some (some (78, 6), ([(1, 78, 4, 0, 1600), (1, 78, 5, 0, 1600), (1, 78, 6, 0, 4), (1, 78, 7, (-2147483648), 2147483647), (0, 2, 0, (-2147483648), 2147483647)], [3], [(false, 78, 5, 0), (false, 78, 6, 0), (false, 78, 7, 0), (false, 78, 8, 0)], [(0, [(2, 1), (3, (-1))]), (0, [(4, 1), (5, (-1))]), (0, [(4, (-1)), (5, 1)]), (0, [(2, (-1)), (10, 1)])], (1, true), [(78, 3)])) else none
theorem ok_212 : cq_CT 212 ct_212 := cq_meth (f := 100000) (cts := (cq_tc 170 ct_170 cq_t0)) (lps := lp_212) (cq_tc_ok wf_170 ok_170 cq_t0_ok) wf_212 (by decide +kernel) (by decide +kernel)
def ct_211 : cq_Ct := (6, [(5, (0, []), 78), (1, (0, [(0, 1)]), 0)], cq_mk 3 ([(0, 0, 5), (1, 0, 1600), (2, 0, 1600)], [(0, [(1, 1), (2, (-1))])]) [] [] [] [((false, 78), (3, []), (1, (0, [(1, 1)]), 0)), ((false, 78), (5, []), (1, (0, [(2, 1)]), 0))] [] [] none 0 0, [(false, 104, 0, 0), (false, 105, 0, 0), (false, 106, 0, 0), (false, 107, 0, 0), (false, 108, 0, 0), (false, 109, 0, 0), (false, 110, 0, 0), (false, 78, 10, 0), (false, 78, 5, 0), (false, 78, 6, 0), (false, 78, 7, 0), (false, 78, 8, 0), (false, 78, 9, 0)], [(false, [], cq_mk 5 ([(3, 0, 1600), (4, 0, 0)], [(0, [(1, 1), (3, (-1))]), (0, [(2, (-1)), (3, 1)])]) [] [] [] [((false, 78), (5, []), (1, (0, [(3, 1)]), 0)), ((false, 78), (6, []), (1, (0, [(4, 1)]), 0))] [] [] none 0 0), (false, [], cq_mk 5 ([(3, 0, 1600), (4, 1, 4)], [(0, [(1, 1), (3, (-1))]), (0, [(2, (-1)), (3, 1)])]) [] [] [] [((false, 78), (5, []), (1, (0, [(3, 1)]), 0)), ((false, 78), (6, []), (1, (0, [(4, 1)]), 0))] [] [] none 0 0), (true, [], cq_mk 3 ([], []) [] [] [] [] [] [] none 0 0)])
theorem wf_211 : cq_wfC ct_211 = true := by decide +kernel
def lp_211 (pc : Nat) : Option (Option (Nat × Nat) × cq_Lp) := bif Nat.beq pc 208 then some (some (78, 6), ([(1, 78, 4, 0, 1600), (1, 78, 5, 0, 1600), (1, 78, 6, 1, 4), (1, 78, 7, (-2147483648), 2147483647)], [], [(false, 110, 0, 0), (false, 78, 5, 0), (false, 78, 6, 0), (false, 78, 7, 0), (false, 78, 8, 0)], [(0, [(2, 1), (3, (-1))]), (0, [(4, 1), (5, (-1))]), (0, [(2, (-1)), (8, 1)])], (1, true), [(78, 3)])) else none
theorem ok_211 : cq_CT 211 ct_211 := cq_meth (f := 100000) (cts := (cq_tc 170 ct_170 (cq_tc 175 ct_175 (cq_tc 212 ct_212 cq_t0)))) (lps := lp_211) (cq_tc_ok wf_170 ok_170 (cq_tc_ok wf_175 ok_175 (cq_tc_ok wf_212 ok_212 cq_t0_ok))) wf_211 (by decide +kernel) (by decide +kernel)
def ct_209 : cq_Ct := (7, [(5, (0, []), 78)], cq_mk 2 ([(0, 0, 1600), (1, 0, 1600)], [(0, [(0, 1), (1, (-1))])]) [] [] [] [((false, 78), (3, []), (1, (0, [(0, 1)]), 0)), ((false, 78), (5, []), (1, (0, [(1, 1)]), 0))] [] [] none 0 0, [(false, 104, 0, 0), (false, 105, 0, 0), (false, 106, 0, 0), (false, 107, 0, 0), (false, 108, 0, 0), (false, 109, 0, 0), (false, 110, 0, 0), (false, 78, 10, 0), (false, 78, 5, 0), (false, 78, 6, 0), (false, 78, 7, 0), (false, 78, 8, 0), (false, 78, 9, 0), (false, 85, 0, 0)], [(false, [], cq_mk 2 ([], []) [] [] [] [] [] [] none 0 0), (true, [], cq_mk 2 ([], []) [] [] [] [] [] [] none 0 0)])
theorem wf_209 : cq_wfC ct_209 = true := by decide +kernel
def lp_209 (pc : Nat) : Option (Option (Nat × Nat) × cq_Lp) := bif Nat.beq pc 79 then some (some (78, 6), ([(1, 78, 4, 0, 1600), (1, 78, 5, 0, 1600), (1, 78, 6, 0, 4), (1, 78, 7, (-2147483648), 2147483647), (1, 78, 8, (-2147483648), 2147483647), (1, 78, 9, (-2147483648), 2147483647), (0, 1, 0, 0, 7)], [], [(false, 104, 0, 0), (false, 105, 0, 0), (false, 106, 0, 0), (false, 107, 0, 0), (false, 108, 0, 0), (false, 109, 0, 0), (false, 110, 0, 0), (false, 78, 10, 0), (false, 78, 5, 0), (false, 78, 6, 0), (false, 78, 7, 0), (false, 78, 8, 0), (false, 78, 9, 0), (false, 85, 0, 0)], [(0, [(2, 1), (3, (-1))]), (0, [(12, (-1)), (13, 1)]), (0, [(2, (-1)), (14, 1)])], (1, true), [(78, 3)])) else none
theorem ok_209 : cq_CT 209 ct_209 := cq_meth (f := 100000) (cts := (cq_tc 170 ct_170 (cq_tc 210 ct_210 (cq_tc 211 ct_211 cq_t0)))) (lps := lp_209) (cq_tc_ok wf_170 ok_170 (cq_tc_ok wf_210 ok_210 (cq_tc_ok wf_211 ok_211 cq_t0_ok))) wf_209 (by decide +kernel) (by decide +kernel)
def ct_208 : cq_Ct := (8, [(5, (0, []), 78), (1, (0, [(0, 1)]), 0)], cq_mk 1 ([(0, (-2147483648), 2147483647)], []) [] [] [] [] [] [] none 0 0, [(false, 103, 0, 0), (false, 104, 0, 0), (false, 105, 0, 0), (false, 106, 0, 0), (false, 107, 0, 0), (false, 108, 0, 0), (false, 109, 0, 0), (false, 110, 0, 0), (false, 111, 0, 0), (false, 113, 0, 0), (false, 78, 10, 0), (false, 78, 3, 0), (false, 78, 36, 0), (false, 78, 4, 0), (false, 78, 5, 0), (false, 78, 6, 0), (false, 78, 7, 0), (false, 78, 8, 0), (false, 78, 9, 0), (false, 85, 0, 0)], [(false, [(1, (0, [(1, 1)]), 0)], cq_mk 2 ([(1, (-3), 79)], []) [] [] [] [] [] [] none 0 0)])
theorem wf_208 : cq_wfC ct_208 = true := by decide +kernel
def lp_208 (pc : Nat) : Option (Option (Nat × Nat) × cq_Lp) := none
theorem ok_208 : cq_CT 208 ct_208 := cq_meth (f := 100000) (cts := (cq_tc 170 ct_170 (cq_tc 209 ct_209 cq_t0))) (lps := lp_208) (cq_tc_ok wf_170 ok_170 (cq_tc_ok wf_209 ok_209 cq_t0_ok)) wf_208 (by decide +kernel) (by decide +kernel)
end
section
/-! CONTRACTS: 213 215 217 221 222 222r 222g 220 220r 218 223 224 225 227c 231 231g 230 230g 230e 233g 233s 236 237 242 241 -/
def ct_213 : cq_Ct := (2, [(5, (0, []), 78), (1, (0, [(0, 1)]), 0), (1, (0, [(1, 1)]), 0)], cq_mk 2 ([(0, (-2147483648), 2147483647), (1, (-2147483648), 2147483647)], []) [] [] [] [] [] [] none 0 0, [], [(false, [(1, (0, [(2, 1)]), 0)], cq_mk 3 ([(2, (-2147483648), 2147483647)], []) [] [] [] [] [] [] none 0 0)])
theorem wf_213 : cq_wfC ct_213 = true := by decide +kernel
def lp_213 (pc : Nat) : Option (Option (Nat × Nat) × cq_Lp) := none
theorem ok_213 : cq_CT 213 ct_213 := cq_meth (f := 100000) (cts := cq_t0) (lps := lp_213) cq_t0_ok wf_213 (by decide +kernel) (by decide +kernel)
def ct_215 : cq_Ct := (2, [(5, (0, []), 78), (1, (0, [(0, 1)]), 0), (1, (0, [(1, 1)]), 0)], cq_mk 2 ([(0, (-2147483648), 2147483647), (1, (-2147483648), 2147483647)], []) [] [] [] [] [] [] none 0 0, [(false, 112, 0, 0), (false, 113, 0, 0)], [(false, [(1, (0, [(2, 1)]), 0)], cq_mk 3 ([(2, (-4), 1)], []) [] [] [] [] [] [] none 0 0)])
theorem wf_215 : cq_wfC ct_215 = true := by decide +kernel
def lp_215 (pc : Nat) : Option (Option (Nat × Nat) × cq_Lp) := none
theorem ok_215 : cq_CT 215 ct_215 := cq_meth (f := 100000) (cts := cq_t0) (lps := lp_215) cq_t0_ok wf_215 (by decide +kernel) (by decide +kernel)
def ct_217 : cq_Ct := (2, [(5, (0, []), 78), (1, (0, [(0, 1)]), 0), (1, (0, [(1, 1)]), 0)], cq_mk 2 ([(0, (-2147483648), 2147483647), (1, (-2147483648), 2147483647)], []) [] [] [] [] [] [] none 0 0, [(false, 114, 0, 0), (false, 115, 0, 0), (false, 116, 0, 0), (false, 78, 37, 0)], [(false, [(1, (0, [(2, 1)]), 0)], cq_mk 3 ([(2, (-3), 60)], []) [] [] [] [] [] [] none 0 0)])
theorem wf_217 : cq_wfC ct_217 = true := by decide +kernel
def lp_217 (pc : Nat) : Option (Option (Nat × Nat) × cq_Lp) := none
theorem ok_217 : cq_CT 217 ct_217 := cq_meth (f := 100000) (cts := cq_t0) (lps := lp_217) cq_t0_ok wf_217 (by decide +kernel) (by decide +kernel)
def ct_221 : cq_Ct := (0, [(5, (0, []), 78), (1, (0, [(0, 1)]), 0), (1, (0, [(1, 1)]), 0), (1, (0, [(2, 1)]), 0), (1, (0, [(3, 1)]), 0)], cq_mk 4 ([(0, (-2147483648), 2147483647), (1, 0, 5), (2, (-2147483648), 2147483647), (3, (-2147483648), 2147483647)], []) [] [] [] [] [] [] none 0 0, [], [(false, [(1, (0, [(4, 1)]), 0)], cq_mk 5 ([(4, 0, 1)], []) [] [] [] [] [] [] none 0 0)])
theorem wf_221 : cq_wfC ct_221 = true := by decide +kernel
def lp_221 (pc : Nat) : Option (Option (Nat × Nat) × cq_Lp) := bif Nat.beq pc 6 then some (none, ([(0, 5, 0, (-2147483648), 2147483647), (0, 6, 0, 0, 60)], [], [], [(0, [(2, 1), (3, (-1))])], (1, true), [])) else none
theorem ok_221 : cq_CT 221 ct_221 := cq_meth (f := 100000) (cts := cq_t0) (lps := lp_221) cq_t0_ok wf_221 (by decide +kernel) (by decide +kernel)
def ct_222 : cq_Ct := (0, [(5, (0, []), 78), (1, (0, [(0, 1)]), 0), (1, (0, [(1, 1)]), 0)], cq_mk 2 ([(0, (-2147483648), 2147483647), (1, (-2147483648), 2147483647)], []) [] [] [] [] [] [] none 0 0, [], [(false, [(1, (0, [(2, 1)]), 0)], cq_mk 3 ([(2, (-1), 79)], []) [] [] [] [] [] [] none 0 0)])
theorem wf_222 : cq_wfC ct_222 = true := by decide +kernel
def lp_222 (pc : Nat) : Option (Option (Nat × Nat) × cq_Lp) := bif Nat.beq pc 5 then some (none, ([(0, 3, 0, (-1), 79), (0, 4, 0, 0, 80)], [], [], [(0, [(0, 1), (1, (-1))]), (0, [(2, 1), (3, (-1))])], (1, true), [])) else none
theorem ok_222 : cq_CT 222 ct_222 := cq_meth (f := 100000) (cts := cq_t0) (lps := lp_222) cq_t0_ok wf_222 (by decide +kernel) (by decide +kernel)
def ct_222r : cq_Ct := (0, [(5, (0, []), 78), (1, (0, [(0, 1)]), 0), (1, (0, [(1, 1)]), 0)], cq_mk 2 ([(0, 0, 39), (1, 0, 29999)], []) [] [] [] [] [] [] none 0 0, [], [(false, [(1, (0, [(2, 1)]), 0)], cq_mk 3 ([(2, (-1), 79)], []) [] [] [] [] [] [] none 0 0)])
theorem wf_222r : cq_wfC ct_222r = true := by decide +kernel
def lp_222r (pc : Nat) : Option (Option (Nat × Nat) × cq_Lp) := bif Nat.beq pc 5 then some (none, ([(0, 3, 0, (-1), 79), (0, 4, 0, 0, 80)], [], [], [(0, [(0, 1), (1, (-1))]), (0, [(2, 1), (3, (-1))])], (1, true), [])) else none
theorem ok_222r : cq_CT 222 ct_222r := cq_meth (f := 100000) (cts := cq_t0) (lps := lp_222r) cq_t0_ok wf_222r (by decide +kernel) (by decide +kernel)
def ct_222g : cq_Ct := cq_fn 222 (0, [(0, 1), (1, 65536)]) ct_222r
theorem wf_222g : cq_wfC ct_222g = true := by decide +kernel
theorem ok_222g : cq_CT 222 ct_222g := cq_fun (by decide) (by decide) wf_222r ok_222r rfl (by decide +kernel) (fun h ρ as M g => cq_dec2 g (M.P.1 (0, 0, 39) List.mem_cons_self) (M.P.1 (1, 0, 29999) (List.mem_cons_of_mem _ List.mem_cons_self)) (by decide) (by decide) (by decide) (by decide))
def ct_220 : cq_Ct := (1, [(5, (0, []), 78), (1, (0, [(0, 1)]), 0), (1, (0, [(1, 1)]), 0), (1, (0, [(2, 1)]), 0), (1, (0, [(3, 1)]), 0)], cq_mk 4 ([(0, 0, 39), (1, 0, 5), (2, (-2147483648), 2147483647), (3, (-2147483648), 2147483647)], []) [] [] [] [] [] [] none 0 0, [], [(false, [(1, (0, [(4, 1)]), 0)], cq_mk 5 ([(4, 0, 2)], []) [] [] [] [] [] [] none 0 0)])
theorem wf_220 : cq_wfC ct_220 = true := by decide +kernel
def lp_220 (pc : Nat) : Option (Option (Nat × Nat) × cq_Lp) := none
theorem ok_220 : cq_CT 220 ct_220 := cq_meth (f := 100000) (cts := (cq_tc 221 ct_221 (cq_tc 222 ct_222 cq_t0))) (lps := lp_220) (cq_tc_ok wf_221 ok_221 (cq_tc_ok wf_222 ok_222 cq_t0_ok)) wf_220 (by decide +kernel) (by decide +kernel)
def ct_220r : cq_Ct := (1, [(5, (0, []), 78), (1, (0, [(0, 1)]), 0), (1, (0, [(1, 1)]), 0), (1, (0, [(2, 1)]), 0), (1, (0, [(3, 1)]), 0)], cq_mk 5 ([(0, 0, 39), (1, 0, 5), (2, (-2147483648), 2147483647), (3, 0, 29999), (4, (-2147483648), 2147483647)], []) [] [] [] [] [] [((0, [(0, 1), (3, 65536)]), (1000000000222, []), (0, [(4, 1)]))] none 0 0, [], [(false, [(1, (0, []), 0)], cq_mk 5 ([], []) [] [] [] [] [] [] none 0 0), (false, [(1, (2, []), 0)], cq_mk 5 ([], []) [] [] [] [] [] [] none 0 0), (false, [(1, (1, []), 0)], cq_mk 5 ([], [(0, [(4, 1)])]) [] [] [] [] [] [] none 0 0)])
theorem wf_220r : cq_wfC ct_220r = true := by decide +kernel
def lp_220r (pc : Nat) : Option (Option (Nat × Nat) × cq_Lp) := none
theorem ok_220r : cq_CT 220 ct_220r := cq_meth (f := 100000) (cts := (cq_tc 221 ct_221 (cq_tc 222 ct_222g cq_t0))) (lps := lp_220r) (cq_tc_ok wf_221 ok_221 (cq_tc_gh (ni_UT (by decide +kernel)) wf_222g ok_222g cq_t0_ok)) wf_220r (by decide +kernel) (by decide +kernel)
def ct_218 : cq_Ct := (2, [(5, (0, []), 78), (1, (0, [(0, 1)]), 0), (1, (0, [(1, 1)]), 0), (1, (0, [(2, 1)]), 0), (1, (0, [(3, 1)]), 0)], cq_mk 4 ([(0, (-2147483648), 2147483647), (1, (-2147483648), 2147483647), (2, (-2147483648), 2147483647), (3, (-2147483648), 2147483647)], []) [] [] [] [] [] [] none 0 0, [], [(false, [(1, (0, [(4, 1)]), 0)], cq_mk 5 ([(4, (-2), 2)], []) [] [] [] [] [] [] none 0 0)])
theorem wf_218 : cq_wfC ct_218 = true := by decide +kernel
def lp_218 (pc : Nat) : Option (Option (Nat × Nat) × cq_Lp) := none
theorem ok_218 : cq_CT 218 ct_218 := cq_meth (f := 100000) (cts := (cq_tc 220 ct_220 cq_t0)) (lps := lp_218) (cq_tc_ok wf_220 ok_220 cq_t0_ok) wf_218 (by decide +kernel) (by decide +kernel)
def ct_223 : cq_Ct := (2, [(5, (0, []), 78), (1, (0, [(0, 1)]), 0), (1, (0, [(1, 1)]), 0)], cq_mk 2 ([(0, (-2147483648), 2147483647), (1, (-2147483648), 2147483647)], []) [] [] [] [] [] [] none 0 0, [], [(false, [(1, (0, [(2, 1)]), 0)], cq_mk 3 ([(2, (-2), 79)], []) [] [] [] [] [] [] none 0 0)])
theorem wf_223 : cq_wfC ct_223 = true := by decide +kernel
def lp_223 (pc : Nat) : Option (Option (Nat × Nat) × cq_Lp) := none
theorem ok_223 : cq_CT 223 ct_223 := cq_meth (f := 100000) (cts := (cq_tc 222 ct_222 cq_t0)) (lps := lp_223) (cq_tc_ok wf_222 ok_222 cq_t0_ok) wf_223 (by decide +kernel) (by decide +kernel)
def ct_224 : cq_Ct := (2, [(5, (0, []), 78), (1, (0, [(0, 1)]), 0), (1, (0, [(1, 1)]), 0)], cq_mk 2 ([(0, (-2147483648), 2147483647), (1, (-2147483648), 2147483647)], []) [] [] [] [] [] [] none 0 0, [(false, 78, 52, 0), (false, 78, 53, 0)], [(false, [(1, (0, [(2, 1)]), 0)], cq_mk 3 ([(2, (-2), 1)], []) [] [] [] [] [] [] none 0 0)])
theorem wf_224 : cq_wfC ct_224 = true := by decide +kernel
def lp_224 (pc : Nat) : Option (Option (Nat × Nat) × cq_Lp) := none
theorem ok_224 : cq_CT 224 ct_224 := cq_meth (f := 100000) (cts := cq_t0) (lps := lp_224) cq_t0_ok wf_224 (by decide +kernel) (by decide +kernel)
def ct_225 : cq_Ct := (2, [(5, (0, []), 78), (1, (0, [(0, 1)]), 0)], cq_mk 1 ([(0, (-2147483648), 2147483647)], []) [] [] [] [] [] [] none 0 0, [(false, 117, 0, 0), (false, 78, 54, 0), (false, 78, 55, 0), (false, 78, 76, 0)], [(false, [(1, (0, [(1, 1)]), 0)], cq_mk 2 ([(1, (-4), 13)], []) [] [] [] [] [] [] none 0 0)])
theorem wf_225 : cq_wfC ct_225 = true := by decide +kernel
def lp_225 (pc : Nat) : Option (Option (Nat × Nat) × cq_Lp) := bif Nat.beq pc 13 then some (none, ([(0, 2, 0, 0, 14)], [], [], [(0, [(0, 1), (1, (-1))])], (0, true), [])) else none
theorem ok_225 : cq_CT 225 ct_225 := cq_meth (f := 100000) (cts := cq_t0) (lps := lp_225) cq_t0_ok wf_225 (by decide +kernel) (by decide +kernel)
def ct_227c : cq_Ct := (1, [(5, (0, []), 78), (1, (0, [(0, 1)]), 0)], cq_mk 2 ([(0, (-2147483648), 2147483647), (1, 0, 14)], []) [] [] [] [((false, 78), (53, []), (1, (0, [(1, 1)]), 0))] [] [] none 0 0, [], [(false, [(1, (1, []), 0)], cq_mk 2 ([], [(0, [(0, 1)]), ((-1), [(0, (-1)), (1, 1)])]) [] [] [] [] [] [] none 0 0), (false, [(1, (0, []), 0)], cq_mk 2 ([], []) [] [] [] [] [] [] none 0 0)])
theorem wf_227c : cq_wfC ct_227c = true := by decide +kernel
def lp_227c (pc : Nat) : Option (Option (Nat × Nat) × cq_Lp) := none
theorem ok_227c : cq_CT 227 ct_227c := cq_meth (f := 100000) (cts := cq_t0) (lps := lp_227c) cq_t0_ok wf_227c (by decide +kernel) (by decide +kernel)
def ct_231 : cq_Ct := (2, [(5, (0, []), 78), (1, (0, [(0, 1)]), 0)], cq_mk 1 ([(0, 0, 39)], []) [] [] [] [] [] [] none 0 0, [], [(false, [(1, (0, [(1, 1)]), 0)], cq_mk 2 ([(1, 0, 1)], []) [] [] [] [] [] [] none 0 0)])
theorem wf_231 : cq_wfC ct_231 = true := by decide +kernel
def lp_231 (pc : Nat) : Option (Option (Nat × Nat) × cq_Lp) := bif Nat.beq pc 2 then some (none, ([(0, 2, 0, 0, 6)], [], [], [(0, [(0, 1), (1, (-1))])], (0, true), [])) else none
theorem ok_231 : cq_CT 231 ct_231 := cq_meth (f := 100000) (cts := (cq_tc 220 ct_220 cq_t0)) (lps := lp_231) (cq_tc_ok wf_220 ok_220 cq_t0_ok) wf_231 (by decide +kernel) (by decide +kernel)
def ct_231g : cq_Ct := cq_fn 231 (0, [(0, 1)]) ct_231
theorem wf_231g : cq_wfC ct_231g = true := by decide +kernel
theorem ok_231g : cq_CT 231 ct_231g := cq_fun (by decide) (by decide) wf_231 ok_231 rfl (by decide +kernel) (fun h ρ as M g => cq_dec1 g (M.P.1 (0, 0, 39) List.mem_cons_self) (by decide) (by decide))
def ct_230 : cq_Ct := (3, [(5, (0, []), 78), (1, (0, [(0, 1)]), 0)], cq_mk 1 ([(0, 0, 39)], []) [] [] [] [] [] [] none 0 0, [], [(false, [(1, (0, [(1, 1)]), 0)], cq_mk 2 ([(1, (-1), 2)], []) [] [] [] [] [] [] none 0 0)])
theorem wf_230 : cq_wfC ct_230 = true := by decide +kernel
def lp_230 (pc : Nat) : Option (Option (Nat × Nat) × cq_Lp) := none
theorem ok_230 : cq_CT 230 ct_230 := cq_meth (f := 100000) (cts := (cq_tc 222 ct_222 (cq_tc 231 ct_231 cq_t0))) (lps := lp_230) (cq_tc_ok wf_222 ok_222 (cq_tc_ok wf_231 ok_231 cq_t0_ok)) wf_230 (by decide +kernel) (by decide +kernel)
def ct_230g : cq_Ct := cq_fn 230 (0, [(0, 1)]) ct_230
theorem wf_230g : cq_wfC ct_230g = true := by decide +kernel
theorem ok_230g : cq_CT 230 ct_230g := cq_fun (by decide) (by decide) wf_230 ok_230 rfl (by decide +kernel) (fun h ρ as M g => cq_dec1 g (M.P.1 (0, 0, 39) List.mem_cons_self) (by decide) (by decide))
def ct_230e : cq_Ct := (3, [(5, (0, []), 78), (1, (0, [(0, 1)]), 0)], cq_mk 2 ([(0, 0, 39), (1, 0, 3)], []) [] [] [] [((false, 92), (0, [(0, 1)]), (1, (0, [(1, 1)]), 0))] [] [] none 0 0, [], [(false, [(1, (0, [(2, 1)]), 0)], cq_mk 3 ([(2, (-1), 2)], [((-1), [(1, 1), (2, (-1))])]) [] [] [] [] [] [] none 0 0)])
theorem wf_230e : cq_wfC ct_230e = true := by decide +kernel
def lp_230e (pc : Nat) : Option (Option (Nat × Nat) × cq_Lp) := none
theorem ok_230e : cq_CT 230 ct_230e := cq_meth (f := 100000) (cts := (cq_tc 222 ct_222 (cq_tc 231 ct_231 cq_t0))) (lps := lp_230e) (cq_tc_ok wf_222 ok_222 (cq_tc_ok wf_231 ok_231 cq_t0_ok)) wf_230e (by decide +kernel) (by decide +kernel)
def ct_233g : cq_Ct := (4, [(5, (0, []), 78), (1, (0, [(0, 1)]), 0)], cq_mk 2 ([(0, 0, 39), (1, 0, 2147483647)], []) [] [] [] [] [] [((0, [(0, 1)]), (1000000000230, []), (0, [(1, 1)]))] none 0 0, [], [(false, [(1, (0, [(2, 1)]), 0)], cq_mk 3 ([(2, 0, 30)], []) [] [] [] [] [] [] none 0 0)])
theorem wf_233g : cq_wfC ct_233g = true := by decide +kernel
def lp_233g (pc : Nat) : Option (Option (Nat × Nat) × cq_Lp) := none
theorem ok_233g : cq_CT 233 ct_233g := cq_meth (f := 100000) (cts := (cq_tc 230 ct_230g cq_t0)) (lps := lp_233g) (cq_tc_gh (ni_UT (by decide +kernel)) wf_230g ok_230g cq_t0_ok) wf_233g (by decide +kernel) (by decide +kernel)
def ct_233s : cq_Ct := (4, [(5, (0, []), 78), (1, (0, [(0, 1)]), 0)], cq_mk 3 ([(0, 0, 39), (1, 0, 2), (2, 1, 30)], []) [] [] [] [((false, 93), (0, [(0, 3), (1, 1)]), (1, (0, [(2, 1)]), 0))] [] [((0, [(0, 1)]), (1000000000230, []), (0, [(1, 1)]))] none 0 0, [], [(false, [(1, (0, [(2, 1)]), 0)], cq_mk 3 ([], []) [] [] [] [] [] [] none 0 0)])
theorem wf_233s : cq_wfC ct_233s = true := by decide +kernel
def lp_233s (pc : Nat) : Option (Option (Nat × Nat) × cq_Lp) := none
theorem ok_233s : cq_CT 233 ct_233s := cq_meth (f := 100000) (cts := (cq_tc 230 ct_230g cq_t0)) (lps := lp_233s) (cq_tc_gh (ni_UT (by decide +kernel)) wf_230g ok_230g cq_t0_ok) wf_233s (by decide +kernel) (by decide +kernel)
def ct_236 : cq_Ct := (0, [(5, (0, []), 78), (1, (0, [(0, 1)]), 0)], cq_mk 1 ([(0, (-2147483648), 2147483647)], []) [] [] [] [] [] [] none 0 0, [(false, 122, 0, 0), (false, 78, 63, 0), (false, 78, 64, 0), (false, 78, 65, 0)], [(false, [(1, (0, [(1, 1)]), 0)], cq_mk 2 ([(1, 0, 1)], []) [] [] [] [] [] [] none 0 0)])
theorem wf_236 : cq_wfC ct_236 = true := by decide +kernel
def lp_236 (pc : Nat) : Option (Option (Nat × Nat) × cq_Lp) := bif Nat.beq pc 24 then some (none, ([(0, 3, 0, 0, 20)], [], [(false, 122, 0, 0)], [(0, [(0, 1), (1, (-1))])], (0, true), [])) else bif Nat.beq pc 45 then some (none, ([(1, 78, 62, (-2147483648), 2147483647), (1, 78, 63, (-2147483648), 2147483647), (1, 78, 64, (-2147483648), 2147483647), (0, 2, 0, 0, 1), (0, 3, 0, 0, 14)], [4], [(false, 122, 0, 0), (false, 78, 63, 0), (false, 78, 64, 0), (false, 78, 65, 0)], [(0, [(6, (-1)), (7, 1)]), (0, [(8, 1), (9, (-1))])], (4, true), [])) else none
theorem ok_236 : cq_CT 236 ct_236 := cq_meth (f := 100000) (cts := cq_t0) (lps := lp_236) cq_t0_ok wf_236 (by decide +kernel) (by decide +kernel)
def ct_237 : cq_Ct := (0, [(5, (0, []), 78)], cq_mk 0 ([], []) [] [] [] [] [] [] none 0 0, [], [(false, [(1, (0, [(0, 1)]), 0)], cq_mk 1 ([(0, (-2147483648), 2147483647)], []) [] [] [] [] [] [] none 0 0)])
theorem wf_237 : cq_wfC ct_237 = true := by decide +kernel
def lp_237 (pc : Nat) : Option (Option (Nat × Nat) × cq_Lp) := none
theorem ok_237 : cq_CT 237 ct_237 := cq_meth (f := 100000) (cts := cq_t0) (lps := lp_237) cq_t0_ok wf_237 (by decide +kernel) (by decide +kernel)
def ct_242 : cq_Ct := (3, [(5, (0, []), 78), (1, (0, [(0, 1)]), 0), (1, (0, [(1, 1)]), 0)], cq_mk 2 ([(0, 0, 39), (1, (-2147483648), 2147483647)], []) [] [] [] [] [] [] none 0 0, [], [(false, [(1, (0, [(2, 1)]), 0)], cq_mk 3 ([(2, 0, 1)], []) [] [] [] [] [] [] none 0 0)])
theorem wf_242 : cq_wfC ct_242 = true := by decide +kernel
def lp_242 (pc : Nat) : Option (Option (Nat × Nat) × cq_Lp) := none
theorem ok_242 : cq_CT 242 ct_242 := cq_meth (f := 100000) (cts := (cq_tc 222 ct_222 (cq_tc 231 ct_231 cq_t0))) (lps := lp_242) (cq_tc_ok wf_222 ok_222 (cq_tc_ok wf_231 ok_231 cq_t0_ok)) wf_242 (by decide +kernel) (by decide +kernel)
def ct_241 : cq_Ct := (4, [(5, (0, []), 78), (1, (0, [(0, 1)]), 0), (1, (0, [(1, 1)]), 0)], cq_mk 2 ([(0, 0, 13), (1, 0, 13)], []) [] [] [] [] [] [] none 0 0, [], [(false, [(1, (0, [(2, 1)]), 0)], cq_mk 3 ([(2, 0, 1)], []) [] [] [] [] [] [] none 0 0)])
theorem wf_241 : cq_wfC ct_241 = true := by decide +kernel
def lp_241 (pc : Nat) : Option (Option (Nat × Nat) × cq_Lp) := none
theorem ok_241 : cq_CT 241 ct_241 := cq_meth (f := 100000) (cts := (cq_tc 242 ct_242 cq_t0)) (lps := lp_241) (cq_tc_ok wf_242 ok_242 cq_t0_ok) wf_241 (by decide +kernel) (by decide +kernel)
end
section
/-! CONTRACTS: 240 243 252s 255 254 256 257 259 260 -/
def ct_240 : cq_Ct := (5, [(5, (0, []), 78)], cq_mk 0 ([], []) [] [] [] [] [] [] none 0 0, [(false, 125, 0, 0)], [(false, [], cq_mk 0 ([], []) [] [] [] [] [] [] none 0 0)])
theorem wf_240 : cq_wfC ct_240 = true := by decide +kernel
def lp_240 (pc : Nat) : Option (Option (Nat × Nat) × cq_Lp) := bif Nat.beq pc 2 then some (none, ([(0, 1, 0, 0, 14)], [2], [], [(0, [(0, 1), (1, (-1))])], (0, true), [])) else bif Nat.beq pc 12 then some (none, ([(0, 2, 0, 0, 14)], [], [(false, 125, 0, 0)], [(0, [(0, 1), (1, (-1))])], (0, true), [])) else none
theorem ok_240 : cq_CT 240 ct_240 := cq_meth (f := 100000) (cts := (cq_tc 241 ct_241 cq_t0)) (lps := lp_240) (cq_tc_ok wf_241 ok_241 cq_t0_ok) wf_240 (by decide +kernel) (by decide +kernel)
def ct_243 : cq_Ct := (2, [(5, (0, []), 78), (1, (0, [(0, 1)]), 0), (1, (0, [(1, 1)]), 0), (1, (0, [(2, 1)]), 0)], cq_mk 3 ([(0, 0, 9), (1, 0, 9), (2, 0, 1023)], []) [] [] [] [] [] [] none 0 0, [], [(false, [(1, (0, [(3, 1)]), 0)], cq_mk 4 ([(3, (-2147483648), 2147483647)], []) [] [] [] [] [] [] none 0 0)])
theorem wf_243 : cq_wfC ct_243 = true := by decide +kernel
def lp_243 (pc : Nat) : Option (Option (Nat × Nat) × cq_Lp) := none
theorem ok_243 : cq_CT 243 ct_243 := cq_meth (f := 100000) (cts := cq_t0) (lps := lp_243) cq_t0_ok wf_243 (by decide +kernel) (by decide +kernel)
def ct_252s : cq_Ct := (4, [(5, (0, []), 78), (1, (0, [(0, 1)]), 0), (1, (0, [(1, 1)]), 0)], cq_mk 8 ([(0, 0, 13), (1, 0, 13), (2, 0, 13), (3, 0, 13), (4, 0, 39), (5, 0, 39), (6, 0, 2147483647), (7, 0, 2147483647)], []) [] [] [] [((false, 118), (0, [(0, 1)]), (1, (0, [(2, 1)]), 0)), ((false, 118), (0, [(1, 1)]), (1, (0, [(3, 1)]), 0)), ((false, 117), (0, [(2, 1)]), (1, (0, [(4, 1)]), 0)), ((false, 117), (0, [(3, 1)]), (1, (0, [(5, 1)]), 0))] [] [((0, [(4, 1)]), (1000000000230, []), (0, [(6, 1)])), ((0, [(5, 1)]), (1000000000230, []), (0, [(7, 1)]))] none 0 0, [], [(false, [(1, (0, [(8, 1)]), 0)], cq_mk 9 ([(8, (-13), 13)], []) [] [] [] [] [] [] none 0 0)])
theorem wf_252s : cq_wfC ct_252s = true := by decide +kernel
def lp_252s (pc : Nat) : Option (Option (Nat × Nat) × cq_Lp) := bif Nat.beq pc 60 then some (none, ([(0, 7, 0, 0, 8)], [], [], [(0, [(0, 1), (1, (-1))])], (0, true), [])) else none
theorem ok_252s : cq_CT 252 ct_252s := cq_meth (f := 100000) (cts := (cq_tc 230 ct_230g cq_t0)) (lps := lp_252s) (cq_tc_gh (ni_UT (by decide +kernel)) wf_230g ok_230g cq_t0_ok) wf_252s (by decide +kernel) (by decide +kernel)
def ct_255 : cq_Ct := (0, [(5, (0, []), 78), (1, (0, [(0, 1)]), 0), (1, (0, [(1, 1)]), 0), (1, (0, [(2, 1)]), 0)], cq_mk 3 ([(0, 0, 13), (1, (-1), 13), (2, (-1), 13)], [(13, [(1, 14), (2, (-1))])]) [] [] [] [] [] [] none 0 0, [], [(false, [(1, (0, [(3, 1)]), 0)], cq_mk 4 ([(3, 0, 1)], []) [] [] [] [] [] [] none 0 0)])
theorem wf_255 : cq_wfC ct_255 = true := by decide +kernel
def lp_255 (pc : Nat) : Option (Option (Nat × Nat) × cq_Lp) := none
theorem ok_255 : cq_CT 255 ct_255 := cq_meth (f := 100000) (cts := cq_t0) (lps := lp_255) cq_t0_ok wf_255 (by decide +kernel) (by decide +kernel)
def ct_254 : cq_Ct := (1, [(5, (0, []), 78), (1, (0, [(0, 1)]), 0), (1, (0, [(1, 1)]), 0), (1, (0, [(2, 1)]), 0), (1, (0, [(3, 1)]), 0)], cq_mk 4 ([(0, 0, 13), (1, (-2147483648), 2147483647), (2, (-1), 13), (3, (-1), 13)], [(13, [(2, 14), (3, (-1))])]) [] [] [] [] [] [] none 0 0, [(false, 78, 70, 0), (false, 78, 71, 0), (false, 78, 73, 0), (false, 78, 74, 0), (false, 78, 75, 0)], [(false, [], cq_mk 4 ([], []) [] [] [] [] [] [] none 0 0)])
theorem wf_254 : cq_wfC ct_254 = true := by decide +kernel
def lp_254 (pc : Nat) : Option (Option (Nat × Nat) × cq_Lp) := bif Nat.beq pc 95 then some (none, ([(1, 78, 69, (-2147483648), 2147483647), (1, 78, 70, (-2147483648), 2147483647), (1, 78, 72, (-2147483648), 2147483647), (1, 78, 73, (-2147483648), 2147483647), (1, 78, 74, (-2147483648), 2147483647), (0, 7, 0, 0, 4)], [8, 9], [(false, 78, 70, 0), (false, 78, 71, 0), (false, 78, 73, 0), (false, 78, 74, 0), (false, 78, 75, 0)], [(0, [(10, 1), (11, (-1))])], (5, true), [])) else none
theorem ok_254 : cq_CT 254 ct_254 := cq_meth (f := 100000) (cts := (cq_tc 255 ct_255 cq_t0)) (lps := lp_254) (cq_tc_ok wf_255 ok_255 cq_t0_ok) wf_254 (by decide +kernel) (by decide +kernel)
def ct_256 : cq_Ct := (0, [(5, (0, []), 78), (1, (0, [(0, 1)]), 0)], cq_mk 1 ([(0, 0, 13)], []) [] [] [] [] [] [] none 0 0, [], [(false, [(1, (0, [(1, 1)]), 0)], cq_mk 2 ([(1, 0, 1)], []) [] [] [] [] [] [] none 0 0)])
theorem wf_256 : cq_wfC ct_256 = true := by decide +kernel
def lp_256 (pc : Nat) : Option (Option (Nat × Nat) × cq_Lp) := bif Nat.beq pc 2 then some (none, ([(0, 2, 0, 0, 14)], [], [], [(0, [(0, 1), (1, (-1))])], (0, true), [])) else none
theorem ok_256 : cq_CT 256 ct_256 := cq_meth (f := 100000) (cts := cq_t0) (lps := lp_256) cq_t0_ok wf_256 (by decide +kernel) (by decide +kernel)
def ct_257 : cq_Ct := (0, [(5, (0, []), 78), (1, (0, [(0, 1)]), 0)], cq_mk 1 ([(0, (-2147483648), 2147483647)], []) [] [] [] [] [] [] none 0 0, [], [(false, [(1, (0, [(1, 1)]), 0)], cq_mk 2 ([(1, (-2147483648), 2147483647)], []) [] [] [] [] [] [] none 0 0)])
theorem wf_257 : cq_wfC ct_257 = true := by decide +kernel
def lp_257 (pc : Nat) : Option (Option (Nat × Nat) × cq_Lp) := none
theorem ok_257 : cq_CT 257 ct_257 := cq_meth (f := 100000) (cts := cq_t0) (lps := lp_257) cq_t0_ok wf_257 (by decide +kernel) (by decide +kernel)
def ct_259 : cq_Ct := (2, [(5, (0, []), 78), (1, (0, [(0, 1)]), 0)], cq_mk 1 ([(0, (-2147483648), 2147483647)], []) [] [] [] [] [] [] none 0 0, [], [(false, [(1, (0, [(1, 1)]), 0)], cq_mk 2 ([(1, (-2147483648), 2147483647)], []) [] [] [] [] [] [] none 0 0)])
theorem wf_259 : cq_wfC ct_259 = true := by decide +kernel
def lp_259 (pc : Nat) : Option (Option (Nat × Nat) × cq_Lp) := none
theorem ok_259 : cq_CT 259 ct_259 := cq_meth (f := 100000) (cts := cq_t0) (lps := lp_259) cq_t0_ok wf_259 (by decide +kernel) (by decide +kernel)
def ct_260 : cq_Ct := (2, [(5, (0, []), 78), (1, (0, [(0, 1)]), 0), (1, (0, [(1, 1)]), 0)], cq_mk 2 ([(0, (-2147483648), 2147483647), (1, (-2147483648), 2147483647)], []) [] [] [] [] [] [] none 0 0, [(false, 129, 0, 0), (false, 78, 81, 0), (false, 78, 82, 0)], [(false, [(1, (0, [(2, 1)]), 0)], cq_mk 3 ([(2, (-2147483648), 2147483647)], []) [] [] [] [] [] [] none 0 0)])
theorem wf_260 : cq_wfC ct_260 = true := by decide +kernel
def lp_260 (pc : Nat) : Option (Option (Nat × Nat) × cq_Lp) := bif Nat.beq pc 40 then some (none, ([(1, 78, 81, (-2147483648), 2147483647), (0, 3, 0, (-2147483648), 2147483647), (0, 4, 0, 0, 14)], [5, 6], [(false, 129, 0, 0), (false, 78, 82, 0)], [(0, [(4, 1), (5, (-1))])], (2, true), [])) else bif Nat.beq pc 74 then some (none, ([(0, 6, 0, 0, 6)], [], [(false, 129, 0, 0)], [(0, [(0, 1), (1, (-1))])], (0, true), [])) else none
theorem ok_260 : cq_CT 260 ct_260 := cq_meth (f := 100000) (cts := (cq_tc 220 ct_220 cq_t0)) (lps := lp_260) (cq_tc_ok wf_220 ok_220 cq_t0_ok) wf_260 (by decide +kernel) (by decide +kernel)
end
section
/-! CONTRACTS: 261 262 263 -/
def ct_261 : cq_Ct := (1, [(5, (0, []), 78), (1, (0, [(0, 1)]), 0)], cq_mk 1 ([(0, (-2147483648), 2147483647)], []) [] [] [] [] [] [] none 0 0, [], [(false, [(1, (0, [(1, 1)]), 0)], cq_mk 2 ([(1, (-2147483648), 2147483647)], []) [] [] [] [] [] [] none 0 0)])
theorem wf_261 : cq_wfC ct_261 = true := by decide +kernel
def lp_261 (pc : Nat) : Option (Option (Nat × Nat) × cq_Lp) := none
theorem ok_261 : cq_CT 261 ct_261 := cq_meth (f := 100000) (cts := cq_t0) (lps := lp_261) cq_t0_ok wf_261 (by decide +kernel) (by decide +kernel)
def ct_262 : cq_Ct := (0, [(5, (0, []), 78)], cq_mk 0 ([], []) [] [] [] [] [] [] none 0 0, [], [(false, [(1, (0, [(0, 1)]), 0)], cq_mk 1 ([(0, (-2147483648), 2147483647)], []) [] [] [] [] [] [] none 0 0)])
theorem wf_262 : cq_wfC ct_262 = true := by decide +kernel
def lp_262 (pc : Nat) : Option (Option (Nat × Nat) × cq_Lp) := none
theorem ok_262 : cq_CT 262 ct_262 := cq_meth (f := 100000) (cts := cq_t0) (lps := lp_262) cq_t0_ok wf_262 (by decide +kernel) (by decide +kernel)
def ct_263 : cq_Ct := (0, [(5, (0, []), 78), (1, (0, [(0, 1)]), 0)], cq_mk 1 ([(0, (-2147483648), 2147483647)], []) [] [] [] [] [] [] none 0 0, [], [(false, [(1, (0, [(1, 1)]), 0)], cq_mk 2 ([(1, (-2147483648), 2147483647)], []) [] [] [] [] [] [] none 0 0)])
theorem wf_263 : cq_wfC ct_263 = true := by decide +kernel
def lp_263 (pc : Nat) : Option (Option (Nat × Nat) × cq_Lp) := none
theorem ok_263 : cq_CT 263 ct_263 := cq_meth (f := 100000) (cts := cq_t0) (lps := lp_263) cq_t0_ok wf_263 (by decide +kernel) (by decide +kernel)
end
section
/-! CONTRACTS: 201g -/
def ct_201g : cq_Ct := (1, [(5, (0, []), 78), (1, (0, [(0, 1)]), 0), (1, (0, [(1, 1)]), 0)], cq_mk 3 ([(0, 0, 119), (1, 0, 29), (2, 1, 2147483647)], []) [] [] [] [] [] [((0, [(0, 1)]), (1000000001093, []), (0, [(2, 1)]))] none 0 0, [], [(false, [(1, (0, [(3, 1)]), 0)], cq_mk 4 ([(3, 0, 1)], []) [] [] [] [] [] [] none 0 0)])
theorem wf_201g : cq_wfC ct_201g = true := by decide +kernel
end
section
/-! BY HAND, 1: stores for contracts; mayBreak and findPages out of their stronger contracts -/
theorem cq_Md_s {m : cq_W} {h0 : am_H} {ρ : Nat → Int} {n : Nat} {B : cq_B} {G : List cq_F} {ac al : Nat} {h : am_H} (hP : cq_pOk ρ (B, G)) (I : cq_Inv none h) (F : cq_Fr m h0 h) (A : h.1 ≤ h0.1 + ac ∧ h.2.1 ≤ h0.2.1 + al) : cq_Md m h0 ρ (cq_mk n (B, G) [] [] [] [] [] [] none ac al) h := ⟨hP, fun _ z => (by cases z), fun _ z => (by cases z), fun _ z => (by cases z), fun _ z => (by cases z), fun _ z => (by cases z), fun _ z => (by cases z), I, F, A, fun _ z => (by cases z)⟩
theorem cq_Md_t {m : cq_W} {h0 : am_H} {ρ : Nat → Int} {n : Nat} {B : cq_B} {G : List cq_F} {T : List (cq_C × cq_F × cq_A)} {ac al : Nat} {h : am_H} (hP : cq_pOk ρ (B, G)) (hT : ∀ e ∈ T, cq_g ρ e.2.2 (h.2.2.2 (cq_ce ρ e.1) (cq_e ρ e.2.1).toNat)) (I : cq_Inv none h) (F : cq_Fr m h0 h) (A : h.1 ≤ h0.1 + ac ∧ h.2.1 ≤ h0.2.1 + al) : cq_Md m h0 ρ (cq_mk n (B, G) [] [] [] T [] [] none ac al) h := ⟨hP, fun _ z => (by cases z), fun _ z => (by cases z), fun _ z => (by cases z), hT, fun _ z => (by cases z), fun _ z => (by cases z), I, F, A, fun _ z => (by cases z)⟩
theorem cq_Fr_rf {m : cq_W} {h : am_H} : cq_Fr m h h := ⟨Nat.le_refl _, fun _ _ => rfl, fun _ _ _ _ => rfl⟩
theorem cq_Md_p {m : cq_W} {ρ : Nat → Int} {n : Nat} {B : cq_B} {G : List cq_F} {T : List (cq_C × cq_F × cq_A)} {M : List (cq_F × cq_F × cq_F)} {h : am_H} (hP : cq_pOk ρ (B, G)) (hT : ∀ e ∈ T, cq_g ρ e.2.2 (h.2.2.2 (cq_ce ρ e.1) (cq_e ρ e.2.1).toNat)) (hM : ∀ e ∈ M, cq_mOk h ρ e) (I : cq_Inv none h) : cq_Md m h ρ (cq_mk n (B, G) [] [] [] T [] M none 0 0) h := ⟨hP, fun _ z => (by cases z), fun _ z => (by cases z), fun _ z => (by cases z), hT, fun _ z => (by cases z), hM, I, cq_Fr_rf, ⟨Nat.le_refl _, Nat.le_refl _⟩, fun _ z => (by cases z)⟩
theorem cq_mOk_tag {h : am_H} {ρ : Nat → Int} {f g r : cq_F} (k : Nat) (hg : g = ((1000000000000 : Int) + (k : Int), [])) (e : cq_e ρ r = cq_U h k (cq_e ρ f)) : cq_mOk h ρ (f, g, r) := by
  refine ⟨fun x y _ ey => ?_, fun k' ek => ?_⟩
  · exfalso
    dsimp only at ey
    rw [hg] at ey
    have e3 : cq_e ρ (((1000000000000 : Int) + (k : Int), []) : cq_F) = 1000000000000 + (k : Int) := by simp [cq_e, cq_eT]
    rw [e3] at ey
    have := y.toInt_lt
    omega
  · dsimp only at ek ⊢
    rw [hg] at ek
    have := (Prod.mk.inj ek).1
    have : k' = k := by omega
    subst this
    exact e
theorem cq_mOk_un {h : am_H} {ρ : Nat → Int} {f g r : cq_F} (M : cq_mOk h ρ (f, g, r)) (k : Nat) (hg : g = ((1000000000000 : Int) + (k : Int), [])) : cq_e ρ r = cq_U h k (cq_e ρ f) := M.2 k hg
/-- the types of the reference's own places -/
theorem cq_t78 {h : am_H} (I : cq_Inv none h) {b : Nat} (hb : b < am_N 13) : cq_ht h b (cq_cl 13 b) (h.2.2.2 78 b) := by
  have fx := I.fx 78 (by decide) (by decide)
  have hlt : b < (h.2.2.1 78).2.2 := by
    rw [fx]
    exact hb
  have t := I.ty 78 (by decide) (by have := I.lo; omega) (fun z => by cases z) b hlt
  have et : cq_tyOf 78 (h.2.2.1 78) b = cq_cl 13 b := by
    unfold cq_tyOf cq_ty cq_isA cq_ob
    have e1 : Nat.blt 78 130 = true := by decide
    have e2 : Nat.beq (cq_fix 78).1 1 = false := by decide +kernel
    have e3 : (Nat.beq 78 54 && Nat.blt b 3) = false := by rw [show Nat.beq 78 54 = false by decide]; rfl
    have e4 : (cq_fix 78).2.1 = 13 := by decide +kernel
    rw [e1, e2, e3, e4]
    rfl
  rw [et] at t
  exact t
theorem cq_i78 {h : am_H} (I : cq_Inv none h) {b : Nat} (l u : Int) (hb : b < am_N 13) (ht : cq_cl 13 b = (1, l, u, 0, 0, 0)) : ∃ x : Int32, h.2.2.2 78 b = .int x ∧ l ≤ x.toInt ∧ x.toInt ≤ u := by
  have t := cq_t78 I hb
  rw [ht] at t
  exact t
theorem cq_o78 {h : am_H} (I : cq_Inv none h) : am_isO h 78 13 = true := by
  have fx := I.fx 78 (by decide) (by decide)
  unfold am_isO
  rw [fx, show Nat.blt 78 h.1 = true from Nat.ble_eq_true_of_le (by have := I.lo; omega)]
  decide +kernel
/-- the types of fixed arrays -/
theorem cq_tA {h : am_H} (I : cq_Inv none h) {c j : Nat} (h1 : 40 ≤ c) (h2 : c < 130) (hf : (cq_fix c).1 = 1) (hs : (Nat.beq c 81 || Nat.beq c 83) = false) (hj : j < (cq_fix c).2.2) : cq_ht h j (cq_ar c) (h.2.2.2 c j) := by
  have fx := I.fx c h1 h2
  have t := I.ty c h1 (Nat.lt_of_lt_of_le h2 I.lo) (fun z => by cases z) j (by rw [fx]; exact hj)
  have et : cq_tyOf c (h.2.2.1 c) j = cq_ar c := by
    unfold cq_tyOf cq_ty cq_isA
    rw [show Nat.blt c 130 = true from Nat.ble_eq_true_of_le h2, hf, hs]
    rfl
  rw [et] at t
  exact t
theorem cq_n_int {h : am_H} {c j : Nat} {x : Int32} (e : h.2.2.2 c j = .int x) : cq_n h c j = x.toInt := by
  unfold cq_n
  rw [e]
theorem cq_U_c (h : am_H) (k : Nat) (x : Int) (h1 : Nat.blt k 1000 = false) (h2 : Nat.blt k 2000 = true) : cq_U h k x = cq_n h (k - 1000) x.toNat := by
  unfold cq_U cq_U0
  rw [h1, h2]
  rfl
theorem ok_201g : cq_CT 201 ct_201g := by
  intro d h ρ as hd M g
  have I : cq_Inv none h := M.I
  have b0 : (0 : Int) ≤ ρ 0 ∧ ρ 0 ≤ 119 := M.P.1 (0, 0, 119) List.mem_cons_self
  have b1 : (0 : Int) ≤ ρ 1 ∧ ρ 1 ≤ 29 := M.P.1 (1, 0, 29) (List.mem_cons_of_mem _ List.mem_cons_self)
  have b2 : (1 : Int) ≤ ρ 2 ∧ ρ 2 ≤ 2147483647 := M.P.1 (2, 1, 2147483647) (List.mem_cons_of_mem _ (List.mem_cons_of_mem _ List.mem_cons_self))
  have mm := cq_mOk_un (M.M _ List.mem_cons_self) 1093 (by decide)
  have e0 : cq_e ρ ((0, [(0, 1)]) : cq_F) = ρ 0 := cq_s_e ρ 0
  have e2 : cq_e ρ ((0, [(2, 1)]) : cq_F) = ρ 2 := cq_s_e ρ 2
  rw [e0, e2, cq_U_c h 1093 _ (by decide) (by decide)] at mm
  have s4 := I.s4 (ρ 0).toNat (by omega) (by show 1 ≤ cq_n h (1093 - 1000) (ρ 0).toNat; rw [← mm]; exact b2.1)
  have M0 : cq_Md ct_201s.2.2.2.1 h ρ ct_201s.2.2.1 h := by
    refine cq_Md_p ⟨fun b hb => ?_, fun _ z => (by cases z)⟩ (fun e he => ?_) (fun _ z => (by cases z)) I
    · simp only [List.mem_cons, List.not_mem_nil, or_false] at hb
      rcases hb with rfl | rfl
      · exact b0
      · exact b1
    · rw [List.mem_singleton.1 he]
      have ej : (cq_e ρ ((0, [(0, 30)]) : cq_F)).toNat = 30 * (ρ 0).toNat := by
        simp only [cq_e, cq_eT]
        omega
      show cq_g ρ (1, (1, []), 0) (h.2.2.2 96 (cq_e ρ ((0, [(0, 30)]) : cq_F)).toNat)
      rw [ej, s4]
      exact ⟨1, rfl, by rw [show cq_e ρ ((1, []) : cq_F) = 1 from cq_c_e ρ 1]; decide⟩
  obtain ⟨r, h', ev, x, hx, ρ', a', Mx, hr⟩ := ok_201s d h ρ as hd M0 g
  have hx := List.mem_singleton.1 hx
  subst hx
  have bx : (0 : Int) ≤ ρ' 2 ∧ ρ' 2 ≤ 1 := Mx.P.1 (2, 0, 1) List.mem_cons_self
  refine ⟨r, h', ev, _, List.mem_cons_self, fun s => if s < 3 then ρ s else ρ' 2, fun s hs => if_pos hs, cq_Md_s ⟨fun b hb => ?_, fun _ z => (by cases z)⟩ Mx.I Mx.F Mx.A, ?_⟩
  · rw [List.mem_singleton.1 hb]
    exact bx
  · rcases hr with ⟨q1, q2, q3⟩ | ⟨q1, -⟩
    · refine Or.inl ⟨rfl, q2, ?_⟩
      obtain ⟨v, rr, e, g1, g2⟩ := cq_gs_cons q3
      rw [e, cq_gs_nil g2]
      obtain ⟨z, ez, hz⟩ := g1
      refine ⟨⟨z, ez, ?_⟩, trivial⟩
      rw [hz]
      rfl
    · cases q1
end
section
/-! CONTRACTS: 199 198s 198 -/
def ct_199 : cq_Ct := (2, [(5, (0, []), 78), (1, (0, [(0, 1)]), 0), (1, (0, [(1, 1)]), 0), (1, (0, [(2, 1)]), 0)], cq_mk 4 ([(0, 0, 119), (1, 0, 29), (2, 0, 29), (3, 1, 2147483647)], []) [] [] [] [] [] [((0, [(0, 1)]), (1000000001093, []), (0, [(3, 1)]))] none 0 0, [], [(false, [(1, (0, [(4, 1)]), 0)], cq_mk 5 ([(4, (-2147483648), 2147483647)], []) [] [] [] [] [] [] none 0 0)])
theorem wf_199 : cq_wfC ct_199 = true := by decide +kernel
def lp_199 (pc : Nat) : Option (Option (Nat × Nat) × cq_Lp) := none
theorem ok_199 : cq_CT 199 ct_199 := cq_meth (f := 100000) (cts := (cq_tc 200 ct_200 (cq_tc 201 ct_201g cq_t0))) (lps := lp_199) (cq_tc_ok wf_200 ok_200 (cq_tc_gh (ni_UT (by decide +kernel)) wf_201g ok_201g cq_t0_ok)) wf_199 (by decide +kernel) (by decide +kernel)
def ct_198s : cq_Ct := (3, [(5, (0, []), 78), (1, (0, [(0, 1)]), 0)], cq_mk 2 ([(0, 0, 119), (1, 0, 30)], []) [] [] [] [((false, 93), (0, [(0, 1)]), (1, (0, [(1, 1)]), 0))] [] [((0, [(0, 1)]), (1000000001093, []), (0, [(1, 1)]))] none 0 0, [(false, 98, 0, 0), (false, 99, 0, 0)], [(false, [(1, (0, [(2, 1)]), 0)], cq_mk 3 ([(2, 0, 1000000000)], []) [] [] [] [] [] [] none 0 0)])
theorem wf_198s : cq_wfC ct_198s = true := by decide +kernel
def lp_198s (pc : Nat) : Option (Option (Nat × Nat) × cq_Lp) := bif Nat.beq pc 25 then some (none, ([(0, 3, 0, (-1), 29)], [4, 5, 6], [(false, 98, 0, 0), (false, 99, 0, 0)], [(0, [(0, (-1)), (1, 1)])], (0, false), [])) else bif Nat.beq pc 48 then some (none, ([(0, 4, 0, 0, 30)], [5, 6], [(false, 98, 0, 0), (false, 99, 0, 0)], [(0, [(0, 1), (1, (-1))])], (0, true), [])) else none
theorem ok_198s : cq_CT 198 ct_198s := cq_meth (f := 100000) (cts := (cq_tc 199 ct_199 cq_t0)) (lps := lp_198s) (cq_tc_gh (ni_UT (by decide +kernel)) wf_199 ok_199 cq_t0_ok) wf_198s (by decide +kernel) (by decide +kernel)
def ct_198 : cq_Ct := (3, [(5, (0, []), 78), (1, (0, [(0, 1)]), 0)], cq_mk 1 ([(0, 0, 119)], []) [] [] [] [] [] [] none 0 0, [(false, 98, 0, 0), (false, 99, 0, 0)], [(false, [(1, (0, [(1, 1)]), 0)], cq_mk 2 ([(1, 0, 1000000000)], []) [] [] [] [] [] [] none 0 0)])
theorem wf_198 : cq_wfC ct_198 = true := by decide +kernel
end
section
/-! BY HAND, 2: findPages out of its stronger contract -/
theorem ok_198 : cq_CT 198 ct_198 := by
  intro d h ρ as hd M g
  have I : cq_Inv none h := M.I
  have b0 : (0 : Int) ≤ ρ 0 ∧ ρ 0 ≤ 119 := M.P.1 (0, 0, 119) List.mem_cons_self
  have t93 := cq_tA I (c := 93) (j := (ρ 0).toNat) (by decide) (by decide) (by decide +kernel) (by decide) (by rw [show (cq_fix 93).2.2 = 121 by decide +kernel]; omega)
  rw [show cq_ar 93 = (1, 0, 30, 0, 0, 0) by decide +kernel] at t93
  obtain ⟨n, en, n0, n1⟩ := t93
  let ρs : Nat → Int := fun s => if s = 1 then n.toInt else ρ s
  have r0 : ρs 0 = ρ 0 := rfl
  have r1 : ρs 1 = n.toInt := rfl
  have M0 : cq_Md ct_198s.2.2.2.1 h ρs ct_198s.2.2.1 h := by
    refine cq_Md_p ⟨fun b hb => ?_, fun _ z => (by cases z)⟩ (fun e he => ?_) (fun e he => ?_) I
    · simp only [List.mem_cons, List.not_mem_nil, or_false] at hb
      rcases hb with rfl | rfl
      · exact b0
      · exact ⟨n0, n1⟩
    · rw [List.mem_singleton.1 he]
      have ej : (cq_e ρs ((0, [(0, 1)]) : cq_F)).toNat = (ρ 0).toNat := by rw [show cq_e ρs ((0, [(0, 1)]) : cq_F) = ρs 0 from cq_s_e ρs 0, r0]
      show cq_g ρs (1, (0, [(1, 1)]), 0) (h.2.2.2 93 (cq_e ρs ((0, [(0, 1)]) : cq_F)).toNat)
      rw [ej, en]
      exact ⟨n, rfl, by rw [show cq_e ρs ((0, [(1, 1)]) : cq_F) = ρs 1 from cq_s_e ρs 1, r1]⟩
    · rw [List.mem_singleton.1 he]
      refine cq_mOk_tag 1093 (by decide) ?_
      rw [show cq_e ρs ((0, [(1, 1)]) : cq_F) = ρs 1 from cq_s_e ρs 1, show cq_e ρs ((0, [(0, 1)]) : cq_F) = ρs 0 from cq_s_e ρs 0, cq_U_c h 1093 _ (by decide) (by decide)]
      exact (cq_n_int en).symm
  have g0 : cq_gs ρs ct_198s.2.1 as := by
    obtain ⟨v, r, e, g1, g2⟩ := cq_gs_cons g
    obtain ⟨w, r2, e2, g3, g4⟩ := cq_gs_cons g2
    rw [e, e2, cq_gs_nil g4]
    obtain ⟨x, ex, hx⟩ := g3
    refine ⟨g1, ⟨x, ex, ?_⟩, trivial⟩
    rw [hx]
    rfl
  obtain ⟨r, h', ev, x, hx, ρ', a', Mx, hr⟩ := ok_198s d h ρs as hd M0 g0
  have hx := List.mem_singleton.1 hx
  subst hx
  have bx : (0 : Int) ≤ ρ' 2 ∧ ρ' 2 ≤ 1000000000 := Mx.P.1 (2, 0, 1000000000) List.mem_cons_self
  refine ⟨r, h', ev, _, List.mem_cons_self, fun s => if s < 1 then ρ s else ρ' 2, fun s hs => if_pos hs, cq_Md_s ⟨fun b hb => ?_, fun _ z => (by cases z)⟩ Mx.I Mx.F Mx.A, ?_⟩
  · rw [List.mem_singleton.1 hb]
    exact bx
  · rcases hr with ⟨q1, q2, q3⟩ | ⟨q1, -⟩
    · refine Or.inl ⟨rfl, q2, ?_⟩
      obtain ⟨v, rr, e, g1, g2⟩ := cq_gs_cons q3
      rw [e, cq_gs_nil g2]
      obtain ⟨z, ez, hz⟩ := g1
      refine ⟨⟨z, ez, ?_⟩, trivial⟩
      rw [hz]
      rfl
    · cases q1
end
section
/-! CONTRACTS: 197 195 229 229g 228 228g 232g 249 249g 248 250 252g -/
def ct_197 : cq_Ct := (4, [(5, (0, []), 78), (1, (0, [(0, 1)]), 0)], cq_mk 1 ([(0, 0, 119)], []) [] [] [] [] [] [] none 0 0, [(false, 98, 0, 0), (false, 99, 0, 0)], [(false, [(1, (0, [(1, 1)]), 0)], cq_mk 2 ([(1, (-1), 999999999)], []) [] [] [] [] [] [] none 0 0)])
theorem wf_197 : cq_wfC ct_197 = true := by decide +kernel
def lp_197 (pc : Nat) : Option (Option (Nat × Nat) × cq_Lp) := none
theorem ok_197 : cq_CT 197 ct_197 := cq_meth (f := 100000) (cts := (cq_tc 198 ct_198 cq_t0)) (lps := lp_197) (cq_tc_ok wf_198 ok_198 cq_t0_ok) wf_197 (by decide +kernel) (by decide +kernel)
def ct_195 : cq_Ct := (5, [(5, (0, []), 78), (1, (0, [(0, 1)]), 0), (1, (0, [(1, 1)]), 0), (1, (0, [(2, 1)]), 0)], cq_mk 3 ([(0, (-2147483648), 2147483647), (1, (-2147483648), 2147483647), (2, (-2147483648), 2147483647)], []) [] [] [] [] [] [] none 0 0, [(false, 98, 0, 0), (false, 99, 0, 0)], [(false, [(1, (0, [(3, 1)]), 0)], cq_mk 4 ([(3, (-2147483648), 2147483647)], []) [] [] [] [] [] [] none 0 0)])
theorem wf_195 : cq_wfC ct_195 = true := by decide +kernel
def lp_195 (pc : Nat) : Option (Option (Nat × Nat) × cq_Lp) := bif Nat.beq pc 67 then some (none, ([(0, 5, 0, (-2147483648), 2147483647), (0, 6, 0, 0, 30)], [], [], [(0, [(2, 1), (3, (-1))])], (1, true), [])) else bif Nat.beq pc 116 then some (none, ([(0, 5, 0, (-2147483648), 2147483647), (0, 6, 0, 0, 30)], [], [], [(0, [(2, 1), (3, (-1))])], (1, true), [])) else none
theorem ok_195 : cq_CT 195 ct_195 := cq_meth (f := 100000) (cts := (cq_tc 197 ct_197 cq_t0)) (lps := lp_195) (cq_tc_ok wf_197 ok_197 cq_t0_ok) wf_195 (by decide +kernel) (by decide +kernel)
def ct_229 : cq_Ct := (5, [(5, (0, []), 78), (1, (0, [(0, 1)]), 0)], cq_mk 1 ([(0, 0, 39)], []) [] [] [] [] [] [] none 0 0, [(false, 98, 0, 0), (false, 99, 0, 0)], [(false, [(1, (0, [(1, 1)]), 0)], cq_mk 2 ([(1, (-1), 999999999)], []) [] [] [] [] [] [] none 0 0)])
theorem wf_229 : cq_wfC ct_229 = true := by decide +kernel
def lp_229 (pc : Nat) : Option (Option (Nat × Nat) × cq_Lp) := none
theorem ok_229 : cq_CT 229 ct_229 := cq_meth (f := 100000) (cts := (cq_tc 197 ct_197 (cq_tc 230 ct_230 cq_t0))) (lps := lp_229) (cq_tc_ok wf_197 ok_197 (cq_tc_ok wf_230 ok_230 cq_t0_ok)) wf_229 (by decide +kernel) (by decide +kernel)
def ct_229g : cq_Ct := (5, [(5, (0, []), 78), (1, (0, [(0, 1)]), 0)], cq_mk 2 ([(0, 0, 39), (1, (-2147483648), 2147483647)], []) [] [] [] [] [] [((0, [(0, 1)]), (1000000000230, []), (0, [(1, 1)]))] none 0 0, [(false, 98, 0, 0), (false, 99, 0, 0)], [(false, [(1, ((-1), []), 0)], cq_mk 2 ([], []) [] [] [] [] [] [] none 0 0), (false, [(1, (0, [(2, 1)]), 0)], cq_mk 3 ([(2, (-2147483648), 2147483647)], [(0, [(1, 1)])]) [] [] [] [] [] [] none 0 0)])
theorem wf_229g : cq_wfC ct_229g = true := by decide +kernel
def lp_229g (pc : Nat) : Option (Option (Nat × Nat) × cq_Lp) := none
theorem ok_229g : cq_CT 229 ct_229g := cq_meth (f := 100000) (cts := (cq_tc 197 ct_197 (cq_tc 230 ct_230g cq_t0))) (lps := lp_229g) (cq_tc_ok wf_197 ok_197 (cq_tc_gh (ni_UT (by decide +kernel)) wf_230g ok_230g cq_t0_ok)) wf_229g (by decide +kernel) (by decide +kernel)
def ct_228 : cq_Ct := (6, [(5, (0, []), 78), (1, (0, [(0, 1)]), 0)], cq_mk 1 ([(0, 0, 39)], []) [] [] [] [] [] [] none 0 0, [(false, 98, 0, 0), (false, 99, 0, 0)], [(false, [(1, (0, [(1, 1)]), 0)], cq_mk 2 ([(1, 0, 1)], []) [] [] [] [] [] [] none 0 0)])
theorem wf_228 : cq_wfC ct_228 = true := by decide +kernel
def lp_228 (pc : Nat) : Option (Option (Nat × Nat) × cq_Lp) := bif Nat.beq pc 2 then some (none, ([(0, 2, 0, 0, 6)], [], [], [(0, [(0, 1), (1, (-1))])], (0, true), [])) else none
theorem ok_228 : cq_CT 228 ct_228 := cq_meth (f := 100000) (cts := (cq_tc 220 ct_220 (cq_tc 229 ct_229 cq_t0))) (lps := lp_228) (cq_tc_ok wf_220 ok_220 (cq_tc_ok wf_229 ok_229 cq_t0_ok)) wf_228 (by decide +kernel) (by decide +kernel)
def ct_228g : cq_Ct := (6, [(5, (0, []), 78), (1, (0, [(0, 1)]), 0)], cq_mk 5 ([(0, 0, 39), (1, 0, 29999), (2, (-2147483648), 2147483647), (3, (-2147483648), 2147483647), (4, (-2147483648), 2147483647)], []) [] [] [] [((false, 78), (15, []), (1, (0, [(1, 1)]), 0))] [] [((0, [(0, 1)]), (1000000000230, []), (0, [(2, 1)])), ((0, [(0, 1)]), (1000000000231, []), (0, [(3, 1)])), ((0, [(0, 1), (1, 65536)]), (1000000000222, []), (0, [(4, 1)]))] none 0 0, [(false, 98, 0, 0), (false, 99, 0, 0)], [(false, [(1, (0, []), 0)], cq_mk 5 ([], []) [] [] [] [] [] [] none 0 0), (false, [(1, (1, []), 0)], cq_mk 5 ([], [(0, [(2, 1)]), (0, [(3, 1), (4, 1)])]) [] [] [] [] [] [] none 0 0)])
theorem wf_228g : cq_wfC ct_228g = true := by decide +kernel
def ct_232g : cq_Ct := (6, [(5, (0, []), 78), (1, (0, [(0, 1)]), 0)], cq_mk 5 ([(0, 0, 39), (1, 0, 29999), (2, 0, 2147483647), (3, (-2147483647), 2147483647), (4, (-2147483647), 2147483647)], [(0, [(3, 1), (4, 1)])]) [] [] [] [((false, 78), (15, []), (1, (0, [(1, 1)]), 0))] [] [((0, [(0, 1)]), (1000000000230, []), (0, [(2, 1)])), ((0, [(0, 1)]), (1000000000231, []), (0, [(3, 1)])), ((0, [(0, 1), (1, 65536)]), (1000000000222, []), (0, [(4, 1)]))] none 0 0, [(false, 98, 0, 0), (false, 99, 0, 0)], [(false, [(1, (0, [(5, 1)]), 0)], cq_mk 6 ([(5, (-2147483648), 2147483647)], []) [] [] [] [] [] [] none 0 0)])
theorem wf_232g : cq_wfC ct_232g = true := by decide +kernel
def lp_232g (pc : Nat) : Option (Option (Nat × Nat) × cq_Lp) := none
theorem ok_232g : cq_CT 232 ct_232g := cq_meth (f := 100000) (cts := (cq_tc 222 ct_222g (cq_tc 229 ct_229 (cq_tc 231 ct_231g (cq_tc 233 ct_233g cq_t0))))) (lps := lp_232g) (cq_tc_gh (ni_UT (by decide +kernel)) wf_222g ok_222g (cq_tc_ok wf_229 ok_229 (cq_tc_gh (ni_UT (by decide +kernel)) wf_231g ok_231g (cq_tc_gh (ni_UT (by decide +kernel)) wf_233g ok_233g cq_t0_ok)))) wf_232g (by decide +kernel) (by decide +kernel)
def ct_249 : cq_Ct := (7, [(5, (0, []), 78), (1, (0, [(0, 1)]), 0)], cq_mk 1 ([(0, (-2147483648), 2147483647)], []) [] [] [] [] [] [] none 0 0, [(false, 98, 0, 0), (false, 99, 0, 0)], [(false, [(1, (0, [(1, 1)]), 0)], cq_mk 2 ([(1, 0, 1)], []) [] [] [] [] [] [] none 0 0)])
theorem wf_249 : cq_wfC ct_249 = true := by decide +kernel
def lp_249 (pc : Nat) : Option (Option (Nat × Nat) × cq_Lp) := bif Nat.beq pc 2 then some (none, ([(0, 2, 0, 0, 14)], [], [(false, 98, 0, 0), (false, 99, 0, 0)], [(0, [(0, 1), (1, (-1))])], (0, true), [])) else none
theorem ok_249 : cq_CT 249 ct_249 := cq_meth (f := 100000) (cts := (cq_tc 228 ct_228 cq_t0)) (lps := lp_249) (cq_tc_ok wf_228 ok_228 cq_t0_ok) wf_249 (by decide +kernel) (by decide +kernel)
def ct_249g : cq_Ct := (7, [(5, (0, []), 78), (1, (0, [(0, 1)]), 0)], cq_mk 2 ([(0, (-1), 13), (1, (-2147483648), 2147483647)], []) [] [] [] [] [] [((0, []), (1000000002000, []), (0, [(1, 1)]))] none 0 0, [(false, 98, 0, 0), (false, 99, 0, 0)], [(false, [(1, (0, []), 0)], cq_mk 2 ([], []) [] [] [] [] [] [] none 0 0), (false, [(1, (1, []), 0)], cq_mk 2 ([], [(0, [(0, 1), (1, 1)])]) [] [] [] [] [] [] none 0 0)])
theorem wf_249g : cq_wfC ct_249g = true := by decide +kernel
def ct_248 : cq_Ct := (8, [(5, (0, []), 78), (1, (0, [(0, 1)]), 0), (1, (0, [(1, 1)]), 0)], cq_mk 2 ([(0, (-2147483648), 2147483647), (1, (-2147483648), 2147483647)], []) [] [] [] [] [] [] none 0 0, [(false, 98, 0, 0), (false, 99, 0, 0)], [(false, [(1, (0, [(2, 1)]), 0)], cq_mk 3 ([(2, (-2147483648), 2147483647)], []) [] [] [] [] [] [] none 0 0)])
theorem wf_248 : cq_wfC ct_248 = true := by decide +kernel
def lp_248 (pc : Nat) : Option (Option (Nat × Nat) × cq_Lp) := bif Nat.beq pc 105 then some (none, ([(0, 3, 0, (-2147483648), 2147483647), (0, 4, 0, 0, 13)], [], [(false, 98, 0, 0), (false, 99, 0, 0)], [(0, [(2, 1), (3, (-1))])], (1, true), [])) else none
theorem ok_248 : cq_CT 248 ct_248 := cq_meth (f := 100000) (cts := (cq_tc 229 ct_229 (cq_tc 230 ct_230 (cq_tc 249 ct_249 cq_t0)))) (lps := lp_248) (cq_tc_ok wf_229 ok_229 (cq_tc_ok wf_230 ok_230 (cq_tc_ok wf_249 ok_249 cq_t0_ok))) wf_248 (by decide +kernel) (by decide +kernel)
def ct_250 : cq_Ct := (8, [(5, (0, []), 78), (1, (0, [(0, 1)]), 0)], cq_mk 1 ([(0, (-2147483648), 2147483647)], []) [] [] [] [] [] [] none 0 0, [(false, 98, 0, 0), (false, 99, 0, 0)], [(false, [(1, (0, [(1, 1)]), 0)], cq_mk 2 ([(1, (-2147483648), 2147483647)], []) [] [] [] [] [] [] none 0 0)])
theorem wf_250 : cq_wfC ct_250 = true := by decide +kernel
def lp_250 (pc : Nat) : Option (Option (Nat × Nat) × cq_Lp) := bif Nat.beq pc 40 then some (none, ([(0, 2, 0, (-2147483648), 2147483647), (0, 3, 0, 0, 14)], [], [(false, 98, 0, 0), (false, 99, 0, 0)], [(0, [(2, 1), (3, (-1))])], (1, true), [])) else none
theorem ok_250 : cq_CT 250 ct_250 := cq_meth (f := 100000) (cts := (cq_tc 229 ct_229 (cq_tc 249 ct_249 cq_t0))) (lps := lp_250) (cq_tc_ok wf_229 ok_229 (cq_tc_ok wf_249 ok_249 cq_t0_ok)) wf_250 (by decide +kernel) (by decide +kernel)
def ct_252g : cq_Ct := (4, [(5, (0, []), 78), (1, (0, [(0, 1)]), 0), (1, (0, [(1, 1)]), 0)], cq_mk 4 ([(0, 0, 13), (1, 0, 13), (2, 1, 14), (3, 1, 2147483647)], [((-1), [(0, (-1)), (2, 1)]), ((-1), [(1, (-1)), (2, 1)])]) [] [] [] [((false, 78), (55, []), (1, (0, [(2, 1)]), 0))] [] [((0, []), (1000000002000, []), (0, [(3, 1)]))] none 0 0, [], [(false, [(1, (0, [(4, 1)]), 0)], cq_mk 5 ([(4, (-2147483648), 2147483647)], []) [] [] [] [] [] [] none 0 0)])
theorem wf_252g : cq_wfC ct_252g = true := by decide +kernel
end
section
/-! BY HAND, 3: isFree and isAllowed: which poems may be printed -/
theorem hd_gf {k l b w pc : Nat} {t : Int} {ls r : List Value} {h : am_H} {v : Value} (O : am_isO h 78 13 = true) (hv : h.2.2.2 78 b = v) : am_st (.getfield k, l, t, 13, b, w) pc ls (.ref 78 :: r) h = some (pc + 3, ls, v :: r, h) := by
  dsimp only [am_st]
  rw [O, hv]
  rfl
theorem hd_cv {d y pc : Nat} {ls : List Value} {h : am_H} {x : Option Value × am_H} {e : am_E} {as rr : List Value} {v : Int32} {h2 : am_H} {st : List Value} (z : Nat) (hc : am_at y pc e) (hi : am_isC e.1) (ez : e.2.2.2.1 = z) (nz : (Nat.blt 0 z && Nat.blt z 264 && !Nat.beq z 10 && !Nat.beq z 57) = true) (hst : st = as.reverse ++ rr) (hlen : as.length = (am_in z).2.1) (hcs : am_cs rr ≤ 8) (hrcv : am_rcv z as h = true) (hw : (am_wid as).length ≤ (am_in z).2.2.1) (q1 : am_ev d z 0 (am_ent as (am_in z).2.2.1) [] h (some (.int v), h2)) (q2 : am_ev (d + 1) y (pc + 3) ls (.int v :: rr) h2 x) : am_ev (d + 1) y pc ls st h x := by
  subst ez
  have n1 := (Bool.and_eq_true _ _ ▸ nz)
  have n2 := (Bool.and_eq_true _ _ ▸ n1.1)
  have n3 := (Bool.and_eq_true _ _ ▸ n2.1)
  refine am_ev.call hc hi ⟨Nat.le_of_ble_eq_true n3.1, Nat.le_of_ble_eq_true n3.2, fun z => ?_, fun z => ?_⟩ hst hlen hcs hrcv hw q1 rfl q2
  · have := n2.2
    rw [z] at this
    cases this
  · have := n1.2
    rw [z] at this
    cases this
/-- a land's bit -/
def hd_bit (bl l : Int32) : Prop := (bl >>> (l &&& 31)) &&& 1 = 1
noncomputable def hd_mo (h : am_H) (p l bd ck : Int32) : Int := cq_An h 220 [.ref 78, .int p, .int l, .int bd, .int ck]
/-- mayOf: what it answers, and when it is 1 -/
theorem hd_220 {h : am_H} (I : cq_Inv none h) {p l bd ck : Int32} (hp : 0 ≤ p.toInt ∧ p.toInt ≤ 39) (hl : 0 ≤ l.toInt ∧ l.toInt ≤ 5) (hk : 0 ≤ ck.toInt ∧ ck.toInt ≤ 29999) {d : Nat} (hd : 1 ≤ d) : ∃ r : Int32, am_ev d 220 0 (am_ent [.ref 78, .int p, .int l, .int bd, .int ck] (am_in 220).2.2.1) [] h (some (.int r), h) ∧ hd_mo h p l bd ck = r.toInt ∧ (r = 0 ∨ r = 2 ∨ (r = 1 ∧ 0 ≤ cq_U h 222 (p.toInt + 65536 * ck.toInt))) := by
  let ρ : Nat → Int := fun s => match s with
    | 0 => p.toInt
    | 1 => l.toInt
    | 2 => bd.toInt
    | 3 => ck.toInt
    | _ => cq_U h 222 (p.toInt + 65536 * ck.toInt)
  have gg : cq_gs ρ ct_220r.2.1 [.ref 78, .int p, .int l, .int bd, .int ck] := ⟨rfl, ⟨p, rfl, (cq_s_e ρ 0).symm⟩, ⟨l, rfl, (cq_s_e ρ 1).symm⟩, ⟨bd, rfl, (cq_s_e ρ 2).symm⟩, ⟨ck, rfl, (cq_s_e ρ 3).symm⟩, trivial⟩
  have u := cq_U_rng h 222 (p.toInt + 65536 * ck.toInt)
  have z1 := bd.le_toInt
  have z2 := bd.toInt_lt
  have M0 : cq_Md ct_220r.2.2.2.1 h ρ ct_220r.2.2.1 h := by
    refine cq_Md_p ⟨fun b hb => ?_, fun _ z => (by cases z)⟩ (fun _ z => (by cases z)) (fun e he => ?_) I
    · simp only [List.mem_cons, List.not_mem_nil, or_false] at hb
      rcases hb with rfl | rfl | rfl | rfl | rfl
      · exact hp
      · exact hl
      · exact ⟨by show -2147483648 ≤ bd.toInt; omega, by show bd.toInt ≤ 2147483647; omega⟩
      · exact hk
      · exact u
    · rw [List.mem_singleton.1 he]
      refine cq_mOk_tag 222 (by decide) ?_
      rw [show cq_e ρ ((0, [(4, 1)]) : cq_F) = ρ 4 from cq_s_e ρ 4]
      have : cq_e ρ ((0, [(0, 1), (3, 65536)]) : cq_F) = p.toInt + 65536 * ck.toInt := by
        simp only [cq_e, cq_eT]
        show 0 + (1 * p.toInt + (65536 * ck.toInt + 0)) = _
        omega
      rw [this]
      rfl
  obtain ⟨r, h', ev, x, hx, ρ', a', Mx, hr⟩ := ok_220r 1 h ρ _ (Nat.le_refl _) M0 gg
  have ha : ni_L [.ref 78, .int p, .int l, .int bd, .int ck] := fun v hv a ea => by
    simp only [List.mem_cons, List.not_mem_nil, or_false] at hv
    rcases hv with rfl | rfl | rfl | rfl | rfl <;> cases ea
    rfl
  have key : ∀ c : Int, cq_gs ρ' [(1, (c, []), 0)] r.toList → ∃ v : Int32, r = some (.int v) ∧ v.toInt = c := fun c g => by
    cases r with
    | none => exact g.elim
    | some w =>
      obtain ⟨v, e1, e2⟩ := g.1
      exact ⟨v, by rw [e1], by rw [e2]; exact cq_c_e ρ' c⟩
  have fin : ∀ v : Int32, r = some (.int v) → (v = 0 ∨ v = 2 ∨ (v = 1 ∧ 0 ≤ cq_U h 222 (p.toInt + 65536 * ck.toInt))) → ∃ r : Int32, am_ev d 220 0 (am_ent [.ref 78, .int p, .int l, .int bd, .int ck] (am_in 220).2.2.1) [] h (some (.int r), h) ∧ hd_mo h p l bd ck = r.toInt ∧ (r = 0 ∨ r = 2 ∨ (r = 1 ∧ 0 ≤ cq_U h 222 (p.toInt + 65536 * ck.toInt))) := fun v er hv => by
    subst er
    obtain ⟨e1, ev2⟩ := ni_ev (by decide) I ha ev ni_R.rf hd
    exact ⟨v, ev2, ni_An_of (by decide) I ha (by decide) ev, hv⟩
  rcases hr with ⟨q1, q2, q3⟩ | ⟨q1, -⟩
  · simp only [ct_220r, List.mem_cons, List.not_mem_nil, or_false] at hx
    rcases hx with rfl | rfl | rfl
    · obtain ⟨v, er, hv⟩ := key 0 q3
      exact fin v er (Or.inl (Int32.toInt_inj.1 (by rw [hv]; decide)))
    · obtain ⟨v, er, hv⟩ := key 2 q3
      exact fin v er (Or.inr (Or.inl (Int32.toInt_inj.1 (by rw [hv]; decide))))
    · obtain ⟨v, er, hv⟩ := key 1 q3
      refine fin v er (Or.inr (Or.inr ⟨Int32.toInt_inj.1 (by rw [hv]; decide), ?_⟩))
      have g4 := Mx.P.2 (0, [(4, 1)]) List.mem_cons_self
      rw [show cq_e ρ' ((0, [(4, 1)]) : cq_F) = ρ' 4 from cq_s_e ρ' 4, a' 4 (by decide)] at g4
      exact g4
  · simp only [ct_220r, List.mem_cons, List.not_mem_nil, or_false] at hx
    rcases hx with rfl | rfl | rfl <;> cases q1
theorem hd_k6 {k : Nat} (hk : k < 6) : ¬ ((6 : Int32) ≤ Int32.ofNat k) ∧ Int32.ofNat k + Int32.ofInt 1 = Int32.ofNat (k + 1) ∧ 0 ≤ (Int32.ofNat k).toInt ∧ (Int32.ofNat k).toInt ≤ 5 := by
  rcases (show k = 0 ∨ k = 1 ∨ k = 2 ∨ k = 3 ∨ k = 4 ∨ k = 5 by omega) with z | z | z | z | z | z <;> subst z <;> decide
section HDF
variable {h : am_H} {p bl bd ck : Int32} {d : Nat}
/-- isFree's loop: what it answers when it isn't free -/
theorem hd_free (I : cq_Inv none h) (hp : 0 ≤ p.toInt ∧ p.toInt ≤ 39) (h51 : h.2.2.2 78 51 = .int bl) (h52 : h.2.2.2 78 52 = .int bd) (h15 : h.2.2.2 78 15 = .int ck) (hk : 0 ≤ ck.toInt ∧ ck.toInt ≤ 29999) (hd : 1 ≤ d) : ∀ n k : Nat, n + k = 6 → ∃ r : Int32, am_ev (d + 1) 231 2 [.ref 78, .int p, .int (Int32.ofNat k)] [] h (some (.int r), h) ∧ (r = 1 ∨ (r = 0 ∧ ∃ l : Nat, l < 6 ∧ hd_bit bl (Int32.ofNat l) ∧ hd_mo h p (Int32.ofNat l) bd ck ≠ 2)) := by
  have O := cq_o78 I
  intro n
  induction n with
  | zero =>
    intro k hk6
    have : k = 6 := by omega
    subst this
    refine ⟨1, ?_, Or.inl rfl⟩
    refine am_ev.step rfl rfl ?_
    refine am_ev.step rfl rfl ?_
    refine am_ev.step (pc' := 46) (ls' := [.ref 78, .int p, .int (Int32.ofNat 6)]) (st' := []) (h' := h) rfl rfl ?_
    refine am_ev.step rfl rfl ?_
    exact am_ev.reti rfl rfl rfl
  | succ n ih =>
    intro k hk6
    obtain ⟨f1, f2, f3, f4⟩ := hd_k6 (show k < 6 by omega)
    obtain ⟨r, ev, hr⟩ := ih (k + 1) (by omega)
    have back : am_ev (d + 1) 231 40 [.ref 78, .int p, .int (Int32.ofNat k)] [] h (some (.int r), h) := by
      refine am_ev.step (pc' := 43) (ls' := [.ref 78, .int p, .int (Int32.ofNat (k + 1))]) (st' := []) (h' := h) rfl (by rw [← f2]; rfl) ?_
      exact am_ev.step rfl rfl ev
    have go : ∀ x, (hd_bit bl (Int32.ofNat k) → am_ev (d + 1) 231 20 [.ref 78, .int p, .int (Int32.ofNat k)] [] h x) → (¬ hd_bit bl (Int32.ofNat k) → am_ev (d + 1) 231 40 [.ref 78, .int p, .int (Int32.ofNat k)] [] h x) → am_ev (d + 1) 231 2 [.ref 78, .int p, .int (Int32.ofNat k)] [] h x := fun x g1 g2 => by
      refine am_ev.step rfl rfl ?_
      refine am_ev.step rfl rfl ?_
      refine am_ev.step (pc' := 8) (ls' := [.ref 78, .int p, .int (Int32.ofNat k)]) (st' := []) (h' := h) rfl (if_neg f1) ?_
      refine am_ev.step rfl rfl ?_
      refine am_ev.step rfl (hd_gf O h51) ?_
      refine am_ev.step rfl rfl ?_
      refine am_ev.step rfl rfl ?_
      refine am_ev.step rfl rfl ?_
      refine am_ev.step rfl rfl ?_
      refine am_ev.step rfl rfl ?_
      by_cases hb : hd_bit bl (Int32.ofNat k)
      · exact am_ev.step (pc' := 20) (ls' := [.ref 78, .int p, .int (Int32.ofNat k)]) (st' := []) (h' := h) rfl (if_pos hb) (g1 hb)
      · exact am_ev.step (pc' := 40) (ls' := [.ref 78, .int p, .int (Int32.ofNat k)]) (st' := []) (h' := h) rfl (if_neg hb) (g2 hb)
    obtain ⟨w, evw, mo, hw⟩ := hd_220 (bd := bd) I hp ⟨f3, f4⟩ hk hd
    have mid : ∀ x, (w = 2 → am_ev (d + 1) 231 40 [.ref 78, .int p, .int (Int32.ofNat k)] [] h x) → (w ≠ 2 → am_ev (d + 1) 231 38 [.ref 78, .int p, .int (Int32.ofNat k)] [] h x) → am_ev (d + 1) 231 20 [.ref 78, .int p, .int (Int32.ofNat k)] [] h x := fun x g1 g2 => by
      refine am_ev.step rfl rfl ?_
      refine am_ev.step rfl rfl ?_
      refine am_ev.step rfl rfl ?_
      refine am_ev.step rfl rfl ?_
      refine am_ev.step rfl (hd_gf O h52) ?_
      refine am_ev.step rfl rfl ?_
      refine am_ev.step rfl (hd_gf O h15) ?_
      refine hd_cv 220 (as := [.ref 78, .int p, .int (Int32.ofNat k), .int bd, .int ck]) (rr := []) rfl (Or.inr (Or.inl ⟨_, rfl⟩)) rfl (by decide) rfl rfl (by decide) O (Nat.le_of_ble_eq_true rfl) evw ?_
      refine am_ev.step rfl rfl ?_
      by_cases h2 : w = 2
      · exact am_ev.step (pc' := 40) (ls' := [.ref 78, .int p, .int (Int32.ofNat k)]) (st' := []) (h' := h) rfl (if_pos h2) (g1 h2)
      · exact am_ev.step (pc' := 38) (ls' := [.ref 78, .int p, .int (Int32.ofNat k)]) (st' := []) (h' := h) rfl (if_neg h2) (g2 h2)
    by_cases hb : hd_bit bl (Int32.ofNat k)
    · by_cases h2 : w = 2
      · exact ⟨r, go _ (fun _ => mid _ (fun _ => back) (fun z => absurd h2 z)) (fun z => absurd hb z), hr⟩
      · refine ⟨0, go _ (fun _ => mid _ (fun z => absurd z h2) (fun _ => ?_)) (fun z => absurd hb z), Or.inr ⟨rfl, k, by omega, hb, fun e => h2 ?_⟩⟩
        · refine am_ev.step rfl rfl ?_
          exact am_ev.reti rfl rfl rfl
        · rw [mo] at e
          exact Int32.toInt_inj.1 (by rw [e]; decide)
    · exact ⟨r, go _ (fun z => absurd z hb) (fun _ => back), hr⟩
end HDF
end
section
/-! BY HAND, 4: isAllowed -/
section HDA
variable {h : am_H} {p bl bd ck : Int32} {d : Nat}
/-- pagesAs: it may be printed where it answers -/
theorem hd_229 (I : cq_Inv none h) (hp : 0 ≤ p.toInt ∧ p.toInt ≤ 39) (hd : 5 ≤ d) : ∃ (r : Int32) (h' : am_H), am_ev d 229 0 (am_ent [.ref 78, .int p] (am_in 229).2.2.1) [] h (some (.int r), h') ∧ (r = -1 ∨ 0 ≤ cq_U h 230 p.toInt) ∧ cq_Inv none h' ∧ cq_Fr [(false, 98, 0, 0), (false, 99, 0, 0)] h h' ∧ h'.1 ≤ h.1 ∧ h'.2.1 ≤ h.2.1 := by
  let ρ : Nat → Int := fun s => match s with
    | 0 => p.toInt
    | _ => cq_U h 230 p.toInt
  have gg : cq_gs ρ ct_229g.2.1 [.ref 78, .int p] := ⟨rfl, ⟨p, rfl, (cq_s_e ρ 0).symm⟩, trivial⟩
  have M0 : cq_Md ct_229g.2.2.2.1 h ρ ct_229g.2.2.1 h := by
    refine cq_Md_p ⟨fun b hb => ?_, fun _ z => (by cases z)⟩ (fun _ z => (by cases z)) (fun e he => ?_) I
    · simp only [List.mem_cons, List.not_mem_nil, or_false] at hb
      rcases hb with rfl | rfl
      · exact hp
      · exact cq_U_rng h 230 p.toInt
    · rw [List.mem_singleton.1 he]
      refine cq_mOk_tag 230 (by decide) ?_
      rw [show cq_e ρ ((0, [(1, 1)]) : cq_F) = ρ 1 from cq_s_e ρ 1, show cq_e ρ ((0, [(0, 1)]) : cq_F) = ρ 0 from cq_s_e ρ 0]
      rfl
  obtain ⟨r, h', ev, x, hx, ρ', a', Mx, hr⟩ := ok_229g d h ρ _ hd M0 gg
  rcases hr with ⟨q1, q2, q3⟩ | ⟨q1, -⟩
  · simp only [ct_229g, List.mem_cons, List.not_mem_nil, or_false] at hx
    have I' : cq_Inv none h' := by
      rcases hx with rfl | rfl
      · exact Mx.I
      · exact Mx.I
    have A' : h'.1 ≤ h.1 ∧ h'.2.1 ≤ h.2.1 := by
      rcases hx with rfl | rfl
      · exact Mx.A
      · exact Mx.A
    rcases hx with rfl | rfl
    · cases r with
      | none => exact q3.elim
      | some w =>
        obtain ⟨v, e1, e2⟩ := q3.1
        subst e1
        refine ⟨v, h', ev, Or.inl (Int32.toInt_inj.1 ?_), I', Mx.F, A'⟩
        rw [e2, show cq_e ρ' (((-1), []) : cq_F) = -1 from cq_c_e ρ' (-1)]
        decide
    · cases r with
      | none => exact q3.elim
      | some w =>
        obtain ⟨v, e1, e2⟩ := q3.1
        subst e1
        refine ⟨v, h', ev, Or.inr ?_, I', Mx.F, A'⟩
        have g4 := Mx.P.2 (0, [(1, 1)]) List.mem_cons_self
        rw [show cq_e ρ' ((0, [(1, 1)]) : cq_F) = ρ' 1 from cq_s_e ρ' 1, a' 1 (by decide)] at g4
        exact g4
  · simp only [ct_229g, List.mem_cons, List.not_mem_nil, or_false] at hx
    rcases hx with rfl | rfl <;> cases q1
/-- isAllowed's loop: what holds when it answers 1 -/
theorem hd_allow (I : cq_Inv none h) (hp : 0 ≤ p.toInt ∧ p.toInt ≤ 39) (h51 : h.2.2.2 78 51 = .int bl) (h52 : h.2.2.2 78 52 = .int bd) (h15 : h.2.2.2 78 15 = .int ck) (hk : 0 ≤ ck.toInt ∧ ck.toInt ≤ 29999) (hd : 5 ≤ d) : ∀ n k : Nat, n + k = 6 → ∃ (r : Int32) (h' : am_H), am_ev (d + 1) 228 2 [.ref 78, .int p, .int (Int32.ofNat k)] [] h (some (.int r), h') ∧ (r = 0 ∨ (r = 1 ∧ 0 ≤ cq_U h 230 p.toInt ∧ ∀ l : Nat, k ≤ l → l < 6 → hd_bit bl (Int32.ofNat l) → hd_mo h p (Int32.ofNat l) bd ck ≠ 0)) ∧ cq_Inv none h' ∧ cq_Fr [(false, 98, 0, 0), (false, 99, 0, 0)] h h' ∧ h'.1 ≤ h.1 ∧ h'.2.1 ≤ h.2.1 := by
  have O := cq_o78 I
  intro n
  induction n with
  | zero =>
    intro k hk6
    have : k = 6 := by omega
    subst this
    obtain ⟨r, h', ev, hr, I', F', A'⟩ := hd_229 I hp hd
    have pre : ∀ x, am_ev (d + 1) 228 50 [.ref 78, .int p, .int (Int32.ofNat 6)] [.int r] h' x → am_ev (d + 1) 228 2 [.ref 78, .int p, .int (Int32.ofNat 6)] [] h x := fun x q => by
      refine am_ev.step rfl rfl ?_
      refine am_ev.step rfl rfl ?_
      refine am_ev.step (pc' := 45) (ls' := [.ref 78, .int p, .int (Int32.ofNat 6)]) (st' := []) (h' := h) rfl rfl ?_
      refine am_ev.step rfl rfl ?_
      refine am_ev.step rfl rfl ?_
      exact hd_cv 229 (as := [.ref 78, .int p]) (rr := []) rfl (Or.inr (Or.inl ⟨_, rfl⟩)) rfl (by decide) rfl rfl (by decide) O (Nat.le_of_ble_eq_true rfl) ev q
    by_cases e : r = -1
    · refine ⟨0, h', pre _ ?_, Or.inl rfl, I', F', A'⟩
      refine am_ev.step rfl rfl ?_
      refine am_ev.step (pc' := 58) (ls' := [.ref 78, .int p, .int (Int32.ofNat 6)]) (st' := []) (h' := h') rfl (if_pos e) ?_
      refine am_ev.step rfl rfl ?_
      exact am_ev.reti rfl rfl rfl
    · refine ⟨1, h', pre _ ?_, Or.inr ⟨rfl, hr.resolve_left e, fun l h1 h2 => by omega⟩, I', F', A'⟩
      refine am_ev.step rfl rfl ?_
      refine am_ev.step (pc' := 54) (ls' := [.ref 78, .int p, .int (Int32.ofNat 6)]) (st' := []) (h' := h') rfl (if_neg e) ?_
      refine am_ev.step rfl rfl ?_
      refine am_ev.step rfl rfl ?_
      exact am_ev.reti rfl rfl rfl
  | succ n ih =>
    intro k hk6
    obtain ⟨f1, f2, f3, f4⟩ := hd_k6 (show k < 6 by omega)
    obtain ⟨r, h', ev, hr, K⟩ := ih (k + 1) (by omega)
    have back : am_ev (d + 1) 228 39 [.ref 78, .int p, .int (Int32.ofNat k)] [] h (some (.int r), h') := by
      refine am_ev.step (pc' := 42) (ls' := [.ref 78, .int p, .int (Int32.ofNat (k + 1))]) (st' := []) (h' := h) rfl (by rw [← f2]; rfl) ?_
      exact am_ev.step rfl rfl ev
    have go : ∀ x, (hd_bit bl (Int32.ofNat k) → am_ev (d + 1) 228 20 [.ref 78, .int p, .int (Int32.ofNat k)] [] h x) → (¬ hd_bit bl (Int32.ofNat k) → am_ev (d + 1) 228 39 [.ref 78, .int p, .int (Int32.ofNat k)] [] h x) → am_ev (d + 1) 228 2 [.ref 78, .int p, .int (Int32.ofNat k)] [] h x := fun x g1 g2 => by
      refine am_ev.step rfl rfl ?_
      refine am_ev.step rfl rfl ?_
      refine am_ev.step (pc' := 8) (ls' := [.ref 78, .int p, .int (Int32.ofNat k)]) (st' := []) (h' := h) rfl (if_neg f1) ?_
      refine am_ev.step rfl rfl ?_
      refine am_ev.step rfl (hd_gf O h51) ?_
      refine am_ev.step rfl rfl ?_
      refine am_ev.step rfl rfl ?_
      refine am_ev.step rfl rfl ?_
      refine am_ev.step rfl rfl ?_
      refine am_ev.step rfl rfl ?_
      by_cases hb : hd_bit bl (Int32.ofNat k)
      · exact am_ev.step (pc' := 20) (ls' := [.ref 78, .int p, .int (Int32.ofNat k)]) (st' := []) (h' := h) rfl (if_pos hb) (g1 hb)
      · exact am_ev.step (pc' := 39) (ls' := [.ref 78, .int p, .int (Int32.ofNat k)]) (st' := []) (h' := h) rfl (if_neg hb) (g2 hb)
    obtain ⟨w, evw, mo, hw⟩ := hd_220 (bd := bd) (d := d) I hp ⟨f3, f4⟩ hk (by omega)
    have mid : ∀ x, (w = 0 → am_ev (d + 1) 228 37 [.ref 78, .int p, .int (Int32.ofNat k)] [] h x) → (w ≠ 0 → am_ev (d + 1) 228 39 [.ref 78, .int p, .int (Int32.ofNat k)] [] h x) → am_ev (d + 1) 228 20 [.ref 78, .int p, .int (Int32.ofNat k)] [] h x := fun x g1 g2 => by
      refine am_ev.step rfl rfl ?_
      refine am_ev.step rfl rfl ?_
      refine am_ev.step rfl rfl ?_
      refine am_ev.step rfl rfl ?_
      refine am_ev.step rfl (hd_gf O h52) ?_
      refine am_ev.step rfl rfl ?_
      refine am_ev.step rfl (hd_gf O h15) ?_
      refine hd_cv 220 (as := [.ref 78, .int p, .int (Int32.ofNat k), .int bd, .int ck]) (rr := []) rfl (Or.inr (Or.inl ⟨_, rfl⟩)) rfl (by decide) rfl rfl (by decide) O (Nat.le_of_ble_eq_true rfl) evw ?_
      by_cases h2 : w = 0
      · exact am_ev.step (pc' := 37) (ls' := [.ref 78, .int p, .int (Int32.ofNat k)]) (st' := []) (h' := h) rfl (if_pos h2) (g1 h2)
      · exact am_ev.step (pc' := 39) (ls' := [.ref 78, .int p, .int (Int32.ofNat k)]) (st' := []) (h' := h) rfl (if_neg h2) (g2 h2)
    have more : (¬ hd_bit bl (Int32.ofNat k) ∨ w ≠ 0) → (r = 0 ∨ (r = 1 ∧ 0 ≤ cq_U h 230 p.toInt ∧ ∀ l : Nat, k ≤ l → l < 6 → hd_bit bl (Int32.ofNat l) → hd_mo h p (Int32.ofNat l) bd ck ≠ 0)) := fun z => by
      rcases hr with hr | ⟨r1, r2, r3⟩
      · exact Or.inl hr
      · refine Or.inr ⟨r1, r2, fun l l1 l2 lb => ?_⟩
        by_cases el : l = k
        · subst el
          rcases z with z | z
          · exact absurd lb z
          · rw [mo]
            intro e
            exact z (Int32.toInt_inj.1 (by rw [e]; decide))
        · exact r3 l (by omega) l2 lb
    by_cases hb : hd_bit bl (Int32.ofNat k)
    · by_cases h2 : w = 0
      · refine ⟨0, h, go _ (fun _ => mid _ (fun _ => ?_) (fun z => absurd h2 z)) (fun z => absurd hb z), Or.inl rfl, I, cq_Fr_rf, Nat.le_refl _, Nat.le_refl _⟩
        refine am_ev.step rfl rfl ?_
        exact am_ev.reti rfl rfl rfl
      · exact ⟨r, h', go _ (fun _ => mid _ (fun z => absurd z h2) (fun _ => back)) (fun z => absurd hb z), more (Or.inr h2), K⟩
    · exact ⟨r, h', go _ (fun z => absurd z hb) (fun _ => back), more (Or.inl hb), K⟩
end HDA
/-- isFree as it is asked of the heap -/
theorem hd_231 {h : am_H} {p bl bd ck : Int32} (I : cq_Inv none h) (hp : 0 ≤ p.toInt ∧ p.toInt ≤ 39) (h51 : h.2.2.2 78 51 = .int bl) (h52 : h.2.2.2 78 52 = .int bd) (h15 : h.2.2.2 78 15 = .int ck) (hk : 0 ≤ ck.toInt ∧ ck.toInt ≤ 29999) : cq_U h 231 p.toInt = 1 ∨ (cq_U h 231 p.toInt = 0 ∧ ∃ l : Nat, l < 6 ∧ hd_bit bl (Int32.ofNat l) ∧ hd_mo h p (Int32.ofNat l) bd ck ≠ 2) := by
  obtain ⟨r, ev, hr⟩ := hd_free (d := 1) I hp h51 h52 h15 hk (Nat.le_refl _) 6 0 rfl
  have ev2 : am_ev 2 231 0 (am_ent [.ref 78, .int p] (am_in 231).2.2.1) [] h (some (.int r), h) := by
    refine am_ev.step rfl rfl ?_
    exact am_ev.step rfl rfl ev
  have ha : ni_L [.ref 78, .int p] := fun v hv a ea => by
    simp only [List.mem_cons, List.not_mem_nil, or_false] at hv
    rcases hv with rfl | rfl <;> cases ea
    rfl
  have eA := ni_An_of (by decide) I ha (by decide) ev2
  have eU : cq_U h 231 p.toInt = r.toInt := by
    unfold cq_U cq_U0
    rw [show Nat.blt 231 2000 = true by decide, show Nat.blt 231 1000 = true by decide]
    simp only [cond_true]
    rw [show (am_in 231).2.1 - 1 = 1 by decide +kernel, cq_dg1 (a := p) hp.1 (by omega) rfl]
    exact eA
  rcases hr with hr | ⟨hr, k⟩
  · left
    rw [eU, hr]
    decide
  · right
    refine ⟨?_, k⟩
    rw [eU, hr]
    decide
/-- leaveAs as it is asked of the heap -/
theorem hd_222 {h : am_H} {p ck : Int32} (I : cq_Inv none h) (hp : 0 ≤ p.toInt ∧ p.toInt ≤ 39) (hk : 0 ≤ ck.toInt ∧ ck.toInt ≤ 29999) : -1 ≤ cq_U h 222 (p.toInt + 65536 * ck.toInt) := by
  let ρ : Nat → Int := fun s => match s with
    | 0 => p.toInt
    | _ => ck.toInt
  have gg : cq_gs ρ ct_222r.2.1 [.ref 78, .int p, .int ck] := ⟨rfl, ⟨p, rfl, (cq_s_e ρ 0).symm⟩, ⟨ck, rfl, (cq_s_e ρ 1).symm⟩, trivial⟩
  have M0 : cq_Md ct_222r.2.2.2.1 h ρ ct_222r.2.2.1 h := by
    refine cq_Md_p ⟨fun b hb => ?_, fun _ z => (by cases z)⟩ (fun _ z => (by cases z)) (fun _ z => (by cases z)) I
    simp only [List.mem_cons, List.not_mem_nil, or_false] at hb
    rcases hb with rfl | rfl
    · exact hp
    · exact hk
  obtain ⟨r, h', ev, x, hx, ρ', a', Mx, hr⟩ := ok_222r ct_222r.1 h ρ _ (Nat.le_refl _) M0 gg
  have hx := List.mem_singleton.1 hx
  subst hx
  have bx : (-1 : Int) ≤ ρ' 2 ∧ ρ' 2 ≤ 79 := Mx.P.1 (2, -1, 79) List.mem_cons_self
  rcases hr with ⟨q1, q2, q3⟩ | ⟨q1, -⟩
  · cases r with
    | none => exact q3.elim
    | some w =>
      obtain ⟨v, e1, e2⟩ := q3.1
      subst e1
      have e2 : v.toInt = cq_e ρ' (cq_s 2) := e2
      rw [cq_s_e] at e2
      have ha : ni_L [.ref 78, .int p, .int ck] := fun v hv a ea => by
        simp only [List.mem_cons, List.not_mem_nil, or_false] at hv
        rcases hv with rfl | rfl | rfl <;> cases ea
        rfl
      have eA := ni_An_of (by decide) I ha (by decide) ev
      have eU : cq_U h 222 (p.toInt + 65536 * ck.toInt) = v.toInt := by
        unfold cq_U cq_U0
        rw [show Nat.blt 222 2000 = true by decide, show Nat.blt 222 1000 = true by decide]
        simp only [cond_true]
        rw [show (am_in 222).2.1 - 1 = 2 by decide +kernel, cq_dg2 (a := p) (b := ck) hp.1 (by omega) hk.1 (by omega) rfl]
        exact eA
      rw [eU, e2]
      exact bx.1
  · cases q1
theorem ok_228g : cq_CT 228 ct_228g := by
  intro d h ρ as hd M g
  have I : cq_Inv none h := M.I
  obtain ⟨v0, r0, e0, g0, g1⟩ := cq_gs_cons g
  obtain ⟨v1, r1, e1, g2, g3⟩ := cq_gs_cons g1
  have e2 := cq_gs_nil g3
  subst e0 e1 e2
  have g0 : v0 = .ref 78 := g0
  obtain ⟨p, ep, hp⟩ := g2
  have hp : p.toInt = cq_e ρ (cq_s 0) := hp
  rw [cq_s_e] at hp
  subst g0 ep
  have b0 : (0 : Int) ≤ ρ 0 ∧ ρ 0 ≤ 39 := M.P.1 (0, 0, 39) List.mem_cons_self
  obtain ⟨ck, h15, k1, k2⟩ := cq_i78 I (b := 15) 0 29999 (by decide +kernel) (by decide +kernel)
  obtain ⟨bl, h51, -, -⟩ := cq_i78 I (b := 51) 1 63 (by decide +kernel) (by decide +kernel)
  obtain ⟨bd, h52, -, -⟩ := cq_i78 I (b := 52) 0 29999 (by decide +kernel) (by decide +kernel)
  have t15 := M.T _ List.mem_cons_self
  have t15 : ∃ x : Int32, h.2.2.2 78 15 = .int x ∧ x.toInt = cq_e ρ (cq_s 1) := t15
  obtain ⟨c2, ec2, hc2⟩ := t15
  rw [h15] at ec2
  have ec2 := Value.int.inj ec2
  subst ec2
  rw [cq_s_e] at hc2
  have m1 := cq_mOk_un (M.M _ List.mem_cons_self) 230 (by decide)
  have m2 := cq_mOk_un (M.M _ (List.mem_cons_of_mem _ List.mem_cons_self)) 231 (by decide)
  have m3 := cq_mOk_un (M.M _ (List.mem_cons_of_mem _ (List.mem_cons_of_mem _ List.mem_cons_self))) 222 (by decide)
  rw [show cq_e ρ ((0, [(2, 1)]) : cq_F) = ρ 2 from cq_s_e ρ 2, show cq_e ρ ((0, [(0, 1)]) : cq_F) = ρ 0 from cq_s_e ρ 0, ← hp] at m1
  rw [show cq_e ρ ((0, [(3, 1)]) : cq_F) = ρ 3 from cq_s_e ρ 3, show cq_e ρ ((0, [(0, 1)]) : cq_F) = ρ 0 from cq_s_e ρ 0, ← hp] at m2
  have e3 : cq_e ρ ((0, [(0, 1), (1, 65536)]) : cq_F) = p.toInt + 65536 * ck.toInt := by
    simp only [cq_e, cq_eT]
    omega
  rw [show cq_e ρ ((0, [(4, 1)]) : cq_F) = ρ 4 from cq_s_e ρ 4, e3] at m3
  cases d with
  | zero => exact absurd hd (by decide)
  | succ d =>
    have hd5 : 5 ≤ d := Nat.le_of_succ_le_succ hd
    obtain ⟨r, h', ev, hr, I', F', A1, A2⟩ := hd_allow (p := p) I ⟨by omega, by omega⟩ h51 h52 h15 ⟨k1, k2⟩ hd5 6 0 rfl
    have ev2 : am_ev (d + 1) 228 0 (am_ent [.ref 78, .int p] (am_in 228).2.2.1) [] h (some (.int r), h') := by
      refine am_ev.step rfl rfl ?_
      exact am_ev.step rfl rfl ev
    rcases hr with hr | ⟨hr, r1, r2⟩
    · subst hr
      exact ⟨_, h', ev2, _, List.mem_cons_self, ρ, cq_ag.rf, cq_Md_s ⟨fun _ z => (by cases z), fun _ z => (by cases z)⟩ I' F' ⟨A1, A2⟩, Or.inl ⟨rfl, rfl, ⟨0, rfl, by rw [show cq_e ρ ((0, []) : cq_F) = 0 from cq_c_e ρ 0]; decide⟩, trivial⟩⟩
    · subst hr
      refine ⟨_, h', ev2, _, List.mem_cons_of_mem _ List.mem_cons_self, ρ, cq_ag.rf, cq_Md_s ⟨fun _ z => (by cases z), fun gg hg => ?_⟩ I' F' ⟨A1, A2⟩, Or.inl ⟨rfl, rfl, ⟨1, rfl, by rw [show cq_e ρ ((1, []) : cq_F) = 1 from cq_c_e ρ 1]; decide⟩, trivial⟩⟩
      simp only [List.mem_cons, List.not_mem_nil, or_false] at hg
      rcases hg with rfl | rfl
      · rw [show cq_e ρ ((0, [(2, 1)]) : cq_F) = ρ 2 from cq_s_e ρ 2, m1]
        exact r1
      · have e4 : cq_e ρ ((0, [(3, 1), (4, 1)]) : cq_F) = ρ 3 + ρ 4 := by
          simp only [cq_e, cq_eT]
          omega
        rw [e4, m2, m3]
        have l1 := hd_222 (p := p) (ck := ck) I ⟨by omega, by omega⟩ ⟨k1, k2⟩
        rcases hd_231 (p := p) I ⟨by omega, by omega⟩ h51 h52 h15 ⟨k1, k2⟩ with f | ⟨f, l, l6, lb, lm⟩
        · omega
        · have n0 := r2 l (Nat.zero_le _) l6 lb
          obtain ⟨-, -, f3, f4⟩ := hd_k6 l6
          obtain ⟨w, -, mo, hw⟩ := hd_220 (p := p) (l := Int32.ofNat l) (bd := bd) (ck := ck) (d := 1) I ⟨by omega, by omega⟩ ⟨f3, f4⟩ ⟨k1, k2⟩ (Nat.le_refl _)
          rw [mo] at n0 lm
          rcases hw with z | z | ⟨z, z2⟩
          · rw [z] at n0; exact absurd (by decide) n0
          · rw [z] at lm; exact absurd (by decide) lm
          · omega
end
