/-! CONTRACTS: 65 70 72 71 69 68 67 73 77 80 79 81 82 83 84 78 76 74 88 86 89 91 -/
def ct_65 : cq_Ct := (4, [(5, (0, []), 40), (1, (0, [(0, 1)]), 0), (1, (0, [(1, 1)]), 0), (1, (0, [(2, 1)]), 0)], cq_mk 3 ([(0, (-2147483648), 2147483647), (1, (-2147483648), 2147483647), (2, (-2147483648), 2147483647)], []) [] [] [] [] [] [] none 0 0, [(false, 58, 0, 0), (false, 59, 0, 0), (false, 60, 0, 0), (true, 0, 3, 10), (true, 0, 3, 7), (true, 0, 3, 8), (true, 0, 3, 9), (true, 1, 0, 0)], [(false, [(1, (0, [(3, 1)]), 0)], cq_mk 4 ([(3, (-2147483648), 2147483647)], []) [] [] [] [] [] [] none 0 0)])
theorem wf_65 : cq_wfC ct_65 = true := by decide +kernel
def lp_65 (pc : Nat) : Option (Option (Nat × Nat) × cq_Lp) := none
theorem ok_65 : cq_CT 65 ct_65 := cq_meth (f := 100000) (cts := (cq_tc 54 ct_54 cq_t0)) (lps := lp_65) (cq_tc_ok wf_54 ok_54 cq_t0_ok) wf_65 (by decide +kernel) (by decide +kernel)
def ct_70 : cq_Ct := (1, [(6, (0, []), 0), (1, (0, [(1, 1)]), 0)], cq_mk 2 ([(1, (-2147483648), 2147483647)], []) [(0, true)] [(0, (0, 3, 0))] [] [] [] [] none 0 0, [], [(false, [(1, (0, [(2, 1)]), 0)], cq_mk 3 ([(2, (-2147483648), 2147483647)], []) [] [] [] [] [] [] none 0 0)])
theorem wf_70 : cq_wfC ct_70 = true := by decide +kernel
def lp_70 (pc : Nat) : Option (Option (Nat × Nat) × cq_Lp) := none
theorem ok_70 : cq_CT 70 ct_70 := cq_meth (f := 100000) (cts := (cq_tc 49 ct_49 cq_t0)) (lps := lp_70) (cq_tc_ok wf_49 ok_49 cq_t0_ok) wf_70 (by decide +kernel) (by decide +kernel)
def ct_72 : cq_Ct := (0, [(6, (0, []), 0), (1, (0, [(1, 1)]), 0)], cq_mk 2 ([(1, (-2147483648), 2147483647)], []) [(0, true)] [(0, (0, 3, 0))] [] [] [] [] none 0 0, [], [(false, [(2, (0, [(2, 1)]), 0)], cq_mk 3 ([], []) [] [] [] [] [] [] none 0 0)])
theorem wf_72 : cq_wfC ct_72 = true := by decide +kernel
def lp_72 (pc : Nat) : Option (Option (Nat × Nat) × cq_Lp) := none
theorem ok_72 : cq_CT 72 ct_72 := cq_meth (f := 100000) (cts := cq_t0) (lps := lp_72) cq_t0_ok wf_72 (by decide +kernel) (by decide +kernel)
def ct_71 : cq_Ct := (2, [(5, (0, []), 53), (6, (0, []), 0), (1, (0, [(1, 1)]), 0), (6, (0, []), 2), (1, (0, [(3, 1)]), 0)], cq_mk 4 ([(1, (-2147483648), 2147483647), (3, (-2147483648), 2147483647)], []) [(0, true), (2, true)] [(0, (0, 3, 0)), (2, (0, 3, 0))] [] [] [] [] none 0 0, [(false, 62, 0, 0)], [(false, [(1, (0, [(4, 1)]), 0)], cq_mk 5 ([(4, (-2147483648), 2147483647)], []) [] [] [] [] [] [] none 0 0)])
theorem wf_71 : cq_wfC ct_71 = true := by decide +kernel
def lp_71 (pc : Nat) : Option (Option (Nat × Nat) × cq_Lp) := bif Nat.beq pc 28 then some (none, ([(0, 7, 0, 0, 9)], [], [(false, 62, 0, 0)], [(0, [(0, 1), (1, (-1))])], (0, true), [])) else bif Nat.beq pc 68 then some (none, ([(0, 9, 0, 0, 8)], [10, 11, 12, 13, 14], [(false, 62, 0, 0)], [(0, [(0, 1), (1, (-1))])], (0, true), [])) else bif Nat.beq pc 107 then some (none, ([(0, 12, 0, (-2147483648), 2147483647), (0, 13, 0, 0, 8)], [14], [(false, 62, 0, 0)], [(0, [(2, 1), (3, (-1))])], (1, true), [])) else none
theorem ok_71 : cq_CT 71 ct_71 := cq_meth (f := 100000) (cts := (cq_tc 49 ct_49 (cq_tc 70 ct_70 (cq_tc 72 ct_72 cq_t0)))) (lps := lp_71) (cq_tc_ok wf_49 ok_49 (cq_tc_ok wf_70 ok_70 (cq_tc_ok wf_72 ok_72 cq_t0_ok))) wf_71 (by decide +kernel) (by decide +kernel)
def ct_69 : cq_Ct := (3, [(5, (0, []), 53), (6, (0, []), 0), (6, (0, []), 1)], cq_mk 2 ([], []) [(0, true), (1, true)] [(0, (0, 3, 0)), (1, (0, 3, 0))] [] [] [] [] none 0 0, [(false, 61, 0, 0), (false, 62, 0, 0)], [(false, [(1, (0, [(2, 1)]), 0)], cq_mk 3 ([(2, (-2147483648), 2147483647)], []) [] [] [] [] [] [] none 0 0)])
theorem wf_69 : cq_wfC ct_69 = true := by decide +kernel
def lp_69 (pc : Nat) : Option (Option (Nat × Nat) × cq_Lp) := bif Nat.beq pc 31 then some (none, ([(0, 5, 0, 0, 30)], [], [(false, 61, 0, 0)], [(0, [(0, 1), (1, (-1))])], (0, true), [])) else bif Nat.beq pc 70 then some (none, ([(0, 5, 0, 0, 30)], [6, 7, 8, 9, 10], [(false, 61, 0, 0)], [(0, [(0, 1), (1, (-1))])], (0, true), [])) else bif Nat.beq pc 106 then some (none, ([(0, 7, 0, (-2147483648), 2147483647), (0, 8, 0, 0, 30)], [9, 10], [(false, 61, 0, 0), (false, 62, 0, 0)], [(0, [(2, 1), (3, (-1))])], (1, true), [])) else none
theorem ok_69 : cq_CT 69 ct_69 := cq_meth (f := 100000) (cts := (cq_tc 70 ct_70 (cq_tc 71 ct_71 cq_t0))) (lps := lp_69) (cq_tc_ok wf_70 ok_70 (cq_tc_ok wf_71 ok_71 cq_t0_ok)) wf_69 (by decide +kernel) (by decide +kernel)
def ct_68 : cq_Ct := (4, [(6, (0, []), 0), (1, (0, [(1, 1)]), 0), (1, (0, [(2, 1)]), 0), (5, (0, []), 53)], cq_mk 3 ([(1, (-2147483648), 2147483647), (2, (-2147483648), 2147483647)], []) [(0, true)] [(0, (0, 6, 0))] [] [] [] [] none 0 0, [(false, 61, 0, 0), (false, 62, 0, 0), (true, 1, 0, 0)], [(false, [(1, (0, [(3, 1)]), 0)], cq_mk 4 ([(3, (-2147483648), 2147483647)], []) [] [] [] [] [] [] none 0 0)])
theorem wf_68 : cq_wfC ct_68 = true := by decide +kernel
def lp_68 (pc : Nat) : Option (Option (Nat × Nat) × cq_Lp) := none
theorem ok_68 : cq_CT 68 ct_68 := cq_meth (f := 100000) (cts := (cq_tc 69 ct_69 cq_t0)) (lps := lp_68) (cq_tc_ok wf_69 ok_69 cq_t0_ok) wf_68 (by decide +kernel) (by decide +kernel)
def ct_67 : cq_Ct := (5, [(5, (0, []), 40), (1, (0, [(0, 1)]), 0), (1, (0, [(1, 1)]), 0), (1, (0, [(2, 1)]), 0)], cq_mk 3 ([(0, (-2147483648), 2147483647), (1, (-2147483648), 2147483647), (2, (-2147483648), 2147483647)], []) [] [] [] [] [] [] none 0 0, [(false, 61, 0, 0), (false, 62, 0, 0), (true, 1, 0, 0)], [(false, [(1, (0, [(3, 1)]), 0)], cq_mk 4 ([(3, (-2147483648), 2147483647)], []) [] [] [] [] [] [] none 0 0)])
theorem wf_67 : cq_wfC ct_67 = true := by decide +kernel
def lp_67 (pc : Nat) : Option (Option (Nat × Nat) × cq_Lp) := none
theorem ok_67 : cq_CT 67 ct_67 := cq_meth (f := 100000) (cts := (cq_tc 68 ct_68 cq_t0)) (lps := lp_67) (cq_tc_ok wf_68 ok_68 cq_t0_ok) wf_67 (by decide +kernel) (by decide +kernel)
def ct_73 : cq_Ct := (5, [(5, (0, []), 40), (1, (0, [(0, 1)]), 0), (1, (0, [(1, 1)]), 0)], cq_mk 2 ([(0, (-2147483648), 2147483647), (1, (-2147483648), 2147483647)], []) [] [] [] [] [] [] none 0 0, [(false, 61, 0, 0), (false, 62, 0, 0), (true, 1, 0, 0)], [(false, [(1, (0, [(2, 1)]), 0)], cq_mk 3 ([(2, (-2), 1)], []) [] [] [] [] [] [] none 0 0)])
theorem wf_73 : cq_wfC ct_73 = true := by decide +kernel
def lp_73 (pc : Nat) : Option (Option (Nat × Nat) × cq_Lp) := bif Nat.beq pc 31 then some (none, ([(0, 4, 0, (-1), 1), (0, 5, 0, (-2147483648), 2147483647), (0, 6, 0, 0, 2)], [7], [(false, 61, 0, 0), (false, 62, 0, 0), (true, 1, 0, 0)], [(0, [(0, 1), (1, (-1))]), (0, [(4, 1), (5, (-1))])], (2, true), [])) else none
theorem ok_73 : cq_CT 73 ct_73 := cq_meth (f := 100000) (cts := (cq_tc 68 ct_68 cq_t0)) (lps := lp_73) (cq_tc_ok wf_68 ok_68 cq_t0_ok) wf_73 (by decide +kernel) (by decide +kernel)
def ct_77 : cq_Ct := (6, [(5, (0, []), 41)], cq_mk 0 ([], []) [] [] [] [] [] [] none 0 0, [], [(false, [(1, (0, [(0, 1)]), 0)], cq_mk 1 ([(0, (-1), 5)], []) [] [] [] [] [] [] none 0 0)])
theorem wf_77 : cq_wfC ct_77 = true := by decide +kernel
def lp_77 (pc : Nat) : Option (Option (Nat × Nat) × cq_Lp) := none
theorem ok_77 : cq_CT 77 ct_77 := cq_meth (f := 100000) (cts := (cq_tc 26 ct_26 cq_t0)) (lps := lp_77) (cq_tc_ok wf_26 ok_26 cq_t0_ok) wf_77 (by decide +kernel) (by decide +kernel)
def ct_80 : cq_Ct := (1, [(5, (0, []), 41), (1, (0, [(0, 1)]), 0), (1, (0, [(1, 1)]), 0)], cq_mk 2 ([(0, (-2147483648), 2147483647), (1, 0, 31)], []) [] [] [] [] [] [] none 0 0, [(false, 41, 4, 0), (false, 41, 5, 0)], [(false, [(1, (0, [(2, 1)]), 0)], cq_mk 3 ([(2, 0, 1)], []) [] [] [] [] [] [] none 0 0)])
theorem wf_80 : cq_wfC ct_80 = true := by decide +kernel
def lp_80 (pc : Nat) : Option (Option (Nat × Nat) × cq_Lp) := none
theorem ok_80 : cq_CT 80 ct_80 := cq_meth (f := 100000) (cts := (cq_tc 30 ct_30 cq_t0)) (lps := lp_80) (cq_tc_ok wf_30 ok_30 cq_t0_ok) wf_80 (by decide +kernel) (by decide +kernel)
def ct_79 : cq_Ct := (2, [(5, (0, []), 41), (1, (0, [(0, 1)]), 0)], cq_mk 1 ([(0, 0, 31)], []) [] [] [] [] [] [] none 0 0, [(false, 41, 3, 0), (false, 41, 4, 0), (false, 41, 5, 0), (false, 41, 6, 0), (false, 41, 7, 0)], [(false, [(1, (0, [(1, 1)]), 0)], cq_mk 2 ([(1, (-2147483648), 2147483647)], []) [] [] [] [] [] [] none 0 0)])
theorem wf_79 : cq_wfC ct_79 = true := by decide +kernel
def lp_79 (pc : Nat) : Option (Option (Nat × Nat) × cq_Lp) := bif Nat.beq pc 4 then some (none, ([(1, 41, 2, (-2147483648), 2147483647), (1, 41, 3, (-2147483648), 2147483647), (1, 41, 4, (-2147483648), 2147483647), (1, 41, 5, 0, 1600), (1, 41, 6, 0, 1600), (0, 2, 0, (-2147483648), 2147483647), (0, 3, 0, 0, 33)], [], [(false, 41, 3, 0), (false, 41, 4, 0), (false, 41, 5, 0), (false, 41, 6, 0), (false, 41, 7, 0)], [(0, [(12, 1), (13, (-1))])], (6, true), [])) else none
theorem ok_79 : cq_CT 79 ct_79 := cq_meth (f := 100000) (cts := (cq_tc 21 ct_21 (cq_tc 30 ct_30 (cq_tc 80 ct_80 cq_t0)))) (lps := lp_79) (cq_tc_ok wf_21 ok_21 (cq_tc_ok wf_30 ok_30 (cq_tc_ok wf_80 ok_80 cq_t0_ok))) wf_79 (by decide +kernel) (by decide +kernel)
def ct_81 : cq_Ct := (3, [(6, (0, []), 0), (5, (0, []), 41)], cq_mk 1 ([], []) [(0, true)] [(0, (0, 4, 0))] [] [] [] [] none 0 0, [(false, 41, 3, 0), (false, 41, 4, 0), (false, 41, 5, 0), (false, 41, 6, 0), (false, 41, 7, 0), (true, 0, 4, 4)], [(false, [(1, (0, [(1, 1)]), 0)], cq_mk 2 ([(1, 0, 1)], []) [] [] [] [] [] [] none 0 0)])
theorem wf_81 : cq_wfC ct_81 = true := by decide +kernel
def lp_81 (pc : Nat) : Option (Option (Nat × Nat) × cq_Lp) := none
theorem ok_81 : cq_CT 81 ct_81 := cq_meth (f := 100000) (cts := (cq_tc 28 ct_28 (cq_tc 30 ct_30 (cq_tc 32 ct_32 cq_t0)))) (lps := lp_81) (cq_tc_ok wf_28 ok_28 (cq_tc_ok wf_30 ok_30 (cq_tc_ok wf_32 ok_32 cq_t0_ok))) wf_81 (by decide +kernel) (by decide +kernel)
def ct_82 : cq_Ct := (6, [(6, (0, []), 0), (5, (0, []), 41)], cq_mk 1 ([], []) [(0, true)] [(0, (0, 4, 0))] [] [] [] [] none 0 0, [(false, 41, 3, 0), (false, 41, 4, 0), (false, 41, 5, 0), (false, 41, 6, 0), (false, 41, 7, 0), (true, 0, 4, 5), (true, 0, 4, 6)], [(false, [(1, (0, [(1, 1)]), 0)], cq_mk 2 ([(1, 0, 1)], []) [] [] [] [] [] [] none 0 0)])
theorem wf_82 : cq_wfC ct_82 = true := by decide +kernel
def lp_82 (pc : Nat) : Option (Option (Nat × Nat) × cq_Lp) := none
theorem ok_82 : cq_CT 82 ct_82 := cq_meth (f := 100000) (cts := (cq_tc 21 ct_21 (cq_tc 26 ct_26 (cq_tc 28 ct_28 (cq_tc 30 ct_30 (cq_tc 32 ct_32 cq_t0)))))) (lps := lp_82) (cq_tc_ok wf_21 ok_21 (cq_tc_ok wf_26 ok_26 (cq_tc_ok wf_28 ok_28 (cq_tc_ok wf_30 ok_30 (cq_tc_ok wf_32 ok_32 cq_t0_ok))))) wf_82 (by decide +kernel) (by decide +kernel)
def ct_83 : cq_Ct := (3, [(6, (0, []), 0), (5, (0, []), 41)], cq_mk 1 ([], []) [(0, true)] [(0, (0, 4, 0))] [] [] [] [] none 0 0, [(false, 41, 3, 0), (false, 41, 4, 0), (false, 41, 5, 0), (false, 41, 6, 0), (false, 41, 7, 0), (true, 0, 4, 8)], [(false, [(1, (0, [(1, 1)]), 0)], cq_mk 2 ([(1, 0, 1)], []) [] [] [] [] [] [] none 0 0)])
theorem wf_83 : cq_wfC ct_83 = true := by decide +kernel
def lp_83 (pc : Nat) : Option (Option (Nat × Nat) × cq_Lp) := none
theorem ok_83 : cq_CT 83 ct_83 := cq_meth (f := 100000) (cts := (cq_tc 28 ct_28 (cq_tc 30 ct_30 (cq_tc 32 ct_32 cq_t0)))) (lps := lp_83) (cq_tc_ok wf_28 ok_28 (cq_tc_ok wf_30 ok_30 (cq_tc_ok wf_32 ok_32 cq_t0_ok))) wf_83 (by decide +kernel) (by decide +kernel)
def ct_84 : cq_Ct := (2, [(6, (0, []), 0), (5, (0, []), 41)], cq_mk 1 ([], []) [(0, true)] [(0, (0, 4, 0))] [] [] [] [] none 0 0, [(false, 41, 3, 0), (false, 41, 4, 0), (false, 41, 5, 0), (false, 41, 6, 0), (false, 41, 7, 0), (true, 0, 4, 9)], [(false, [(1, (0, [(1, 1)]), 0)], cq_mk 2 ([(1, 0, 1)], []) [] [] [] [] [] [] none 0 0)])
theorem wf_84 : cq_wfC ct_84 = true := by decide +kernel
def lp_84 (pc : Nat) : Option (Option (Nat × Nat) × cq_Lp) := bif Nat.beq pc 2 then some (none, ([(1, 41, 2, (-2147483648), 2147483647), (1, 41, 5, 0, 1600), (1, 41, 6, 0, 1600), (0, 2, 0, 0, 7)], [], [(false, 41, 3, 0), (false, 41, 6, 0), (false, 41, 7, 0)], [(0, [(6, 1), (7, (-1))])], (3, true), [])) else none
theorem ok_84 : cq_CT 84 ct_84 := cq_meth (f := 100000) (cts := (cq_tc 21 ct_21 cq_t0)) (lps := lp_84) (cq_tc_ok wf_21 ok_21 cq_t0_ok) wf_84 (by decide +kernel) (by decide +kernel)
def ct_78 : cq_Ct := (7, [(6, (0, []), 0), (1, (0, [(1, 1)]), 0), (5, (0, []), 41)], cq_mk 2 ([(1, (-2147483648), 2147483647)], []) [(0, true)] [(0, (0, 4, 0))] [] [] [] [] none 0 0, [(false, 41, 3, 0), (false, 41, 4, 0), (false, 41, 5, 0), (false, 41, 6, 0), (false, 41, 7, 0), (true, 0, 4, 3), (true, 0, 4, 4), (true, 0, 4, 5), (true, 0, 4, 6), (true, 0, 4, 7), (true, 0, 4, 8), (true, 0, 4, 9)], [(false, [(1, (0, [(2, 1)]), 0)], cq_mk 3 ([(2, 0, 1)], []) [] [] [] [] [] [] none 0 0)])
theorem wf_78 : cq_wfC ct_78 = true := by decide +kernel
def lp_78 (pc : Nat) : Option (Option (Nat × Nat) × cq_Lp) := none
theorem ok_78 : cq_CT 78 ct_78 := cq_meth (f := 100000) (cts := (cq_tc 79 ct_79 (cq_tc 81 ct_81 (cq_tc 82 ct_82 (cq_tc 83 ct_83 (cq_tc 84 ct_84 cq_t0)))))) (lps := lp_78) (cq_tc_ok wf_79 ok_79 (cq_tc_ok wf_81 ok_81 (cq_tc_ok wf_82 ok_82 (cq_tc_ok wf_83 ok_83 (cq_tc_ok wf_84 ok_84 cq_t0_ok))))) wf_78 (by decide +kernel) (by decide +kernel)
def ct_76 : cq_Ct := (8, [(6, (0, []), 0), (5, (0, []), 41)], cq_mk 1 ([], []) [(0, true)] [(0, (0, 4, 0))] [] [] [] [] none 0 0, [(false, 41, 3, 0), (false, 41, 4, 0), (false, 41, 5, 0), (false, 41, 6, 0), (false, 41, 7, 0), (true, 0, 4, 3), (true, 0, 4, 4), (true, 0, 4, 5), (true, 0, 4, 6), (true, 0, 4, 7), (true, 0, 4, 8), (true, 0, 4, 9)], [(false, [(1, (0, [(1, 1)]), 0)], cq_mk 2 ([(1, 0, 1)], []) [] [] [] [] [] [] none 0 0)])
theorem wf_76 : cq_wfC ct_76 = true := by decide +kernel
def lp_76 (pc : Nat) : Option (Option (Nat × Nat) × cq_Lp) := bif Nat.beq pc 8 then some (none, ([(1, 41, 2, (-2147483648), 2147483647), (1, 41, 3, (-2147483648), 2147483647), (1, 41, 4, (-2147483648), 2147483647), (1, 41, 5, 0, 1600), (1, 41, 6, 0, 1600), (0, 2, 0, (-2147483648), 2147483647), (0, 3, 0, 0, 7)], [4], [(false, 41, 3, 0), (false, 41, 4, 0), (false, 41, 5, 0), (false, 41, 6, 0), (false, 41, 7, 0), (true, 0, 4, 3), (true, 0, 4, 4), (true, 0, 4, 5), (true, 0, 4, 6), (true, 0, 4, 7), (true, 0, 4, 8), (true, 0, 4, 9)], [(0, [(8, 1), (9, (-1))]), (0, [(12, 1), (13, (-1))])], (6, true), [])) else none
theorem ok_76 : cq_CT 76 ct_76 := cq_meth (f := 100000) (cts := (cq_tc 21 ct_21 (cq_tc 77 ct_77 (cq_tc 78 ct_78 cq_t0)))) (lps := lp_76) (cq_tc_ok wf_21 ok_21 (cq_tc_ok wf_77 ok_77 (cq_tc_ok wf_78 ok_78 cq_t0_ok))) wf_76 (by decide +kernel) (by decide +kernel)
def ct_74 : cq_Ct := (9, [(5, (0, []), 40), (1, (0, [(0, 1)]), 0)], cq_mk 1 ([(0, (-2147483648), 2147483647)], []) [] [] [] [] [] [] none 0 0, [(false, 41, 2, 0), (false, 41, 3, 0), (false, 41, 4, 0), (false, 41, 5, 0), (false, 41, 6, 0), (false, 41, 7, 0), (false, 48, 2, 0), (false, 49, 0, 0), (true, 0, 4, 1), (true, 0, 4, 10), (true, 0, 4, 11), (true, 0, 4, 2), (true, 0, 4, 3), (true, 0, 4, 4), (true, 0, 4, 5), (true, 0, 4, 6), (true, 0, 4, 7), (true, 0, 4, 8), (true, 0, 4, 9)], [(false, [(1, (0, [(1, 1)]), 0)], cq_mk 2 ([(1, (-3), 79)], []) [] [] [] [] [] [] none 1 11)])
theorem wf_74 : cq_wfC ct_74 = true := by decide +kernel
def lp_74 (pc : Nat) : Option (Option (Nat × Nat) × cq_Lp) := none
theorem ok_74 : cq_CT 74 ct_74 := cq_meth (f := 100000) (cts := (cq_tc 76 ct_76 cq_t0)) (lps := lp_74) (cq_tc_ok wf_76 ok_76 cq_t0_ok) wf_74 (by decide +kernel) (by decide +kernel)
def ct_88 : cq_Ct := (0, [(6, (0, []), 0), (1, (0, [(1, 1)]), 0)], cq_mk 2 ([(1, (-2147483648), 2147483647)], []) [(0, true)] [(0, (0, 4, 0))] [] [] [] [] none 0 0, [], [(false, [(1, (0, [(2, 1)]), 0)], cq_mk 3 ([(2, (-2147483648), 2147483647)], []) [] [] [] [] [] [] none 0 0)])
theorem wf_88 : cq_wfC ct_88 = true := by decide +kernel
def lp_88 (pc : Nat) : Option (Option (Nat × Nat) × cq_Lp) := none
theorem ok_88 : cq_CT 88 ct_88 := cq_meth (f := 100000) (cts := cq_t0) (lps := lp_88) cq_t0_ok wf_88 (by decide +kernel) (by decide +kernel)
def ct_86 : cq_Ct := (1, [(5, (0, []), 40), (1, (0, [(0, 1)]), 0), (1, (0, [(1, 1)]), 0)], cq_mk 2 ([(0, (-2147483648), 2147483647), (1, (-2147483648), 2147483647)], []) [] [] [] [] [] [] none 0 0, [], [(false, [(1, (0, [(2, 1)]), 0)], cq_mk 3 ([(2, (-2147483648), 2147483647)], []) [] [] [] [] [] [] none 0 0)])
theorem wf_86 : cq_wfC ct_86 = true := by decide +kernel
def lp_86 (pc : Nat) : Option (Option (Nat × Nat) × cq_Lp) := none
theorem ok_86 : cq_CT 86 ct_86 := cq_meth (f := 100000) (cts := (cq_tc 88 ct_88 cq_t0)) (lps := lp_86) (cq_tc_ok wf_88 ok_88 cq_t0_ok) wf_86 (by decide +kernel) (by decide +kernel)
def ct_89 : cq_Ct := (1, [(5, (0, []), 40), (1, (0, [(0, 1)]), 0), (1, (0, [(1, 1)]), 0)], cq_mk 2 ([(0, (-2147483648), 2147483647), (1, (-2147483648), 2147483647)], []) [] [] [] [] [] [] none 0 0, [(true, 0, 4, 10), (true, 0, 4, 11)], [(false, [(1, (0, [(2, 1)]), 0)], cq_mk 3 ([(2, (-4), 1)], []) [] [] [] [] [] [] none 0 0)])
theorem wf_89 : cq_wfC ct_89 = true := by decide +kernel
def lp_89 (pc : Nat) : Option (Option (Nat × Nat) × cq_Lp) := none
theorem ok_89 : cq_CT 89 ct_89 := cq_meth (f := 100000) (cts := cq_t0) (lps := lp_89) cq_t0_ok wf_89 (by decide +kernel) (by decide +kernel)
def ct_91 : cq_Ct := (0, [(5, (0, []), 48), (1, (0, [(0, 1)]), 0), (1, (0, [(1, 1)]), 0), (1, (0, [(2, 1)]), 0)], cq_mk 3 ([(0, (-2147483648), 2147483647), (1, (-2147483648), 2147483647), (2, (-2147483648), 2147483647)], []) [] [] [] [] [] [] none 0 0, [(false, 48, 6, 0), (false, 50, 0, 0), (false, 51, 0, 0), (false, 52, 0, 0)], [(false, [(1, (0, [(3, 1)]), 0)], cq_mk 4 ([(3, (-3), 60)], []) [] [] [] [] [] [] none 0 0)])
theorem wf_91 : cq_wfC ct_91 = true := by decide +kernel
def lp_91 (pc : Nat) : Option (Option (Nat × Nat) × cq_Lp) := none
theorem ok_91 : cq_CT 91 ct_91 := cq_meth (f := 100000) (cts := cq_t0) (lps := lp_91) cq_t0_ok wf_91 (by decide +kernel) (by decide +kernel)
