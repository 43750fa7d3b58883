/-! CONTRACTS: 90 94 93 96 97 95 92 98 99 101 104 -/
def ct_90 : cq_Ct := (1, [(5, (0, []), 40), (1, (0, [(0, 1)]), 0), (1, (0, [(1, 1)]), 0)], cq_mk 2 ([(0, (-2147483648), 2147483647), (1, (-2147483648), 2147483647)], []) [] [] [] [] [] [] none 0 0, [(false, 48, 6, 0), (false, 50, 0, 0), (false, 51, 0, 0), (false, 52, 0, 0)], [(false, [(1, (0, [(2, 1)]), 0)], cq_mk 3 ([(2, (-3), 60)], []) [] [] [] [] [] [] none 0 0)])
theorem wf_90 : cq_wfC ct_90 = true := by decide +kernel
def lp_90 (pc : Nat) : Option (Option (Nat × Nat) × cq_Lp) := none
theorem ok_90 : cq_CT 90 ct_90 := cq_meth (f := 100000) (cts := (cq_tc 91 ct_91 cq_t0)) (lps := lp_90) (cq_tc_ok wf_91 ok_91 cq_t0_ok) wf_90 (by decide +kernel) (by decide +kernel)
def ct_94 : cq_Ct := (0, [(5, (0, []), 48), (1, (0, [(0, 1)]), 0), (1, (0, [(1, 1)]), 0)], cq_mk 2 ([(0, (-2147483648), 2147483647), (1, (-2147483648), 2147483647)], []) [] [] [] [] [] [] none 0 0, [], [(false, [(1, (0, [(2, 1)]), 0)], cq_mk 3 ([(2, (-2147483648), 2147483647)], []) [] [] [] [] [] [] none 0 0)])
theorem wf_94 : cq_wfC ct_94 = true := by decide +kernel
def lp_94 (pc : Nat) : Option (Option (Nat × Nat) × cq_Lp) := bif Nat.beq pc 7 then some (none, ([(0, 3, 0, (-1), 59)], [], [], [(0, [(0, (-1)), (1, 1)])], (0, false), [])) else none
theorem ok_94 : cq_CT 94 ct_94 := cq_meth (f := 100000) (cts := cq_t0) (lps := lp_94) cq_t0_ok wf_94 (by decide +kernel) (by decide +kernel)
def ct_93 : cq_Ct := (1, [(5, (0, []), 48), (6, (0, []), 0), (5, (0, []), 43), (1, (0, [(1, 1)]), 0), (1, (0, [(2, 1)]), 0)], cq_mk 3 ([(1, (-2147483648), 2147483647), (2, (-2147483648), 2147483647)], []) [(0, true)] [(0, (0, 6, 0))] [] [] [] [] none 0 0, [], [(false, [(1, (0, [(3, 1)]), 0)], cq_mk 4 ([(3, (-2147483648), 2147483647)], []) [] [] [] [] [] [] none 0 0)])
theorem wf_93 : cq_wfC ct_93 = true := by decide +kernel
def lp_93 (pc : Nat) : Option (Option (Nat × Nat) × cq_Lp) := bif Nat.beq pc 63 then some (none, ([(0, 6, 0, (-2147483648), 2147483647), (0, 7, 0, 0, 6)], [], [], [(0, [(2, 1), (3, (-1))])], (1, true), [])) else none
theorem ok_93 : cq_CT 93 ct_93 := cq_meth (f := 100000) (cts := (cq_tc 94 ct_94 cq_t0)) (lps := lp_93) (cq_tc_ok wf_94 ok_94 cq_t0_ok) wf_93 (by decide +kernel) (by decide +kernel)
def ct_96 : cq_Ct := (0, [(5, (0, []), 48), (1, (0, [(0, 1)]), 0), (1, (0, [(1, 1)]), 0)], cq_mk 2 ([(0, (-2147483648), 2147483647), (1, (-2147483648), 2147483647)], []) [] [] [] [] [] [] none 0 0, [], [(false, [(1, (0, [(2, 1)]), 0)], cq_mk 3 ([(2, (-1), 79)], []) [] [] [] [] [] [] none 0 0)])
theorem wf_96 : cq_wfC ct_96 = true := by decide +kernel
def lp_96 (pc : Nat) : Option (Option (Nat × Nat) × cq_Lp) := bif Nat.beq pc 7 then some (none, ([(0, 3, 0, (-1), 79)], [], [], [(0, [(0, (-1)), (1, 1)])], (0, false), [])) else none
theorem ok_96 : cq_CT 96 ct_96 := cq_meth (f := 100000) (cts := cq_t0) (lps := lp_96) cq_t0_ok wf_96 (by decide +kernel) (by decide +kernel)
def ct_97 : cq_Ct := (0, [(6, (0, []), 0), (1, (0, [(1, 1)]), 0), (1, (0, [(2, 1)]), 0)], cq_mk 3 ([(1, (-2147483648), 2147483647), (2, (-2147483648), 2147483647)], []) [(0, true)] [(0, (0, 4, 0))] [] [] [] [] none 0 0, [], [(false, [(1, (0, [(3, 1)]), 0)], cq_mk 4 ([(3, (-2147483648), 2147483647)], []) [] [] [] [] [] [] none 0 0)])
theorem wf_97 : cq_wfC ct_97 = true := by decide +kernel
def lp_97 (pc : Nat) : Option (Option (Nat × Nat) × cq_Lp) := none
theorem ok_97 : cq_CT 97 ct_97 := cq_meth (f := 100000) (cts := cq_t0) (lps := lp_97) cq_t0_ok wf_97 (by decide +kernel) (by decide +kernel)
def ct_95 : cq_Ct := (1, [(5, (0, []), 48), (1, (0, [(0, 1)]), 0), (1, (0, [(1, 1)]), 0), (1, (0, [(2, 1)]), 0)], cq_mk 3 ([(0, (-2147483648), 2147483647), (1, (-2147483648), 2147483647), (2, (-2147483648), 2147483647)], []) [] [] [] [] [] [] none 0 0, [], [(false, [(1, (0, [(3, 1)]), 0)], cq_mk 4 ([(3, (-2147483648), 2147483647)], []) [] [] [] [] [] [] none 0 0)])
theorem wf_95 : cq_wfC ct_95 = true := by decide +kernel
def lp_95 (pc : Nat) : Option (Option (Nat × Nat) × cq_Lp) := none
theorem ok_95 : cq_CT 95 ct_95 := cq_meth (f := 100000) (cts := (cq_tc 96 ct_96 (cq_tc 97 ct_97 cq_t0))) (lps := lp_95) (cq_tc_ok wf_96 ok_96 (cq_tc_ok wf_97 ok_97 cq_t0_ok)) wf_95 (by decide +kernel) (by decide +kernel)
def ct_92 : cq_Ct := (2, [(5, (0, []), 40), (1, (0, [(0, 1)]), 0), (1, (0, [(1, 1)]), 0), (1, (0, [(2, 1)]), 0), (1, (0, [(3, 1)]), 0)], cq_mk 4 ([(0, (-2147483648), 2147483647), (1, (-2147483648), 2147483647), (2, (-2147483648), 2147483647), (3, (-2147483648), 2147483647)], []) [] [] [] [] [] [] none 0 0, [], [(false, [(1, (0, [(4, 1)]), 0)], cq_mk 5 ([(4, (-2), 2)], []) [] [] [] [] [] [] none 0 0)])
theorem wf_92 : cq_wfC ct_92 = true := by decide +kernel
def lp_92 (pc : Nat) : Option (Option (Nat × Nat) × cq_Lp) := none
theorem ok_92 : cq_CT 92 ct_92 := cq_meth (f := 100000) (cts := (cq_tc 93 ct_93 (cq_tc 95 ct_95 cq_t0))) (lps := lp_92) (cq_tc_ok wf_93 ok_93 (cq_tc_ok wf_95 ok_95 cq_t0_ok)) wf_92 (by decide +kernel) (by decide +kernel)
def ct_98 : cq_Ct := (1, [(5, (0, []), 40), (1, (0, [(0, 1)]), 0), (1, (0, [(1, 1)]), 0)], cq_mk 2 ([(0, (-2147483648), 2147483647), (1, (-2147483648), 2147483647)], []) [] [] [] [] [] [] none 0 0, [], [(false, [(1, (0, [(2, 1)]), 0)], cq_mk 3 ([(2, (-2), 79)], []) [] [] [] [] [] [] none 0 0)])
theorem wf_98 : cq_wfC ct_98 = true := by decide +kernel
def lp_98 (pc : Nat) : Option (Option (Nat × Nat) × cq_Lp) := none
theorem ok_98 : cq_CT 98 ct_98 := cq_meth (f := 100000) (cts := (cq_tc 96 ct_96 cq_t0)) (lps := lp_98) (cq_tc_ok wf_96 ok_96 cq_t0_ok) wf_98 (by decide +kernel) (by decide +kernel)
def ct_99 : cq_Ct := (1, [(5, (0, []), 40), (1, (0, [(0, 1)]), 0), (1, (0, [(1, 1)]), 0)], cq_mk 2 ([(0, (-2147483648), 2147483647), (1, (-2147483648), 2147483647)], []) [] [] [] [] [] [] none 0 0, [(false, 40, 11, 0), (false, 40, 12, 0)], [(false, [(1, (0, [(2, 1)]), 0)], cq_mk 3 ([(2, (-2), 1)], []) [] [] [] [] [] [] none 0 0)])
theorem wf_99 : cq_wfC ct_99 = true := by decide +kernel
def lp_99 (pc : Nat) : Option (Option (Nat × Nat) × cq_Lp) := none
theorem ok_99 : cq_CT 99 ct_99 := cq_meth (f := 100000) (cts := cq_t0) (lps := lp_99) cq_t0_ok wf_99 (by decide +kernel) (by decide +kernel)
def ct_101 : cq_Ct := (2, [(5, (0, []), 40), (1, (0, [(0, 1)]), 0)], cq_mk 1 ([(0, (-2147483648), 2147483647)], []) [] [] [] [] [] [] none 0 0, [(false, 40, 14, 0), (false, 63, 1, 0), (false, 72, 1, 0), (false, 74, 0, 0)], [(false, [(1, (0, [(1, 1)]), 0)], cq_mk 2 ([(1, (-4), 13)], []) [] [] [] [] [] [] none 1 8)])
theorem wf_101 : cq_wfC ct_101 = true := by decide +kernel
def lp_101 (pc : Nat) : Option (Option (Nat × Nat) × cq_Lp) := bif Nat.beq pc 15 then some (none, ([(0, 3, 0, 0, 14)], [], [], [(0, [(0, 1), (1, (-1))])], (0, true), [])) else none
theorem ok_101 : cq_CT 101 ct_101 := cq_meth (f := 100000) (cts := cq_t0) (lps := lp_101) cq_t0_ok wf_101 (by decide +kernel) (by decide +kernel)
def ct_104 : cq_Ct := (4, [(5, (0, []), 40), (6, (0, []), 0)], cq_mk 1 ([], []) [(0, true)] [(0, (0, 1, 0))] [] [] [] [] none 0 0, [(false, 58, 0, 0), (false, 59, 0, 0), (false, 60, 0, 0), (true, 0, 1, 3), (true, 0, 1, 4), (true, 0, 1, 5), (true, 0, 1, 6), (true, 0, 1, 7), (true, 0, 1, 8), (true, 0, 3, 10), (true, 0, 3, 7), (true, 0, 3, 8), (true, 0, 3, 9), (true, 1, 0, 0)], [(false, [], cq_mk 1 ([], []) [] [] [] [] [] [] none 0 0)])
theorem wf_104 : cq_wfC ct_104 = true := by decide +kernel
def lp_104 (pc : Nat) : Option (Option (Nat × Nat) × cq_Lp) := none
theorem ok_104 : cq_CT 104 ct_104 := cq_meth (f := 100000) (cts := (cq_tc 54 ct_54 (cq_tc 93 ct_93 (cq_tc 96 ct_96 (cq_tc 97 ct_97 cq_t0))))) (lps := lp_104) (cq_tc_ok wf_54 ok_54 (cq_tc_ok wf_93 ok_93 (cq_tc_ok wf_96 ok_96 (cq_tc_ok wf_97 ok_97 cq_t0_ok)))) wf_104 (by decide +kernel) (by decide +kernel)
