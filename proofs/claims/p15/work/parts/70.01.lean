/-! CONTRACTS: 41 46 45 44 49 48 47 43 60 61 58 54 64 63 51 -/
def ct_41 : cq_Ct := (1, [(5, (0, []), 40), (1, (0, [(0, 1)]), 0), (1, (0, [(1, 1)]), 0), (1, (0, [(2, 1)]), 0)], cq_mk 3 ([(0, (-2147483648), 2147483647), (1, (-2147483648), 2147483647), (2, (-2147483648), 2147483647)], []) [] [] [] [] [] [] none 0 0, [(true, 0, 6, 5), (true, 0, 6, 6)], [(false, [(1, (0, [(3, 1)]), 0)], cq_mk 4 ([(3, (-4), 1)], []) [] [] [] [] [] [] none 0 0)])
theorem wf_41 : cq_wfC ct_41 = true := by decide +kernel
def lp_41 (pc : Nat) : Option (Option (Nat × Nat) × cq_Lp) := none
theorem ok_41 : cq_CT 41 ct_41 := cq_meth (f := 100000) (cts := cq_t0) (lps := lp_41) cq_t0_ok wf_41 (by decide +kernel) (by decide +kernel)
def ct_46 : cq_Ct := (0, [(5, (0, []), 41)], cq_mk 0 ([], []) [] [] [] [] [] [] none 0 0, [], [(false, [(2, (0, [(0, 1)]), 0)], cq_mk 1 ([], []) [] [] [] [] [] [] none 0 0)])
theorem wf_46 : cq_wfC ct_46 = true := by decide +kernel
def lp_46 (pc : Nat) : Option (Option (Nat × Nat) × cq_Lp) := bif Nat.beq pc 4 then some (none, ([(0, 3, 0, 0, 12), (2, 1, 0, 0, 0)], [2, 4], [], [(0, [(0, 1), (1, (-1))])], (0, true), [])) else none
theorem ok_46 : cq_CT 46 ct_46 := cq_meth (f := 100000) (cts := cq_t0) (lps := lp_46) cq_t0_ok wf_46 (by decide +kernel) (by decide +kernel)
def ct_45 : cq_Ct := (2, [(5, (0, []), 54), (5, (0, []), 41)], cq_mk 0 ([], []) [] [] [] [] [] [] none 0 0, [(false, 41, 3, 0), (false, 41, 4, 0), (false, 41, 5, 0), (false, 41, 6, 0), (false, 41, 7, 0), (false, 54, 4, 0), (false, 54, 5, 0), (false, 55, 0, 0), (false, 56, 0, 0)], [(false, [(1, (0, [(0, 1)]), 0)], cq_mk 1 ([(0, 0, 1)], []) [] [] [] [] [] [] none 0 0)])
theorem wf_45 : cq_wfC ct_45 = true := by decide +kernel
def lp_45 (pc : Nat) : Option (Option (Nat × Nat) × cq_Lp) := bif Nat.beq pc 55 then some (none, ([(1, 41, 2, (-2147483648), 2147483647), (1, 41, 5, 0, 1600), (1, 41, 6, 0, 1600), (0, 2, 0, 0, 240), (0, 3, 0, 0, 8)], [], [(false, 41, 3, 0), (false, 41, 6, 0), (false, 41, 7, 0), (false, 55, 0, 0)], [(0, [(6, 1), (7, (-1))]), (0, [(8, 1), (9, (-1))])], (3, true), [])) else none
theorem ok_45 : cq_CT 45 ct_45 := cq_meth (f := 100000) (cts := (cq_tc 21 ct_21 (cq_tc 46 ct_46 cq_t0))) (lps := lp_45) (cq_tc_ok wf_21 ok_21 (cq_tc_ok wf_46 ok_46 cq_t0_ok)) wf_45 (by decide +kernel) (by decide +kernel)
def ct_44 : cq_Ct := (3, [(5, (0, []), 54), (5, (0, []), 41)], cq_mk 0 ([], []) [] [] [] [] [] [] none 0 0, [(false, 41, 3, 0), (false, 41, 4, 0), (false, 41, 5, 0), (false, 41, 6, 0), (false, 41, 7, 0), (false, 54, 4, 0), (false, 54, 5, 0), (false, 54, 6, 0), (false, 55, 0, 0), (false, 56, 0, 0)], [(false, [(1, (0, [(0, 1)]), 0)], cq_mk 1 ([(0, 0, 1)], []) [] [] [] [] [] [] none 0 0)])
theorem wf_44 : cq_wfC ct_44 = true := by decide +kernel
def lp_44 (pc : Nat) : Option (Option (Nat × Nat) × cq_Lp) := bif Nat.beq pc 21 then some (none, ([(1, 41, 2, (-2147483648), 2147483647), (1, 41, 3, (-2147483648), 2147483647), (1, 41, 4, (-2147483648), 2147483647), (1, 41, 5, 0, 1600), (1, 41, 6, 0, 1600), (1, 54, 3, 0, 30), (1, 54, 4, (-2147483648), 2147483647), (1, 54, 5, (-2147483648), 2147483647), (0, 2, 0, 0, 31)], [], [(false, 41, 3, 0), (false, 41, 4, 0), (false, 41, 5, 0), (false, 41, 6, 0), (false, 41, 7, 0), (false, 54, 4, 0), (false, 54, 5, 0), (false, 54, 6, 0), (false, 55, 0, 0), (false, 56, 0, 0)], [(0, [(8, 1), (9, (-1))]), (0, [(10, 1), (11, (-1))]), (0, [(16, 1), (17, (-1))])], (8, true), [])) else none
theorem ok_44 : cq_CT 44 ct_44 := cq_meth (f := 100000) (cts := (cq_tc 21 ct_21 (cq_tc 45 ct_45 cq_t0))) (lps := lp_44) (cq_tc_ok wf_21 ok_21 (cq_tc_ok wf_45 ok_45 cq_t0_ok)) wf_44 (by decide +kernel) (by decide +kernel)
def ct_49 : cq_Ct := (0, [(6, (0, []), 0), (1, (0, [(1, 1)]), 0)], cq_mk 2 ([(1, (-2147483648), 2147483647)], []) [(0, true)] [(0, (0, 3, 0))] [] [] [] [] none 0 0, [], [(false, [(1, (0, [(2, 1)]), 0)], cq_mk 3 ([(2, (-2147483648), 2147483647)], []) [] [] [] [] [] [] none 0 0)])
theorem wf_49 : cq_wfC ct_49 = true := by decide +kernel
def lp_49 (pc : Nat) : Option (Option (Nat × Nat) × cq_Lp) := none
theorem ok_49 : cq_CT 49 ct_49 := cq_meth (f := 100000) (cts := cq_t0) (lps := lp_49) cq_t0_ok wf_49 (by decide +kernel) (by decide +kernel)
def ct_48 : cq_Ct := (1, [(6, (0, []), 0)], cq_mk 1 ([], []) [(0, true)] [(0, (0, 3, 0))] [] [] [] [] none 0 0, [], [(false, [(1, (0, [(1, 1)]), 0)], cq_mk 2 ([(1, (-2147483648), 2147483647)], []) [] [] [] [] [] [] none 0 0)])
theorem wf_48 : cq_wfC ct_48 = true := by decide +kernel
def lp_48 (pc : Nat) : Option (Option (Nat × Nat) × cq_Lp) := none
theorem ok_48 : cq_CT 48 ct_48 := cq_meth (f := 100000) (cts := (cq_tc 49 ct_49 cq_t0)) (lps := lp_48) (cq_tc_ok wf_49 ok_49 cq_t0_ok) wf_48 (by decide +kernel) (by decide +kernel)
def ct_47 : cq_Ct := (2, [(5, (0, []), 54)], cq_mk 0 ([], []) [] [] [] [] [] [] none 0 0, [(true, 0, 3, 4), (true, 0, 3, 5), (true, 0, 3, 6), (true, 1, 0, 0), (true, 1, 3, 0)], [(false, [(6, (0, []), 0)], cq_mk 1 ([], []) [(0, true)] [(0, (0, 3, 0))] [] [] [] [] none 4 311)])
theorem wf_47 : cq_wfC ct_47 = true := by decide +kernel
def lp_47 (pc : Nat) : Option (Option (Nat × Nat) × cq_Lp) := bif Nat.beq pc 20 then some (none, ([(0, 3, 0, 0, 240)], [], [(true, 1, 3, 0)], [(0, [(0, 1), (1, (-1))])], (0, true), [])) else bif Nat.beq pc 54 then some (none, ([(0, 3, 0, 0, 31)], [], [(true, 1, 0, 0)], [(0, [(0, 1), (1, (-1))])], (0, true), [])) else none
theorem ok_47 : cq_CT 47 ct_47 := cq_meth (f := 100000) (cts := cq_t0) (lps := lp_47) cq_t0_ok wf_47 (by decide +kernel) (by decide +kernel)
def ct_43 : cq_Ct := (4, [(5, (0, []), 40), (1, (0, [(0, 1)]), 0)], cq_mk 1 ([(0, (-2147483648), 2147483647)], []) [] [] [] [] [] [] none 0 0, [(false, 41, 2, 0), (false, 41, 3, 0), (false, 41, 4, 0), (false, 41, 5, 0), (false, 41, 6, 0), (false, 41, 7, 0), (false, 54, 4, 0), (false, 54, 5, 0), (false, 54, 6, 0), (false, 55, 0, 0), (false, 56, 0, 0), (true, 0, 3, 4), (true, 0, 3, 5), (true, 0, 3, 6), (true, 0, 6, 7), (true, 1, 0, 0), (true, 1, 3, 0), (true, 1, 7, 0)], [(false, [(1, (0, [(1, 1)]), 0)], cq_mk 2 ([(1, (-3), 2)], []) [] [] [] [] [] [] none 4 311)])
theorem wf_43 : cq_wfC ct_43 = true := by decide +kernel
def lp_43 (pc : Nat) : Option (Option (Nat × Nat) × cq_Lp) := none
theorem ok_43 : cq_CT 43 ct_43 := cq_meth (f := 100000) (cts := (cq_tc 44 ct_44 (cq_tc 47 ct_47 cq_t0))) (lps := lp_43) (cq_tc_ok wf_44 ok_44 (cq_tc_ok wf_47 ok_47 cq_t0_ok)) wf_43 (by decide +kernel) (by decide +kernel)
def ct_60 : cq_Ct := (1, [(6, (0, []), 0), (1, (0, [(1, 1)]), 0)], cq_mk 2 ([(1, (-2147483648), 2147483647)], []) [(0, true)] [(0, (0, 3, 0))] [] [] [] [] none 0 0, [], [(false, [(1, (0, [(2, 1)]), 0)], cq_mk 3 ([(2, 0, 1)], []) [] [] [] [] [] [] none 0 0)])
theorem wf_60 : cq_wfC ct_60 = true := by decide +kernel
def lp_60 (pc : Nat) : Option (Option (Nat × Nat) × cq_Lp) := none
theorem ok_60 : cq_CT 60 ct_60 := cq_meth (f := 100000) (cts := cq_t0) (lps := lp_60) cq_t0_ok wf_60 (by decide +kernel) (by decide +kernel)
def ct_61 : cq_Ct := (0, [(5, (0, []), 53), (1, (0, [(0, 1)]), 0), (1, (0, [(1, 1)]), 0), (1, (0, [(2, 1)]), 0)], cq_mk 3 ([(0, 0, 28), (1, 0, 28), (2, (-2147483648), 2147483647)], [(0, [(0, (-1)), (1, 1)])]) [] [] [] [] [] [] none 0 0, [(false, 58, 0, 0), (false, 59, 0, 0), (false, 60, 0, 0)], [(false, [], cq_mk 3 ([], []) [] [] [] [] [] [] none 0 0)])
theorem wf_61 : cq_wfC ct_61 = true := by decide +kernel
def lp_61 (pc : Nat) : Option (Option (Nat × Nat) × cq_Lp) := none
theorem ok_61 : cq_CT 61 ct_61 := cq_meth (f := 100000) (cts := cq_t0) (lps := lp_61) cq_t0_ok wf_61 (by decide +kernel) (by decide +kernel)
def ct_58 : cq_Ct := (2, [(5, (0, []), 53), (6, (0, []), 0), (1, (0, [(1, 1)]), 0), (1, (0, [(2, 1)]), 0)], cq_mk 3 ([(1, 0, 29), (2, (-2147483648), 2147483647)], []) [(0, true)] [(0, (0, 3, 0))] [] [] [] [] none 0 0, [(false, 58, 0, 0), (false, 59, 0, 0), (false, 60, 0, 0)], [(false, [], cq_mk 3 ([], []) [] [] [] [] [] [] none 0 0)])
theorem wf_58 : cq_wfC ct_58 = true := by decide +kernel
def lp_58 (pc : Nat) : Option (Option (Nat × Nat) × cq_Lp) := bif Nat.beq pc 39 then some (none, ([(0, 5, 0, (-2147483648), 2147483647), (0, 6, 0, 0, 30)], [], [(false, 58, 0, 0), (false, 59, 0, 0), (false, 60, 0, 0)], [(0, [(2, 1), (3, (-1))])], (1, true), [])) else none
theorem ok_58 : cq_CT 58 ct_58 := cq_meth (f := 100000) (cts := (cq_tc 60 ct_60 (cq_tc 61 ct_61 cq_t0))) (lps := lp_58) (cq_tc_ok wf_60 ok_60 (cq_tc_ok wf_61 ok_61 cq_t0_ok)) wf_58 (by decide +kernel) (by decide +kernel)
def ct_54 : cq_Ct := (3, [(5, (0, []), 53), (6, (0, []), 0), (5, (0, []), 43)], cq_mk 1 ([], []) [(0, true)] [(0, (0, 3, 0))] [] [] [] [] none 0 0, [(false, 58, 0, 0), (false, 59, 0, 0), (false, 60, 0, 0), (true, 0, 3, 10), (true, 0, 3, 7), (true, 0, 3, 8), (true, 0, 3, 9), (true, 1, 0, 0)], [(false, [], cq_mk 1 ([], []) [] [] [] [] [] [] none 0 0)])
theorem wf_54 : cq_wfC ct_54 = true := by decide +kernel
def lp_54 (pc : Nat) : Option (Option (Nat × Nat) × cq_Lp) := bif Nat.beq pc 48 then some (none, ([(0, 6, 0, (-1), 29)], [], [(false, 58, 0, 0), (false, 59, 0, 0), (false, 60, 0, 0)], [(0, [(0, (-1)), (1, 1)])], (0, false), [])) else bif Nat.beq pc 121 then some (none, ([(0, 6, 0, (-2147483648), 2147483647), (0, 7, 0, 0, 30)], [], [(true, 1, 0, 0)], [(0, [(2, 1), (3, (-1))])], (1, true), [])) else none
theorem ok_54 : cq_CT 54 ct_54 := cq_meth (f := 100000) (cts := (cq_tc 58 ct_58 cq_t0)) (lps := lp_54) (cq_tc_ok wf_58 ok_58 cq_t0_ok) wf_54 (by decide +kernel) (by decide +kernel)
def ct_64 : cq_Ct := (0, [(1, (0, [(0, 1)]), 0)], cq_mk 1 ([(0, (-2147483648), 2147483647)], []) [] [] [] [] [] [] none 0 0, [], [(false, [(1, (0, [(1, 1)]), 0)], cq_mk 2 ([(1, 0, 63)], []) [] [] [] [] [] [] none 0 0)])
theorem wf_64 : cq_wfC ct_64 = true := by decide +kernel
def lp_64 (pc : Nat) : Option (Option (Nat × Nat) × cq_Lp) := none
theorem ok_64 : cq_CT 64 ct_64 := cq_meth (f := 100000) (cts := cq_t0) (lps := lp_64) cq_t0_ok wf_64 (by decide +kernel) (by decide +kernel)
def ct_63 : cq_Ct := (1, [(6, (0, []), 0)], cq_mk 1 ([], []) [(0, true)] [(0, (0, 3, 0))] [] [] [] [] none 0 0, [], [(false, [(1, (0, [(1, 1)]), 0)], cq_mk 2 ([(1, 0, 63)], []) [] [] [] [] [] [] none 0 0)])
theorem wf_63 : cq_wfC ct_63 = true := by decide +kernel
def lp_63 (pc : Nat) : Option (Option (Nat × Nat) × cq_Lp) := none
theorem ok_63 : cq_CT 63 ct_63 := cq_meth (f := 100000) (cts := (cq_tc 64 ct_64 cq_t0)) (lps := lp_63) (cq_tc_ok wf_64 ok_64 cq_t0_ok) wf_63 (by decide +kernel) (by decide +kernel)
def ct_51 : cq_Ct := (4, [(5, (0, []), 40), (1, (0, [(0, 1)]), 0), (1, (0, [(1, 1)]), 0), (1, (0, [(2, 1)]), 0)], cq_mk 3 ([(0, (-2147483648), 2147483647), (1, (-2147483648), 2147483647), (2, (-2147483648), 2147483647)], []) [] [] [] [] [] [] none 0 0, [(false, 58, 0, 0), (false, 59, 0, 0), (false, 60, 0, 0), (true, 0, 3, 10), (true, 0, 3, 7), (true, 0, 3, 8), (true, 0, 3, 9), (true, 1, 0, 0)], [(false, [(1, (0, [(3, 1)]), 0)], cq_mk 4 ([(3, (-2147483648), 2147483647)], []) [] [] [] [] [] [] none 0 0)])
theorem wf_51 : cq_wfC ct_51 = true := by decide +kernel
def lp_51 (pc : Nat) : Option (Option (Nat × Nat) × cq_Lp) := none
theorem ok_51 : cq_CT 51 ct_51 := cq_meth (f := 100000) (cts := (cq_tc 48 ct_48 (cq_tc 54 ct_54 (cq_tc 63 ct_63 cq_t0)))) (lps := lp_51) (cq_tc_ok wf_48 ok_48 (cq_tc_ok wf_54 ok_54 (cq_tc_ok wf_63 ok_63 cq_t0_ok))) wf_51 (by decide +kernel) (by decide +kernel)
