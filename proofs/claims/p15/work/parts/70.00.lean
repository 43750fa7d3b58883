/-! CONTRACTS: 14 16 17 21 26 25 30 28 32 27 33 19 18 34 35 38 -/
def ct_14 : cq_Ct := (1, [(5, (0, []), 40), (1, (0, [(0, 1)]), 0), (1, (0, [(1, 1)]), 0), (1, (0, [(2, 1)]), 0), (1, (0, [(3, 1)]), 0), (1, (0, [(4, 1)]), 0)], cq_mk 5 ([(0, (-2147483648), 2147483647), (1, (-2147483648), 2147483647), (2, (-2147483648), 2147483647), (3, (-2147483648), 2147483647), (4, (-2147483648), 2147483647)], []) [] [] [] [] [] [] none 0 0, [(false, 41, 2, 0), (false, 42, 0, 0)], [(false, [(1, (0, [(5, 1)]), 0)], cq_mk 6 ([(5, (-3), 1600)], []) [] [] [] [] [] [] none 0 0)])
theorem wf_14 : cq_wfC ct_14 = true := by decide +kernel
def lp_14 (pc : Nat) : Option (Option (Nat × Nat) × cq_Lp) := none
theorem ok_14 : cq_CT 14 ct_14 := cq_meth (f := 100000) (cts := cq_t0) (lps := lp_14) cq_t0_ok wf_14 (by decide +kernel) (by decide +kernel)
def ct_16 : cq_Ct := (0, [(5, (0, []), 40), (1, (0, [(0, 1)]), 0)], cq_mk 1 ([(0, (-2147483648), 2147483647)], []) [] [] [] [] [] [] none 0 0, [(false, 41, 2, 0)], [(false, [(1, (0, [(1, 1)]), 0)], cq_mk 2 ([(1, (-1), 1600)], []) [] [] [] [] [] [] none 0 0)])
theorem wf_16 : cq_wfC ct_16 = true := by decide +kernel
def lp_16 (pc : Nat) : Option (Option (Nat × Nat) × cq_Lp) := none
theorem ok_16 : cq_CT 16 ct_16 := cq_meth (f := 100000) (cts := cq_t0) (lps := lp_16) cq_t0_ok wf_16 (by decide +kernel) (by decide +kernel)
def ct_17 : cq_Ct := (0, [(5, (0, []), 40), (1, (0, [(0, 1)]), 0)], cq_mk 1 ([(0, (-2147483648), 2147483647)], []) [] [] [] [] [] [] none 0 0, [(false, 40, 10, 0)], [(false, [(1, (0, [(1, 1)]), 0)], cq_mk 2 ([(1, (-2), 39997)], []) [] [] [] [] [] [] none 0 0)])
theorem wf_17 : cq_wfC ct_17 = true := by decide +kernel
def lp_17 (pc : Nat) : Option (Option (Nat × Nat) × cq_Lp) := none
theorem ok_17 : cq_CT 17 ct_17 := cq_meth (f := 100000) (cts := cq_t0) (lps := lp_17) cq_t0_ok wf_17 (by decide +kernel) (by decide +kernel)
def ct_21 : cq_Ct := (1, [(5, (0, []), 41)], cq_mk 0 ([], []) [] [] [] [] [] [] none 0 0, [(false, 41, 3, 0), (false, 41, 6, 0), (false, 41, 7, 0)], [(false, [], cq_mk 0 ([], []) [] [] [] [] [] [] none 0 0)])
theorem wf_21 : cq_wfC ct_21 = true := by decide +kernel
def lp_21 (pc : Nat) : Option (Option (Nat × Nat) × cq_Lp) := bif Nat.beq pc 0 then some (none, ([(1, 41, 6, 0, 1600)], [], [(false, 41, 7, 0)], [(0, [(0, 1), (1, (-1))])], (0, true), [])) else bif Nat.beq pc 81 then some (none, ([(1, 41, 6, 0, 1600)], [], [(false, 41, 7, 0)], [(0, [(0, 1), (1, (-1))])], (0, true), [])) else bif Nat.beq pc 153 then some (none, ([(1, 41, 6, 0, 1600)], [], [(false, 41, 7, 0)], [(0, [(0, 1), (1, (-1))])], (0, true), [])) else none
theorem ok_21 : cq_CT 21 ct_21 := cq_meth (f := 100000) (cts := cq_t0) (lps := lp_21) cq_t0_ok wf_21 (by decide +kernel) (by decide +kernel)
def ct_26 : cq_Ct := (5, [(5, (0, []), 41), (6, (0, []), 0)], cq_mk 1 ([], []) [(0, true)] [(0, (2, 0, 0))] [] [] [] [] none 0 0, [], [(false, [(1, (0, [(1, 1)]), 0)], cq_mk 2 ([(1, 0, 1)], []) [] [] [] [] [] [] none 0 0)])
theorem wf_26 : cq_wfC ct_26 = true := by decide +kernel
def lp_26 (pc : Nat) : Option (Option (Nat × Nat) × cq_Lp) := bif Nat.beq pc 28 then some (none, ([(0, 2, 0, 0, 1600)], [], [], [(0, [(0, 1), (1, (-1))])], (0, true), [])) else none
theorem ok_26 : cq_CT 26 ct_26 := cq_meth (f := 100000) (cts := cq_t0) (lps := lp_26) cq_t0_ok wf_26 (by decide +kernel) (by decide +kernel)
def ct_25 : cq_Ct := (6, [(5, (0, []), 41)], cq_mk 0 ([], []) [] [] [] [] [] [] none 0 0, [], [(false, [(1, (0, [(0, 1)]), 0)], cq_mk 1 ([(0, (-1), 7)], []) [] [] [] [] [] [] none 0 0)])
theorem wf_25 : cq_wfC ct_25 = true := by decide +kernel
def lp_25 (pc : Nat) : Option (Option (Nat × Nat) × cq_Lp) := none
theorem ok_25 : cq_CT 25 ct_25 := cq_meth (f := 100000) (cts := (cq_tc 26 ct_26 cq_t0)) (lps := lp_25) (cq_tc_ok wf_26 ok_26 cq_t0_ok) wf_25 (by decide +kernel) (by decide +kernel)
def ct_30 : cq_Ct := (0, [(5, (0, []), 41)], cq_mk 0 ([], []) [] [] [] [] [] [] none 0 0, [], [(false, [(1, (0, [(0, 1)]), 0)], cq_mk 1 ([(0, (-2147483648), 2147483647)], []) [] [] [] [] [] [] none 0 0)])
theorem wf_30 : cq_wfC ct_30 = true := by decide +kernel
def lp_30 (pc : Nat) : Option (Option (Nat × Nat) × cq_Lp) := bif Nat.beq pc 7 then some (none, ([(0, 1, 0, (-2147483648), 2147483647), (0, 2, 0, 0, 1600)], [], [], [(0, [(2, 1), (3, (-1))])], (1, true), [])) else none
theorem ok_30 : cq_CT 30 ct_30 := cq_meth (f := 100000) (cts := cq_t0) (lps := lp_30) cq_t0_ok wf_30 (by decide +kernel) (by decide +kernel)
def ct_28 : cq_Ct := (2, [(5, (0, []), 41), (1, (0, [(0, 1)]), 0), (1, (0, [(1, 1)]), 0)], cq_mk 2 ([(0, (-2147483648), 2147483647), (1, (-2147483648), 2147483647)], []) [] [] [] [] [] [] none 0 0, [(false, 41, 3, 0), (false, 41, 4, 0), (false, 41, 5, 0), (false, 41, 6, 0), (false, 41, 7, 0)], [(false, [(1, (0, [(2, 1)]), 0)], cq_mk 3 ([(2, 0, 1)], []) [] [] [] [] [] [] none 0 0)])
theorem wf_28 : cq_wfC ct_28 = true := by decide +kernel
def lp_28 (pc : Nat) : Option (Option (Nat × Nat) × cq_Lp) := none
theorem ok_28 : cq_CT 28 ct_28 := cq_meth (f := 100000) (cts := (cq_tc 21 ct_21 (cq_tc 30 ct_30 cq_t0))) (lps := lp_28) (cq_tc_ok wf_21 ok_21 (cq_tc_ok wf_30 ok_30 cq_t0_ok)) wf_28 (by decide +kernel) (by decide +kernel)
def ct_32 : cq_Ct := (2, [(5, (0, []), 41)], cq_mk 0 ([], []) [] [] [] [] [] [] none 0 0, [(false, 41, 3, 0), (false, 41, 4, 0), (false, 41, 5, 0), (false, 41, 6, 0), (false, 41, 7, 0)], [(false, [(1, (0, [(0, 1)]), 0)], cq_mk 1 ([(0, 0, 1)], []) [] [] [] [] [] [] none 0 0)])
theorem wf_32 : cq_wfC ct_32 = true := by decide +kernel
def lp_32 (pc : Nat) : Option (Option (Nat × Nat) × cq_Lp) := none
theorem ok_32 : cq_CT 32 ct_32 := cq_meth (f := 100000) (cts := (cq_tc 21 ct_21 cq_t0)) (lps := lp_32) (cq_tc_ok wf_21 ok_21 cq_t0_ok) wf_32 (by decide +kernel) (by decide +kernel)
def ct_27 : cq_Ct := (3, [(5, (0, []), 43), (5, (0, []), 41)], cq_mk 0 ([], []) [] [] [] [] [] [] none 0 0, [(false, 41, 3, 0), (false, 41, 4, 0), (false, 41, 5, 0), (false, 41, 6, 0), (false, 41, 7, 0), (false, 43, 6, 0), (false, 47, 0, 0)], [(false, [(1, (0, [(0, 1)]), 0)], cq_mk 1 ([(0, 0, 1)], []) [] [] [] [] [] [] none 0 0)])
theorem wf_27 : cq_wfC ct_27 = true := by decide +kernel
def lp_27 (pc : Nat) : Option (Option (Nat × Nat) × cq_Lp) := none
theorem ok_27 : cq_CT 27 ct_27 := cq_meth (f := 100000) (cts := (cq_tc 28 ct_28 (cq_tc 30 ct_30 (cq_tc 32 ct_32 cq_t0)))) (lps := lp_27) (cq_tc_ok wf_28 ok_28 (cq_tc_ok wf_30 ok_30 (cq_tc_ok wf_32 ok_32 cq_t0_ok))) wf_27 (by decide +kernel) (by decide +kernel)
def ct_33 : cq_Ct := (3, [(5, (0, []), 43), (1, (0, [(0, 1)]), 0), (5, (0, []), 41)], cq_mk 1 ([(0, (-2147483648), 2147483647)], []) [] [] [] [] [] [] none 0 0, [(false, 41, 3, 0), (false, 41, 4, 0), (false, 41, 5, 0), (false, 41, 6, 0), (false, 41, 7, 0), (false, 43, 5, 0), (false, 46, 0, 0)], [(false, [(1, (0, [(1, 1)]), 0)], cq_mk 2 ([(1, 0, 1)], []) [] [] [] [] [] [] none 0 0)])
theorem wf_33 : cq_wfC ct_33 = true := by decide +kernel
def lp_33 (pc : Nat) : Option (Option (Nat × Nat) × cq_Lp) := none
theorem ok_33 : cq_CT 33 ct_33 := cq_meth (f := 100000) (cts := (cq_tc 28 ct_28 (cq_tc 30 ct_30 (cq_tc 32 ct_32 cq_t0)))) (lps := lp_33) (cq_tc_ok wf_28 ok_28 (cq_tc_ok wf_30 ok_30 (cq_tc_ok wf_32 ok_32 cq_t0_ok))) wf_33 (by decide +kernel) (by decide +kernel)
def ct_19 : cq_Ct := (7, [(5, (0, []), 43), (5, (0, []), 41)], cq_mk 0 ([], []) [] [] [] [] [] [] none 0 0, [(false, 41, 3, 0), (false, 41, 4, 0), (false, 41, 5, 0), (false, 41, 6, 0), (false, 41, 7, 0), (false, 43, 5, 0), (false, 43, 6, 0), (false, 44, 0, 0), (false, 45, 0, 0), (false, 46, 0, 0), (false, 47, 0, 0)], [(false, [(1, (0, [(0, 1)]), 0)], cq_mk 1 ([(0, (-1), 13)], []) [] [] [] [] [] [] none 0 0)])
theorem wf_19 : cq_wfC ct_19 = true := by decide +kernel
def lp_19 (pc : Nat) : Option (Option (Nat × Nat) × cq_Lp) := bif Nat.beq pc 10 then some (none, ([(1, 41, 2, (-2147483648), 2147483647), (1, 41, 3, (-2147483648), 2147483647), (1, 41, 4, (-2147483648), 2147483647), (1, 41, 5, 0, 1600), (1, 41, 6, 0, 1600), (1, 43, 4, (-2147483648), 2147483647), (1, 43, 5, (-2147483648), 2147483647), (0, 2, 0, 0, 14)], [3, 4], [(false, 41, 3, 0), (false, 41, 4, 0), (false, 41, 5, 0), (false, 41, 6, 0), (false, 41, 7, 0), (false, 43, 5, 0), (false, 43, 6, 0), (false, 46, 0, 0), (false, 47, 0, 0)], [(0, [(8, 1), (9, (-1))]), (0, [(14, 1), (15, (-1))])], (7, true), [])) else none
theorem ok_19 : cq_CT 19 ct_19 := cq_meth (f := 100000) (cts := (cq_tc 21 ct_21 (cq_tc 25 ct_25 (cq_tc 27 ct_27 (cq_tc 33 ct_33 cq_t0))))) (lps := lp_19) (cq_tc_ok wf_21 ok_21 (cq_tc_ok wf_25 ok_25 (cq_tc_ok wf_27 ok_27 (cq_tc_ok wf_33 ok_33 cq_t0_ok)))) wf_19 (by decide +kernel) (by decide +kernel)
def ct_18 : cq_Ct := (8, [(5, (0, []), 40)], cq_mk 0 ([], []) [] [] [] [] [] [] none 0 0, [(false, 41, 2, 0), (false, 41, 3, 0), (false, 41, 4, 0), (false, 41, 5, 0), (false, 41, 6, 0), (false, 41, 7, 0), (false, 43, 5, 0), (false, 43, 6, 0), (false, 44, 0, 0), (false, 45, 0, 0), (false, 46, 0, 0), (false, 47, 0, 0)], [(false, [(1, (0, [(0, 1)]), 0)], cq_mk 1 ([(0, (-1), 13)], []) [] [] [] [] [] [] none 0 0)])
theorem wf_18 : cq_wfC ct_18 = true := by decide +kernel
def lp_18 (pc : Nat) : Option (Option (Nat × Nat) × cq_Lp) := none
theorem ok_18 : cq_CT 18 ct_18 := cq_meth (f := 100000) (cts := (cq_tc 19 ct_19 cq_t0)) (lps := lp_18) (cq_tc_ok wf_19 ok_19 cq_t0_ok) wf_18 (by decide +kernel) (by decide +kernel)
def ct_34 : cq_Ct := (0, [(5, (0, []), 40), (1, (0, [(0, 1)]), 0)], cq_mk 1 ([(0, (-2147483648), 2147483647)], []) [] [] [] [] [] [] none 0 0, [], [(false, [(1, (0, [(1, 1)]), 0)], cq_mk 2 ([(1, (-2147483648), 2147483647)], []) [] [] [] [] [] [] none 0 0)])
theorem wf_34 : cq_wfC ct_34 = true := by decide +kernel
def lp_34 (pc : Nat) : Option (Option (Nat × Nat) × cq_Lp) := none
theorem ok_34 : cq_CT 34 ct_34 := cq_meth (f := 100000) (cts := cq_t0) (lps := lp_34) cq_t0_ok wf_34 (by decide +kernel) (by decide +kernel)
def ct_35 : cq_Ct := (1, [(5, (0, []), 40), (1, (0, [(0, 1)]), 0)], cq_mk 1 ([(0, (-2147483648), 2147483647)], []) [] [] [] [] [] [] none 0 0, [], [(false, [(1, (0, [(1, 1)]), 0)], cq_mk 2 ([(1, (-2147483648), 2147483647)], []) [] [] [] [] [] [] none 0 0)])
theorem wf_35 : cq_wfC ct_35 = true := by decide +kernel
def lp_35 (pc : Nat) : Option (Option (Nat × Nat) × cq_Lp) := none
theorem ok_35 : cq_CT 35 ct_35 := cq_meth (f := 100000) (cts := cq_t0) (lps := lp_35) cq_t0_ok wf_35 (by decide +kernel) (by decide +kernel)
def ct_38 : cq_Ct := (2, [(5, (0, []), 40), (1, (0, [(0, 1)]), 0), (1, (0, [(1, 1)]), 0), (1, (0, [(2, 1)]), 0), (1, (0, [(3, 1)]), 0)], cq_mk 4 ([(0, (-2147483648), 2147483647), (1, (-2147483648), 2147483647), (2, (-2147483648), 2147483647), (3, (-2147483648), 2147483647)], []) [] [] [] [] [] [] none 0 0, [(false, 40, 9, 0), (false, 73, 0, 0), (true, 0, 6, 1), (true, 0, 6, 2), (true, 0, 6, 3), (true, 0, 6, 4), (true, 1, 0, 0)], [(false, [(1, (0, [(4, 1)]), 0)], cq_mk 5 ([(4, (-3), 39)], []) [] [] [] [] [] [] none 3 15)])
theorem wf_38 : cq_wfC ct_38 = true := by decide +kernel
def lp_38 (pc : Nat) : Option (Option (Nat × Nat) × cq_Lp) := none
theorem ok_38 : cq_CT 38 ct_38 := cq_meth (f := 100000) (cts := cq_t0) (lps := lp_38) cq_t0_ok wf_38 (by decide +kernel) (by decide +kernel)
