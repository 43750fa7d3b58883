/-! CONTRACTS: 199 198s 198 -/
def ct_199 : cq_Ct := (2, [(5, (0, []), 78), (1, (0, [(0, 1)]), 0), (1, (0, [(1, 1)]), 0), (1, (0, [(2, 1)]), 0)], cq_mk 4 ([(0, 0, 119), (1, 0, 29), (2, 0, 29), (3, 1, 2147483647)], []) [] [] [] [] [] [((0, [(0, 1)]), (1000000001093, []), (0, [(3, 1)]))] none 0 0, [], [(false, [(1, (0, [(4, 1)]), 0)], cq_mk 5 ([(4, (-2147483648), 2147483647)], []) [] [] [] [] [] [] none 0 0)])
theorem wf_199 : cq_wfC ct_199 = true := by decide +kernel
def lp_199 (pc : Nat) : Option (Option (Nat × Nat) × cq_Lp) := none
theorem ok_199 : cq_CT 199 ct_199 := cq_meth (f := 100000) (cts := (cq_tc 200 ct_200 (cq_tc 201 ct_201g cq_t0))) (lps := lp_199) (cq_tc_ok wf_200 ok_200 (cq_tc_gh (ni_UT (by decide +kernel)) wf_201g ok_201g cq_t0_ok)) wf_199 (by decide +kernel) (by decide +kernel)
def ct_198s : cq_Ct := (3, [(5, (0, []), 78), (1, (0, [(0, 1)]), 0)], cq_mk 2 ([(0, 0, 119), (1, 0, 30)], []) [] [] [] [((false, 93), (0, [(0, 1)]), (1, (0, [(1, 1)]), 0))] [] [((0, [(0, 1)]), (1000000001093, []), (0, [(1, 1)]))] none 0 0, [(false, 98, 0, 0), (false, 99, 0, 0)], [(false, [(1, (0, [(2, 1)]), 0)], cq_mk 3 ([(2, 0, 1000000000)], []) [] [] [] [] [] [] none 0 0)])
theorem wf_198s : cq_wfC ct_198s = true := by decide +kernel
def lp_198s (pc : Nat) : Option (Option (Nat × Nat) × cq_Lp) := bif Nat.beq pc 25 then some (none, ([(0, 3, 0, (-1), 29)], [4, 5, 6], [(false, 98, 0, 0), (false, 99, 0, 0)], [(0, [(0, (-1)), (1, 1)])], (0, false), [])) else bif Nat.beq pc 48 then some (none, ([(0, 4, 0, 0, 30)], [5, 6], [(false, 98, 0, 0), (false, 99, 0, 0)], [(0, [(0, 1), (1, (-1))])], (0, true), [])) else none
theorem ok_198s : cq_CT 198 ct_198s := cq_meth (f := 100000) (cts := (cq_tc 199 ct_199 cq_t0)) (lps := lp_198s) (cq_tc_gh (ni_UT (by decide +kernel)) wf_199 ok_199 cq_t0_ok) wf_198s (by decide +kernel) (by decide +kernel)
def ct_198 : cq_Ct := (3, [(5, (0, []), 78), (1, (0, [(0, 1)]), 0)], cq_mk 1 ([(0, 0, 119)], []) [] [] [] [] [] [] none 0 0, [(false, 98, 0, 0), (false, 99, 0, 0)], [(false, [(1, (0, [(1, 1)]), 0)], cq_mk 2 ([(1, 0, 1000000000)], []) [] [] [] [] [] [] none 0 0)])
theorem wf_198 : cq_wfC ct_198 = true := by decide +kernel
