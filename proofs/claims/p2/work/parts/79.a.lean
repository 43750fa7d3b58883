/-! CONTRACTS: 233s 233n -/
def ct_233s : cq_Ct := (4, [(5, (0, []), 78), (1, (0, [(0, 1)]), 0)], cq_mk 3 ([(0, 0, 39), (1, 0, 2), (2, 1, 30)], []) [] [] [] [((false, 93), (0, [(0, 3), (1, 1)]), (1, (0, [(2, 1)]), 0))] [] [((0, [(0, 1)]), (1000000000230, []), (0, [(1, 1)]))] none 0 0, [], [(false, [(1, (0, [(2, 1)]), 0)], cq_mk 3 ([], []) [] [] [] [] [] [] none 0 0)])
theorem wf_233s : cq_wfC ct_233s = true := by decide +kernel
def lp_233s (pc : Nat) : Option (Option (Nat × Nat) × cq_Lp) := none
theorem ok_233s : cq_CT 233 ct_233s := cq_meth (f := 100000) (cts := (cq_tc 230 ct_230g cq_t0)) (lps := lp_233s) (cq_tc_gh (ni_UT (by decide +kernel)) wf_230g ok_230g cq_t0_ok) wf_233s (by decide +kernel) (by decide +kernel)
def ct_233n : cq_Ct := (4, [(5, (0, []), 78), (1, (0, [(0, 1)]), 0)], cq_mk 2 ([(0, 0, 39), (1, 0, 2147483647)], []) [] [] [] [] [] [((0, [(0, 1)]), (1000000000230, []), (0, [(1, 1)]))] none 0 0, [], [(false, [(1, (0, [(2, 1)]), 0)], cq_mk 3 ([(2, 1, 30)], []) [] [] [] [] [] [] none 0 0)])
theorem wf_233n : cq_wfC ct_233n = true := by decide +kernel
