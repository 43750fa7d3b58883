/-! CONTRACTS: 261 262 263 -/
def ct_261 : cq_Ct := (1, [(5, (0, []), 78), (1, (0, [(0, 1)]), 0)], cq_mk 1 ([(0, (-2147483648), 2147483647)], []) [] [] [] [] [] [] none 0 0, [], [(false, [(1, (0, [(1, 1)]), 0)], cq_mk 2 ([(1, (-2147483648), 2147483647)], []) [] [] [] [] [] [] none 0 0)])
theorem wf_261 : cq_wfC ct_261 = true := by decide +kernel
def lp_261 (pc : Nat) : Option (Option (Nat × Nat) × cq_Lp) := none
theorem ok_261 : cq_CT 261 ct_261 := cq_meth (f := 100000) (cts := cq_t0) (lps := lp_261) cq_t0_ok wf_261 (by decide +kernel) (by decide +kernel)
def ct_262 : cq_Ct := (0, [(5, (0, []), 78)], cq_mk 0 ([], []) [] [] [] [] [] [] none 0 0, [], [(false, [(1, (0, [(0, 1)]), 0)], cq_mk 1 ([(0, (-2147483648), 2147483647)], []) [] [] [] [] [] [] none 0 0)])
theorem wf_262 : cq_wfC ct_262 = true := by decide +kernel
def lp_262 (pc : Nat) : Option (Option (Nat × Nat) × cq_Lp) := none
theorem ok_262 : cq_CT 262 ct_262 := cq_meth (f := 100000) (cts := cq_t0) (lps := lp_262) cq_t0_ok wf_262 (by decide +kernel) (by decide +kernel)
def ct_263 : cq_Ct := (0, [(5, (0, []), 78), (1, (0, [(0, 1)]), 0)], cq_mk 1 ([(0, (-2147483648), 2147483647)], []) [] [] [] [] [] [] none 0 0, [], [(false, [(1, (0, [(1, 1)]), 0)], cq_mk 2 ([(1, (-2147483648), 2147483647)], []) [] [] [] [] [] [] none 0 0)])
theorem wf_263 : cq_wfC ct_263 = true := by decide +kernel
def lp_263 (pc : Nat) : Option (Option (Nat × Nat) × cq_Lp) := none
theorem ok_263 : cq_CT 263 ct_263 := cq_meth (f := 100000) (cts := cq_t0) (lps := lp_263) cq_t0_ok wf_263 (by decide +kernel) (by decide +kernel)
