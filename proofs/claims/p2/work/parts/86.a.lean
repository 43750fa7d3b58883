/-! CONTRACTS: 189p 189 -/
def ct_189p : cq_Ct := (4, [(5, (0, []), 78), (1, (0, [(0, 1)]), 0)], cq_mk 1 ([(0, (-2147483648), 2147483647)], []) [] [] [] [] [] [] none 0 0, [(false, 78, 10, 0), (false, 78, 3, 0), (false, 78, 4, 0), (false, 78, 5, 0), (false, 78, 6, 0), (false, 78, 7, 0), (false, 78, 8, 0), (false, 78, 9, 0), (false, 93, 0, 0), (false, 94, 0, 0), (false, 95, 0, 0), (false, 96, 0, 0), (false, 97, 0, 0)], [(false, [(1, (0, [(1, 1)]), 0)], cq_mk 2 ([(1, (-3), (-1))], []) [] [] [] [] [] [] none 0 0)])
theorem wf_189p : cq_wfC ct_189p = true := by decide +kernel
def lp_189p (pc : Nat) : Option (Option (Nat × Nat) × cq_Lp) := bif Nat.beq pc 68 then some (none, ([], [3, 4], [], [], (0, true), [])) else bif Nat.beq pc 140 then some (none, ([], [4], [], [], (0, true), [])) else none
def tb_189p : Nat → Option cq_Ct := (cq_tc 170 ct_170 (cq_tc 190 ct_190 cq_t0))
theorem tk_189p : ∀ h, cq_Inv none h → cq_TK ct_189p.2.2.2.1 h tb_189p := (cq_tc_ok wf_170 ok_170 (cq_tc_ok wf_190 ok_190 cq_t0_ok))
def ct_189 : cq_Ct := (4, [(5, (0, []), 78), (1, (0, [(0, 1)]), 0)], cq_mk 1 ([(0, (-2147483648), 2147483647)], []) [] [] [] [] [] [] none 0 0, [(false, 78, 10, 0), (false, 78, 3, 0), (false, 78, 4, 0), (false, 78, 5, 0), (false, 78, 6, 0), (false, 78, 7, 0), (false, 78, 8, 0), (false, 78, 9, 0), (false, 92, 0, 0), (false, 93, 0, 0), (false, 94, 0, 0), (false, 95, 0, 0), (false, 96, 0, 0), (false, 97, 0, 0)], [(false, [(1, (0, [(1, 1)]), 0)], cq_mk 2 ([(1, (-2147483648), 2147483647)], []) [] [] [] [] [] [] none 0 0)])
theorem wf_189 : cq_wfC ct_189 = true := by decide +kernel
