/-! CONTRACTS: 240 243 252s 255 254 256 257 259 260 -/
def ct_240 : cq_Ct := (5, [(5, (0, []), 78)], cq_mk 0 ([], []) [] [] [] [] [] [] none 0 0, [(false, 125, 0, 0)], [(false, [], cq_mk 0 ([], []) [] [] [] [] [] [] none 0 0)])
theorem wf_240 : cq_wfC ct_240 = true := by decide +kernel
def lp_240 (pc : Nat) : Option (Option (Nat × Nat) × cq_Lp) := bif Nat.beq pc 2 then some (none, ([(0, 1, 0, 0, 14)], [2], [], [(0, [(0, 1), (1, (-1))])], (0, true), [])) else bif Nat.beq pc 12 then some (none, ([(0, 2, 0, 0, 14)], [], [(false, 125, 0, 0)], [(0, [(0, 1), (1, (-1))])], (0, true), [])) else none
theorem ok_240 : cq_CT 240 ct_240 := cq_meth (f := 100000) (cts := (cq_tc 241 ct_241 cq_t0)) (lps := lp_240) (cq_tc_ok wf_241 ok_241 cq_t0_ok) wf_240 (by decide +kernel) (by decide +kernel)
def ct_243 : cq_Ct := (2, [(5, (0, []), 78), (1, (0, [(0, 1)]), 0), (1, (0, [(1, 1)]), 0), (1, (0, [(2, 1)]), 0)], cq_mk 3 ([(0, 0, 9), (1, 0, 9), (2, 0, 1023)], []) [] [] [] [] [] [] none 0 0, [], [(false, [(1, (0, [(3, 1)]), 0)], cq_mk 4 ([(3, (-2147483648), 2147483647)], []) [] [] [] [] [] [] none 0 0)])
theorem wf_243 : cq_wfC ct_243 = true := by decide +kernel
def lp_243 (pc : Nat) : Option (Option (Nat × Nat) × cq_Lp) := none
theorem ok_243 : cq_CT 243 ct_243 := cq_meth (f := 100000) (cts := cq_t0) (lps := lp_243) cq_t0_ok wf_243 (by decide +kernel) (by decide +kernel)
def ct_252s : cq_Ct := (4, [(5, (0, []), 78), (1, (0, [(0, 1)]), 0), (1, (0, [(1, 1)]), 0)], cq_mk 8 ([(0, 0, 13), (1, 0, 13), (2, 0, 13), (3, 0, 13), (4, 0, 39), (5, 0, 39), (6, 0, 2147483647), (7, 0, 2147483647)], []) [] [] [] [((false, 118), (0, [(0, 1)]), (1, (0, [(2, 1)]), 0)), ((false, 118), (0, [(1, 1)]), (1, (0, [(3, 1)]), 0)), ((false, 117), (0, [(2, 1)]), (1, (0, [(4, 1)]), 0)), ((false, 117), (0, [(3, 1)]), (1, (0, [(5, 1)]), 0))] [] [((0, [(4, 1)]), (1000000000230, []), (0, [(6, 1)])), ((0, [(5, 1)]), (1000000000230, []), (0, [(7, 1)]))] none 0 0, [], [(false, [(1, (0, [(8, 1)]), 0)], cq_mk 9 ([(8, (-13), 13)], []) [] [] [] [] [] [] none 0 0)])
theorem wf_252s : cq_wfC ct_252s = true := by decide +kernel
def lp_252s (pc : Nat) : Option (Option (Nat × Nat) × cq_Lp) := bif Nat.beq pc 60 then some (none, ([(0, 7, 0, 0, 8)], [], [], [(0, [(0, 1), (1, (-1))])], (0, true), [])) else none
theorem ok_252s : cq_CT 252 ct_252s := cq_meth (f := 100000) (cts := (cq_tc 230 ct_230g cq_t0)) (lps := lp_252s) (cq_tc_gh (ni_UT (by decide +kernel)) wf_230g ok_230g cq_t0_ok) wf_252s (by decide +kernel) (by decide +kernel)
def ct_255 : cq_Ct := (0, [(5, (0, []), 78), (1, (0, [(0, 1)]), 0), (1, (0, [(1, 1)]), 0), (1, (0, [(2, 1)]), 0)], cq_mk 3 ([(0, 0, 13), (1, (-1), 13), (2, (-1), 13)], [(13, [(1, 14), (2, (-1))])]) [] [] [] [] [] [] none 0 0, [], [(false, [(1, (0, [(3, 1)]), 0)], cq_mk 4 ([(3, 0, 1)], []) [] [] [] [] [] [] none 0 0)])
theorem wf_255 : cq_wfC ct_255 = true := by decide +kernel
def lp_255 (pc : Nat) : Option (Option (Nat × Nat) × cq_Lp) := none
theorem ok_255 : cq_CT 255 ct_255 := cq_meth (f := 100000) (cts := cq_t0) (lps := lp_255) cq_t0_ok wf_255 (by decide +kernel) (by decide +kernel)
def ct_254 : cq_Ct := (1, [(5, (0, []), 78), (1, (0, [(0, 1)]), 0), (1, (0, [(1, 1)]), 0), (1, (0, [(2, 1)]), 0), (1, (0, [(3, 1)]), 0)], cq_mk 4 ([(0, 0, 13), (1, (-2147483648), 2147483647), (2, (-1), 13), (3, (-1), 13)], [(13, [(2, 14), (3, (-1))])]) [] [] [] [] [] [] none 0 0, [(false, 78, 70, 0), (false, 78, 71, 0), (false, 78, 73, 0), (false, 78, 74, 0), (false, 78, 75, 0)], [(false, [], cq_mk 4 ([], []) [] [] [] [] [] [] none 0 0)])
theorem wf_254 : cq_wfC ct_254 = true := by decide +kernel
def lp_254 (pc : Nat) : Option (Option (Nat × Nat) × cq_Lp) := bif Nat.beq pc 95 then some (none, ([(1, 78, 69, (-2147483648), 2147483647), (1, 78, 70, (-2147483648), 2147483647), (1, 78, 72, (-2147483648), 2147483647), (1, 78, 73, (-2147483648), 2147483647), (1, 78, 74, (-2147483648), 2147483647), (0, 7, 0, 0, 4)], [8, 9], [(false, 78, 70, 0), (false, 78, 71, 0), (false, 78, 73, 0), (false, 78, 74, 0), (false, 78, 75, 0)], [(0, [(10, 1), (11, (-1))])], (5, true), [])) else none
theorem ok_254 : cq_CT 254 ct_254 := cq_meth (f := 100000) (cts := (cq_tc 255 ct_255 cq_t0)) (lps := lp_254) (cq_tc_ok wf_255 ok_255 cq_t0_ok) wf_254 (by decide +kernel) (by decide +kernel)
def ct_256 : cq_Ct := (0, [(5, (0, []), 78), (1, (0, [(0, 1)]), 0)], cq_mk 1 ([(0, 0, 13)], []) [] [] [] [] [] [] none 0 0, [], [(false, [(1, (0, [(1, 1)]), 0)], cq_mk 2 ([(1, 0, 1)], []) [] [] [] [] [] [] none 0 0)])
theorem wf_256 : cq_wfC ct_256 = true := by decide +kernel
def lp_256 (pc : Nat) : Option (Option (Nat × Nat) × cq_Lp) := bif Nat.beq pc 2 then some (none, ([(0, 2, 0, 0, 14)], [], [], [(0, [(0, 1), (1, (-1))])], (0, true), [])) else none
theorem ok_256 : cq_CT 256 ct_256 := cq_meth (f := 100000) (cts := cq_t0) (lps := lp_256) cq_t0_ok wf_256 (by decide +kernel) (by decide +kernel)
def ct_257 : cq_Ct := (0, [(5, (0, []), 78), (1, (0, [(0, 1)]), 0)], cq_mk 1 ([(0, (-2147483648), 2147483647)], []) [] [] [] [] [] [] none 0 0, [], [(false, [(1, (0, [(1, 1)]), 0)], cq_mk 2 ([(1, (-2147483648), 2147483647)], []) [] [] [] [] [] [] none 0 0)])
theorem wf_257 : cq_wfC ct_257 = true := by decide +kernel
def lp_257 (pc : Nat) : Option (Option (Nat × Nat) × cq_Lp) := none
theorem ok_257 : cq_CT 257 ct_257 := cq_meth (f := 100000) (cts := cq_t0) (lps := lp_257) cq_t0_ok wf_257 (by decide +kernel) (by decide +kernel)
def ct_259 : cq_Ct := (2, [(5, (0, []), 78), (1, (0, [(0, 1)]), 0)], cq_mk 1 ([(0, (-2147483648), 2147483647)], []) [] [] [] [] [] [] none 0 0, [], [(false, [(1, (0, [(1, 1)]), 0)], cq_mk 2 ([(1, (-2147483648), 2147483647)], []) [] [] [] [] [] [] none 0 0)])
theorem wf_259 : cq_wfC ct_259 = true := by decide +kernel
def lp_259 (pc : Nat) : Option (Option (Nat × Nat) × cq_Lp) := none
theorem ok_259 : cq_CT 259 ct_259 := cq_meth (f := 100000) (cts := cq_t0) (lps := lp_259) cq_t0_ok wf_259 (by decide +kernel) (by decide +kernel)
def ct_260 : cq_Ct := (2, [(5, (0, []), 78), (1, (0, [(0, 1)]), 0), (1, (0, [(1, 1)]), 0)], cq_mk 2 ([(0, (-2147483648), 2147483647), (1, (-2147483648), 2147483647)], []) [] [] [] [] [] [] none 0 0, [(false, 129, 0, 0), (false, 78, 81, 0), (false, 78, 82, 0)], [(false, [(1, (0, [(2, 1)]), 0)], cq_mk 3 ([(2, (-2147483648), 2147483647)], []) [] [] [] [] [] [] none 0 0)])
theorem wf_260 : cq_wfC ct_260 = true := by decide +kernel
def lp_260 (pc : Nat) : Option (Option (Nat × Nat) × cq_Lp) := bif Nat.beq pc 40 then some (none, ([(1, 78, 81, (-2147483648), 2147483647), (0, 3, 0, (-2147483648), 2147483647), (0, 4, 0, 0, 14)], [5, 6], [(false, 129, 0, 0), (false, 78, 82, 0)], [(0, [(4, 1), (5, (-1))])], (2, true), [])) else bif Nat.beq pc 74 then some (none, ([(0, 6, 0, 0, 6)], [], [(false, 129, 0, 0)], [(0, [(0, 1), (1, (-1))])], (0, true), [])) else none
theorem ok_260 : cq_CT 260 ct_260 := cq_meth (f := 100000) (cts := (cq_tc 220 ct_220 cq_t0)) (lps := lp_260) (cq_tc_ok wf_220 ok_220 cq_t0_ok) wf_260 (by decide +kernel) (by decide +kernel)
