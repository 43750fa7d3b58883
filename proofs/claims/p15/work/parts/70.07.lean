/-! CONTRACTS: 157 158 159 160 162 164 166 170 175 174 -/
def ct_157 : cq_Ct := (2, [(5, (0, []), 40), (1, (0, [(0, 1)]), 0), (1, (0, [(1, 1)]), 0)], cq_mk 2 ([(0, (-2147483648), 2147483647), (1, (-2147483648), 2147483647)], []) [] [] [] [] [] [] none 0 0, [(false, 40, 19, 0), (false, 40, 20, 0), (false, 77, 0, 0)], [(false, [(1, (0, [(2, 1)]), 0)], cq_mk 3 ([(2, (-2147483648), 2147483647)], []) [] [] [] [] [] [] none 0 0)])
theorem wf_157 : cq_wfC ct_157 = true := by decide +kernel
def lp_157 (pc : Nat) : Option (Option (Nat × Nat) × cq_Lp) := bif Nat.beq pc 30 then some (none, ([(1, 40, 19, (-2147483648), 2147483647), (0, 3, 0, (-2147483648), 2147483647), (0, 4, 0, 0, 14)], [5, 6], [(false, 40, 20, 0), (false, 77, 0, 0)], [(0, [(4, 1), (5, (-1))])], (2, true), [])) else none
theorem ok_157 : cq_CT 157 ct_157 := cq_meth (f := 100000) (cts := (cq_tc 93 ct_93 (cq_tc 95 ct_95 cq_t0))) (lps := lp_157) (cq_tc_ok wf_93 ok_93 (cq_tc_ok wf_95 ok_95 cq_t0_ok)) wf_157 (by decide +kernel) (by decide +kernel)
def ct_158 : cq_Ct := (0, [(5, (0, []), 40), (1, (0, [(0, 1)]), 0)], cq_mk 1 ([(0, (-2147483648), 2147483647)], []) [] [] [] [] [] [] none 0 0, [], [(false, [(1, (0, [(1, 1)]), 0)], cq_mk 2 ([(1, (-2147483648), 2147483647)], []) [] [] [] [] [] [] none 0 0)])
theorem wf_158 : cq_wfC ct_158 = true := by decide +kernel
def lp_158 (pc : Nat) : Option (Option (Nat × Nat) × cq_Lp) := none
theorem ok_158 : cq_CT 158 ct_158 := cq_meth (f := 100000) (cts := cq_t0) (lps := lp_158) cq_t0_ok wf_158 (by decide +kernel) (by decide +kernel)
def ct_159 : cq_Ct := (0, [(5, (0, []), 40)], cq_mk 0 ([], []) [] [] [] [] [] [] none 0 0, [], [(false, [(1, (0, [(0, 1)]), 0)], cq_mk 1 ([(0, (-2147483648), 2147483647)], []) [] [] [] [] [] [] none 0 0)])
theorem wf_159 : cq_wfC ct_159 = true := by decide +kernel
def lp_159 (pc : Nat) : Option (Option (Nat × Nat) × cq_Lp) := none
theorem ok_159 : cq_CT 159 ct_159 := cq_meth (f := 100000) (cts := cq_t0) (lps := lp_159) cq_t0_ok wf_159 (by decide +kernel) (by decide +kernel)
def ct_160 : cq_Ct := (0, [(5, (0, []), 40), (1, (0, [(0, 1)]), 0)], cq_mk 1 ([(0, (-2147483648), 2147483647)], []) [] [] [] [] [] [] none 0 0, [], [(false, [(1, (0, [(1, 1)]), 0)], cq_mk 2 ([(1, (-2147483648), 2147483647)], []) [] [] [] [] [] [] none 0 0)])
theorem wf_160 : cq_wfC ct_160 = true := by decide +kernel
def lp_160 (pc : Nat) : Option (Option (Nat × Nat) × cq_Lp) := none
theorem ok_160 : cq_CT 160 ct_160 := cq_meth (f := 100000) (cts := cq_t0) (lps := lp_160) cq_t0_ok wf_160 (by decide +kernel) (by decide +kernel)
def ct_162 : cq_Ct := (1, [(5, (0, []), 78), (1, (0, [(0, 1)]), 0), (1, (0, [(1, 1)]), 0), (1, (0, [(2, 1)]), 0), (1, (0, [(3, 1)]), 0), (1, (0, [(4, 1)]), 0)], cq_mk 5 ([(0, (-2147483648), 2147483647), (1, (-2147483648), 2147483647), (2, (-2147483648), 2147483647), (3, (-2147483648), 2147483647), (4, (-2147483648), 2147483647)], []) [] [] [] [] [] [] none 0 0, [(false, 78, 3, 0), (false, 80, 0, 0)], [(false, [(1, (0, [(5, 1)]), 0)], cq_mk 6 ([(5, (-3), 1600)], []) [] [] [] [] [] [] none 0 0)])
theorem wf_162 : cq_wfC ct_162 = true := by decide +kernel
def lp_162 (pc : Nat) : Option (Option (Nat × Nat) × cq_Lp) := none
theorem ok_162 : cq_CT 162 ct_162 := cq_meth (f := 100000) (cts := cq_t0) (lps := lp_162) cq_t0_ok wf_162 (by decide +kernel) (by decide +kernel)
def ct_164 : cq_Ct := (1, [(5, (0, []), 78), (1, (0, [(0, 1)]), 0)], cq_mk 1 ([(0, (-2147483648), 2147483647)], []) [] [] [] [] [] [] none 0 0, [(false, 78, 3, 0)], [(false, [(1, (0, [(1, 1)]), 0)], cq_mk 2 ([(1, (-1), 1600)], []) [] [] [] [] [] [] none 0 0)])
theorem wf_164 : cq_wfC ct_164 = true := by decide +kernel
def lp_164 (pc : Nat) : Option (Option (Nat × Nat) × cq_Lp) := none
theorem ok_164 : cq_CT 164 ct_164 := cq_meth (f := 100000) (cts := cq_t0) (lps := lp_164) cq_t0_ok wf_164 (by decide +kernel) (by decide +kernel)
def ct_166 : cq_Ct := (1, [(5, (0, []), 78), (1, (0, [(0, 1)]), 0)], cq_mk 1 ([(0, (-2147483648), 2147483647)], []) [] [] [] [] [] [] none 0 0, [(false, 78, 16, 0)], [(false, [(1, (0, [(1, 1)]), 0)], cq_mk 2 ([(1, (-2), 39997)], []) [] [] [] [] [] [] none 0 0)])
theorem wf_166 : cq_wfC ct_166 = true := by decide +kernel
def lp_166 (pc : Nat) : Option (Option (Nat × Nat) × cq_Lp) := none
theorem ok_166 : cq_CT 166 ct_166 := cq_meth (f := 100000) (cts := cq_t0) (lps := lp_166) cq_t0_ok wf_166 (by decide +kernel) (by decide +kernel)
def ct_170 : cq_Ct := (1, [(5, (0, []), 78)], cq_mk 2 ([(0, 0, 1600), (1, 0, 1600)], [(0, [(0, 1), (1, (-1))])]) [] [] [] [((false, 78), (3, []), (1, (0, [(0, 1)]), 0)), ((false, 78), (5, []), (1, (0, [(1, 1)]), 0))] [] [] none 0 0, [(false, 78, 5, 0), (false, 78, 6, 0), (false, 78, 7, 0), (false, 78, 8, 0)], [(false, [], cq_mk 4 ([(2, 0, 1600), (3, 0, 0)], [(0, [(0, 1), (2, (-1))]), (0, [(1, (-1)), (2, 1)])]) [] [] [] [((false, 78), (5, []), (1, (0, [(2, 1)]), 0)), ((false, 78), (6, []), (1, (0, [(3, 1)]), 0))] [] [] none 0 0), (false, [], cq_mk 4 ([(2, 0, 1600), (3, 1, 4)], [(0, [(0, 1), (2, (-1))]), ((-1), [(1, (-1)), (2, 1)])]) [] [] [] [((false, 78), (5, []), (1, (0, [(2, 1)]), 0)), ((false, 78), (6, []), (1, (0, [(3, 1)]), 0))] [] [] none 0 0)])
theorem wf_170 : cq_wfC ct_170 = true := by decide +kernel
def lp_170 (pc : Nat) : Option (Option (Nat × Nat) × cq_Lp) := bif Nat.beq pc 0 then some (none, ([(1, 78, 5, 0, 1600)], [], [(false, 78, 6, 0)], [(0, [(0, 1), (1, (-1))]), (0, [(0, (-1)), (2, 1)])], (0, true), [(78, 3)])) else bif Nat.beq pc 119 then some (none, ([(1, 78, 5, 1, 1600)], [], [(false, 78, 6, 0)], [(0, [(0, 1), (1, (-1))]), (0, [(0, (-1)), (2, 1)])], (0, true), [(78, 3)])) else bif Nat.beq pc 220 then some (none, ([(1, 78, 5, 1, 1600), (1, 78, 7, (-2147483648), 2147483647)], [], [(false, 78, 6, 0), (false, 78, 8, 0)], [(0, [(0, 1), (1, (-1))]), (0, [(0, (-1)), (4, 1)])], (0, true), [(78, 3)])) else none
theorem ok_170 : cq_CT 170 ct_170 := cq_meth (f := 100000) (cts := cq_t0) (lps := lp_170) cq_t0_ok wf_170 (by decide +kernel) (by decide +kernel)
def ct_175 : cq_Ct := (5, [(5, (0, []), 78), (6, (0, []), 0)], cq_mk 1 ([], []) [(0, true)] [(0, (2, 0, 0))] [] [] [] [] none 0 0, [], [(false, [(1, (0, [(1, 1)]), 0)], cq_mk 2 ([(1, 0, 1)], []) [] [] [] [] [] [] none 0 0)])
theorem wf_175 : cq_wfC ct_175 = true := by decide +kernel
def lp_175 (pc : Nat) : Option (Option (Nat × Nat) × cq_Lp) := bif Nat.beq pc 32 then some (none, ([(0, 2, 0, 0, 1), (0, 3, 0, 0, 1600)], [], [], [(0, [(0, (-1)), (1, 1)]), (0, [(2, 1), (3, (-1))])], (1, true), [])) else none
theorem ok_175 : cq_CT 175 ct_175 := cq_meth (f := 100000) (cts := cq_t0) (lps := lp_175) cq_t0_ok wf_175 (by decide +kernel) (by decide +kernel)
def ct_174 : cq_Ct := (7, [(5, (0, []), 78)], cq_mk 2 ([(0, 0, 1600), (1, 0, 1600)], [(0, [(0, 1), (1, (-1))])]) [] [] [] [((false, 78), (3, []), (1, (0, [(0, 1)]), 0)), ((false, 78), (5, []), (1, (0, [(1, 1)]), 0))] [] [] none 0 0, [(false, 78, 10, 0), (false, 78, 5, 0), (false, 78, 6, 0), (false, 78, 7, 0), (false, 78, 8, 0), (false, 78, 9, 0), (false, 83, 0, 0), (false, 84, 0, 0), (false, 85, 0, 0)], [(false, [(1, (0, [(2, 1)]), 0)], cq_mk 4 ([(2, (-2147483648), 2147483647), (3, 2, 32)], []) [] [] [] [((false, 83), (1, []), (1, (0, [(3, 1)]), 0))] [] [] none 0 0), (true, [], cq_mk 2 ([], []) [] [] [] [] [] [] none 0 0)])
theorem wf_174 : cq_wfC ct_174 = true := by decide +kernel
def lp_174 (pc : Nat) : Option (Option (Nat × Nat) × cq_Lp) := bif Nat.beq pc 70 then some (some (78, 6), ([(1, 78, 4, 0, 1600), (1, 78, 5, 0, 1600), (1, 78, 6, 0, 4), (1, 78, 7, (-2147483648), 2147483647), (1, 83, 1, 2, 32), (0, 1, 0, (-2147483648), 2147483647)], [2], [(false, 78, 5, 0), (false, 78, 6, 0), (false, 78, 7, 0), (false, 78, 8, 0), (false, 83, 0, 0), (false, 84, 0, 0), (false, 85, 0, 0)], [(0, [(2, 1), (3, (-1))]), (0, [(2, (-1)), (12, 1)])], (1, true), [(78, 3)])) else none
theorem ok_174 : cq_CT 174 ct_174 := cq_meth (f := 100000) (cts := (cq_tc 170 ct_170 (cq_tc 175 ct_175 cq_t0))) (lps := lp_174) (cq_tc_ok wf_170 ok_170 (cq_tc_ok wf_175 ok_175 cq_t0_ok)) wf_174 (by decide +kernel) (by decide +kernel)
