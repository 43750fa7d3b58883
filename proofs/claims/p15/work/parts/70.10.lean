/-! CONTRACTS: 213 215 217 221 222 222r 222g 220 220r 218 223 224 225 227c 231 231g 230 230g 230e 233g 233s 236 237 242 241 -/
def ct_213 : cq_Ct := (2, [(5, (0, []), 78), (1, (0, [(0, 1)]), 0), (1, (0, [(1, 1)]), 0)], cq_mk 2 ([(0, (-2147483648), 2147483647), (1, (-2147483648), 2147483647)], []) [] [] [] [] [] [] none 0 0, [], [(false, [(1, (0, [(2, 1)]), 0)], cq_mk 3 ([(2, (-2147483648), 2147483647)], []) [] [] [] [] [] [] none 0 0)])
theorem wf_213 : cq_wfC ct_213 = true := by decide +kernel
def lp_213 (pc : Nat) : Option (Option (Nat × Nat) × cq_Lp) := none
theorem ok_213 : cq_CT 213 ct_213 := cq_meth (f := 100000) (cts := cq_t0) (lps := lp_213) cq_t0_ok wf_213 (by decide +kernel) (by decide +kernel)
def ct_215 : cq_Ct := (2, [(5, (0, []), 78), (1, (0, [(0, 1)]), 0), (1, (0, [(1, 1)]), 0)], cq_mk 2 ([(0, (-2147483648), 2147483647), (1, (-2147483648), 2147483647)], []) [] [] [] [] [] [] none 0 0, [(false, 112, 0, 0), (false, 113, 0, 0)], [(false, [(1, (0, [(2, 1)]), 0)], cq_mk 3 ([(2, (-4), 1)], []) [] [] [] [] [] [] none 0 0)])
theorem wf_215 : cq_wfC ct_215 = true := by decide +kernel
def lp_215 (pc : Nat) : Option (Option (Nat × Nat) × cq_Lp) := none
theorem ok_215 : cq_CT 215 ct_215 := cq_meth (f := 100000) (cts := cq_t0) (lps := lp_215) cq_t0_ok wf_215 (by decide +kernel) (by decide +kernel)
def ct_217 : cq_Ct := (2, [(5, (0, []), 78), (1, (0, [(0, 1)]), 0), (1, (0, [(1, 1)]), 0)], cq_mk 2 ([(0, (-2147483648), 2147483647), (1, (-2147483648), 2147483647)], []) [] [] [] [] [] [] none 0 0, [(false, 114, 0, 0), (false, 115, 0, 0), (false, 116, 0, 0), (false, 78, 37, 0)], [(false, [(1, (0, [(2, 1)]), 0)], cq_mk 3 ([(2, (-3), 60)], []) [] [] [] [] [] [] none 0 0)])
theorem wf_217 : cq_wfC ct_217 = true := by decide +kernel
def lp_217 (pc : Nat) : Option (Option (Nat × Nat) × cq_Lp) := none
theorem ok_217 : cq_CT 217 ct_217 := cq_meth (f := 100000) (cts := cq_t0) (lps := lp_217) cq_t0_ok wf_217 (by decide +kernel) (by decide +kernel)
def ct_221 : cq_Ct := (0, [(5, (0, []), 78), (1, (0, [(0, 1)]), 0), (1, (0, [(1, 1)]), 0), (1, (0, [(2, 1)]), 0), (1, (0, [(3, 1)]), 0)], cq_mk 4 ([(0, (-2147483648), 2147483647), (1, 0, 5), (2, (-2147483648), 2147483647), (3, (-2147483648), 2147483647)], []) [] [] [] [] [] [] none 0 0, [], [(false, [(1, (0, [(4, 1)]), 0)], cq_mk 5 ([(4, 0, 1)], []) [] [] [] [] [] [] none 0 0)])
theorem wf_221 : cq_wfC ct_221 = true := by decide +kernel
def lp_221 (pc : Nat) : Option (Option (Nat × Nat) × cq_Lp) := bif Nat.beq pc 6 then some (none, ([(0, 5, 0, (-2147483648), 2147483647), (0, 6, 0, 0, 60)], [], [], [(0, [(2, 1), (3, (-1))])], (1, true), [])) else none
theorem ok_221 : cq_CT 221 ct_221 := cq_meth (f := 100000) (cts := cq_t0) (lps := lp_221) cq_t0_ok wf_221 (by decide +kernel) (by decide +kernel)
def ct_222 : cq_Ct := (0, [(5, (0, []), 78), (1, (0, [(0, 1)]), 0), (1, (0, [(1, 1)]), 0)], cq_mk 2 ([(0, (-2147483648), 2147483647), (1, (-2147483648), 2147483647)], []) [] [] [] [] [] [] none 0 0, [], [(false, [(1, (0, [(2, 1)]), 0)], cq_mk 3 ([(2, (-1), 79)], []) [] [] [] [] [] [] none 0 0)])
theorem wf_222 : cq_wfC ct_222 = true := by decide +kernel
def lp_222 (pc : Nat) : Option (Option (Nat × Nat) × cq_Lp) := bif Nat.beq pc 5 then some (none, ([(0, 3, 0, (-1), 79), (0, 4, 0, 0, 80)], [], [], [(0, [(0, 1), (1, (-1))]), (0, [(2, 1), (3, (-1))])], (1, true), [])) else none
theorem ok_222 : cq_CT 222 ct_222 := cq_meth (f := 100000) (cts := cq_t0) (lps := lp_222) cq_t0_ok wf_222 (by decide +kernel) (by decide +kernel)
def ct_222r : cq_Ct := (0, [(5, (0, []), 78), (1, (0, [(0, 1)]), 0), (1, (0, [(1, 1)]), 0)], cq_mk 2 ([(0, 0, 39), (1, 0, 29999)], []) [] [] [] [] [] [] none 0 0, [], [(false, [(1, (0, [(2, 1)]), 0)], cq_mk 3 ([(2, (-1), 79)], []) [] [] [] [] [] [] none 0 0)])
theorem wf_222r : cq_wfC ct_222r = true := by decide +kernel
def lp_222r (pc : Nat) : Option (Option (Nat × Nat) × cq_Lp) := bif Nat.beq pc 5 then some (none, ([(0, 3, 0, (-1), 79), (0, 4, 0, 0, 80)], [], [], [(0, [(0, 1), (1, (-1))]), (0, [(2, 1), (3, (-1))])], (1, true), [])) else none
theorem ok_222r : cq_CT 222 ct_222r := cq_meth (f := 100000) (cts := cq_t0) (lps := lp_222r) cq_t0_ok wf_222r (by decide +kernel) (by decide +kernel)
def ct_222g : cq_Ct := cq_fn 222 (0, [(0, 1), (1, 65536)]) ct_222r
theorem wf_222g : cq_wfC ct_222g = true := by decide +kernel
theorem ok_222g : cq_CT 222 ct_222g := cq_fun (by decide) (by decide) wf_222r ok_222r rfl (by decide +kernel) (fun h ρ as M g => cq_dec2 g (M.P.1 (0, 0, 39) List.mem_cons_self) (M.P.1 (1, 0, 29999) (List.mem_cons_of_mem _ List.mem_cons_self)) (by decide) (by decide) (by decide) (by decide))
def ct_220 : cq_Ct := (1, [(5, (0, []), 78), (1, (0, [(0, 1)]), 0), (1, (0, [(1, 1)]), 0), (1, (0, [(2, 1)]), 0), (1, (0, [(3, 1)]), 0)], cq_mk 4 ([(0, 0, 39), (1, 0, 5), (2, (-2147483648), 2147483647), (3, (-2147483648), 2147483647)], []) [] [] [] [] [] [] none 0 0, [], [(false, [(1, (0, [(4, 1)]), 0)], cq_mk 5 ([(4, 0, 2)], []) [] [] [] [] [] [] none 0 0)])
theorem wf_220 : cq_wfC ct_220 = true := by decide +kernel
def lp_220 (pc : Nat) : Option (Option (Nat × Nat) × cq_Lp) := none
theorem ok_220 : cq_CT 220 ct_220 := cq_meth (f := 100000) (cts := (cq_tc 221 ct_221 (cq_tc 222 ct_222 cq_t0))) (lps := lp_220) (cq_tc_ok wf_221 ok_221 (cq_tc_ok wf_222 ok_222 cq_t0_ok)) wf_220 (by decide +kernel) (by decide +kernel)
def ct_220r : cq_Ct := (1, [(5, (0, []), 78), (1, (0, [(0, 1)]), 0), (1, (0, [(1, 1)]), 0), (1, (0, [(2, 1)]), 0), (1, (0, [(3, 1)]), 0)], cq_mk 5 ([(0, 0, 39), (1, 0, 5), (2, (-2147483648), 2147483647), (3, 0, 29999), (4, (-2147483648), 2147483647)], []) [] [] [] [] [] [((0, [(0, 1), (3, 65536)]), (1000000000222, []), (0, [(4, 1)]))] none 0 0, [], [(false, [(1, (0, []), 0)], cq_mk 5 ([], []) [] [] [] [] [] [] none 0 0), (false, [(1, (2, []), 0)], cq_mk 5 ([], []) [] [] [] [] [] [] none 0 0), (false, [(1, (1, []), 0)], cq_mk 5 ([], [(0, [(4, 1)])]) [] [] [] [] [] [] none 0 0)])
theorem wf_220r : cq_wfC ct_220r = true := by decide +kernel
def lp_220r (pc : Nat) : Option (Option (Nat × Nat) × cq_Lp) := none
theorem ok_220r : cq_CT 220 ct_220r := cq_meth (f := 100000) (cts := (cq_tc 221 ct_221 (cq_tc 222 ct_222g cq_t0))) (lps := lp_220r) (cq_tc_ok wf_221 ok_221 (cq_tc_gh (ni_UT (by decide +kernel)) wf_222g ok_222g cq_t0_ok)) wf_220r (by decide +kernel) (by decide +kernel)
def ct_218 : cq_Ct := (2, [(5, (0, []), 78), (1, (0, [(0, 1)]), 0), (1, (0, [(1, 1)]), 0), (1, (0, [(2, 1)]), 0), (1, (0, [(3, 1)]), 0)], cq_mk 4 ([(0, (-2147483648), 2147483647), (1, (-2147483648), 2147483647), (2, (-2147483648), 2147483647), (3, (-2147483648), 2147483647)], []) [] [] [] [] [] [] none 0 0, [], [(false, [(1, (0, [(4, 1)]), 0)], cq_mk 5 ([(4, (-2), 2)], []) [] [] [] [] [] [] none 0 0)])
theorem wf_218 : cq_wfC ct_218 = true := by decide +kernel
def lp_218 (pc : Nat) : Option (Option (Nat × Nat) × cq_Lp) := none
theorem ok_218 : cq_CT 218 ct_218 := cq_meth (f := 100000) (cts := (cq_tc 220 ct_220 cq_t0)) (lps := lp_218) (cq_tc_ok wf_220 ok_220 cq_t0_ok) wf_218 (by decide +kernel) (by decide +kernel)
def ct_223 : cq_Ct := (2, [(5, (0, []), 78), (1, (0, [(0, 1)]), 0), (1, (0, [(1, 1)]), 0)], cq_mk 2 ([(0, (-2147483648), 2147483647), (1, (-2147483648), 2147483647)], []) [] [] [] [] [] [] none 0 0, [], [(false, [(1, (0, [(2, 1)]), 0)], cq_mk 3 ([(2, (-2), 79)], []) [] [] [] [] [] [] none 0 0)])
theorem wf_223 : cq_wfC ct_223 = true := by decide +kernel
def lp_223 (pc : Nat) : Option (Option (Nat × Nat) × cq_Lp) := none
theorem ok_223 : cq_CT 223 ct_223 := cq_meth (f := 100000) (cts := (cq_tc 222 ct_222 cq_t0)) (lps := lp_223) (cq_tc_ok wf_222 ok_222 cq_t0_ok) wf_223 (by decide +kernel) (by decide +kernel)
def ct_224 : cq_Ct := (2, [(5, (0, []), 78), (1, (0, [(0, 1)]), 0), (1, (0, [(1, 1)]), 0)], cq_mk 2 ([(0, (-2147483648), 2147483647), (1, (-2147483648), 2147483647)], []) [] [] [] [] [] [] none 0 0, [(false, 78, 52, 0), (false, 78, 53, 0)], [(false, [(1, (0, [(2, 1)]), 0)], cq_mk 3 ([(2, (-2), 1)], []) [] [] [] [] [] [] none 0 0)])
theorem wf_224 : cq_wfC ct_224 = true := by decide +kernel
def lp_224 (pc : Nat) : Option (Option (Nat × Nat) × cq_Lp) := none
theorem ok_224 : cq_CT 224 ct_224 := cq_meth (f := 100000) (cts := cq_t0) (lps := lp_224) cq_t0_ok wf_224 (by decide +kernel) (by decide +kernel)
def ct_225 : cq_Ct := (2, [(5, (0, []), 78), (1, (0, [(0, 1)]), 0)], cq_mk 1 ([(0, (-2147483648), 2147483647)], []) [] [] [] [] [] [] none 0 0, [(false, 117, 0, 0), (false, 78, 54, 0), (false, 78, 55, 0), (false, 78, 76, 0)], [(false, [(1, (0, [(1, 1)]), 0)], cq_mk 2 ([(1, (-4), 13)], []) [] [] [] [] [] [] none 0 0)])
theorem wf_225 : cq_wfC ct_225 = true := by decide +kernel
def lp_225 (pc : Nat) : Option (Option (Nat × Nat) × cq_Lp) := bif Nat.beq pc 13 then some (none, ([(0, 2, 0, 0, 14)], [], [], [(0, [(0, 1), (1, (-1))])], (0, true), [])) else none
theorem ok_225 : cq_CT 225 ct_225 := cq_meth (f := 100000) (cts := cq_t0) (lps := lp_225) cq_t0_ok wf_225 (by decide +kernel) (by decide +kernel)
def ct_227c : cq_Ct := (1, [(5, (0, []), 78), (1, (0, [(0, 1)]), 0)], cq_mk 2 ([(0, (-2147483648), 2147483647), (1, 0, 14)], []) [] [] [] [((false, 78), (53, []), (1, (0, [(1, 1)]), 0))] [] [] none 0 0, [], [(false, [(1, (1, []), 0)], cq_mk 2 ([], [(0, [(0, 1)]), ((-1), [(0, (-1)), (1, 1)])]) [] [] [] [] [] [] none 0 0), (false, [(1, (0, []), 0)], cq_mk 2 ([], []) [] [] [] [] [] [] none 0 0)])
theorem wf_227c : cq_wfC ct_227c = true := by decide +kernel
def lp_227c (pc : Nat) : Option (Option (Nat × Nat) × cq_Lp) := none
theorem ok_227c : cq_CT 227 ct_227c := cq_meth (f := 100000) (cts := cq_t0) (lps := lp_227c) cq_t0_ok wf_227c (by decide +kernel) (by decide +kernel)
def ct_231 : cq_Ct := (2, [(5, (0, []), 78), (1, (0, [(0, 1)]), 0)], cq_mk 1 ([(0, 0, 39)], []) [] [] [] [] [] [] none 0 0, [], [(false, [(1, (0, [(1, 1)]), 0)], cq_mk 2 ([(1, 0, 1)], []) [] [] [] [] [] [] none 0 0)])
theorem wf_231 : cq_wfC ct_231 = true := by decide +kernel
def lp_231 (pc : Nat) : Option (Option (Nat × Nat) × cq_Lp) := bif Nat.beq pc 2 then some (none, ([(0, 2, 0, 0, 6)], [], [], [(0, [(0, 1), (1, (-1))])], (0, true), [])) else none
theorem ok_231 : cq_CT 231 ct_231 := cq_meth (f := 100000) (cts := (cq_tc 220 ct_220 cq_t0)) (lps := lp_231) (cq_tc_ok wf_220 ok_220 cq_t0_ok) wf_231 (by decide +kernel) (by decide +kernel)
def ct_231g : cq_Ct := cq_fn 231 (0, [(0, 1)]) ct_231
theorem wf_231g : cq_wfC ct_231g = true := by decide +kernel
theorem ok_231g : cq_CT 231 ct_231g := cq_fun (by decide) (by decide) wf_231 ok_231 rfl (by decide +kernel) (fun h ρ as M g => cq_dec1 g (M.P.1 (0, 0, 39) List.mem_cons_self) (by decide) (by decide))
def ct_230 : cq_Ct := (3, [(5, (0, []), 78), (1, (0, [(0, 1)]), 0)], cq_mk 1 ([(0, 0, 39)], []) [] [] [] [] [] [] none 0 0, [], [(false, [(1, (0, [(1, 1)]), 0)], cq_mk 2 ([(1, (-1), 2)], []) [] [] [] [] [] [] none 0 0)])
theorem wf_230 : cq_wfC ct_230 = true := by decide +kernel
def lp_230 (pc : Nat) : Option (Option (Nat × Nat) × cq_Lp) := none
theorem ok_230 : cq_CT 230 ct_230 := cq_meth (f := 100000) (cts := (cq_tc 222 ct_222 (cq_tc 231 ct_231 cq_t0))) (lps := lp_230) (cq_tc_ok wf_222 ok_222 (cq_tc_ok wf_231 ok_231 cq_t0_ok)) wf_230 (by decide +kernel) (by decide +kernel)
def ct_230g : cq_Ct := cq_fn 230 (0, [(0, 1)]) ct_230
theorem wf_230g : cq_wfC ct_230g = true := by decide +kernel
theorem ok_230g : cq_CT 230 ct_230g := cq_fun (by decide) (by decide) wf_230 ok_230 rfl (by decide +kernel) (fun h ρ as M g => cq_dec1 g (M.P.1 (0, 0, 39) List.mem_cons_self) (by decide) (by decide))
def ct_230e : cq_Ct := (3, [(5, (0, []), 78), (1, (0, [(0, 1)]), 0)], cq_mk 2 ([(0, 0, 39), (1, 0, 3)], []) [] [] [] [((false, 92), (0, [(0, 1)]), (1, (0, [(1, 1)]), 0))] [] [] none 0 0, [], [(false, [(1, (0, [(2, 1)]), 0)], cq_mk 3 ([(2, (-1), 2)], [((-1), [(1, 1), (2, (-1))])]) [] [] [] [] [] [] none 0 0)])
theorem wf_230e : cq_wfC ct_230e = true := by decide +kernel
def lp_230e (pc : Nat) : Option (Option (Nat × Nat) × cq_Lp) := none
theorem ok_230e : cq_CT 230 ct_230e := cq_meth (f := 100000) (cts := (cq_tc 222 ct_222 (cq_tc 231 ct_231 cq_t0))) (lps := lp_230e) (cq_tc_ok wf_222 ok_222 (cq_tc_ok wf_231 ok_231 cq_t0_ok)) wf_230e (by decide +kernel) (by decide +kernel)
def ct_233g : cq_Ct := (4, [(5, (0, []), 78), (1, (0, [(0, 1)]), 0)], cq_mk 2 ([(0, 0, 39), (1, 0, 2147483647)], []) [] [] [] [] [] [((0, [(0, 1)]), (1000000000230, []), (0, [(1, 1)]))] none 0 0, [], [(false, [(1, (0, [(2, 1)]), 0)], cq_mk 3 ([(2, 0, 30)], []) [] [] [] [] [] [] none 0 0)])
theorem wf_233g : cq_wfC ct_233g = true := by decide +kernel
def lp_233g (pc : Nat) : Option (Option (Nat × Nat) × cq_Lp) := none
theorem ok_233g : cq_CT 233 ct_233g := cq_meth (f := 100000) (cts := (cq_tc 230 ct_230g cq_t0)) (lps := lp_233g) (cq_tc_gh (ni_UT (by decide +kernel)) wf_230g ok_230g cq_t0_ok) wf_233g (by decide +kernel) (by decide +kernel)
def ct_233s : cq_Ct := (4, [(5, (0, []), 78), (1, (0, [(0, 1)]), 0)], cq_mk 3 ([(0, 0, 39), (1, 0, 2), (2, 1, 30)], []) [] [] [] [((false, 93), (0, [(0, 3), (1, 1)]), (1, (0, [(2, 1)]), 0))] [] [((0, [(0, 1)]), (1000000000230, []), (0, [(1, 1)]))] none 0 0, [], [(false, [(1, (0, [(2, 1)]), 0)], cq_mk 3 ([], []) [] [] [] [] [] [] none 0 0)])
theorem wf_233s : cq_wfC ct_233s = true := by decide +kernel
def lp_233s (pc : Nat) : Option (Option (Nat × Nat) × cq_Lp) := none
theorem ok_233s : cq_CT 233 ct_233s := cq_meth (f := 100000) (cts := (cq_tc 230 ct_230g cq_t0)) (lps := lp_233s) (cq_tc_gh (ni_UT (by decide +kernel)) wf_230g ok_230g cq_t0_ok) wf_233s (by decide +kernel) (by decide +kernel)
def ct_236 : cq_Ct := (0, [(5, (0, []), 78), (1, (0, [(0, 1)]), 0)], cq_mk 1 ([(0, (-2147483648), 2147483647)], []) [] [] [] [] [] [] none 0 0, [(false, 122, 0, 0), (false, 78, 63, 0), (false, 78, 64, 0), (false, 78, 65, 0)], [(false, [(1, (0, [(1, 1)]), 0)], cq_mk 2 ([(1, 0, 1)], []) [] [] [] [] [] [] none 0 0)])
theorem wf_236 : cq_wfC ct_236 = true := by decide +kernel
def lp_236 (pc : Nat) : Option (Option (Nat × Nat) × cq_Lp) := bif Nat.beq pc 24 then some (none, ([(0, 3, 0, 0, 20)], [], [(false, 122, 0, 0)], [(0, [(0, 1), (1, (-1))])], (0, true), [])) else bif Nat.beq pc 45 then some (none, ([(1, 78, 62, (-2147483648), 2147483647), (1, 78, 63, (-2147483648), 2147483647), (1, 78, 64, (-2147483648), 2147483647), (0, 2, 0, 0, 1), (0, 3, 0, 0, 14)], [4], [(false, 122, 0, 0), (false, 78, 63, 0), (false, 78, 64, 0), (false, 78, 65, 0)], [(0, [(6, (-1)), (7, 1)]), (0, [(8, 1), (9, (-1))])], (4, true), [])) else none
theorem ok_236 : cq_CT 236 ct_236 := cq_meth (f := 100000) (cts := cq_t0) (lps := lp_236) cq_t0_ok wf_236 (by decide +kernel) (by decide +kernel)
def ct_237 : cq_Ct := (0, [(5, (0, []), 78)], cq_mk 0 ([], []) [] [] [] [] [] [] none 0 0, [], [(false, [(1, (0, [(0, 1)]), 0)], cq_mk 1 ([(0, (-2147483648), 2147483647)], []) [] [] [] [] [] [] none 0 0)])
theorem wf_237 : cq_wfC ct_237 = true := by decide +kernel
def lp_237 (pc : Nat) : Option (Option (Nat × Nat) × cq_Lp) := none
theorem ok_237 : cq_CT 237 ct_237 := cq_meth (f := 100000) (cts := cq_t0) (lps := lp_237) cq_t0_ok wf_237 (by decide +kernel) (by decide +kernel)
def ct_242 : cq_Ct := (3, [(5, (0, []), 78), (1, (0, [(0, 1)]), 0), (1, (0, [(1, 1)]), 0)], cq_mk 2 ([(0, 0, 39), (1, (-2147483648), 2147483647)], []) [] [] [] [] [] [] none 0 0, [], [(false, [(1, (0, [(2, 1)]), 0)], cq_mk 3 ([(2, 0, 1)], []) [] [] [] [] [] [] none 0 0)])
theorem wf_242 : cq_wfC ct_242 = true := by decide +kernel
def lp_242 (pc : Nat) : Option (Option (Nat × Nat) × cq_Lp) := none
theorem ok_242 : cq_CT 242 ct_242 := cq_meth (f := 100000) (cts := (cq_tc 222 ct_222 (cq_tc 231 ct_231 cq_t0))) (lps := lp_242) (cq_tc_ok wf_222 ok_222 (cq_tc_ok wf_231 ok_231 cq_t0_ok)) wf_242 (by decide +kernel) (by decide +kernel)
def ct_241 : cq_Ct := (4, [(5, (0, []), 78), (1, (0, [(0, 1)]), 0), (1, (0, [(1, 1)]), 0)], cq_mk 2 ([(0, 0, 13), (1, 0, 13)], []) [] [] [] [] [] [] none 0 0, [], [(false, [(1, (0, [(2, 1)]), 0)], cq_mk 3 ([(2, 0, 1)], []) [] [] [] [] [] [] none 0 0)])
theorem wf_241 : cq_wfC ct_241 = true := by decide +kernel
def lp_241 (pc : Nat) : Option (Option (Nat × Nat) × cq_Lp) := none
theorem ok_241 : cq_CT 241 ct_241 := cq_meth (f := 100000) (cts := (cq_tc 242 ct_242 cq_t0)) (lps := lp_241) (cq_tc_ok wf_242 ok_242 cq_t0_ok) wf_241 (by decide +kernel) (by decide +kernel)
