/-! CONTRACTS: a first try -/
def ct_94 : cq_Ct := (20, [(5, (0, []), 48), (1, (0, [(0, 1)]), 0), (1, (0, [(1, 1)]), 0)], cq_mk 2 ([(0, (-2147483648), 2147483647), (1, (-2147483648), 2147483647)], []) [] [] [] [] [] [] none 0 0, [], [(false, [(1, (0, [(2, 1)]), 0)], cq_mk 3 ([(2, (-2147483648), 2147483647)], []) [] [] [] [] [] [] none 0 0)])
def lp_94 (pc : Nat) : Option (Option (Nat × Nat) × cq_Lp) := bif Nat.beq pc 7 then some (none, ([(0, 3, 0, (-1), 59)], [], [], [(0, [(0, (-1)), (1, 1)])], (0, false), [])) else none
theorem ok_94 : cq_CT 94 ct_94 := cq_meth (f := 100000) (cts := fun _ => none) (lps := lp_94) (fun z c q => by cases q) (by decide +kernel) (by decide +kernel) (by decide +kernel)
def ct_30 : cq_Ct := (20, [(5, (0, []), 41)], cq_mk 0 ([], []) [] [] [] [] [] [] none 0 0, [], [(false, [(1, (0, [(0, 1)]), 0)], cq_mk 1 ([(0, (-2147483648), 2147483647)], []) [] [] [] [] [] [] none 0 0)])
def lp_30 (pc : Nat) : Option (Option (Nat × Nat) × cq_Lp) := bif Nat.beq pc 7 then some (none, ([(0, 1, 0, (-2147483648), 2147483647), (0, 2, 0, 0, 1600)], [], [], [(0, [(2, 1), (3, (-1))])], (1, true), [])) else none
theorem ok_30 : cq_CT 30 ct_30 := cq_meth (f := 100000) (cts := fun _ => none) (lps := lp_30) (fun z c q => by cases q) (by decide +kernel) (by decide +kernel) (by decide +kernel)
