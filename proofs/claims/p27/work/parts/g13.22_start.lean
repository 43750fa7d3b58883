/-! THE START -/
def am_sv (k j : Nat) : Int32 := bif Nat.beq k 1 then (bif Nat.blt j 3 then (bif Nat.blt j 1 then (20) else (bif Nat.blt j 2 then (8) else (2))) else (bif Nat.blt j 5 then (bif Nat.blt j 4 then (4) else (4)) else (bif Nat.blt j 6 then (99999) else (9)))) else bif Nat.beq k 2 then (bif Nat.blt j 3 then (bif Nat.blt j 1 then (6) else (bif Nat.blt j 2 then (2) else (0))) else (bif Nat.blt j 5 then (bif Nat.blt j 4 then (0) else (1)) else (bif Nat.blt j 6 then (0) else (1)))) else bif Nat.beq k 3 then (bif Nat.blt j 3 then (bif Nat.blt j 1 then (60) else (bif Nat.blt j 2 then (32) else (4))) else (bif Nat.blt j 5 then (bif Nat.blt j 4 then (30) else (40)) else (bif Nat.blt j 6 then (99999) else (9)))) else bif Nat.beq k 4 then (bif Nat.blt j 3 then (bif Nat.blt j 1 then (20) else (bif Nat.blt j 2 then (8) else (2))) else (bif Nat.blt j 5 then (bif Nat.blt j 4 then (4) else (4)) else (bif Nat.blt j 6 then (99999) else (9)))) else bif Nat.beq k 5 then (bif Nat.blt j 3 then (bif Nat.blt j 1 then (6) else (bif Nat.blt j 2 then (2) else (0))) else (bif Nat.blt j 5 then (bif Nat.blt j 4 then (0) else (1)) else (bif Nat.blt j 6 then (0) else (1)))) else bif Nat.beq k 6 then (bif Nat.blt j 3 then (bif Nat.blt j 1 then (60) else (bif Nat.blt j 2 then (32) else (4))) else (bif Nat.blt j 5 then (bif Nat.blt j 4 then (30) else (40)) else (bif Nat.blt j 6 then (99999) else (9)))) else 0
def am_sh0 (L k : Nat) : am_Sh := bif Nat.beq k 0 then (2, 0, L) else bif Nat.blt k 7 then (2, 0, 7) else (3, 0, 0)
def am_V0 (xs : Nat → Int32) (k j : Nat) : Value := bif Nat.beq k 0 then .int (xs j) else .int (am_sv k j)
def am_h0 (L : Nat) (xs : Nat → Int32) : am_H := (40, 0, am_sh0 L, am_V0 xs)
theorem am_sk1 {b : Nat} {s : State} (hs : ∀ c ∈ flatC (Jvm.Cond.and given_1 narrow_1), c.before #[Value.ref b] s = true) : ∃ t : Nat, (Term.static "PoetsBook$Rules" "AT_FIRST" "[I").eval #[Value.ref b] s none [] s = some (.ref t) ∧ va_T .int t 7 (fun j => Value.int (am_sv 1 j)) (fun q => s.heap.size ≤ q) s s.heap := by
  refine va_Tof (N := 7) (by decide) (hs (Cond.arrayOf (Term.static "PoetsBook$Rules" "AT_FIRST" "[I") .int) (by decide +kernel)) (va_eqt (hs (Cond.eq (Term.length (Term.static "PoetsBook$Rules" "AT_FIRST" "[I")) (Term.int 7)) (by decide +kernel))) (fun j hj => ?_) (fun a ha q => absurd ha (Nat.not_lt.mpr q))
  rcases (show j = 0 ∨ j = 1 ∨ j = 2 ∨ j = 3 ∨ j = 4 ∨ j = 5 ∨ j = 6 by omega) with rfl | rfl | rfl | rfl | rfl | rfl | rfl
  · exact va_eqt (hs (Cond.eq (Term.elem (Term.static "PoetsBook$Rules" "AT_FIRST" "[I") (Term.int 0)) (Term.int 20)) (by decide +kernel))
  · exact va_eqt (hs (Cond.eq (Term.elem (Term.static "PoetsBook$Rules" "AT_FIRST" "[I") (Term.int 1)) (Term.int 8)) (by decide +kernel))
  · exact va_eqt (hs (Cond.eq (Term.elem (Term.static "PoetsBook$Rules" "AT_FIRST" "[I") (Term.int 2)) (Term.int 2)) (by decide +kernel))
  · exact va_eqt (hs (Cond.eq (Term.elem (Term.static "PoetsBook$Rules" "AT_FIRST" "[I") (Term.int 3)) (Term.int 4)) (by decide +kernel))
  · exact va_eqt (hs (Cond.eq (Term.elem (Term.static "PoetsBook$Rules" "AT_FIRST" "[I") (Term.int 4)) (Term.int 4)) (by decide +kernel))
  · exact va_eqt (hs (Cond.eq (Term.elem (Term.static "PoetsBook$Rules" "AT_FIRST" "[I") (Term.int 5)) (Term.int 99999)) (by decide +kernel))
  · exact va_eqt (hs (Cond.eq (Term.elem (Term.static "PoetsBook$Rules" "AT_FIRST" "[I") (Term.int 6)) (Term.int 9)) (by decide +kernel))
theorem am_sk2 {b : Nat} {s : State} (hs : ∀ c ∈ flatC (Jvm.Cond.and given_1 narrow_1), c.before #[Value.ref b] s = true) : ∃ t : Nat, (Term.static "PoetsBook$Rules" "LEAST" "[I").eval #[Value.ref b] s none [] s = some (.ref t) ∧ va_T .int t 7 (fun j => Value.int (am_sv 2 j)) (fun q => s.heap.size ≤ q) s s.heap := by
  refine va_Tof (N := 7) (by decide) (hs (Cond.arrayOf (Term.static "PoetsBook$Rules" "LEAST" "[I") .int) (by decide +kernel)) (va_eqt (hs (Cond.eq (Term.length (Term.static "PoetsBook$Rules" "LEAST" "[I")) (Term.int 7)) (by decide +kernel))) (fun j hj => ?_) (fun a ha q => absurd ha (Nat.not_lt.mpr q))
  rcases (show j = 0 ∨ j = 1 ∨ j = 2 ∨ j = 3 ∨ j = 4 ∨ j = 5 ∨ j = 6 by omega) with rfl | rfl | rfl | rfl | rfl | rfl | rfl
  · exact va_eqt (hs (Cond.eq (Term.elem (Term.static "PoetsBook$Rules" "LEAST" "[I") (Term.int 0)) (Term.int 6)) (by decide +kernel))
  · exact va_eqt (hs (Cond.eq (Term.elem (Term.static "PoetsBook$Rules" "LEAST" "[I") (Term.int 1)) (Term.int 2)) (by decide +kernel))
  · exact va_eqt (hs (Cond.eq (Term.elem (Term.static "PoetsBook$Rules" "LEAST" "[I") (Term.int 2)) (Term.int 0)) (by decide +kernel))
  · exact va_eqt (hs (Cond.eq (Term.elem (Term.static "PoetsBook$Rules" "LEAST" "[I") (Term.int 3)) (Term.int 0)) (by decide +kernel))
  · exact va_eqt (hs (Cond.eq (Term.elem (Term.static "PoetsBook$Rules" "LEAST" "[I") (Term.int 4)) (Term.int 1)) (by decide +kernel))
  · exact va_eqt (hs (Cond.eq (Term.elem (Term.static "PoetsBook$Rules" "LEAST" "[I") (Term.int 5)) (Term.int 0)) (by decide +kernel))
  · exact va_eqt (hs (Cond.eq (Term.elem (Term.static "PoetsBook$Rules" "LEAST" "[I") (Term.int 6)) (Term.int 1)) (by decide +kernel))
theorem am_sk3 {b : Nat} {s : State} (hs : ∀ c ∈ flatC (Jvm.Cond.and given_1 narrow_1), c.before #[Value.ref b] s = true) : ∃ t : Nat, (Term.static "PoetsBook$Rules" "GREATEST" "[I").eval #[Value.ref b] s none [] s = some (.ref t) ∧ va_T .int t 7 (fun j => Value.int (am_sv 3 j)) (fun q => s.heap.size ≤ q) s s.heap := by
  refine va_Tof (N := 7) (by decide) (hs (Cond.arrayOf (Term.static "PoetsBook$Rules" "GREATEST" "[I") .int) (by decide +kernel)) (va_eqt (hs (Cond.eq (Term.length (Term.static "PoetsBook$Rules" "GREATEST" "[I")) (Term.int 7)) (by decide +kernel))) (fun j hj => ?_) (fun a ha q => absurd ha (Nat.not_lt.mpr q))
  rcases (show j = 0 ∨ j = 1 ∨ j = 2 ∨ j = 3 ∨ j = 4 ∨ j = 5 ∨ j = 6 by omega) with rfl | rfl | rfl | rfl | rfl | rfl | rfl
  · exact va_eqt (hs (Cond.eq (Term.elem (Term.static "PoetsBook$Rules" "GREATEST" "[I") (Term.int 0)) (Term.int 60)) (by decide +kernel))
  · exact va_eqt (hs (Cond.eq (Term.elem (Term.static "PoetsBook$Rules" "GREATEST" "[I") (Term.int 1)) (Term.int 32)) (by decide +kernel))
  · exact va_eqt (hs (Cond.eq (Term.elem (Term.static "PoetsBook$Rules" "GREATEST" "[I") (Term.int 2)) (Term.int 4)) (by decide +kernel))
  · exact va_eqt (hs (Cond.eq (Term.elem (Term.static "PoetsBook$Rules" "GREATEST" "[I") (Term.int 3)) (Term.int 30)) (by decide +kernel))
  · exact va_eqt (hs (Cond.eq (Term.elem (Term.static "PoetsBook$Rules" "GREATEST" "[I") (Term.int 4)) (Term.int 40)) (by decide +kernel))
  · exact va_eqt (hs (Cond.eq (Term.elem (Term.static "PoetsBook$Rules" "GREATEST" "[I") (Term.int 5)) (Term.int 99999)) (by decide +kernel))
  · exact va_eqt (hs (Cond.eq (Term.elem (Term.static "PoetsBook$Rules" "GREATEST" "[I") (Term.int 6)) (Term.int 9)) (by decide +kernel))
theorem am_sk4 {b : Nat} {s : State} (hs : ∀ c ∈ flatC (Jvm.Cond.and given_1 narrow_1), c.before #[Value.ref b] s = true) : ∃ t : Nat, (Term.static "PoetsBookModel" "PLAIN" "[I").eval #[Value.ref b] s none [] s = some (.ref t) ∧ va_T .int t 7 (fun j => Value.int (am_sv 4 j)) (fun q => s.heap.size ≤ q) s s.heap := by
  refine va_Tof (N := 7) (by decide) (hs (Cond.arrayOf (Term.static "PoetsBookModel" "PLAIN" "[I") .int) (by decide +kernel)) (va_eqt (hs (Cond.eq (Term.length (Term.static "PoetsBookModel" "PLAIN" "[I")) (Term.int 7)) (by decide +kernel))) (fun j hj => ?_) (fun a ha q => absurd ha (Nat.not_lt.mpr q))
  rcases (show j = 0 ∨ j = 1 ∨ j = 2 ∨ j = 3 ∨ j = 4 ∨ j = 5 ∨ j = 6 by omega) with rfl | rfl | rfl | rfl | rfl | rfl | rfl
  · exact va_eqt (hs (Cond.eq (Term.elem (Term.static "PoetsBookModel" "PLAIN" "[I") (Term.int 0)) (Term.int 20)) (by decide +kernel))
  · exact va_eqt (hs (Cond.eq (Term.elem (Term.static "PoetsBookModel" "PLAIN" "[I") (Term.int 1)) (Term.int 8)) (by decide +kernel))
  · exact va_eqt (hs (Cond.eq (Term.elem (Term.static "PoetsBookModel" "PLAIN" "[I") (Term.int 2)) (Term.int 2)) (by decide +kernel))
  · exact va_eqt (hs (Cond.eq (Term.elem (Term.static "PoetsBookModel" "PLAIN" "[I") (Term.int 3)) (Term.int 4)) (by decide +kernel))
  · exact va_eqt (hs (Cond.eq (Term.elem (Term.static "PoetsBookModel" "PLAIN" "[I") (Term.int 4)) (Term.int 4)) (by decide +kernel))
  · exact va_eqt (hs (Cond.eq (Term.elem (Term.static "PoetsBookModel" "PLAIN" "[I") (Term.int 5)) (Term.int 99999)) (by decide +kernel))
  · exact va_eqt (hs (Cond.eq (Term.elem (Term.static "PoetsBookModel" "PLAIN" "[I") (Term.int 6)) (Term.int 9)) (by decide +kernel))
theorem am_sk5 {b : Nat} {s : State} (hs : ∀ c ∈ flatC (Jvm.Cond.and given_1 narrow_1), c.before #[Value.ref b] s = true) : ∃ t : Nat, (Term.static "PoetsBookModel" "LOW" "[I").eval #[Value.ref b] s none [] s = some (.ref t) ∧ va_T .int t 7 (fun j => Value.int (am_sv 5 j)) (fun q => s.heap.size ≤ q) s s.heap := by
  refine va_Tof (N := 7) (by decide) (hs (Cond.arrayOf (Term.static "PoetsBookModel" "LOW" "[I") .int) (by decide +kernel)) (va_eqt (hs (Cond.eq (Term.length (Term.static "PoetsBookModel" "LOW" "[I")) (Term.int 7)) (by decide +kernel))) (fun j hj => ?_) (fun a ha q => absurd ha (Nat.not_lt.mpr q))
  rcases (show j = 0 ∨ j = 1 ∨ j = 2 ∨ j = 3 ∨ j = 4 ∨ j = 5 ∨ j = 6 by omega) with rfl | rfl | rfl | rfl | rfl | rfl | rfl
  · exact va_eqt (hs (Cond.eq (Term.elem (Term.static "PoetsBookModel" "LOW" "[I") (Term.int 0)) (Term.int 6)) (by decide +kernel))
  · exact va_eqt (hs (Cond.eq (Term.elem (Term.static "PoetsBookModel" "LOW" "[I") (Term.int 1)) (Term.int 2)) (by decide +kernel))
  · exact va_eqt (hs (Cond.eq (Term.elem (Term.static "PoetsBookModel" "LOW" "[I") (Term.int 2)) (Term.int 0)) (by decide +kernel))
  · exact va_eqt (hs (Cond.eq (Term.elem (Term.static "PoetsBookModel" "LOW" "[I") (Term.int 3)) (Term.int 0)) (by decide +kernel))
  · exact va_eqt (hs (Cond.eq (Term.elem (Term.static "PoetsBookModel" "LOW" "[I") (Term.int 4)) (Term.int 1)) (by decide +kernel))
  · exact va_eqt (hs (Cond.eq (Term.elem (Term.static "PoetsBookModel" "LOW" "[I") (Term.int 5)) (Term.int 0)) (by decide +kernel))
  · exact va_eqt (hs (Cond.eq (Term.elem (Term.static "PoetsBookModel" "LOW" "[I") (Term.int 6)) (Term.int 1)) (by decide +kernel))
theorem am_sk6 {b : Nat} {s : State} (hs : ∀ c ∈ flatC (Jvm.Cond.and given_1 narrow_1), c.before #[Value.ref b] s = true) : ∃ t : Nat, (Term.static "PoetsBookModel" "HIGH" "[I").eval #[Value.ref b] s none [] s = some (.ref t) ∧ va_T .int t 7 (fun j => Value.int (am_sv 6 j)) (fun q => s.heap.size ≤ q) s s.heap := by
  refine va_Tof (N := 7) (by decide) (hs (Cond.arrayOf (Term.static "PoetsBookModel" "HIGH" "[I") .int) (by decide +kernel)) (va_eqt (hs (Cond.eq (Term.length (Term.static "PoetsBookModel" "HIGH" "[I")) (Term.int 7)) (by decide +kernel))) (fun j hj => ?_) (fun a ha q => absurd ha (Nat.not_lt.mpr q))
  rcases (show j = 0 ∨ j = 1 ∨ j = 2 ∨ j = 3 ∨ j = 4 ∨ j = 5 ∨ j = 6 by omega) with rfl | rfl | rfl | rfl | rfl | rfl | rfl
  · exact va_eqt (hs (Cond.eq (Term.elem (Term.static "PoetsBookModel" "HIGH" "[I") (Term.int 0)) (Term.int 60)) (by decide +kernel))
  · exact va_eqt (hs (Cond.eq (Term.elem (Term.static "PoetsBookModel" "HIGH" "[I") (Term.int 1)) (Term.int 32)) (by decide +kernel))
  · exact va_eqt (hs (Cond.eq (Term.elem (Term.static "PoetsBookModel" "HIGH" "[I") (Term.int 2)) (Term.int 4)) (by decide +kernel))
  · exact va_eqt (hs (Cond.eq (Term.elem (Term.static "PoetsBookModel" "HIGH" "[I") (Term.int 3)) (Term.int 30)) (by decide +kernel))
  · exact va_eqt (hs (Cond.eq (Term.elem (Term.static "PoetsBookModel" "HIGH" "[I") (Term.int 4)) (Term.int 40)) (by decide +kernel))
  · exact va_eqt (hs (Cond.eq (Term.elem (Term.static "PoetsBookModel" "HIGH" "[I") (Term.int 5)) (Term.int 99999)) (by decide +kernel))
  · exact va_eqt (hs (Cond.eq (Term.elem (Term.static "PoetsBookModel" "HIGH" "[I") (Term.int 6)) (Term.int 9)) (by decide +kernel))
theorem am_sl1 : Cond.laysStatic "PoetsBook$Rules" "AT_FIRST" "[I" ∈ lw_tbl := show am_wt 180 ∈ lw_tbl from am_wt_in (by decide)
theorem am_sl2 : Cond.laysStatic "PoetsBook$Rules" "LEAST" "[I" ∈ lw_tbl := show am_wt 630 ∈ lw_tbl from am_wt_in (by decide)
theorem am_sl3 : Cond.laysStatic "PoetsBook$Rules" "GREATEST" "[I" ∈ lw_tbl := show am_wt 632 ∈ lw_tbl from am_wt_in (by decide)
theorem am_sl4 : Cond.laysStatic "PoetsBookModel" "PLAIN" "[I" ∈ lw_tbl := show am_wt 1377 ∈ lw_tbl from am_wt_in (by decide)
theorem am_sl5 : Cond.laysStatic "PoetsBookModel" "LOW" "[I" ∈ lw_tbl := show am_wt 1711 ∈ lw_tbl from am_wt_in (by decide)
theorem am_sl6 : Cond.laysStatic "PoetsBookModel" "HIGH" "[I" ∈ lw_tbl := show am_wt 1713 ∈ lw_tbl from am_wt_in (by decide)
theorem am_si1 : Cond.initialized "PoetsBook$Rules" ∈ lw_tbl := show am_wt 103 ∈ lw_tbl from am_wt_in (by decide)
theorem am_si2 : Cond.initialized "PoetsBookModel" ∈ lw_tbl := show am_wt 113 ∈ lw_tbl from am_wt_in (by decide)
theorem am_si3 : Cond.initialized "java/lang/Throwable" ∈ lw_tbl := show am_wt 114 ∈ lw_tbl from am_wt_in (by decide)
theorem am_sl7 : Cond.laysStatic "java/lang/Throwable" "UNASSIGNED_STACK" "[Ljava/lang/StackTraceElement;" ∈ lw_tbl := show am_wt 1342 ∈ lw_tbl from am_wt_in (by decide)
theorem am_sl8 : Cond.laysStatic "java/lang/Throwable" "SUPPRESSED_SENTINEL" "Ljava/util/List;" ∈ lw_tbl := show am_wt 1344 ∈ lw_tbl from am_wt_in (by decide)
theorem am_ao1 : Cond.arrayOver (.object (am_cn 1)) ∈ lw_tbl := show am_wt 319 ∈ lw_tbl from am_wt_in (by decide)
theorem am_ao3 : Cond.arrayOver (.object (am_cn 3)) ∈ lw_tbl := show am_wt 662 ∈ lw_tbl from am_wt_in (by decide)
theorem am_ao4 : Cond.arrayOver (.object (am_cn 4)) ∈ lw_tbl := show am_wt 218 ∈ lw_tbl from am_wt_in (by decide)
theorem am_ao6 : Cond.arrayOver (.object (am_cn 6)) ∈ lw_tbl := show am_wt 432 ∈ lw_tbl from am_wt_in (by decide)
theorem am_aoC {ci : Nat} (h : am_isA (ci + 4) = true) : Cond.arrayOver (.object (am_cn ci)) ∈ lw_tbl := by
  unfold am_isA at h
  simp only [Bool.or_eq_true] at h
  rcases h with (((q | q) | q) | q) | q
  · have := am_blt q; omega
  · have q := am_beq q
    obtain rfl : ci = 1 := by omega
    exact am_ao1
  · have q := am_beq q
    obtain rfl : ci = 3 := by omega
    exact am_ao3
  · have q := am_beq q
    obtain rfl : ci = 4 := by omega
    exact am_ao4
  · have q := am_beq q
    obtain rfl : ci = 6 := by omega
    exact am_ao6
theorem am_arrOf {s : State} {cA comp : ClassId} {k : Class} {ty : FieldType} (h1 : s.vm.classes[cA]? = some k) (h2 : k.kind = .array comp ty) : ArrOfT s cA ty := fun n z => ⟨(fun _ q => nomatch q), k, h1, comp, h2⟩
theorem am_sl9 : Cond.laysStatic "java/lang/String" "COMPACT_STRINGS" "Z" ∈ lw_tbl := (show am_wt 553 ∈ lw_tbl from am_wt_in (by decide))
theorem am_sl10 : Cond.laysStatic "jdk/internal/util/Preconditions" "SIOOBE_FORMATTER" "Ljava/util/function/BiFunction;" ∈ lw_tbl := (show am_wt 569 ∈ lw_tbl from am_wt_in (by decide))
theorem am_si4 : Cond.initialized "java/lang/String" ∈ lw_tbl := (show am_wt 117 ∈ lw_tbl from am_wt_in (by decide))
theorem am_si5 : Cond.initialized "jdk/internal/util/Preconditions" ∈ lw_tbl := (show am_wt 119 ∈ lw_tbl from am_wt_in (by decide))
def am_stm (i : Nat) : Term := .string (am_sRep.getD i ("", 0)).1 (am_sRep.getD i ("", 0)).2
def am_sreq (i : Nat) : List Cond := .exactly (am_stm i) "java/lang/String" :: .eq (.field (am_stm i) "java/lang/String" "coder" "B") (.int 0) :: .arrayOf (.field (am_stm i) "java/lang/String" "value" "[B") .byte :: .eq (.length (.field (am_stm i) "java/lang/String" "value" "[B")) (.int (Int32.ofNat (am_slen i))) :: (List.range (am_slen i)).map fun j => .eq (.elem (.field (am_stm i) "java/lang/String" "value" "[B") (.int (Int32.ofNat j))) (.int (Int32.ofNat (am_sch i j)))
set_option maxRecDepth 100000 in
theorem am_sreq_in : ∀ i, i < 16 → ∀ c ∈ am_sreq i, c ∈ flatC (Jvm.Cond.and given_1 narrow_1) := by decide +kernel
set_option maxRecDepth 100000 in
theorem am_srefs_in : ∀ q ∈ am_sRefW, (am_wt q.2 = .stringRef q.1.1 q.1.2.1 (am_stx.getD q.1.2.2 "") ∧ q.2 < am_nw ∧ q.1.2.2 < 16) ∧ (am_stm q.1.2.2 = .string q.1.1 q.1.2.1 ∨ Cond.eq (am_stm q.1.2.2) (.string q.1.1 q.1.2.1) ∈ flatC (Jvm.Cond.and given_1 narrow_1)) := by decide +kernel
theorem am_str1 {args : Array Value} {s : State} {A : Nat → Prop} (i : Nat) (hi : i < 16) (hs : ∀ c ∈ am_sreq i, c.before args s = true) (hA : ∀ a : Nat, a < s.heap.size → ¬ A a) : ∃ q : Nat × Nat, (am_stm i).eval args s none [] s = some (.ref q.1) ∧ va_O "java/lang/String" q.1 A s s.heap ∧ va_OF "java/lang/String" "coder" "B" (.int 0) q.1 A s s.heap ∧ va_OF "java/lang/String" "value" "[B" (.ref q.2) q.1 A s s.heap ∧ va_T .byte q.2 (am_slen i) (fun j => .int (Int32.ofNat (am_sch i j))) A s s.heap := by
  have hn : am_slen i < 2 ^ 31 := Nat.lt_trans (am_sl8s i hi) (by decide)
  have m1 := hs _ List.mem_cons_self
  have m2 := hs _ (List.mem_cons_of_mem _ List.mem_cons_self)
  have m3 := hs _ (List.mem_cons_of_mem _ (List.mem_cons_of_mem _ List.mem_cons_self))
  have m4 := hs _ (List.mem_cons_of_mem _ (List.mem_cons_of_mem _ (List.mem_cons_of_mem _ List.mem_cons_self)))
  have m5 : ∀ j, j < am_slen i → _ := fun j hj => hs _ (List.mem_cons_of_mem _ (List.mem_cons_of_mem _ (List.mem_cons_of_mem _ (List.mem_cons_of_mem _ (List.mem_map.mpr ⟨j, List.mem_range.mpr hj, rfl⟩)))))
  obtain ⟨a, cc, cA, kA, q1, q2, q3, q4, q5, q6, -⟩ := Cond.exactly_spec (args := args) (first := s) (o := none) (s := s) (idx := []) (t := am_stm i) (cls := "java/lang/String") m1
  obtain ⟨t, ht, hT⟩ := va_Tof (f := fun j => .int (Int32.ofNat (am_sch i j))) (A := A) hn m3 (va_eqt m4) (fun j hj => va_eqt (m5 j hj)) hA
  exact ⟨(a, t), q1, ⟨cA, q3, q5, by rw [q6]; exact q2, hA a (Array.getElem?_eq_some_iff.mp q3).1⟩, vk_OFof q1 (va_eqt m2) hA, vk_OFof q1 ht hA, hT⟩
def am_caF (b t1 t2 t3 t4 t5 t6 : Nat) (sa : Nat → Nat × Nat) (k : Nat) : Nat := bif Nat.beq k 0 then b else bif Nat.beq k 1 then t1 else bif Nat.beq k 2 then t2 else bif Nat.beq k 3 then t3 else bif Nat.beq k 4 then t4 else bif Nat.beq k 5 then t5 else bif Nat.beq k 6 then t6 else bif Nat.blt k 23 then (sa (k - 7)).1 else (sa (k - 23)).2
theorem am_ca7 {b t1 t2 t3 t4 t5 t6 : Nat} {sa : Nat → Nat × Nat} {i : Nat} (hi : i < 16) : am_caF b t1 t2 t3 t4 t5 t6 sa (7 + i) = (sa i).1 ∧ am_caF b t1 t2 t3 t4 t5 t6 sa (23 + i) = (sa i).2 := by
  rcases (show i = 0 ∨ i = 1 ∨ i = 2 ∨ i = 3 ∨ i = 4 ∨ i = 5 ∨ i = 6 ∨ i = 7 ∨ i = 8 ∨ i = 9 ∨ i = 10 ∨ i = 11 ∨ i = 12 ∨ i = 13 ∨ i = 14 ∨ i = 15 by omega) with rfl | rfl | rfl | rfl | rfl | rfl | rfl | rfl | rfl | rfl | rfl | rfl | rfl | rfl | rfl | rfl <;> exact ⟨rfl, rfl⟩
theorem am_tabs {s : State} {b : Nat} {ca : Nat → Nat} (hts : ∀ w ∈ lw_tbl, w.before #[Value.ref b] s = true) (hvR : ∀ q ∈ am_sRefs, vk_R q.1 q.2.1 (am_stx.getD q.2.2 "") (ca (7 + q.2.2)) s) : ∃ (D : va_G) (dA : Nat → ClassId), am_Tab D dA ca s := by
  have hbig : ∀ w ∈ am_big, w.before #[Value.ref b] s = true := fun w hw => hts w (List.mem_filter.mp hw).1
  have e1 : ∀ ci, ∃ q : ClassId × (Nat → Nat), ci < 14 → u_Kn s (am_cn ci) (am_TT ci) (am_N ci) q.1 q.2 := by
    intro ci
    by_cases h : ci < 14
    · obtain ⟨cC, iS, hk⟩ := u_known hbig (am_cls h).1 (hbig _ (am_cls h).2.1)
      exact ⟨(cC, iS), fun _ => hk⟩
    · exact ⟨(0, fun _ => 0), fun q => absurd q h⟩
  have e2 : ∀ tc, ∃ cA : ClassId, am_isA tc = true → ArrOfT s cA (am_aty tc) ∧ va_RA s cA (am_aty tc) := by
    intro tc
    by_cases h : am_isA tc = true
    · by_cases h4 : tc < 4
      · obtain ⟨cA, k, comp, q1, q2, q3⟩ := Cond.arrayClass_spec (hbig _ (am_arrC tc h4))
        refine ⟨cA, fun _ => ⟨am_arrOf q2 q3, ?_⟩⟩
        rcases (show tc = 0 ∨ tc = 1 ∨ tc = 2 ∨ tc = 3 by omega) with rfl | rfl | rfl | rfl <;> exact q1
      · obtain ⟨ci, rfl⟩ : ∃ ci, tc = ci + 4 := ⟨tc - 4, by omega⟩
        obtain ⟨comp, cA, k, q1, -, q2, q3, q4⟩ := Cond.arrayOver_spec (hts _ (am_aoC h))
        exact ⟨cA, fun _ => ⟨am_arrOf q2 q3, k, comp, q2, q3, q1, q4⟩⟩
    · exact ⟨0, fun q => absurd q h⟩
  refine ⟨(fun ci => (Classical.choose (e1 ci)).1, fun ci => (Classical.choose (e1 ci)).2), fun tc => Classical.choose (e2 tc), ⟨fun ci q hq => ?_, fun k q h => by cases h⟩, fun tc htc => Classical.choose_spec (e2 tc) htc, fun w hw hn => ?_, fun ci hci => va_AO.of (hts _ (am_aoC hci)), hvR⟩
  · have hlt : ci < 14 := (List.getElem?_eq_some_iff.mp hq).1
    rw [am_cl ci hlt] at hq
    cases hq
    exact Classical.choose_spec (e1 ci) hlt
  · have h := hts w hw
    cases w <;> first | (exact va_Nw.of rfl h) | (exact absurd hn (by simp [am_isN]))
theorem am_start {p : Program} {s : State} {m : MethodId} {meth : Method} {c : Code} {b L : Nat} {xs : Nat → Int32} (C0 : lw_At p s m meth c b L xs) : ∃ (D : va_G) (dA : Nat → ClassId) (ca : Nat → Nat), ca 0 = b ∧ am_Cx p s m #[Value.ref b] meth c D dA s.heap.size ca 0 ∧ am_Ok s D dA s.heap.size ca (am_h0 L xs) s.heap [] := by
  obtain ⟨c1, c2, c3, c4, c5, hts, hX, hbl, hlk, hgv⟩ := C0
  have hs := flat_of_before _ hgv
  have hbig : ∀ w ∈ am_big, w.before #[Value.ref b] s = true := fun w hw => hts w (List.mem_filter.mp hw).1
  have hA : ∀ a : Nat, a < s.heap.size → ¬ s.heap.size ≤ a := fun a ha q => absurd ha (Nat.not_lt.mpr q)
  obtain ⟨t1, e1, v1⟩ := am_sk1 hs
  obtain ⟨t2, e2, v2⟩ := am_sk2 hs
  obtain ⟨t3, e3, v3⟩ := am_sk3 hs
  obtain ⟨t4, e4, v4⟩ := am_sk4 hs
  obtain ⟨t5, e5, v5⟩ := am_sk5 hs
  obtain ⟨t6, e6, v6⟩ := am_sk6 hs
  have hst : ∀ i, ∃ q : Nat × Nat, i < 16 → (am_stm i).eval #[Value.ref b] s none [] s = some (.ref q.1) ∧ va_O "java/lang/String" q.1 (fun q => s.heap.size ≤ q) s s.heap ∧ va_OF "java/lang/String" "coder" "B" (.int 0) q.1 (fun q => s.heap.size ≤ q) s s.heap ∧ va_OF "java/lang/String" "value" "[B" (.ref q.2) q.1 (fun q => s.heap.size ≤ q) s s.heap ∧ va_T .byte q.2 (am_slen i) (fun j => .int (Int32.ofNat (am_sch i j))) (fun q => s.heap.size ≤ q) s s.heap := by
    intro i
    by_cases hi : i < 16
    · obtain ⟨q, hq⟩ := am_str1 i hi (fun c hc => hs c (am_sreq_in i hi c hc)) hA
      exact ⟨q, fun _ => hq⟩
    · exact ⟨(0, 0), fun h => absurd h hi⟩
  obtain ⟨sa, hsa⟩ := Classical.axiomOfChoice hst
  have hvR : ∀ q ∈ am_sRefs, vk_R q.1 q.2.1 (am_stx.getD q.2.2 "") (am_caF b t1 t2 t3 t4 t5 t6 sa (7 + q.2.2)) s := by
    intro q hq
    obtain ⟨w, hw, rfl⟩ := List.mem_map.mp hq
    obtain ⟨⟨w1, w2, w3⟩, w4⟩ := am_srefs_in w hw
    have hb1 : (Cond.stringRef w.1.1 w.1.2.1 (am_stx.getD w.1.2.2 "")).before #[Value.ref b] s = true := by
      rw [← w1]
      exact hts _ (am_wt_in w2)
    have he := (hsa _ w3).1
    refine vk_R.of hb1 ?_
    rw [(am_ca7 w3).1]
    rcases w4 with w4 | w4
    · rw [w4] at he
      exact he
    · exact va_eqR (hs _ w4) he
  obtain ⟨D, dA, hT⟩ := am_tabs hts hvR
  refine ⟨D, dA, am_caF b t1 t2 t3 t4 t5 t6 sa, rfl, ⟨c1, c2, c4, c5, hbig, hT, fun q => absurd q (by decide), Nat.le_refl _⟩, ⟨Nat.le_refl _, rfl, fun k h1 h2 => absurd h1 (Nat.not_le.mpr h2)⟩, ?_, ⟨?_, ?_, ?_, ?_⟩, fun q hq => by cases hq⟩
  · intro k hk
    rcases (show k = 0 ∨ k = 1 ∨ k = 2 ∨ k = 3 ∨ k = 4 ∨ k = 5 ∨ k = 6 ∨ 7 ≤ k by omega) with rfl | rfl | rfl | rfl | rfl | rfl | rfl | h7
    · obtain ⟨scr, h1, h2, h3, h4, h5⟩ := hX
      exact ⟨(show (2 : Nat) ≠ 0 by decide), (show (2 : Nat) ≠ 1 by decide), fun _ => ⟨rfl, scr, h1, h2, h3, by rw [h4]; exact Nat.le_refl _, by rw [h4]; rfl, h5, hA b hbl⟩⟩
    · exact ⟨(show (2 : Nat) ≠ 0 by decide), (show (2 : Nat) ≠ 1 by decide), fun _ => ⟨rfl, v1⟩⟩
    · exact ⟨(show (2 : Nat) ≠ 0 by decide), (show (2 : Nat) ≠ 1 by decide), fun _ => ⟨rfl, v2⟩⟩
    · exact ⟨(show (2 : Nat) ≠ 0 by decide), (show (2 : Nat) ≠ 1 by decide), fun _ => ⟨rfl, v3⟩⟩
    · exact ⟨(show (2 : Nat) ≠ 0 by decide), (show (2 : Nat) ≠ 1 by decide), fun _ => ⟨rfl, v4⟩⟩
    · exact ⟨(show (2 : Nat) ≠ 0 by decide), (show (2 : Nat) ≠ 1 by decide), fun _ => ⟨rfl, v5⟩⟩
    · exact ⟨(show (2 : Nat) ≠ 0 by decide), (show (2 : Nat) ≠ 1 by decide), fun _ => ⟨rfl, v6⟩⟩
    · have e0 : am_sh0 L k = (3, 0, 0) := by
        unfold am_sh0
        have q1 : Nat.beq k 0 = false := by
          cases hh : Nat.beq k 0 with
          | false => rfl
          | true => exact absurd (am_beq hh) (by omega)
        have q2 : Nat.blt k 7 = false := by
          cases hh : Nat.blt k 7 with
          | false => rfl
          | true => exact absurd (am_blt hh) (by omega)
        rw [q1, q2]
        rfl
      refine ⟨?_, ?_, fun q => ?_⟩
      · show (am_sh0 L k).1 ≠ 0
        rw [e0]; decide
      · show (am_sh0 L k).1 ≠ 1
        rw [e0]; decide
      · have q : (am_sh0 L k).1 = 2 := q
        rw [e0] at q
        exact absurd q (by decide)
  · intro k h1 h2
    rcases (show k = 1 ∨ k = 2 ∨ k = 3 ∨ k = 4 ∨ k = 5 ∨ k = 6 by omega) with rfl | rfl | rfl | rfl | rfl | rfl
    · exact va_Zof (hts _ am_sl1) (hts _ am_si1) e1 hA
    · exact va_Zof (hts _ am_sl2) (hts _ am_si1) e2 hA
    · exact va_Zof (hts _ am_sl3) (hts _ am_si1) e3 hA
    · exact va_Zof (hts _ am_sl4) (hts _ am_si2) e4 hA
    · exact va_Zof (hts _ am_sl5) (hts _ am_si2) e5 hA
    · exact va_Zof (hts _ am_sl6) (hts _ am_si2) e6 hA
  · rcases va_Zqof (hts _ am_sl7) (hts _ am_si3) (hs (Cond.isRef (Term.static "java/lang/Throwable" "UNASSIGNED_STACK" "[Ljava/lang/StackTraceElement;")) (by decide +kernel)) hA with q | ⟨t, q⟩
    · exact ⟨_, Or.inl rfl, q⟩
    · exact ⟨_, Or.inr ⟨t, rfl⟩, q⟩
  · rcases va_Zqof (hts _ am_sl8) (hts _ am_si3) (hs (Cond.isRef (Term.static "java/lang/Throwable" "SUPPRESSED_SENTINEL" "Ljava/util/List;")) (by decide +kernel)) hA with q | ⟨t, q⟩
    · exact ⟨_, Or.inl rfl, q⟩
    · exact ⟨_, Or.inr ⟨t, rfl⟩, q⟩
  · refine ⟨fun i hi => ?_, va_Zof (hts _ am_sl9) (hts _ am_si4) (va_eqt (hs (Cond.eq (Term.static "java/lang/String" "COMPACT_STRINGS" "Z") (Term.int 1)) (by decide +kernel))) hA, ?_⟩
    · rw [(am_ca7 hi).1, (am_ca7 hi).2]
      exact (hsa i hi).2
    · rcases va_Zqof (hts _ am_sl10) (hts _ am_si5) (hs (Cond.isRef (Term.static "jdk/internal/util/Preconditions" "SIOOBE_FORMATTER" "Ljava/util/function/BiFunction;")) (by decide +kernel)) hA with q | ⟨t, q⟩
      · exact ⟨_, Or.inl rfl, q⟩
      · exact ⟨_, Or.inr ⟨t, rfl⟩, q⟩
theorem am_law {p : Program} {e : Env} {s : State} {m : MethodId} {below : List Frame} {meth : Method} {c : Code} (l : Launch) {b L : Nat} {xs : Nat → Int32} (C0 : lw_At p s m meth c b L xs) {n d : Nat} {h' : am_H} (hd : d ≤ 1300) (hrun : am_run n d 0 0 (am_ent [.ref 0] 4) [] (am_h0 L xs) = some (some (.int 1), h')) (hc : h'.1 ≤ 601064) (hsl : h'.2.1 ≤ 7293034) : W p l e room_1 s m #[Value.ref b] below meth c s.heap [] 0 0 (lw_Z below #[Value.ref b] s) (entryFrame m ([Value.ref b] : List Value).toArray 4) := by
  obtain ⟨D, dA, ca, hca, C, hO⟩ := am_start C0
  have e1 : h'.1 - (am_h0 L xs).1 ≤ 601024 := by show h'.1 - 40 ≤ 601024; omega
  have e2 : h'.2.1 - (am_h0 L xs).2.1 ≤ 7293034 := by show h'.2.1 - 0 ≤ 7293034; omega
  have k := am_sound (l := l) (D := D) (dA := dA) (B0 := s.heap.size) (ca := ca) n d 0 0 _ _ _ _ _ hrun p e room_1 s m #[Value.ref b] below meth c (lw_Z below #[Value.ref b] s) (am_h0 L xs) C (fun q => absurd rfl q) (am_le.rf _) ⟨by show d ≤ 2048; omega, by show 64 * d ≤ 84000; omega⟩ ⟨e1, e2⟩ (by
    intro pcR i H locs rls hdc hret hrt hO'
    rcases hret with ⟨rfl, v, hv, -⟩ | ⟨-, v, hv⟩ | ⟨-, hv | ⟨a, hv⟩⟩ | ⟨-, hv⟩
    · exact va_forget (fun q hq => hO'.2.2.2 q hq) (W.widen e1 e2 (lw_ret C0.1 C0.2.1 C0.2.2.1 C0.2.2.2.2.2.2.2.2.1 hdc))
    · cases hv
    · cases hv
    · cases hv
    · cases hv) (by
    intro pcR a ls e1
    cases e1)
  have k2 := k s.heap [] _ hO (am_entL (as := [.ref 0]) (n := 4) (by decide))
  rw [Nat.sub_self, Nat.sub_self] at k2
  have ea : [Value.ref 0].map (am_ga (am_ad s.heap.size ca)) = [Value.ref b] := by
    show [Value.ref (am_ad s.heap.size ca 0)] = _
    rw [am_ad_lo (by decide), hca]
  rw [ea] at k2
  rw [lg_entry_eq]
  exact k2
