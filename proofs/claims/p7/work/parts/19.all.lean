/-! every entry of the tables was held against the bytes and the words -/
theorem am_all {n : Nat} {f : Nat → Bool} (h : (List.range n).all f = true) {k : Nat} (hk : k < n) : f k = true := List.all_eq_true.mp h k (List.mem_range.mpr hk)
theorem am_pc0 {pc : Nat} (h : pc < 1302) : am_chP 0 pc = true := by
  have key : ∀ (b : Nat), ((List.range 50).all fun k => am_chP 0 (b + k)) = true → b ≤ pc → pc < b + 50 → am_chP 0 pc = true := by
    intro b hh q1 q2
    have := am_all hh (k := pc - b) (by omega)
    rwa [show b + (pc - b) = pc by omega] at this
  rcases Nat.lt_or_ge pc 50 with q0 | q0
  · exact key 0 am_kL0 (by omega) (by omega)
  rcases Nat.lt_or_ge pc 100 with q1 | q1
  · exact key 50 am_kL1 (by omega) (by omega)
  rcases Nat.lt_or_ge pc 150 with q2 | q2
  · exact key 100 am_kL2 (by omega) (by omega)
  rcases Nat.lt_or_ge pc 200 with q3 | q3
  · exact key 150 am_kL3 (by omega) (by omega)
  rcases Nat.lt_or_ge pc 250 with q4 | q4
  · exact key 200 am_kL4 (by omega) (by omega)
  rcases Nat.lt_or_ge pc 300 with q5 | q5
  · exact key 250 am_kL5 (by omega) (by omega)
  rcases Nat.lt_or_ge pc 350 with q6 | q6
  · exact key 300 am_kL6 (by omega) (by omega)
  rcases Nat.lt_or_ge pc 400 with q7 | q7
  · exact key 350 am_kL7 (by omega) (by omega)
  rcases Nat.lt_or_ge pc 450 with q8 | q8
  · exact key 400 am_kL8 (by omega) (by omega)
  rcases Nat.lt_or_ge pc 500 with q9 | q9
  · exact key 450 am_kL9 (by omega) (by omega)
  rcases Nat.lt_or_ge pc 550 with q10 | q10
  · exact key 500 am_kL10 (by omega) (by omega)
  rcases Nat.lt_or_ge pc 600 with q11 | q11
  · exact key 550 am_kL11 (by omega) (by omega)
  rcases Nat.lt_or_ge pc 650 with q12 | q12
  · exact key 600 am_kL12 (by omega) (by omega)
  rcases Nat.lt_or_ge pc 700 with q13 | q13
  · exact key 650 am_kL13 (by omega) (by omega)
  rcases Nat.lt_or_ge pc 750 with q14 | q14
  · exact key 700 am_kL14 (by omega) (by omega)
  rcases Nat.lt_or_ge pc 800 with q15 | q15
  · exact key 750 am_kL15 (by omega) (by omega)
  rcases Nat.lt_or_ge pc 850 with q16 | q16
  · exact key 800 am_kL16 (by omega) (by omega)
  rcases Nat.lt_or_ge pc 900 with q17 | q17
  · exact key 850 am_kL17 (by omega) (by omega)
  rcases Nat.lt_or_ge pc 950 with q18 | q18
  · exact key 900 am_kL18 (by omega) (by omega)
  rcases Nat.lt_or_ge pc 1000 with q19 | q19
  · exact key 950 am_kL19 (by omega) (by omega)
  rcases Nat.lt_or_ge pc 1050 with q20 | q20
  · exact key 1000 am_kL20 (by omega) (by omega)
  rcases Nat.lt_or_ge pc 1100 with q21 | q21
  · exact key 1050 am_kL21 (by omega) (by omega)
  rcases Nat.lt_or_ge pc 1150 with q22 | q22
  · exact key 1100 am_kL22 (by omega) (by omega)
  rcases Nat.lt_or_ge pc 1200 with q23 | q23
  · exact key 1150 am_kL23 (by omega) (by omega)
  rcases Nat.lt_or_ge pc 1250 with q24 | q24
  · exact key 1200 am_kL24 (by omega) (by omega)
  rcases Nat.lt_or_ge pc 1300 with q25 | q25
  · exact key 1250 am_kL25 (by omega) (by omega)
  exact key 1300 am_kL26 (by omega) (by omega)
theorem am_pcs {y pc : Nat} (h1 : y < am_NM) (h2 : pc < am_bd y) : am_chP y pc = true := by
  have h1 : y < 264 := h1
  rcases Nat.eq_zero_or_pos y with q | q
  · subst q
    exact am_pc0 h2
  have key : ∀ (n b : Nat), ((List.range n).all fun k => (List.range (am_bd (b + k))).all fun pc => am_chP (b + k) pc) = true → b ≤ y → y < b + n → am_chP y pc = true := by
    intro n b hh q1 q2
    have := am_all hh (k := y - b) (by omega)
    rw [show b + (y - b) = y by omega] at this
    exact am_all this h2
  rcases Nat.lt_or_ge y 20 with q1 | q1
  · exact key 19 1 am_kP1 (by omega) (by omega)
  rcases Nat.lt_or_ge y 39 with q2 | q2
  · exact key 19 20 am_kP2 (by omega) (by omega)
  rcases Nat.lt_or_ge y 55 with q3 | q3
  · exact key 16 39 am_kP3 (by omega) (by omega)
  rcases Nat.lt_or_ge y 72 with q4 | q4
  · exact key 17 55 am_kP4 (by omega) (by omega)
  rcases Nat.lt_or_ge y 89 with q5 | q5
  · exact key 17 72 am_kP5 (by omega) (by omega)
  rcases Nat.lt_or_ge y 105 with q6 | q6
  · exact key 16 89 am_kP6 (by omega) (by omega)
  rcases Nat.lt_or_ge y 120 with q7 | q7
  · exact key 15 105 am_kP7 (by omega) (by omega)
  rcases Nat.lt_or_ge y 135 with q8 | q8
  · exact key 15 120 am_kP8 (by omega) (by omega)
  rcases Nat.lt_or_ge y 148 with q9 | q9
  · exact key 13 135 am_kP9 (by omega) (by omega)
  rcases Nat.lt_or_ge y 162 with q10 | q10
  · exact key 14 148 am_kP10 (by omega) (by omega)
  rcases Nat.lt_or_ge y 179 with q11 | q11
  · exact key 17 162 am_kP11 (by omega) (by omega)
  rcases Nat.lt_or_ge y 196 with q12 | q12
  · exact key 17 179 am_kP12 (by omega) (by omega)
  rcases Nat.lt_or_ge y 207 with q13 | q13
  · exact key 11 196 am_kP13 (by omega) (by omega)
  rcases Nat.lt_or_ge y 217 with q14 | q14
  · exact key 10 207 am_kP14 (by omega) (by omega)
  rcases Nat.lt_or_ge y 235 with q15 | q15
  · exact key 18 217 am_kP15 (by omega) (by omega)
  rcases Nat.lt_or_ge y 244 with q16 | q16
  · exact key 9 235 am_kP16 (by omega) (by omega)
  rcases Nat.lt_or_ge y 254 with q17 | q17
  · exact key 10 244 am_kP17 (by omega) (by omega)
  rcases Nat.lt_or_ge y 261 with q18 | q18
  · exact key 7 254 am_kP18 (by omega) (by omega)
  exact key 3 261 am_kP19 (by omega) (by omega)
def am_isRf (rt : Option FieldType) : Bool := match rt with
  | some (.object _) => true
  | some (.array _) => true
  | _ => false
def am_chR (y pc : Nat) : Bool := match am_code y pc with
  | none => true
  | some e => (match e.1 with
    | .lreturn => decide (am_rt y = some .long)
    | .areturn => am_isRf (am_rt y)
    | .return_ => decide (am_rt y = none)
    | _ => true)
theorem am_kR0 : ((List.range 1).all fun k => (List.range (am_bd (0 + k))).all fun pc => am_chR (0 + k) pc) = true := by decide +kernel
theorem am_kR1 : ((List.range 32).all fun k => (List.range (am_bd (1 + k))).all fun pc => am_chR (1 + k) pc) = true := by decide +kernel
theorem am_kR2 : ((List.range 33).all fun k => (List.range (am_bd (33 + k))).all fun pc => am_chR (33 + k) pc) = true := by decide +kernel
theorem am_kR3 : ((List.range 33).all fun k => (List.range (am_bd (66 + k))).all fun pc => am_chR (66 + k) pc) = true := by decide +kernel
theorem am_kR4 : ((List.range 33).all fun k => (List.range (am_bd (99 + k))).all fun pc => am_chR (99 + k) pc) = true := by decide +kernel
theorem am_kR5 : ((List.range 33).all fun k => (List.range (am_bd (132 + k))).all fun pc => am_chR (132 + k) pc) = true := by decide +kernel
theorem am_kR6 : ((List.range 33).all fun k => (List.range (am_bd (165 + k))).all fun pc => am_chR (165 + k) pc) = true := by decide +kernel
theorem am_kR7 : ((List.range 33).all fun k => (List.range (am_bd (198 + k))).all fun pc => am_chR (198 + k) pc) = true := by decide +kernel
theorem am_kR8 : ((List.range 33).all fun k => (List.range (am_bd (231 + k))).all fun pc => am_chR (231 + k) pc) = true := by decide +kernel
theorem am_rts {y pc : Nat} (h1 : y < am_NM) (h2 : pc < am_bd y) : am_chR y pc = true := by
  have h1 : y < 264 := h1
  have key : ∀ (n b : Nat), ((List.range n).all fun k => (List.range (am_bd (b + k))).all fun pc => am_chR (b + k) pc) = true → b ≤ y → y < b + n → am_chR y pc = true := by
    intro n b hh q1 q2
    have := am_all hh (k := y - b) (by omega)
    rw [show b + (y - b) = y by omega] at this
    exact am_all this h2
  rcases Nat.lt_or_ge y 1 with q0 | q0
  · exact key 1 0 am_kR0 (by omega) (by omega)
  rcases Nat.lt_or_ge y 33 with q1 | q1
  · exact key 32 1 am_kR1 (by omega) (by omega)
  rcases Nat.lt_or_ge y 66 with q2 | q2
  · exact key 33 33 am_kR2 (by omega) (by omega)
  rcases Nat.lt_or_ge y 99 with q3 | q3
  · exact key 33 66 am_kR3 (by omega) (by omega)
  rcases Nat.lt_or_ge y 132 with q4 | q4
  · exact key 33 99 am_kR4 (by omega) (by omega)
  rcases Nat.lt_or_ge y 165 with q5 | q5
  · exact key 33 132 am_kR5 (by omega) (by omega)
  rcases Nat.lt_or_ge y 198 with q6 | q6
  · exact key 33 165 am_kR6 (by omega) (by omega)
  rcases Nat.lt_or_ge y 231 with q7 | q7
  · exact key 33 198 am_kR7 (by omega) (by omega)
  exact key 33 231 am_kR8 (by omega) (by omega)
