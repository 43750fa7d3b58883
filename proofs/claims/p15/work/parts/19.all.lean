/-! every entry of the tables was held against the bytes and the words -/
theorem am_all {n : Nat} {f : Nat → Bool} (h : (List.range n).all f = true) {k : Nat} (hk : k < n) : f k = true := List.all_eq_true.mp h k (List.mem_range.mpr hk)
theorem am_pcs {y pc : Nat} (h1 : y < am_NM) (h2 : pc < am_bd y) : am_chP y pc = true := by
  have h1 : y < 264 := h1
  have key : ∀ (n b : Nat), ((List.range n).all fun k => am_wkM (b + k)) = true → b ≤ y → y < b + n → am_chP y pc = true := by
    intro n b hh q1 q2
    have := am_all hh (k := y - b) (by omega)
    rw [show b + (y - b) = y by omega] at this
    exact am_wkM_ok this h2
  rcases Nat.lt_or_ge y 1 with q0 | q0
  · exact key 1 0 am_kP0 (by omega) (by omega)
  rcases Nat.lt_or_ge y 20 with q1 | q1
  · exact key 19 1 am_kP1 (by omega) (by omega)
  rcases Nat.lt_or_ge y 39 with q2 | q2
  · exact key 19 20 am_kP2 (by omega) (by omega)
  rcases Nat.lt_or_ge y 55 with q3 | q3
  · exact key 16 39 am_kP3 (by omega) (by omega)
  rcases Nat.lt_or_ge y 72 with q4 | q4
  · exact key 17 55 am_kP4 (by omega) (by omega)
  rcases Nat.lt_or_ge y 89 with q5 | q5
  · exact key 17 72 am_kP5 (by omega) (by omega)
  rcases Nat.lt_or_ge y 105 with q6 | q6
  · exact key 16 89 am_kP6 (by omega) (by omega)
  rcases Nat.lt_or_ge y 120 with q7 | q7
  · exact key 15 105 am_kP7 (by omega) (by omega)
  rcases Nat.lt_or_ge y 135 with q8 | q8
  · exact key 15 120 am_kP8 (by omega) (by omega)
  rcases Nat.lt_or_ge y 148 with q9 | q9
  · exact key 13 135 am_kP9 (by omega) (by omega)
  rcases Nat.lt_or_ge y 162 with q10 | q10
  · exact key 14 148 am_kP10 (by omega) (by omega)
  rcases Nat.lt_or_ge y 179 with q11 | q11
  · exact key 17 162 am_kP11 (by omega) (by omega)
  rcases Nat.lt_or_ge y 196 with q12 | q12
  · exact key 17 179 am_kP12 (by omega) (by omega)
  rcases Nat.lt_or_ge y 207 with q13 | q13
  · exact key 11 196 am_kP13 (by omega) (by omega)
  rcases Nat.lt_or_ge y 217 with q14 | q14
  · exact key 10 207 am_kP14 (by omega) (by omega)
  rcases Nat.lt_or_ge y 235 with q15 | q15
  · exact key 18 217 am_kP15 (by omega) (by omega)
  rcases Nat.lt_or_ge y 244 with q16 | q16
  · exact key 9 235 am_kP16 (by omega) (by omega)
  rcases Nat.lt_or_ge y 254 with q17 | q17
  · exact key 10 244 am_kP17 (by omega) (by omega)
  rcases Nat.lt_or_ge y 261 with q18 | q18
  · exact key 7 254 am_kP18 (by omega) (by omega)
  exact key 3 261 am_kP19 (by omega) (by omega)
theorem am_pc0 {pc : Nat} (h : pc < 1302) : am_chP 0 pc = true := am_pcs (by decide) h
def am_isRf (rt : Option FieldType) : Bool := match rt with
  | some (.object _) => true
  | some (.array _) => true
  | _ => false
def am_chR (y pc : Nat) : Bool := match am_code y pc with
  | none => true
  | some e => (match e.1 with
    | .lreturn => decide (am_rt y = some .long)
    | .areturn => am_isRf (am_rt y)
    | .return_ => decide (am_rt y = none)
    | _ => true)
theorem am_kR0 : ((List.range 1).all fun k => (List.range (am_bd (0 + k))).all fun pc => am_chR (0 + k) pc) = true := by decide +kernel
theorem am_kR1 : ((List.range 32).all fun k => (List.range (am_bd (1 + k))).all fun pc => am_chR (1 + k) pc) = true := by decide +kernel
theorem am_kR2 : ((List.range 33).all fun k => (List.range (am_bd (33 + k))).all fun pc => am_chR (33 + k) pc) = true := by decide +kernel
theorem am_kR3 : ((List.range 33).all fun k => (List.range (am_bd (66 + k))).all fun pc => am_chR (66 + k) pc) = true := by decide +kernel
theorem am_kR4 : ((List.range 33).all fun k => (List.range (am_bd (99 + k))).all fun pc => am_chR (99 + k) pc) = true := by decide +kernel
theorem am_kR5 : ((List.range 33).all fun k => (List.range (am_bd (132 + k))).all fun pc => am_chR (132 + k) pc) = true := by decide +kernel
theorem am_kR6 : ((List.range 33).all fun k => (List.range (am_bd (165 + k))).all fun pc => am_chR (165 + k) pc) = true := by decide +kernel
theorem am_kR7 : ((List.range 33).all fun k => (List.range (am_bd (198 + k))).all fun pc => am_chR (198 + k) pc) = true := by decide +kernel
theorem am_kR8 : ((List.range 33).all fun k => (List.range (am_bd (231 + k))).all fun pc => am_chR (231 + k) pc) = true := by decide +kernel
theorem am_rts {y pc : Nat} (h1 : y < am_NM) (h2 : pc < am_bd y) : am_chR y pc = true := by
  have h1 : y < 264 := h1
  have key : ∀ (n b : Nat), ((List.range n).all fun k => (List.range (am_bd (b + k))).all fun pc => am_chR (b + k) pc) = true → b ≤ y → y < b + n → am_chR y pc = true := by
    intro n b hh q1 q2
    have := am_all hh (k := y - b) (by omega)
    rw [show b + (y - b) = y by omega] at this
    exact am_all this h2
  rcases Nat.lt_or_ge y 1 with q0 | q0
  · exact key 1 0 am_kR0 (by omega) (by omega)
  rcases Nat.lt_or_ge y 33 with q1 | q1
  · exact key 32 1 am_kR1 (by omega) (by omega)
  rcases Nat.lt_or_ge y 66 with q2 | q2
  · exact key 33 33 am_kR2 (by omega) (by omega)
  rcases Nat.lt_or_ge y 99 with q3 | q3
  · exact key 33 66 am_kR3 (by omega) (by omega)
  rcases Nat.lt_or_ge y 132 with q4 | q4
  · exact key 33 99 am_kR4 (by omega) (by omega)
  rcases Nat.lt_or_ge y 165 with q5 | q5
  · exact key 33 132 am_kR5 (by omega) (by omega)
  rcases Nat.lt_or_ge y 198 with q6 | q6
  · exact key 33 165 am_kR6 (by omega) (by omega)
  rcases Nat.lt_or_ge y 231 with q7 | q7
  · exact key 33 198 am_kR7 (by omega) (by omega)
  exact key 33 231 am_kR8 (by omega) (by omega)
