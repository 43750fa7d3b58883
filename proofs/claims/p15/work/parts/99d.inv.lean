/-! THE START, 3: the constructors -/
def dh_okr (r : Option (Option Value × dh_D)) : Bool := match r with
  | some (none, _) => true
  | _ => false
def dh_get (r : Option (Option Value × dh_D)) : dh_D := match r with
  | some (_, D) => D
  | none => (0, 0, [], [])
theorem dh_okr_ok {r : Option (Option Value × dh_D)} (q : dh_okr r = true) : r = some (none, dh_get r) := by
  cases r with
  | none => cases q
  | some x =>
    obtain ⟨v, D⟩ := x
    cases v with
    | none => rfl
    | some v => cases q
def dh_gn (r : Option dh_D) : dh_D := match r with
  | some D => D
  | none => (0, 0, [], [])
def dh_r1 : Option (Option Value × dh_D) := dh_run 3000 1299 1 0 (am_ent [.ref 40] (am_in 1).2.2.1) [] (dh_gn (dh_new (40, 0, [], []) (0, 11, am_N 11) (am_N 11)))
theorem dh_r1_ok : dh_okr dh_r1 = true := by decide +kernel
def dh_r2 : Option (Option Value × dh_D) := dh_run 3000 1299 161 0 (am_ent [.ref 78] (am_in 161).2.2.1) [] (dh_gn (dh_new (dh_get dh_r1) (0, 13, am_N 13) (am_N 13)))
theorem dh_r2_ok : dh_okr dh_r2 = true := by decide +kernel
theorem dh_n1 : (dh_get dh_r1).1 = 78 := by decide +kernel
theorem dh_n2 : (dh_get dh_r2).1 = 130 ∧ (dh_get dh_r2).2.1 = 67768 := by decide +kernel
