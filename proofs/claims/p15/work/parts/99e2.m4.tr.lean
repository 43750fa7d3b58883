/-! TRANSLATED, on both sides -/
section TRA
variable {h : am_H} {d : Nat} {p a u : Int32}
def tr_ok (a u t : Int32) : Prop := (0 ≤ a.toInt ∧ a.toInt ≤ 19) ∧ (1 ≤ u.toInt ∧ u.toInt ≤ 99) ∧ ¬ a = t
theorem tr_41n (O : am_isO h 40 11 = true) (H : am_ev d 42 0 (am_ent [.ref 40, .int p] 2) [] h (some .null, h)) : am_ev (d + 1) 41 0 (am_ent [.ref 40, .int p, .int a, .int u] 5) [] h (some (ax_m (-2)), h) := by
  refine am_ev.step (pc' := 1) rfl rfl ?_
  refine am_ev.step (pc' := 2) rfl rfl ?_
  refine ax_call (z := 42) (p' := 5) (as := [_, _]) rfl (Or.inr (Or.inl ⟨_, rfl⟩)) rfl rfl rfl rfl rfl rfl O rfl H rfl ?_
  refine am_ev.step (pc' := 7) rfl rfl ?_
  refine am_ev.step (pc' := 9) rfl rfl ?_
  refine am_ev.step (pc' := 41) rfl rfl ?_
  refine am_ev.step (pc' := 43) rfl rfl ?_
  exact am_ev.reti rfl rfl rfl
theorem tr_41f {s : Nat} {t : Int32} (O : am_isO h 40 11 = true) (H : am_ev d 42 0 (am_ent [.ref 40, .int p] 2) [] h (some (.ref s), h)) (Os : am_isO h s 6 = true) (v : h.2.2.2 s 0 = .int t) (q : ¬ tr_ok a u t) : am_ev (d + 1) 41 0 (am_ent [.ref 40, .int p, .int a, .int u] 5) [] h (some (ax_m (-2)), h) := by
  by_cases q1 : 0 ≤ a.toInt ∧ a.toInt ≤ 19
  · have H2 := (iw_39 (h := h) (d := d) (u := a) (v := (Int8.ofInt 19).toInt32)).1 (by rw [show (Int8.ofInt 19).toInt32.toInt = 19 by decide]; exact q1)
    by_cases c1 : u < Int32.ofInt 1
    · refine am_ev.step (pc' := 1) rfl rfl ?_
      refine am_ev.step (pc' := 2) rfl rfl ?_
      refine ax_call (z := 42) (p' := 5) (as := [_, _]) rfl (Or.inr (Or.inl ⟨_, rfl⟩)) rfl rfl rfl rfl rfl rfl O rfl H rfl ?_
      refine am_ev.step (pc' := 7) rfl rfl ?_
      refine am_ev.step (pc' := 9) rfl rfl ?_
      refine am_ev.step (pc' := 12) rfl rfl ?_
      refine am_ev.step (pc' := 13) rfl rfl ?_
      refine am_ev.step (pc' := 15) rfl rfl ?_
      refine ax_call (z := 39) (p' := 18) (as := [_, _]) rfl (Or.inl ⟨_, rfl⟩) rfl rfl rfl rfl rfl rfl rfl rfl H2 rfl ?_
      refine ax_z_eq_N (p' := 21) rfl rfl (by decide : ¬ Int32.ofInt 1 = 0) ?_
      refine am_ev.step (pc' := 22) rfl rfl ?_
      refine am_ev.step (pc' := 23) rfl rfl ?_
      refine ax_c_lt_T (p' := 41) rfl rfl c1 ?_
      refine am_ev.step (pc' := 43) rfl rfl ?_
      exact am_ev.reti rfl rfl rfl
    · by_cases c2 : (Int8.ofInt 99).toInt32 < u
      · refine am_ev.step (pc' := 1) rfl rfl ?_
        refine am_ev.step (pc' := 2) rfl rfl ?_
        refine ax_call (z := 42) (p' := 5) (as := [_, _]) rfl (Or.inr (Or.inl ⟨_, rfl⟩)) rfl rfl rfl rfl rfl rfl O rfl H rfl ?_
        refine am_ev.step (pc' := 7) rfl rfl ?_
        refine am_ev.step (pc' := 9) rfl rfl ?_
        refine am_ev.step (pc' := 12) rfl rfl ?_
        refine am_ev.step (pc' := 13) rfl rfl ?_
        refine am_ev.step (pc' := 15) rfl rfl ?_
        refine ax_call (z := 39) (p' := 18) (as := [_, _]) rfl (Or.inl ⟨_, rfl⟩) rfl rfl rfl rfl rfl rfl rfl rfl H2 rfl ?_
        refine ax_z_eq_N (p' := 21) rfl rfl (by decide : ¬ Int32.ofInt 1 = 0) ?_
        refine am_ev.step (pc' := 22) rfl rfl ?_
        refine am_ev.step (pc' := 23) rfl rfl ?_
        refine ax_c_lt_N (p' := 26) rfl rfl c1 ?_
        refine am_ev.step (pc' := 27) rfl rfl ?_
        refine am_ev.step (pc' := 29) rfl rfl ?_
        refine ax_c_gt_T (p' := 41) rfl rfl c2 ?_
        refine am_ev.step (pc' := 43) rfl rfl ?_
        exact am_ev.reti rfl rfl rfl
      · have c3 : a = t := by
          apply Classical.byContradiction
          intro c3
          have k1 := mt Int32.lt_iff_toInt_lt.2 c1
          have k2 := mt Int32.lt_iff_toInt_lt.2 c2
          rw [show (Int32.ofInt 1).toInt = 1 by decide] at k1
          rw [show (Int8.ofInt 99).toInt32.toInt = 99 by decide] at k2
          exact q ⟨q1, by omega, c3⟩
        refine am_ev.step (pc' := 1) rfl rfl ?_
        refine am_ev.step (pc' := 2) rfl rfl ?_
        refine ax_call (z := 42) (p' := 5) (as := [_, _]) rfl (Or.inr (Or.inl ⟨_, rfl⟩)) rfl rfl rfl rfl rfl rfl O rfl H rfl ?_
        refine am_ev.step (pc' := 7) rfl rfl ?_
        refine am_ev.step (pc' := 9) rfl rfl ?_
        refine am_ev.step (pc' := 12) rfl rfl ?_
        refine am_ev.step (pc' := 13) rfl rfl ?_
        refine am_ev.step (pc' := 15) rfl rfl ?_
        refine ax_call (z := 39) (p' := 18) (as := [_, _]) rfl (Or.inl ⟨_, rfl⟩) rfl rfl rfl rfl rfl rfl rfl rfl H2 rfl ?_
        refine ax_z_eq_N (p' := 21) rfl rfl (by decide : ¬ Int32.ofInt 1 = 0) ?_
        refine am_ev.step (pc' := 22) rfl rfl ?_
        refine am_ev.step (pc' := 23) rfl rfl ?_
        refine ax_c_lt_N (p' := 26) rfl rfl c1 ?_
        refine am_ev.step (pc' := 27) rfl rfl ?_
        refine am_ev.step (pc' := 29) rfl rfl ?_
        refine ax_c_gt_N (p' := 32) rfl rfl c2 ?_
        refine am_ev.step (pc' := 33) rfl rfl ?_
        refine am_ev.step (pc' := 35) rfl rfl ?_
        refine ax_gf (p' := 38) rfl rfl Os v ?_
        refine ax_c_ne_N (p' := 41) rfl rfl c3 ?_
        refine am_ev.step (pc' := 43) rfl rfl ?_
        exact am_ev.reti rfl rfl rfl
  · have H2 := (iw_39 (h := h) (d := d) (u := a) (v := (Int8.ofInt 19).toInt32)).2 (by rw [show (Int8.ofInt 19).toInt32.toInt = 19 by decide]; exact q1)
    refine am_ev.step (pc' := 1) rfl rfl ?_
    refine am_ev.step (pc' := 2) rfl rfl ?_
    refine ax_call (z := 42) (p' := 5) (as := [_, _]) rfl (Or.inr (Or.inl ⟨_, rfl⟩)) rfl rfl rfl rfl rfl rfl O rfl H rfl ?_
    refine am_ev.step (pc' := 7) rfl rfl ?_
    refine am_ev.step (pc' := 9) rfl rfl ?_
    refine am_ev.step (pc' := 12) rfl rfl ?_
    refine am_ev.step (pc' := 13) rfl rfl ?_
    refine am_ev.step (pc' := 15) rfl rfl ?_
    refine ax_call (z := 39) (p' := 18) (as := [_, _]) rfl (Or.inl ⟨_, rfl⟩) rfl rfl rfl rfl rfl rfl rfl rfl H2 rfl ?_
    refine ax_z_eq_T (p' := 41) rfl rfl (by decide : Int32.ofInt 0 = 0) ?_
    refine am_ev.step (pc' := 43) rfl rfl ?_
    exact am_ev.reti rfl rfl rfl
theorem tr_41s {s : Nat} {t w : Int32} (O : am_isO h 40 11 = true) (H : am_ev d 42 0 (am_ent [.ref 40, .int p] 2) [] h (some (.ref s), h)) (Os : am_isO h s 6 = true) (v : h.2.2.2 s 0 = .int t) (v4 : h.2.2.2 s 4 = .int w) (q : tr_ok a u t) (qw : ¬ w = Int32.ofInt (-1)) : am_ev (d + 1) 41 0 (am_ent [.ref 40, .int p, .int a, .int u] 5) [] h (some (ax_m (-4)), h) := by
  have H2 := (iw_39 (h := h) (d := d) (u := a) (v := (Int8.ofInt 19).toInt32)).1 (by rw [show (Int8.ofInt 19).toInt32.toInt = 19 by decide]; exact q.1)
  have c1 : ¬ u < Int32.ofInt 1 := fun z => by
    have z := Int32.lt_iff_toInt_lt.1 z
    rw [show (Int32.ofInt 1).toInt = 1 by decide] at z
    have := q.2.1
    omega
  have c2 : ¬ (Int8.ofInt 99).toInt32 < u := fun z => by
    have z := Int32.lt_iff_toInt_lt.1 z
    rw [show (Int8.ofInt 99).toInt32.toInt = 99 by decide] at z
    have := q.2.1
    omega
  refine am_ev.step (pc' := 1) rfl rfl ?_
  refine am_ev.step (pc' := 2) rfl rfl ?_
  refine ax_call (z := 42) (p' := 5) (as := [_, _]) rfl (Or.inr (Or.inl ⟨_, rfl⟩)) rfl rfl rfl rfl rfl rfl O rfl H rfl ?_
  refine am_ev.step (pc' := 7) rfl rfl ?_
  refine am_ev.step (pc' := 9) rfl rfl ?_
  refine am_ev.step (pc' := 12) rfl rfl ?_
  refine am_ev.step (pc' := 13) rfl rfl ?_
  refine am_ev.step (pc' := 15) rfl rfl ?_
  refine ax_call (z := 39) (p' := 18) (as := [_, _]) rfl (Or.inl ⟨_, rfl⟩) rfl rfl rfl rfl rfl rfl rfl rfl H2 rfl ?_
  refine ax_z_eq_N (p' := 21) rfl rfl (by decide : ¬ Int32.ofInt 1 = 0) ?_
  refine am_ev.step (pc' := 22) rfl rfl ?_
  refine am_ev.step (pc' := 23) rfl rfl ?_
  refine ax_c_lt_N (p' := 26) rfl rfl c1 ?_
  refine am_ev.step (pc' := 27) rfl rfl ?_
  refine am_ev.step (pc' := 29) rfl rfl ?_
  refine ax_c_gt_N (p' := 32) rfl rfl c2 ?_
  refine am_ev.step (pc' := 33) rfl rfl ?_
  refine am_ev.step (pc' := 35) rfl rfl ?_
  refine ax_gf (p' := 38) rfl rfl Os v ?_
  refine ax_c_ne_T (p' := 44) rfl rfl q.2.2 ?_
  refine am_ev.step (pc' := 46) rfl rfl ?_
  refine ax_gf (p' := 49) rfl rfl Os v4 ?_
  refine am_ev.step (pc' := 50) rfl rfl ?_
  refine ax_c_eq_N (p' := 53) rfl rfl qw ?_
  refine am_ev.step (pc' := 55) rfl rfl ?_
  exact am_ev.reti rfl rfl rfl
theorem tr_41d {s : Nat} {t w : Int32} (O : am_isO h 40 11 = true) (H : am_ev d 42 0 (am_ent [.ref 40, .int p] 2) [] h (some (.ref s), h)) (Os : am_isO h s 6 = true) (v : h.2.2.2 s 0 = .int t) (v4 : h.2.2.2 s 4 = .int w) (q : tr_ok a u t) (qw : w = Int32.ofInt (-1)) : am_ev (d + 1) 41 0 (am_ent [.ref 40, .int p, .int a, .int u] 5) [] h (some (.int (Int32.ofInt 1)), am_put (am_put h s 4 (.int a)) s 5 (.int u)) := by
  have H2 := (iw_39 (h := h) (d := d) (u := a) (v := (Int8.ofInt 19).toInt32)).1 (by rw [show (Int8.ofInt 19).toInt32.toInt = 19 by decide]; exact q.1)
  have c1 : ¬ u < Int32.ofInt 1 := fun z => by
    have z := Int32.lt_iff_toInt_lt.1 z
    rw [show (Int32.ofInt 1).toInt = 1 by decide] at z
    have := q.2.1
    omega
  have c2 : ¬ (Int8.ofInt 99).toInt32 < u := fun z => by
    have z := Int32.lt_iff_toInt_lt.1 z
    rw [show (Int8.ofInt 99).toInt32.toInt = 99 by decide] at z
    have := q.2.1
    omega
  refine am_ev.step (pc' := 1) rfl rfl ?_
  refine am_ev.step (pc' := 2) rfl rfl ?_
  refine ax_call (z := 42) (p' := 5) (as := [_, _]) rfl (Or.inr (Or.inl ⟨_, rfl⟩)) rfl rfl rfl rfl rfl rfl O rfl H rfl ?_
  refine am_ev.step (pc' := 7) rfl rfl ?_
  refine am_ev.step (pc' := 9) rfl rfl ?_
  refine am_ev.step (pc' := 12) rfl rfl ?_
  refine am_ev.step (pc' := 13) rfl rfl ?_
  refine am_ev.step (pc' := 15) rfl rfl ?_
  refine ax_call (z := 39) (p' := 18) (as := [_, _]) rfl (Or.inl ⟨_, rfl⟩) rfl rfl rfl rfl rfl rfl rfl rfl H2 rfl ?_
  refine ax_z_eq_N (p' := 21) rfl rfl (by decide : ¬ Int32.ofInt 1 = 0) ?_
  refine am_ev.step (pc' := 22) rfl rfl ?_
  refine am_ev.step (pc' := 23) rfl rfl ?_
  refine ax_c_lt_N (p' := 26) rfl rfl c1 ?_
  refine am_ev.step (pc' := 27) rfl rfl ?_
  refine am_ev.step (pc' := 29) rfl rfl ?_
  refine ax_c_gt_N (p' := 32) rfl rfl c2 ?_
  refine am_ev.step (pc' := 33) rfl rfl ?_
  refine am_ev.step (pc' := 35) rfl rfl ?_
  refine ax_gf (p' := 38) rfl rfl Os v ?_
  refine ax_c_ne_T (p' := 44) rfl rfl q.2.2 ?_
  refine am_ev.step (pc' := 46) rfl rfl ?_
  refine ax_gf (p' := 49) rfl rfl Os v4 ?_
  refine am_ev.step (pc' := 50) rfl rfl ?_
  refine ax_c_eq_T (p' := 56) rfl rfl qw ?_
  refine am_ev.step (pc' := 58) rfl rfl ?_
  refine am_ev.step (pc' := 59) rfl rfl ?_
  refine ax_pf (p' := 62) rfl rfl Os rfl ?_
  refine am_ev.step (pc' := 64) rfl rfl ?_
  refine am_ev.step (pc' := 65) rfl rfl ?_
  refine ax_pf (p' := 68) rfl rfl Os rfl ?_
  refine am_ev.step (pc' := 69) rfl rfl ?_
  exact am_ev.reti rfl rfl rfl
theorem tr_187n (O : am_isO h 78 13 = true) (H : am_ev (d + 1) 188 0 (am_ent [.ref 78, .int p] 2) [] h (some (.int (Int32.ofInt 0)), h)) : am_ev (d + 2) 187 0 (am_ent [.ref 78, .int p, .int a, .int u] 4) [] h (some (ax_m (-2)), h) := by
  refine am_ev.step (pc' := 1) rfl rfl ?_
  refine am_ev.step (pc' := 2) rfl rfl ?_
  refine ax_call (z := 188) (p' := 5) (as := [_, _]) rfl (Or.inr (Or.inl ⟨_, rfl⟩)) rfl rfl rfl rfl rfl rfl O rfl H rfl ?_
  refine ax_z_eq_T (p' := 37) rfl rfl (by decide : Int32.ofInt 0 = 0) ?_
  refine am_ev.step (pc' := 39) rfl rfl ?_
  exact am_ev.reti rfl rfl rfl
theorem tr_187f {t : Int32} (O : am_isO h 78 13 = true) (H : am_ev (d + 1) 188 0 (am_ent [.ref 78, .int p] 2) [] h (some (.int (Int32.ofInt 1)), h)) (v17 : h.2.2.2 78 17 = .ref 86) (rd : am_rd h 86 p (fun c => Nat.beq c 0) = some (.int t)) (q : ¬ tr_ok a u t) : am_ev (d + 2) 187 0 (am_ent [.ref 78, .int p, .int a, .int u] 4) [] h (some (ax_m (-2)), h) := by
  by_cases q1 : 0 ≤ a.toInt ∧ a.toInt ≤ 19
  · have H2 := (ip_186 (h := h) (d := d) (a := a)).1 q1
    by_cases q2 : 1 ≤ u.toInt ∧ u.toInt ≤ 99
    · have H3 := (in_n (h := h) (d := d + 1) (u := u) (l := 1) (g := 99) (by decide) (by decide)).1 q2
      have c3 : a = t := Classical.byContradiction fun c3 => q ⟨q1, q2, c3⟩
      refine am_ev.step (pc' := 1) rfl rfl ?_
      refine am_ev.step (pc' := 2) rfl rfl ?_
      refine ax_call (z := 188) (p' := 5) (as := [_, _]) rfl (Or.inr (Or.inl ⟨_, rfl⟩)) rfl rfl rfl rfl rfl rfl O rfl H rfl ?_
      refine ax_z_eq_N (p' := 8) rfl rfl (by decide : ¬ Int32.ofInt 1 = 0) ?_
      refine am_ev.step (pc' := 9) rfl rfl ?_
      refine ax_call (z := 186) (p' := 12) (as := [_]) rfl (Or.inl ⟨_, rfl⟩) rfl rfl rfl rfl rfl rfl rfl rfl H2 rfl ?_
      refine ax_z_eq_N (p' := 15) rfl rfl (by decide : ¬ Int32.ofInt 1 = 0) ?_
      refine am_ev.step (pc' := 16) rfl rfl ?_
      refine am_ev.step (pc' := 17) rfl rfl ?_
      refine am_ev.step (pc' := 18) rfl rfl ?_
      refine am_ev.step (pc' := 21) rfl rfl ?_
      refine ax_call (z := 165) (p' := 24) (as := [_, _, _]) rfl (Or.inl ⟨_, rfl⟩) rfl rfl rfl rfl rfl rfl rfl rfl H3 rfl ?_
      refine ax_z_eq_N (p' := 27) rfl rfl (by decide : ¬ Int32.ofInt 1 = 0) ?_
      refine am_ev.step (pc' := 28) rfl rfl ?_
      refine am_ev.step (pc' := 29) rfl rfl ?_
      refine ax_gf (p' := 32) rfl rfl O v17 ?_
      refine am_ev.step (pc' := 33) rfl rfl ?_
      refine ax_iaload (p' := 34) rfl rfl rd ?_
      refine ax_c_ne_N (p' := 37) rfl rfl c3 ?_
      refine am_ev.step (pc' := 39) rfl rfl ?_
      exact am_ev.reti rfl rfl rfl
    · have H3 := (in_n (h := h) (d := d + 1) (u := u) (l := 1) (g := 99) (by decide) (by decide)).2 q2
      refine am_ev.step (pc' := 1) rfl rfl ?_
      refine am_ev.step (pc' := 2) rfl rfl ?_
      refine ax_call (z := 188) (p' := 5) (as := [_, _]) rfl (Or.inr (Or.inl ⟨_, rfl⟩)) rfl rfl rfl rfl rfl rfl O rfl H rfl ?_
      refine ax_z_eq_N (p' := 8) rfl rfl (by decide : ¬ Int32.ofInt 1 = 0) ?_
      refine am_ev.step (pc' := 9) rfl rfl ?_
      refine ax_call (z := 186) (p' := 12) (as := [_]) rfl (Or.inl ⟨_, rfl⟩) rfl rfl rfl rfl rfl rfl rfl rfl H2 rfl ?_
      refine ax_z_eq_N (p' := 15) rfl rfl (by decide : ¬ Int32.ofInt 1 = 0) ?_
      refine am_ev.step (pc' := 16) rfl rfl ?_
      refine am_ev.step (pc' := 17) rfl rfl ?_
      refine am_ev.step (pc' := 18) rfl rfl ?_
      refine am_ev.step (pc' := 21) rfl rfl ?_
      refine ax_call (z := 165) (p' := 24) (as := [_, _, _]) rfl (Or.inl ⟨_, rfl⟩) rfl rfl rfl rfl rfl rfl rfl rfl H3 rfl ?_
      refine ax_z_eq_T (p' := 37) rfl rfl (by decide : Int32.ofInt 0 = 0) ?_
      refine am_ev.step (pc' := 39) rfl rfl ?_
      exact am_ev.reti rfl rfl rfl
  · have H2 := (ip_186 (h := h) (d := d) (a := a)).2 q1
    refine am_ev.step (pc' := 1) rfl rfl ?_
    refine am_ev.step (pc' := 2) rfl rfl ?_
    refine ax_call (z := 188) (p' := 5) (as := [_, _]) rfl (Or.inr (Or.inl ⟨_, rfl⟩)) rfl rfl rfl rfl rfl rfl O rfl H rfl ?_
    refine ax_z_eq_N (p' := 8) rfl rfl (by decide : ¬ Int32.ofInt 1 = 0) ?_
    refine am_ev.step (pc' := 9) rfl rfl ?_
    refine ax_call (z := 186) (p' := 12) (as := [_]) rfl (Or.inl ⟨_, rfl⟩) rfl rfl rfl rfl rfl rfl rfl rfl H2 rfl ?_
    refine ax_z_eq_T (p' := 37) rfl rfl (by decide : Int32.ofInt 0 = 0) ?_
    refine am_ev.step (pc' := 39) rfl rfl ?_
    exact am_ev.reti rfl rfl rfl
theorem tr_187s {t w : Int32} (O : am_isO h 78 13 = true) (H : am_ev (d + 1) 188 0 (am_ent [.ref 78, .int p] 2) [] h (some (.int (Int32.ofInt 1)), h)) (v17 : h.2.2.2 78 17 = .ref 86) (v21 : h.2.2.2 78 21 = .ref 90) (rd : am_rd h 86 p (fun c => Nat.beq c 0) = some (.int t)) (rd2 : am_rd h 90 p (fun c => Nat.beq c 0) = some (.int w)) (q : tr_ok a u t) (qw : ¬ w = Int32.ofInt (-1)) : am_ev (d + 2) 187 0 (am_ent [.ref 78, .int p, .int a, .int u] 4) [] h (some (ax_m (-4)), h) := by
  have H2 := (ip_186 (h := h) (d := d) (a := a)).1 q.1
  have H3 := (in_n (h := h) (d := d + 1) (u := u) (l := 1) (g := 99) (by decide) (by decide)).1 q.2.1
  refine am_ev.step (pc' := 1) rfl rfl ?_
  refine am_ev.step (pc' := 2) rfl rfl ?_
  refine ax_call (z := 188) (p' := 5) (as := [_, _]) rfl (Or.inr (Or.inl ⟨_, rfl⟩)) rfl rfl rfl rfl rfl rfl O rfl H rfl ?_
  refine ax_z_eq_N (p' := 8) rfl rfl (by decide : ¬ Int32.ofInt 1 = 0) ?_
  refine am_ev.step (pc' := 9) rfl rfl ?_
  refine ax_call (z := 186) (p' := 12) (as := [_]) rfl (Or.inl ⟨_, rfl⟩) rfl rfl rfl rfl rfl rfl rfl rfl H2 rfl ?_
  refine ax_z_eq_N (p' := 15) rfl rfl (by decide : ¬ Int32.ofInt 1 = 0) ?_
  refine am_ev.step (pc' := 16) rfl rfl ?_
  refine am_ev.step (pc' := 17) rfl rfl ?_
  refine am_ev.step (pc' := 18) rfl rfl ?_
  refine am_ev.step (pc' := 21) rfl rfl ?_
  refine ax_call (z := 165) (p' := 24) (as := [_, _, _]) rfl (Or.inl ⟨_, rfl⟩) rfl rfl rfl rfl rfl rfl rfl rfl H3 rfl ?_
  refine ax_z_eq_N (p' := 27) rfl rfl (by decide : ¬ Int32.ofInt 1 = 0) ?_
  refine am_ev.step (pc' := 28) rfl rfl ?_
  refine am_ev.step (pc' := 29) rfl rfl ?_
  refine ax_gf (p' := 32) rfl rfl O v17 ?_
  refine am_ev.step (pc' := 33) rfl rfl ?_
  refine ax_iaload (p' := 34) rfl rfl rd ?_
  refine ax_c_ne_T (p' := 40) rfl rfl q.2.2 ?_
  refine am_ev.step (pc' := 41) rfl rfl ?_
  refine ax_gf (p' := 44) rfl rfl O v21 ?_
  refine am_ev.step (pc' := 45) rfl rfl ?_
  refine ax_iaload (p' := 46) rfl rfl rd2 ?_
  refine am_ev.step (pc' := 47) rfl rfl ?_
  refine ax_c_eq_N (p' := 50) rfl rfl qw ?_
  refine am_ev.step (pc' := 52) rfl rfl ?_
  exact am_ev.reti rfl rfl rfl
theorem tr_187d {t w : Int32} (O : am_isO h 78 13 = true) (H : am_ev (d + 1) 188 0 (am_ent [.ref 78, .int p] 2) [] h (some (.int (Int32.ofInt 1)), h)) (v17 : h.2.2.2 78 17 = .ref 86) (v21 : h.2.2.2 78 21 = .ref 90) (v22 : h.2.2.2 78 22 = .ref 91) (rd : am_rd h 86 p (fun c => Nat.beq c 0) = some (.int t)) (rd2 : am_rd h 90 p (fun c => Nat.beq c 0) = some (.int w)) (q : tr_ok a u t) (qw : w = Int32.ofInt (-1)) (w1 : am_wr h 90 p 0 (.int a) = some (am_put h 90 p.toInt.toNat (.int a))) (w2 : am_wr (am_put h 90 p.toInt.toNat (.int a)) 91 p 0 (.int u) = some (am_put (am_put h 90 p.toInt.toNat (.int a)) 91 p.toInt.toNat (.int u))) : am_ev (d + 2) 187 0 (am_ent [.ref 78, .int p, .int a, .int u] 4) [] h (some (.int (Int32.ofInt 1)), am_put (am_put h 90 p.toInt.toNat (.int a)) 91 p.toInt.toNat (.int u)) := by
  have H2 := (ip_186 (h := h) (d := d) (a := a)).1 q.1
  have H3 := (in_n (h := h) (d := d + 1) (u := u) (l := 1) (g := 99) (by decide) (by decide)).1 q.2.1
  refine am_ev.step (pc' := 1) rfl rfl ?_
  refine am_ev.step (pc' := 2) rfl rfl ?_
  refine ax_call (z := 188) (p' := 5) (as := [_, _]) rfl (Or.inr (Or.inl ⟨_, rfl⟩)) rfl rfl rfl rfl rfl rfl O rfl H rfl ?_
  refine ax_z_eq_N (p' := 8) rfl rfl (by decide : ¬ Int32.ofInt 1 = 0) ?_
  refine am_ev.step (pc' := 9) rfl rfl ?_
  refine ax_call (z := 186) (p' := 12) (as := [_]) rfl (Or.inl ⟨_, rfl⟩) rfl rfl rfl rfl rfl rfl rfl rfl H2 rfl ?_
  refine ax_z_eq_N (p' := 15) rfl rfl (by decide : ¬ Int32.ofInt 1 = 0) ?_
  refine am_ev.step (pc' := 16) rfl rfl ?_
  refine am_ev.step (pc' := 17) rfl rfl ?_
  refine am_ev.step (pc' := 18) rfl rfl ?_
  refine am_ev.step (pc' := 21) rfl rfl ?_
  refine ax_call (z := 165) (p' := 24) (as := [_, _, _]) rfl (Or.inl ⟨_, rfl⟩) rfl rfl rfl rfl rfl rfl rfl rfl H3 rfl ?_
  refine ax_z_eq_N (p' := 27) rfl rfl (by decide : ¬ Int32.ofInt 1 = 0) ?_
  refine am_ev.step (pc' := 28) rfl rfl ?_
  refine am_ev.step (pc' := 29) rfl rfl ?_
  refine ax_gf (p' := 32) rfl rfl O v17 ?_
  refine am_ev.step (pc' := 33) rfl rfl ?_
  refine ax_iaload (p' := 34) rfl rfl rd ?_
  refine ax_c_ne_T (p' := 40) rfl rfl q.2.2 ?_
  refine am_ev.step (pc' := 41) rfl rfl ?_
  refine ax_gf (p' := 44) rfl rfl O v21 ?_
  refine am_ev.step (pc' := 45) rfl rfl ?_
  refine ax_iaload (p' := 46) rfl rfl rd2 ?_
  refine am_ev.step (pc' := 47) rfl rfl ?_
  refine ax_c_eq_T (p' := 53) rfl rfl qw ?_
  refine am_ev.step (pc' := 54) rfl rfl ?_
  refine ax_gf (p' := 57) rfl rfl O v21 ?_
  refine am_ev.step (pc' := 58) rfl rfl ?_
  refine am_ev.step (pc' := 59) rfl rfl ?_
  refine ax_iastore (p' := 60) rfl rfl w1 ?_
  refine am_ev.step (pc' := 61) rfl rfl ?_
  refine ax_gf (p' := 64) rfl rfl O (ax_put_o (Or.inl (by decide)) v22) ?_
  refine am_ev.step (pc' := 65) rfl rfl ?_
  refine am_ev.step (pc' := 66) rfl rfl ?_
  refine ax_iastore (p' := 67) rfl rfl w2 ?_
  refine am_ev.step (pc' := 68) rfl rfl ?_
  exact am_ev.reti rfl rfl rfl
end TRA
