/-! GONE, LEFT, LEAVE ON, on both sides -/
section GON
variable {h : am_H} {d s : Nat} {p a m x y w c : Int32}
theorem go_214 (O : am_isO h 78 13 = true) (v : h.2.2.2 78 35 = .int m) (hm : 0 ≤ m.toInt ∧ m.toInt ≤ 80) : (0 ≤ p.toInt ∧ p.toInt < m.toInt → am_ev (d + 1) 214 0 (am_ent [.ref 78, .int p] 2) [] h (some (.int (Int32.ofInt 1)), h)) ∧ (¬ (0 ≤ p.toInt ∧ p.toInt < m.toInt) → am_ev (d + 1) 214 0 (am_ent [.ref 78, .int p] 2) [] h (some (.int (Int32.ofInt 0)), h)) := by
  have e0 : p.toInt64.toInt = p.toInt := Int32.toInt_toInt64 p
  have e1 : (m.toInt64 - Int64.ofNat 1).toInt = m.toInt - 1 := by
    rw [Int64.toInt_sub, Int32.toInt_toInt64, show (Int64.ofNat 1).toInt = 1 by decide, Int.bmod_eq_of_le (by omega) (by omega)]
  have e2 : (Int64.ofNat 0).toInt = 0 := by decide
  refine ⟨fun q => ?_, fun q => ?_⟩
  · have H := in_165t (h := h) (d := d) (a := p.toInt64) (b := Int64.ofNat 0) (c := m.toInt64 - Int64.ofNat 1) (by omega)
    refine am_ev.step (pc' := 1) rfl rfl ?_
    refine am_ev.step (pc' := 2) rfl rfl ?_
    refine am_ev.step (pc' := 3) rfl rfl ?_
    refine am_ev.step (pc' := 4) rfl rfl ?_
    refine ax_gf (p' := 7) rfl rfl O v ?_
    refine am_ev.step (pc' := 8) rfl rfl ?_
    refine am_ev.step (pc' := 9) rfl rfl ?_
    refine am_ev.step (pc' := 10) rfl rfl ?_
    refine ax_call (z := 165) (p' := 13) (as := [_, _, _]) rfl (Or.inl ⟨_, rfl⟩) rfl rfl rfl rfl rfl rfl rfl rfl H rfl ?_
    exact am_ev.reti rfl rfl rfl
  · have H := in_165f (h := h) (d := d) (a := p.toInt64) (b := Int64.ofNat 0) (c := m.toInt64 - Int64.ofNat 1) (by omega)
    refine am_ev.step (pc' := 1) rfl rfl ?_
    refine am_ev.step (pc' := 2) rfl rfl ?_
    refine am_ev.step (pc' := 3) rfl rfl ?_
    refine am_ev.step (pc' := 4) rfl rfl ?_
    refine ax_gf (p' := 7) rfl rfl O v ?_
    refine am_ev.step (pc' := 8) rfl rfl ?_
    refine am_ev.step (pc' := 9) rfl rfl ?_
    refine am_ev.step (pc' := 10) rfl rfl ?_
    refine ax_call (z := 165) (p' := 13) (as := [_, _, _]) rfl (Or.inl ⟨_, rfl⟩) rfl rfl rfl rfl rfl rfl rfl rfl H rfl ?_
    exact am_ev.reti rfl rfl rfl
theorem go_216 : (0 ≤ a.toInt ∧ a.toInt ≤ 29999 → am_ev (d + 1) 216 0 (am_ent [.int a] 1) [] h (some (.int (Int32.ofInt 1)), h)) ∧ (¬ (0 ≤ a.toInt ∧ a.toInt ≤ 29999) → am_ev (d + 1) 216 0 (am_ent [.int a] 1) [] h (some (.int (Int32.ofInt 0)), h)) := by
  refine ⟨fun q => ?_, fun q => ?_⟩
  · have H := (in_n (h := h) (d := d) (u := a) (l := 0) (g := 29999) (by decide) (by decide)).1 q
    refine am_ev.step (pc' := 1) rfl rfl ?_
    refine am_ev.step (pc' := 2) rfl rfl ?_
    refine am_ev.step (pc' := 3) rfl rfl ?_
    refine am_ev.step (pc' := 6) rfl rfl ?_
    refine ax_call (z := 165) (p' := 9) (as := [_, _, _]) rfl (Or.inl ⟨_, rfl⟩) rfl rfl rfl rfl rfl rfl rfl rfl H rfl ?_
    exact am_ev.reti rfl rfl rfl
  · have H := (in_n (h := h) (d := d) (u := a) (l := 0) (g := 29999) (by decide) (by decide)).2 q
    refine am_ev.step (pc' := 1) rfl rfl ?_
    refine am_ev.step (pc' := 2) rfl rfl ?_
    refine am_ev.step (pc' := 3) rfl rfl ?_
    refine am_ev.step (pc' := 6) rfl rfl ?_
    refine ax_call (z := 165) (p' := 9) (as := [_, _, _]) rfl (Or.inl ⟨_, rfl⟩) rfl rfl rfl rfl rfl rfl rfl rfl H rfl ?_
    exact am_ev.reti rfl rfl rfl
theorem go_87t (O : am_isO h 48 7 = true) (v1 : h.2.2.2 48 1 = .int m) (v0 : h.2.2.2 48 0 = .ref 49) (q : 0 ≤ p.toInt ∧ p.toInt < m.toInt) (rd : am_rd h 49 p (fun c => Nat.ble 4 c && am_isA c) = some (.ref s)) : am_ev d 87 0 (am_ent [.ref 48, .int p] 2) [] h (some (.ref s), h) := by
  have z0 : (0 : Int32).toInt = 0 := by decide
  have c1 : ¬ p < 0 := fun z => by
    have := Int32.lt_iff_toInt_lt.1 z
    omega
  have c2 : p < m := Int32.lt_iff_toInt_lt.2 q.2
  refine am_ev.step (pc' := 1) rfl rfl ?_
  refine ax_z_lt_N (p' := 4) rfl rfl c1 ?_
  refine am_ev.step (pc' := 5) rfl rfl ?_
  refine am_ev.step (pc' := 6) rfl rfl ?_
  refine ax_gf (p' := 9) rfl rfl O v1 ?_
  refine ax_c_lt_T (p' := 16) rfl rfl c2 ?_
  refine am_ev.step (pc' := 17) rfl rfl ?_
  refine ax_gf (p' := 20) rfl rfl O v0 ?_
  refine am_ev.step (pc' := 21) rfl rfl ?_
  refine ax_aaload (p' := 22) rfl rfl rd ?_
  first | exact am_ev.reta rfl rfl | exact am_ev.retn rfl rfl
theorem go_87f (O : am_isO h 48 7 = true) (v1 : h.2.2.2 48 1 = .int m) (q : ¬ (0 ≤ p.toInt ∧ p.toInt < m.toInt)) : am_ev d 87 0 (am_ent [.ref 48, .int p] 2) [] h (some .null, h) := by
  have z0 : (0 : Int32).toInt = 0 := by decide
  by_cases c1 : p < 0
  · refine am_ev.step (pc' := 1) rfl rfl ?_
    refine ax_z_lt_T (p' := 12) rfl rfl c1 ?_
    refine am_ev.step (pc' := 13) rfl rfl ?_
    refine am_ev.step (pc' := 22) rfl rfl ?_
    first | exact am_ev.reta rfl rfl | exact am_ev.retn rfl rfl
  · have c2 : ¬ p < m := fun z => by
      have k1 := Int32.lt_iff_toInt_lt.1 z
      have k2 := mt Int32.lt_iff_toInt_lt.2 c1
      omega
    refine am_ev.step (pc' := 1) rfl rfl ?_
    refine ax_z_lt_N (p' := 4) rfl rfl c1 ?_
    refine am_ev.step (pc' := 5) rfl rfl ?_
    refine am_ev.step (pc' := 6) rfl rfl ?_
    refine ax_gf (p' := 9) rfl rfl O v1 ?_
    refine ax_c_lt_N (p' := 12) rfl rfl c2 ?_
    refine am_ev.step (pc' := 13) rfl rfl ?_
    refine am_ev.step (pc' := 22) rfl rfl ?_
    first | exact am_ev.reta rfl rfl | exact am_ev.retn rfl rfl
theorem go_89n (O : am_isO h 40 11 = true) (O48 : am_isO h 48 7 = true) (v2 : h.2.2.2 40 2 = .ref 48) (H : am_ev d 87 0 (am_ent [.ref 48, .int p] 2) [] h (some .null, h)) : am_ev (d + 1) 89 0 (am_ent [.ref 40, .int p, .int a] 4) [] h (some (ax_m (-2)), h) := by
  refine am_ev.step (pc' := 1) rfl rfl ?_
  refine ax_gf (p' := 4) rfl rfl O v2 ?_
  refine am_ev.step (pc' := 5) rfl rfl ?_
  refine ax_call (z := 87) (p' := 8) (as := [_, _]) rfl (Or.inr (Or.inl ⟨_, rfl⟩)) rfl rfl rfl rfl rfl rfl O48 rfl H rfl ?_
  refine am_ev.step (pc' := 9) rfl rfl ?_
  refine am_ev.step (pc' := 10) rfl rfl ?_
  refine am_ev.step (pc' := 23) rfl rfl ?_
  refine am_ev.step (pc' := 25) rfl rfl ?_
  exact am_ev.reti rfl rfl rfl
theorem go_89f (O : am_isO h 40 11 = true) (O48 : am_isO h 48 7 = true) (v2 : h.2.2.2 40 2 = .ref 48) (H : am_ev d 87 0 (am_ent [.ref 48, .int p] 2) [] h (some (.ref s), h)) (q : ¬ (0 ≤ a.toInt ∧ a.toInt ≤ 29999)) : am_ev (d + 1) 89 0 (am_ent [.ref 40, .int p, .int a] 4) [] h (some (ax_m (-2)), h) := by
  have H2 := (iw_39 (h := h) (d := d) (u := a) (v := (Int16.ofInt 29999).toInt32)).2 (by rw [show (Int16.ofInt 29999).toInt32.toInt = 29999 by decide]; exact q)
  refine am_ev.step (pc' := 1) rfl rfl ?_
  refine ax_gf (p' := 4) rfl rfl O v2 ?_
  refine am_ev.step (pc' := 5) rfl rfl ?_
  refine ax_call (z := 87) (p' := 8) (as := [_, _]) rfl (Or.inr (Or.inl ⟨_, rfl⟩)) rfl rfl rfl rfl rfl rfl O48 rfl H rfl ?_
  refine am_ev.step (pc' := 9) rfl rfl ?_
  refine am_ev.step (pc' := 10) rfl rfl ?_
  refine am_ev.step (pc' := 13) rfl rfl ?_
  refine am_ev.step (pc' := 14) rfl rfl ?_
  refine am_ev.step (pc' := 17) rfl rfl ?_
  refine ax_call (z := 39) (p' := 20) (as := [_, _]) rfl (Or.inl ⟨_, rfl⟩) rfl rfl rfl rfl rfl rfl rfl rfl H2 rfl ?_
  refine ax_z_ne_N (p' := 23) rfl rfl (by decide : Int32.ofInt 0 = 0) ?_
  refine am_ev.step (pc' := 25) rfl rfl ?_
  exact am_ev.reti rfl rfl rfl
theorem go_89s (O : am_isO h 40 11 = true) (O48 : am_isO h 48 7 = true) (v2 : h.2.2.2 40 2 = .ref 48) (H : am_ev d 87 0 (am_ent [.ref 48, .int p] 2) [] h (some (.ref s), h)) (Os : am_isO h s 4 = true) (v9 : h.2.2.2 s 9 = .int w) (q : 0 ≤ a.toInt ∧ a.toInt ≤ 29999) (qw : ¬ w = Int32.ofInt (-1)) : am_ev (d + 1) 89 0 (am_ent [.ref 40, .int p, .int a] 4) [] h (some (ax_m (-4)), h) := by
  have H2 := (iw_39 (h := h) (d := d) (u := a) (v := (Int16.ofInt 29999).toInt32)).1 (by rw [show (Int16.ofInt 29999).toInt32.toInt = 29999 by decide]; exact q)
  refine am_ev.step (pc' := 1) rfl rfl ?_
  refine ax_gf (p' := 4) rfl rfl O v2 ?_
  refine am_ev.step (pc' := 5) rfl rfl ?_
  refine ax_call (z := 87) (p' := 8) (as := [_, _]) rfl (Or.inr (Or.inl ⟨_, rfl⟩)) rfl rfl rfl rfl rfl rfl O48 rfl H rfl ?_
  refine am_ev.step (pc' := 9) rfl rfl ?_
  refine am_ev.step (pc' := 10) rfl rfl ?_
  refine am_ev.step (pc' := 13) rfl rfl ?_
  refine am_ev.step (pc' := 14) rfl rfl ?_
  refine am_ev.step (pc' := 17) rfl rfl ?_
  refine ax_call (z := 39) (p' := 20) (as := [_, _]) rfl (Or.inl ⟨_, rfl⟩) rfl rfl rfl rfl rfl rfl rfl rfl H2 rfl ?_
  refine ax_z_ne_T (p' := 26) rfl rfl (by decide : ¬ Int32.ofInt 1 = 0) ?_
  refine am_ev.step (pc' := 27) rfl rfl ?_
  refine ax_gf (p' := 30) rfl rfl Os v9 ?_
  refine am_ev.step (pc' := 31) rfl rfl ?_
  refine ax_c_eq_N (p' := 34) rfl rfl qw ?_
  refine am_ev.step (pc' := 36) rfl rfl ?_
  exact am_ev.reti rfl rfl rfl
theorem go_89d (O : am_isO h 40 11 = true) (O48 : am_isO h 48 7 = true) (v2 : h.2.2.2 40 2 = .ref 48) (H : am_ev d 87 0 (am_ent [.ref 48, .int p] 2) [] h (some (.ref s), h)) (Os : am_isO h s 4 = true) (hs : 130 ≤ s) (v9 : h.2.2.2 s 9 = .int w) (q : 0 ≤ a.toInt ∧ a.toInt ≤ 29999) (qw : w = Int32.ofInt (-1)) (vc : h.2.2.2 40 9 = .int c) : am_ev (d + 1) 89 0 (am_ent [.ref 40, .int p, .int a] 4) [] h (some (.int (Int32.ofInt 1)), am_put (am_put h s 9 (.int a)) s 10 (.int c)) := by
  have H2 := (iw_39 (h := h) (d := d) (u := a) (v := (Int16.ofInt 29999).toInt32)).1 (by rw [show (Int16.ofInt 29999).toInt32.toInt = 29999 by decide]; exact q)
  refine am_ev.step (pc' := 1) rfl rfl ?_
  refine ax_gf (p' := 4) rfl rfl O v2 ?_
  refine am_ev.step (pc' := 5) rfl rfl ?_
  refine ax_call (z := 87) (p' := 8) (as := [_, _]) rfl (Or.inr (Or.inl ⟨_, rfl⟩)) rfl rfl rfl rfl rfl rfl O48 rfl H rfl ?_
  refine am_ev.step (pc' := 9) rfl rfl ?_
  refine am_ev.step (pc' := 10) rfl rfl ?_
  refine am_ev.step (pc' := 13) rfl rfl ?_
  refine am_ev.step (pc' := 14) rfl rfl ?_
  refine am_ev.step (pc' := 17) rfl rfl ?_
  refine ax_call (z := 39) (p' := 20) (as := [_, _]) rfl (Or.inl ⟨_, rfl⟩) rfl rfl rfl rfl rfl rfl rfl rfl H2 rfl ?_
  refine ax_z_ne_T (p' := 26) rfl rfl (by decide : ¬ Int32.ofInt 1 = 0) ?_
  refine am_ev.step (pc' := 27) rfl rfl ?_
  refine ax_gf (p' := 30) rfl rfl Os v9 ?_
  refine am_ev.step (pc' := 31) rfl rfl ?_
  refine ax_c_eq_T (p' := 37) rfl rfl qw ?_
  refine am_ev.step (pc' := 38) rfl rfl ?_
  refine am_ev.step (pc' := 39) rfl rfl ?_
  refine ax_pf (p' := 42) rfl rfl Os rfl ?_
  refine am_ev.step (pc' := 43) rfl rfl ?_
  refine am_ev.step (pc' := 44) rfl rfl ?_
  refine ax_gf (p' := 47) rfl rfl O (ax_put_o (Or.inl (by omega)) vc) ?_
  refine ax_pf (p' := 50) rfl rfl Os rfl ?_
  refine am_ev.step (pc' := 51) rfl rfl ?_
  exact am_ev.reti rfl rfl rfl
theorem go_215n (O : am_isO h 78 13 = true) (H : am_ev (d + 1) 214 0 (am_ent [.ref 78, .int p] 2) [] h (some (.int (Int32.ofInt 0)), h)) : am_ev (d + 2) 215 0 (am_ent [.ref 78, .int p, .int a] 3) [] h (some (ax_m (-2)), h) := by
  refine am_ev.step (pc' := 1) rfl rfl ?_
  refine am_ev.step (pc' := 2) rfl rfl ?_
  refine ax_call (z := 214) (p' := 5) (as := [_, _]) rfl (Or.inr (Or.inl ⟨_, rfl⟩)) rfl rfl rfl rfl rfl rfl O rfl H rfl ?_
  refine ax_z_eq_T (p' := 15) rfl rfl (by decide : Int32.ofInt 0 = 0) ?_
  refine am_ev.step (pc' := 17) rfl rfl ?_
  exact am_ev.reti rfl rfl rfl
theorem go_215f (O : am_isO h 78 13 = true) (H : am_ev (d + 1) 214 0 (am_ent [.ref 78, .int p] 2) [] h (some (.int (Int32.ofInt 1)), h)) (q : ¬ (0 ≤ a.toInt ∧ a.toInt ≤ 29999)) : am_ev (d + 2) 215 0 (am_ent [.ref 78, .int p, .int a] 3) [] h (some (ax_m (-2)), h) := by
  have H2 := (go_216 (h := h) (d := d) (a := a)).2 q
  refine am_ev.step (pc' := 1) rfl rfl ?_
  refine am_ev.step (pc' := 2) rfl rfl ?_
  refine ax_call (z := 214) (p' := 5) (as := [_, _]) rfl (Or.inr (Or.inl ⟨_, rfl⟩)) rfl rfl rfl rfl rfl rfl O rfl H rfl ?_
  refine ax_z_eq_N (p' := 8) rfl rfl (by decide : ¬ Int32.ofInt 1 = 0) ?_
  refine am_ev.step (pc' := 9) rfl rfl ?_
  refine ax_call (z := 216) (p' := 12) (as := [_]) rfl (Or.inl ⟨_, rfl⟩) rfl rfl rfl rfl rfl rfl rfl rfl H2 rfl ?_
  refine ax_z_ne_N (p' := 15) rfl rfl (by decide : Int32.ofInt 0 = 0) ?_
  refine am_ev.step (pc' := 17) rfl rfl ?_
  exact am_ev.reti rfl rfl rfl
theorem go_215s (O : am_isO h 78 13 = true) (H : am_ev (d + 1) 214 0 (am_ent [.ref 78, .int p] 2) [] h (some (.int (Int32.ofInt 1)), h)) (v47 : h.2.2.2 78 47 = .ref 113) (rd : am_rd h 113 p (fun c => Nat.beq c 0) = some (.int w)) (q : 0 ≤ a.toInt ∧ a.toInt ≤ 29999) (qw : ¬ w = Int32.ofInt (-1)) : am_ev (d + 2) 215 0 (am_ent [.ref 78, .int p, .int a] 3) [] h (some (ax_m (-4)), h) := by
  have H2 := (go_216 (h := h) (d := d) (a := a)).1 q
  refine am_ev.step (pc' := 1) rfl rfl ?_
  refine am_ev.step (pc' := 2) rfl rfl ?_
  refine ax_call (z := 214) (p' := 5) (as := [_, _]) rfl (Or.inr (Or.inl ⟨_, rfl⟩)) rfl rfl rfl rfl rfl rfl O rfl H rfl ?_
  refine ax_z_eq_N (p' := 8) rfl rfl (by decide : ¬ Int32.ofInt 1 = 0) ?_
  refine am_ev.step (pc' := 9) rfl rfl ?_
  refine ax_call (z := 216) (p' := 12) (as := [_]) rfl (Or.inl ⟨_, rfl⟩) rfl rfl rfl rfl rfl rfl rfl rfl H2 rfl ?_
  refine ax_z_ne_T (p' := 18) rfl rfl (by decide : ¬ Int32.ofInt 1 = 0) ?_
  refine am_ev.step (pc' := 19) rfl rfl ?_
  refine ax_gf (p' := 22) rfl rfl O v47 ?_
  refine am_ev.step (pc' := 23) rfl rfl ?_
  refine ax_iaload (p' := 24) rfl rfl rd ?_
  refine am_ev.step (pc' := 25) rfl rfl ?_
  refine ax_c_eq_N (p' := 28) rfl rfl qw ?_
  refine am_ev.step (pc' := 30) rfl rfl ?_
  exact am_ev.reti rfl rfl rfl
theorem go_215d (O : am_isO h 78 13 = true) (H : am_ev (d + 1) 214 0 (am_ent [.ref 78, .int p] 2) [] h (some (.int (Int32.ofInt 1)), h)) (v46 : h.2.2.2 78 46 = .ref 112) (v47 : h.2.2.2 78 47 = .ref 113) (vc : h.2.2.2 78 15 = .int c) (rd : am_rd h 113 p (fun c => Nat.beq c 0) = some (.int w)) (q : 0 ≤ a.toInt ∧ a.toInt ≤ 29999) (qw : w = Int32.ofInt (-1)) (w1 : am_wr h 112 p 0 (.int a) = some (am_put h 112 p.toInt.toNat (.int a))) (w2 : am_wr (am_put h 112 p.toInt.toNat (.int a)) 113 p 0 (.int c) = some (am_put (am_put h 112 p.toInt.toNat (.int a)) 113 p.toInt.toNat (.int c))) : am_ev (d + 2) 215 0 (am_ent [.ref 78, .int p, .int a] 3) [] h (some (.int (Int32.ofInt 1)), am_put (am_put h 112 p.toInt.toNat (.int a)) 113 p.toInt.toNat (.int c)) := by
  have H2 := (go_216 (h := h) (d := d) (a := a)).1 q
  refine am_ev.step (pc' := 1) rfl rfl ?_
  refine am_ev.step (pc' := 2) rfl rfl ?_
  refine ax_call (z := 214) (p' := 5) (as := [_, _]) rfl (Or.inr (Or.inl ⟨_, rfl⟩)) rfl rfl rfl rfl rfl rfl O rfl H rfl ?_
  refine ax_z_eq_N (p' := 8) rfl rfl (by decide : ¬ Int32.ofInt 1 = 0) ?_
  refine am_ev.step (pc' := 9) rfl rfl ?_
  refine ax_call (z := 216) (p' := 12) (as := [_]) rfl (Or.inl ⟨_, rfl⟩) rfl rfl rfl rfl rfl rfl rfl rfl H2 rfl ?_
  refine ax_z_ne_T (p' := 18) rfl rfl (by decide : ¬ Int32.ofInt 1 = 0) ?_
  refine am_ev.step (pc' := 19) rfl rfl ?_
  refine ax_gf (p' := 22) rfl rfl O v47 ?_
  refine am_ev.step (pc' := 23) rfl rfl ?_
  refine ax_iaload (p' := 24) rfl rfl rd ?_
  refine am_ev.step (pc' := 25) rfl rfl ?_
  refine ax_c_eq_T (p' := 31) rfl rfl qw ?_
  refine am_ev.step (pc' := 32) rfl rfl ?_
  refine ax_gf (p' := 35) rfl rfl O v46 ?_
  refine am_ev.step (pc' := 36) rfl rfl ?_
  refine am_ev.step (pc' := 37) rfl rfl ?_
  refine ax_iastore (p' := 38) rfl rfl w1 ?_
  refine am_ev.step (pc' := 39) rfl rfl ?_
  refine ax_gf (p' := 42) rfl rfl O (ax_put_o (Or.inl (by decide)) v47) ?_
  refine am_ev.step (pc' := 43) rfl rfl ?_
  refine am_ev.step (pc' := 44) rfl rfl ?_
  refine ax_gf (p' := 47) rfl rfl O (ax_put_o (Or.inl (by decide)) vc) ?_
  refine ax_iastore (p' := 48) rfl rfl w2 ?_
  refine am_ev.step (pc' := 49) rfl rfl ?_
  exact am_ev.reti rfl rfl rfl
theorem go_88_0 (Os : am_isO h s 4 = true) (v : h.2.2.2 s 0 = .int x) : am_ev d 88 0 (am_ent [.ref s, iv 0] 2) [] h (some (.int x), h) := by
  refine am_ev.step (pc' := 1) rfl rfl ?_
  refine fx_ts (p' := 52) rfl (by decide) (by decide) rfl (by decide) ?_
  refine am_ev.step (pc' := 53) rfl rfl ?_
  refine ax_gf (p' := 56) rfl rfl Os v ?_
  exact am_ev.reti rfl rfl rfl
theorem go_213_0 (O : am_isO h 78 13 = true) (H : am_ev d 214 0 (am_ent [.ref 78, .int p] 2) [] h (some (.int (Int32.ofInt 1)), h)) (v : h.2.2.2 78 37 = .ref 103) (rd : am_rd h 103 p (fun c => Nat.beq c 0) = some (.int x)) : am_ev (d + 1) 213 0 (am_ent [.ref 78, .int p, iv 0] 3) [] h (some (.int x), h) := by
  refine am_ev.step (pc' := 1) rfl rfl ?_
  refine am_ev.step (pc' := 2) rfl rfl ?_
  refine ax_call (z := 214) (p' := 5) (as := [_, _]) rfl (Or.inr (Or.inl ⟨_, rfl⟩)) rfl rfl rfl rfl rfl rfl O rfl H rfl ?_
  refine ax_z_ne_T (p' := 11) rfl rfl (by decide : ¬ Int32.ofInt 1 = 0) ?_
  refine am_ev.step (pc' := 12) rfl rfl ?_
  refine fx_ts (p' := 64) rfl (by decide) (by decide) rfl (by decide) ?_
  refine am_ev.step (pc' := 65) rfl rfl ?_
  refine ax_gf (p' := 68) rfl rfl O v ?_
  refine am_ev.step (pc' := 69) rfl rfl ?_
  refine ax_iaload (p' := 70) rfl rfl rd ?_
  exact am_ev.reti rfl rfl rfl
theorem go_88_1 (Os : am_isO h s 4 = true) (v : h.2.2.2 s 2 = .int x) : am_ev d 88 0 (am_ent [.ref s, iv 1] 2) [] h (some (.int x), h) := by
  refine am_ev.step (pc' := 1) rfl rfl ?_
  refine fx_ts (p' := 57) rfl (by decide) (by decide) rfl (by decide) ?_
  refine am_ev.step (pc' := 58) rfl rfl ?_
  refine ax_gf (p' := 61) rfl rfl Os v ?_
  exact am_ev.reti rfl rfl rfl
theorem go_213_1 (O : am_isO h 78 13 = true) (H : am_ev d 214 0 (am_ent [.ref 78, .int p] 2) [] h (some (.int (Int32.ofInt 1)), h)) (v : h.2.2.2 78 38 = .ref 104) (rd : am_rd h 104 p (fun c => Nat.beq c 0) = some (.int x)) : am_ev (d + 1) 213 0 (am_ent [.ref 78, .int p, iv 1] 3) [] h (some (.int x), h) := by
  refine am_ev.step (pc' := 1) rfl rfl ?_
  refine am_ev.step (pc' := 2) rfl rfl ?_
  refine ax_call (z := 214) (p' := 5) (as := [_, _]) rfl (Or.inr (Or.inl ⟨_, rfl⟩)) rfl rfl rfl rfl rfl rfl O rfl H rfl ?_
  refine ax_z_ne_T (p' := 11) rfl rfl (by decide : ¬ Int32.ofInt 1 = 0) ?_
  refine am_ev.step (pc' := 12) rfl rfl ?_
  refine fx_ts (p' := 71) rfl (by decide) (by decide) rfl (by decide) ?_
  refine am_ev.step (pc' := 72) rfl rfl ?_
  refine ax_gf (p' := 75) rfl rfl O v ?_
  refine am_ev.step (pc' := 76) rfl rfl ?_
  refine ax_iaload (p' := 77) rfl rfl rd ?_
  exact am_ev.reti rfl rfl rfl
theorem go_88_2 (Os : am_isO h s 4 = true) (v : h.2.2.2 s 3 = .int x) : am_ev d 88 0 (am_ent [.ref s, iv 2] 2) [] h (some (.int x), h) := by
  refine am_ev.step (pc' := 1) rfl rfl ?_
  refine fx_ts (p' := 62) rfl (by decide) (by decide) rfl (by decide) ?_
  refine am_ev.step (pc' := 63) rfl rfl ?_
  refine ax_gf (p' := 66) rfl rfl Os v ?_
  exact am_ev.reti rfl rfl rfl
theorem go_213_2 (O : am_isO h 78 13 = true) (H : am_ev d 214 0 (am_ent [.ref 78, .int p] 2) [] h (some (.int (Int32.ofInt 1)), h)) (v : h.2.2.2 78 39 = .ref 105) (rd : am_rd h 105 p (fun c => Nat.beq c 0) = some (.int x)) : am_ev (d + 1) 213 0 (am_ent [.ref 78, .int p, iv 2] 3) [] h (some (.int x), h) := by
  refine am_ev.step (pc' := 1) rfl rfl ?_
  refine am_ev.step (pc' := 2) rfl rfl ?_
  refine ax_call (z := 214) (p' := 5) (as := [_, _]) rfl (Or.inr (Or.inl ⟨_, rfl⟩)) rfl rfl rfl rfl rfl rfl O rfl H rfl ?_
  refine ax_z_ne_T (p' := 11) rfl rfl (by decide : ¬ Int32.ofInt 1 = 0) ?_
  refine am_ev.step (pc' := 12) rfl rfl ?_
  refine fx_ts (p' := 78) rfl (by decide) (by decide) rfl (by decide) ?_
  refine am_ev.step (pc' := 79) rfl rfl ?_
  refine ax_gf (p' := 82) rfl rfl O v ?_
  refine am_ev.step (pc' := 83) rfl rfl ?_
  refine ax_iaload (p' := 84) rfl rfl rd ?_
  exact am_ev.reti rfl rfl rfl
theorem go_88_3 (Os : am_isO h s 4 = true) (v : h.2.2.2 s 4 = .int x) : am_ev d 88 0 (am_ent [.ref s, iv 3] 2) [] h (some (.int x), h) := by
  refine am_ev.step (pc' := 1) rfl rfl ?_
  refine fx_ts (p' := 67) rfl (by decide) (by decide) rfl (by decide) ?_
  refine am_ev.step (pc' := 68) rfl rfl ?_
  refine ax_gf (p' := 71) rfl rfl Os v ?_
  exact am_ev.reti rfl rfl rfl
theorem go_213_3 (O : am_isO h 78 13 = true) (H : am_ev d 214 0 (am_ent [.ref 78, .int p] 2) [] h (some (.int (Int32.ofInt 1)), h)) (v : h.2.2.2 78 40 = .ref 106) (rd : am_rd h 106 p (fun c => Nat.beq c 0) = some (.int x)) : am_ev (d + 1) 213 0 (am_ent [.ref 78, .int p, iv 3] 3) [] h (some (.int x), h) := by
  refine am_ev.step (pc' := 1) rfl rfl ?_
  refine am_ev.step (pc' := 2) rfl rfl ?_
  refine ax_call (z := 214) (p' := 5) (as := [_, _]) rfl (Or.inr (Or.inl ⟨_, rfl⟩)) rfl rfl rfl rfl rfl rfl O rfl H rfl ?_
  refine ax_z_ne_T (p' := 11) rfl rfl (by decide : ¬ Int32.ofInt 1 = 0) ?_
  refine am_ev.step (pc' := 12) rfl rfl ?_
  refine fx_ts (p' := 85) rfl (by decide) (by decide) rfl (by decide) ?_
  refine am_ev.step (pc' := 86) rfl rfl ?_
  refine ax_gf (p' := 89) rfl rfl O v ?_
  refine am_ev.step (pc' := 90) rfl rfl ?_
  refine ax_iaload (p' := 91) rfl rfl rd ?_
  exact am_ev.reti rfl rfl rfl
theorem go_88_4 (Os : am_isO h s 4 = true) (v : h.2.2.2 s 5 = .int x) : am_ev d 88 0 (am_ent [.ref s, iv 4] 2) [] h (some (.int x), h) := by
  refine am_ev.step (pc' := 1) rfl rfl ?_
  refine fx_ts (p' := 72) rfl (by decide) (by decide) rfl (by decide) ?_
  refine am_ev.step (pc' := 73) rfl rfl ?_
  refine ax_gf (p' := 76) rfl rfl Os v ?_
  exact am_ev.reti rfl rfl rfl
theorem go_213_4 (O : am_isO h 78 13 = true) (H : am_ev d 214 0 (am_ent [.ref 78, .int p] 2) [] h (some (.int (Int32.ofInt 1)), h)) (v : h.2.2.2 78 41 = .ref 107) (rd : am_rd h 107 p (fun c => Nat.beq c 0) = some (.int x)) : am_ev (d + 1) 213 0 (am_ent [.ref 78, .int p, iv 4] 3) [] h (some (.int x), h) := by
  refine am_ev.step (pc' := 1) rfl rfl ?_
  refine am_ev.step (pc' := 2) rfl rfl ?_
  refine ax_call (z := 214) (p' := 5) (as := [_, _]) rfl (Or.inr (Or.inl ⟨_, rfl⟩)) rfl rfl rfl rfl rfl rfl O rfl H rfl ?_
  refine ax_z_ne_T (p' := 11) rfl rfl (by decide : ¬ Int32.ofInt 1 = 0) ?_
  refine am_ev.step (pc' := 12) rfl rfl ?_
  refine fx_ts (p' := 92) rfl (by decide) (by decide) rfl (by decide) ?_
  refine am_ev.step (pc' := 93) rfl rfl ?_
  refine ax_gf (p' := 96) rfl rfl O v ?_
  refine am_ev.step (pc' := 97) rfl rfl ?_
  refine ax_iaload (p' := 98) rfl rfl rd ?_
  exact am_ev.reti rfl rfl rfl
theorem go_88_5 (Os : am_isO h s 4 = true) (v : h.2.2.2 s 6 = .int x) : am_ev d 88 0 (am_ent [.ref s, iv 5] 2) [] h (some (.int x), h) := by
  refine am_ev.step (pc' := 1) rfl rfl ?_
  refine fx_ts (p' := 77) rfl (by decide) (by decide) rfl (by decide) ?_
  refine am_ev.step (pc' := 78) rfl rfl ?_
  refine ax_gf (p' := 81) rfl rfl Os v ?_
  exact am_ev.reti rfl rfl rfl
theorem go_213_5 (O : am_isO h 78 13 = true) (H : am_ev d 214 0 (am_ent [.ref 78, .int p] 2) [] h (some (.int (Int32.ofInt 1)), h)) (v : h.2.2.2 78 42 = .ref 108) (rd : am_rd h 108 p (fun c => Nat.beq c 0) = some (.int x)) : am_ev (d + 1) 213 0 (am_ent [.ref 78, .int p, iv 5] 3) [] h (some (.int x), h) := by
  refine am_ev.step (pc' := 1) rfl rfl ?_
  refine am_ev.step (pc' := 2) rfl rfl ?_
  refine ax_call (z := 214) (p' := 5) (as := [_, _]) rfl (Or.inr (Or.inl ⟨_, rfl⟩)) rfl rfl rfl rfl rfl rfl O rfl H rfl ?_
  refine ax_z_ne_T (p' := 11) rfl rfl (by decide : ¬ Int32.ofInt 1 = 0) ?_
  refine am_ev.step (pc' := 12) rfl rfl ?_
  refine fx_ts (p' := 99) rfl (by decide) (by decide) rfl (by decide) ?_
  refine am_ev.step (pc' := 100) rfl rfl ?_
  refine ax_gf (p' := 103) rfl rfl O v ?_
  refine am_ev.step (pc' := 104) rfl rfl ?_
  refine ax_iaload (p' := 105) rfl rfl rd ?_
  exact am_ev.reti rfl rfl rfl
theorem go_88_6 (Os : am_isO h s 4 = true) (v : h.2.2.2 s 7 = .int x) : am_ev d 88 0 (am_ent [.ref s, iv 6] 2) [] h (some (.int x), h) := by
  refine am_ev.step (pc' := 1) rfl rfl ?_
  refine fx_ts (p' := 82) rfl (by decide) (by decide) rfl (by decide) ?_
  refine am_ev.step (pc' := 83) rfl rfl ?_
  refine ax_gf (p' := 86) rfl rfl Os v ?_
  exact am_ev.reti rfl rfl rfl
theorem go_213_6 (O : am_isO h 78 13 = true) (H : am_ev d 214 0 (am_ent [.ref 78, .int p] 2) [] h (some (.int (Int32.ofInt 1)), h)) (v : h.2.2.2 78 43 = .ref 109) (rd : am_rd h 109 p (fun c => Nat.beq c 0) = some (.int x)) : am_ev (d + 1) 213 0 (am_ent [.ref 78, .int p, iv 6] 3) [] h (some (.int x), h) := by
  refine am_ev.step (pc' := 1) rfl rfl ?_
  refine am_ev.step (pc' := 2) rfl rfl ?_
  refine ax_call (z := 214) (p' := 5) (as := [_, _]) rfl (Or.inr (Or.inl ⟨_, rfl⟩)) rfl rfl rfl rfl rfl rfl O rfl H rfl ?_
  refine ax_z_ne_T (p' := 11) rfl rfl (by decide : ¬ Int32.ofInt 1 = 0) ?_
  refine am_ev.step (pc' := 12) rfl rfl ?_
  refine fx_ts (p' := 106) rfl (by decide) (by decide) rfl (by decide) ?_
  refine am_ev.step (pc' := 107) rfl rfl ?_
  refine ax_gf (p' := 110) rfl rfl O v ?_
  refine am_ev.step (pc' := 111) rfl rfl ?_
  refine ax_iaload (p' := 112) rfl rfl rd ?_
  exact am_ev.reti rfl rfl rfl
theorem go_88_7 (Os : am_isO h s 4 = true) (v : h.2.2.2 s 8 = .int x) : am_ev d 88 0 (am_ent [.ref s, iv 7] 2) [] h (some (.int x), h) := by
  refine am_ev.step (pc' := 1) rfl rfl ?_
  refine fx_ts (p' := 87) rfl (by decide) (by decide) rfl (by decide) ?_
  refine am_ev.step (pc' := 88) rfl rfl ?_
  refine ax_gf (p' := 91) rfl rfl Os v ?_
  exact am_ev.reti rfl rfl rfl
theorem go_213_7 (O : am_isO h 78 13 = true) (H : am_ev d 214 0 (am_ent [.ref 78, .int p] 2) [] h (some (.int (Int32.ofInt 1)), h)) (v : h.2.2.2 78 44 = .ref 110) (rd : am_rd h 110 p (fun c => Nat.beq c 0) = some (.int x)) : am_ev (d + 1) 213 0 (am_ent [.ref 78, .int p, iv 7] 3) [] h (some (.int x), h) := by
  refine am_ev.step (pc' := 1) rfl rfl ?_
  refine am_ev.step (pc' := 2) rfl rfl ?_
  refine ax_call (z := 214) (p' := 5) (as := [_, _]) rfl (Or.inr (Or.inl ⟨_, rfl⟩)) rfl rfl rfl rfl rfl rfl O rfl H rfl ?_
  refine ax_z_ne_T (p' := 11) rfl rfl (by decide : ¬ Int32.ofInt 1 = 0) ?_
  refine am_ev.step (pc' := 12) rfl rfl ?_
  refine fx_ts (p' := 113) rfl (by decide) (by decide) rfl (by decide) ?_
  refine am_ev.step (pc' := 114) rfl rfl ?_
  refine ax_gf (p' := 117) rfl rfl O v ?_
  refine am_ev.step (pc' := 118) rfl rfl ?_
  refine ax_iaload (p' := 119) rfl rfl rd ?_
  exact am_ev.reti rfl rfl rfl
theorem go_88_8 (Os : am_isO h s 4 = true) (v : h.2.2.2 s 1 = .int x) : am_ev d 88 0 (am_ent [.ref s, iv 8] 2) [] h (some (.int x), h) := by
  refine am_ev.step (pc' := 1) rfl rfl ?_
  refine fx_ts (p' := 92) rfl (by decide) (by decide) rfl (by decide) ?_
  refine am_ev.step (pc' := 93) rfl rfl ?_
  refine ax_gf (p' := 96) rfl rfl Os v ?_
  exact am_ev.reti rfl rfl rfl
theorem go_213_8 (O : am_isO h 78 13 = true) (H : am_ev d 214 0 (am_ent [.ref 78, .int p] 2) [] h (some (.int (Int32.ofInt 1)), h)) (v : h.2.2.2 78 45 = .ref 111) (rd : am_rd h 111 p (fun c => Nat.beq c 0) = some (.int x)) : am_ev (d + 1) 213 0 (am_ent [.ref 78, .int p, iv 8] 3) [] h (some (.int x), h) := by
  refine am_ev.step (pc' := 1) rfl rfl ?_
  refine am_ev.step (pc' := 2) rfl rfl ?_
  refine ax_call (z := 214) (p' := 5) (as := [_, _]) rfl (Or.inr (Or.inl ⟨_, rfl⟩)) rfl rfl rfl rfl rfl rfl O rfl H rfl ?_
  refine ax_z_ne_T (p' := 11) rfl rfl (by decide : ¬ Int32.ofInt 1 = 0) ?_
  refine am_ev.step (pc' := 12) rfl rfl ?_
  refine fx_ts (p' := 120) rfl (by decide) (by decide) rfl (by decide) ?_
  refine am_ev.step (pc' := 121) rfl rfl ?_
  refine ax_gf (p' := 124) rfl rfl O v ?_
  refine am_ev.step (pc' := 125) rfl rfl ?_
  refine ax_iaload (p' := 126) rfl rfl rd ?_
  exact am_ev.reti rfl rfl rfl
theorem go_88_d {e : Int} (b1 : -2147483648 ≤ e ∧ e ≤ 2147483647) (q : e < 0 ∨ 8 < e) : am_ev d 88 0 (am_ent [.ref s, iv e] 2) [] h (some (ax_m (-9)), h) := by
  refine am_ev.step (pc' := 1) rfl rfl ?_
  refine fx_td (p' := 97) rfl b1 q (by decide) ?_
  refine am_ev.step (pc' := 99) rfl rfl ?_
  exact am_ev.reti rfl rfl rfl
theorem go_213_d {e : Int} (O : am_isO h 78 13 = true) (H : am_ev d 214 0 (am_ent [.ref 78, .int p] 2) [] h (some (.int (Int32.ofInt 1)), h)) (b1 : -2147483648 ≤ e ∧ e ≤ 2147483647) (q : e < 0 ∨ 8 < e) : am_ev (d + 1) 213 0 (am_ent [.ref 78, .int p, iv e] 3) [] h (some (ax_m (-9)), h) := by
  refine am_ev.step (pc' := 1) rfl rfl ?_
  refine am_ev.step (pc' := 2) rfl rfl ?_
  refine ax_call (z := 214) (p' := 5) (as := [_, _]) rfl (Or.inr (Or.inl ⟨_, rfl⟩)) rfl rfl rfl rfl rfl rfl O rfl H rfl ?_
  refine ax_z_ne_T (p' := 11) rfl rfl (by decide : ¬ Int32.ofInt 1 = 0) ?_
  refine am_ev.step (pc' := 12) rfl rfl ?_
  refine fx_td (p' := 127) rfl b1 q (by decide) ?_
  refine am_ev.step (pc' := 129) rfl rfl ?_
  exact am_ev.reti rfl rfl rfl
theorem go_213_n (O : am_isO h 78 13 = true) (H : am_ev d 214 0 (am_ent [.ref 78, .int p] 2) [] h (some (.int (Int32.ofInt 0)), h)) : am_ev (d + 1) 213 0 (am_ent [.ref 78, .int p, .int a] 3) [] h (some (ax_m (-9)), h) := by
  refine am_ev.step (pc' := 1) rfl rfl ?_
  refine am_ev.step (pc' := 2) rfl rfl ?_
  refine ax_call (z := 214) (p' := 5) (as := [_, _]) rfl (Or.inr (Or.inl ⟨_, rfl⟩)) rfl rfl rfl rfl rfl rfl O rfl H rfl ?_
  refine ax_z_ne_N (p' := 8) rfl rfl (by decide : Int32.ofInt 0 = 0) ?_
  refine am_ev.step (pc' := 10) rfl rfl ?_
  exact am_ev.reti rfl rfl rfl
theorem go_86n (O : am_isO h 40 11 = true) (O48 : am_isO h 48 7 = true) (v2 : h.2.2.2 40 2 = .ref 48) (H : am_ev d 87 0 (am_ent [.ref 48, .int p] 2) [] h (some .null, h)) : am_ev (d + 1) 86 0 (am_ent [.ref 40, .int p, .int a] 4) [] h (some (ax_m (-9)), h) := by
  refine am_ev.step (pc' := 1) rfl rfl ?_
  refine ax_gf (p' := 4) rfl rfl O v2 ?_
  refine am_ev.step (pc' := 5) rfl rfl ?_
  refine ax_call (z := 87) (p' := 8) (as := [_, _]) rfl (Or.inr (Or.inl ⟨_, rfl⟩)) rfl rfl rfl rfl rfl rfl O48 rfl H rfl ?_
  refine am_ev.step (pc' := 9) rfl rfl ?_
  refine am_ev.step (pc' := 10) rfl rfl ?_
  refine am_ev.step (pc' := 13) rfl rfl ?_
  refine am_ev.step (pc' := 15) rfl rfl ?_
  refine am_ev.step (pc' := 23) rfl rfl ?_
  exact am_ev.reti rfl rfl rfl
theorem go_86t (O : am_isO h 40 11 = true) (O48 : am_isO h 48 7 = true) (v2 : h.2.2.2 40 2 = .ref 48) (H : am_ev d 87 0 (am_ent [.ref 48, .int p] 2) [] h (some (.ref s), h)) (Os : am_isO h s 4 = true) (H2 : am_ev d 88 0 (am_ent [.ref s, .int a] 2) [] h (some (.int x), h)) : am_ev (d + 1) 86 0 (am_ent [.ref 40, .int p, .int a] 4) [] h (some (.int x), h) := by
  refine am_ev.step (pc' := 1) rfl rfl ?_
  refine ax_gf (p' := 4) rfl rfl O v2 ?_
  refine am_ev.step (pc' := 5) rfl rfl ?_
  refine ax_call (z := 87) (p' := 8) (as := [_, _]) rfl (Or.inr (Or.inl ⟨_, rfl⟩)) rfl rfl rfl rfl rfl rfl O48 rfl H rfl ?_
  refine am_ev.step (pc' := 9) rfl rfl ?_
  refine am_ev.step (pc' := 10) rfl rfl ?_
  refine am_ev.step (pc' := 18) rfl rfl ?_
  refine am_ev.step (pc' := 19) rfl rfl ?_
  refine am_ev.step (pc' := 20) rfl rfl ?_
  refine ax_call (z := 88) (p' := 23) (as := [_, _]) rfl (Or.inr (Or.inl ⟨_, rfl⟩)) rfl rfl rfl rfl rfl rfl Os rfl H2 rfl ?_
  exact am_ev.reti rfl rfl rfl
/-- the latest of the first k leaves that one says -/
def la (X Y : Nat → Int32) (P D : Int32) : Nat → Int
  | 0 => -1
  | k + 1 => if X k = P ∧ ¬ D < Y k then (k : Int) else la X Y P D k
theorem la_b (X Y : Nat → Int32) (P D : Int32) : ∀ k, -1 ≤ la X Y P D k ∧ la X Y P D k < k
  | 0 => ⟨Int.le_refl _, by show (-1 : Int) < 0; decide⟩
  | k + 1 => by
    have := la_b X Y P D k
    show -1 ≤ (if X k = P ∧ ¬ D < Y k then (k : Int) else la X Y P D k) ∧ (if X k = P ∧ ¬ D < Y k then (k : Int) else la X Y P D k) < _
    split <;> omega
theorem lo_96 {X Y : Nat → Int32} {P D : Int32} (S : fS h) : ∀ (k : Nat) (z : Int), k ≤ 80 → z = (k : Int) - 1 → (∀ i, i < k → ∃ s, h.2.2.2 49 i = .ref s ∧ am_isO h s 4 = true ∧ h.2.2.2 s 0 = .int (X i) ∧ h.2.2.2 s 1 = .int (Y i)) → am_ev d 96 7 [.ref 48, .int P, .int D, iv z] [] h (some (iv (la X Y P D k)), h)
  | 0, z, hk, hz, G => by
    refine am_ev.step (pc' := 8) rfl rfl ?_
    refine fx_z_lt_T (pT := 45) rfl (by omega) rfl (by omega) ?_
    refine am_ev.step (pc' := 46) rfl rfl ?_
    exact fx_reti rfl rfl rfl
  | k + 1, z, hk, hz, G => by
    obtain ⟨s, g0, Os, g1, g2⟩ := G k (Nat.lt_succ_self k)
    have hz : z = (k : Int) := by omega
    subst hz
    by_cases q1 : X k = P
    · by_cases q2 : D < Y k
      · rw [show la X Y P D (k + 1) = la X Y P D k from if_neg fun w => w.2 q2]
        refine am_ev.step (pc' := 8) rfl rfl ?_
        refine fx_z_lt_F (pF := 11) rfl (by omega) rfl (by omega) ?_
        refine am_ev.step (pc' := 12) rfl rfl ?_
        refine ax_gf (p' := 15) rfl rfl (S.ob rfl) (S.rf rfl rfl) ?_
        refine am_ev.step (pc' := 16) rfl rfl ?_
        refine ax_aaload (p' := 17) rfl rfl (S.rd (k := k) rfl rfl rfl rfl rfl (by omega) g0) ?_
        refine ax_gf (p' := 20) rfl rfl Os g1 ?_
        refine am_ev.step (pc' := 21) rfl rfl ?_
        refine ax_c_ne_N (p' := 24) rfl rfl q1 ?_
        refine am_ev.step (pc' := 25) rfl rfl ?_
        refine ax_gf (p' := 28) rfl rfl (S.ob rfl) (S.rf rfl rfl) ?_
        refine am_ev.step (pc' := 29) rfl rfl ?_
        refine ax_aaload (p' := 30) rfl rfl (S.rd (k := k) rfl rfl rfl rfl rfl (by omega) g0) ?_
        refine ax_gf (p' := 33) rfl rfl Os g2 ?_
        refine am_ev.step (pc' := 34) rfl rfl ?_
        refine ax_c_gt_T (p' := 39) rfl rfl q2 ?_
        refine fx_inc (p' := 42) (e := ((k : Int) - 1)) (ls' := [.ref 48, .int P, .int D, iv ((k : Int) - 1)]) rfl rfl rfl (by omega) rfl ?_
        refine am_ev.step (pc' := 7) rfl rfl ?_
        exact lo_96 S k _ (by omega) (by omega) (fun i hi => G i (by omega))
      · rw [show la X Y P D (k + 1) = (k : Int) from if_pos ⟨q1, q2⟩]
        refine am_ev.step (pc' := 8) rfl rfl ?_
        refine fx_z_lt_F (pF := 11) rfl (by omega) rfl (by omega) ?_
        refine am_ev.step (pc' := 12) rfl rfl ?_
        refine ax_gf (p' := 15) rfl rfl (S.ob rfl) (S.rf rfl rfl) ?_
        refine am_ev.step (pc' := 16) rfl rfl ?_
        refine ax_aaload (p' := 17) rfl rfl (S.rd (k := k) rfl rfl rfl rfl rfl (by omega) g0) ?_
        refine ax_gf (p' := 20) rfl rfl Os g1 ?_
        refine am_ev.step (pc' := 21) rfl rfl ?_
        refine ax_c_ne_N (p' := 24) rfl rfl q1 ?_
        refine am_ev.step (pc' := 25) rfl rfl ?_
        refine ax_gf (p' := 28) rfl rfl (S.ob rfl) (S.rf rfl rfl) ?_
        refine am_ev.step (pc' := 29) rfl rfl ?_
        refine ax_aaload (p' := 30) rfl rfl (S.rd (k := k) rfl rfl rfl rfl rfl (by omega) g0) ?_
        refine ax_gf (p' := 33) rfl rfl Os g2 ?_
        refine am_ev.step (pc' := 34) rfl rfl ?_
        refine ax_c_gt_N (p' := 37) rfl rfl q2 ?_
        refine am_ev.step (pc' := 38) rfl rfl ?_
        exact fx_reti rfl rfl rfl
    · rw [show la X Y P D (k + 1) = la X Y P D k from if_neg fun w => q1 w.1]
      refine am_ev.step (pc' := 8) rfl rfl ?_
      refine fx_z_lt_F (pF := 11) rfl (by omega) rfl (by omega) ?_
      refine am_ev.step (pc' := 12) rfl rfl ?_
      refine ax_gf (p' := 15) rfl rfl (S.ob rfl) (S.rf rfl rfl) ?_
      refine am_ev.step (pc' := 16) rfl rfl ?_
      refine ax_aaload (p' := 17) rfl rfl (S.rd (k := k) rfl rfl rfl rfl rfl (by omega) g0) ?_
      refine ax_gf (p' := 20) rfl rfl Os g1 ?_
      refine am_ev.step (pc' := 21) rfl rfl ?_
      refine ax_c_ne_T (p' := 39) rfl rfl q1 ?_
      refine fx_inc (p' := 42) (e := ((k : Int) - 1)) (ls' := [.ref 48, .int P, .int D, iv ((k : Int) - 1)]) rfl rfl rfl (by omega) rfl ?_
      refine am_ev.step (pc' := 7) rfl rfl ?_
      exact lo_96 S k _ (by omega) (by omega) (fun i hi => G i (by omega))
theorem go_96 {X Y : Nat → Int32} {P D : Int32} {n : Nat} (S : fS h) (v1 : h.2.2.2 48 1 = iv n) (hn : n ≤ 80) (G : ∀ i, i < n → ∃ s, h.2.2.2 49 i = .ref s ∧ am_isO h s 4 = true ∧ h.2.2.2 s 0 = .int (X i) ∧ h.2.2.2 s 1 = .int (Y i)) : am_ev d 96 0 (am_ent [.ref 48, .int P, .int D] 4) [] h (some (iv (la X Y P D n)), h) := by
  show am_ev d 96 0 [.ref 48, .int P, .int D, am_ph] [] h _
  refine am_ev.step (pc' := 1) rfl rfl ?_
  refine ax_gf (p' := 4) rfl rfl (S.ob rfl) v1 ?_
  refine am_ev.step (pc' := 5) rfl rfl ?_
  refine fx_sub (p' := 6) (e := ((n : Int) - 1)) rfl rfl (by omega) ?_
  refine am_ev.step (pc' := 7) (ls' := [.ref 48, .int P, .int D, iv ((n : Int) - 1)]) rfl rfl ?_
  exact lo_96 S n _ hn (by omega) G
theorem lo_222 {X Y : Nat → Int32} {P D : Int32} {m : Nat} (S : fS h) (v35 : h.2.2.2 78 35 = iv m) (hm : m ≤ 80) (G : ∀ i, i < m → h.2.2.2 103 i = .int (X i) ∧ h.2.2.2 111 i = .int (Y i)) : ∀ (n i : Nat) (z zi : Int), i + n = m → z = la X Y P D i → zi = (i : Int) → am_ev d 222 5 [.ref 78, .int P, .int D, iv z, iv zi] [] h (some (iv (la X Y P D m)), h)
  | 0, i, z, zi, hi, hz, hzi => by
    subst hzi
    have e : i = m := by omega
    subst e
    rw [← hz]
    refine am_ev.step (pc' := 7) rfl rfl ?_
    refine am_ev.step (pc' := 8) rfl rfl ?_
    refine ax_gf (p' := 11) rfl rfl (S.ob rfl) v35 ?_
    refine fx_c_ge_T (pT := 45) rfl (by omega) (by omega) rfl (by omega) ?_
    refine am_ev.step (pc' := 46) rfl rfl ?_
    exact fx_reti rfl rfl rfl
  | n + 1, i, z, zi, hi, hz, hzi => by
    subst hzi
    obtain ⟨g1, g2⟩ := G i (by omega)
    by_cases q1 : X i = P
    · by_cases q2 : D < Y i
      · have hz : z = la X Y P D (i + 1) := hz.trans (if_neg fun w => w.2 q2).symm
        refine am_ev.step (pc' := 7) rfl rfl ?_
        refine am_ev.step (pc' := 8) rfl rfl ?_
        refine ax_gf (p' := 11) rfl rfl (S.ob rfl) v35 ?_
        refine fx_c_ge_F (pF := 14) rfl (by omega) (by omega) rfl (by omega) ?_
        refine am_ev.step (pc' := 15) rfl rfl ?_
        refine ax_gf (p' := 18) rfl rfl (S.ob rfl) (S.rf rfl rfl) ?_
        refine am_ev.step (pc' := 20) rfl rfl ?_
        refine ax_iaload (p' := 21) rfl rfl (S.rd (k := i) rfl rfl rfl rfl rfl (by omega) g1) ?_
        refine am_ev.step (pc' := 22) rfl rfl ?_
        refine ax_c_ne_N (p' := 25) rfl rfl q1 ?_
        refine am_ev.step (pc' := 26) rfl rfl ?_
        refine ax_gf (p' := 29) rfl rfl (S.ob rfl) (S.rf rfl rfl) ?_
        refine am_ev.step (pc' := 31) rfl rfl ?_
        refine ax_iaload (p' := 32) rfl rfl (S.rd (k := i) rfl rfl rfl rfl rfl (by omega) g2) ?_
        refine am_ev.step (pc' := 33) rfl rfl ?_
        refine ax_c_gt_T (p' := 39) rfl rfl q2 ?_
        refine fx_inc (p' := 42) (e := ((i : Int) + 1)) (ls' := [.ref 78, .int P, .int D, iv (z), iv ((i : Int) + 1)]) rfl rfl rfl (by omega) rfl ?_
        refine am_ev.step (pc' := 5) rfl rfl ?_
        exact lo_222 S v35 hm G n (i + 1) _ _ (by omega) hz (by omega)
      · have hz : (i : Int) = la X Y P D (i + 1) := (if_pos ⟨q1, q2⟩ : la X Y P D (i + 1) = (i : Int)).symm
        refine am_ev.step (pc' := 7) rfl rfl ?_
        refine am_ev.step (pc' := 8) rfl rfl ?_
        refine ax_gf (p' := 11) rfl rfl (S.ob rfl) v35 ?_
        refine fx_c_ge_F (pF := 14) rfl (by omega) (by omega) rfl (by omega) ?_
        refine am_ev.step (pc' := 15) rfl rfl ?_
        refine ax_gf (p' := 18) rfl rfl (S.ob rfl) (S.rf rfl rfl) ?_
        refine am_ev.step (pc' := 20) rfl rfl ?_
        refine ax_iaload (p' := 21) rfl rfl (S.rd (k := i) rfl rfl rfl rfl rfl (by omega) g1) ?_
        refine am_ev.step (pc' := 22) rfl rfl ?_
        refine ax_c_ne_N (p' := 25) rfl rfl q1 ?_
        refine am_ev.step (pc' := 26) rfl rfl ?_
        refine ax_gf (p' := 29) rfl rfl (S.ob rfl) (S.rf rfl rfl) ?_
        refine am_ev.step (pc' := 31) rfl rfl ?_
        refine ax_iaload (p' := 32) rfl rfl (S.rd (k := i) rfl rfl rfl rfl rfl (by omega) g2) ?_
        refine am_ev.step (pc' := 33) rfl rfl ?_
        refine ax_c_gt_N (p' := 36) rfl rfl q2 ?_
        refine am_ev.step (pc' := 38) rfl rfl ?_
        refine am_ev.step (pc' := 39) (ls' := [.ref 78, .int P, .int D, iv ((i : Int)), iv ((i : Int))]) rfl rfl ?_
        refine fx_inc (p' := 42) (e := ((i : Int) + 1)) (ls' := [.ref 78, .int P, .int D, iv ((i : Int)), iv ((i : Int) + 1)]) rfl rfl rfl (by omega) rfl ?_
        refine am_ev.step (pc' := 5) rfl rfl ?_
        exact lo_222 S v35 hm G n (i + 1) _ _ (by omega) hz (by omega)
    · have hz : z = la X Y P D (i + 1) := hz.trans (if_neg fun w => q1 w.1).symm
      refine am_ev.step (pc' := 7) rfl rfl ?_
      refine am_ev.step (pc' := 8) rfl rfl ?_
      refine ax_gf (p' := 11) rfl rfl (S.ob rfl) v35 ?_
      refine fx_c_ge_F (pF := 14) rfl (by omega) (by omega) rfl (by omega) ?_
      refine am_ev.step (pc' := 15) rfl rfl ?_
      refine ax_gf (p' := 18) rfl rfl (S.ob rfl) (S.rf rfl rfl) ?_
      refine am_ev.step (pc' := 20) rfl rfl ?_
      refine ax_iaload (p' := 21) rfl rfl (S.rd (k := i) rfl rfl rfl rfl rfl (by omega) g1) ?_
      refine am_ev.step (pc' := 22) rfl rfl ?_
      refine ax_c_ne_T (p' := 39) rfl rfl q1 ?_
      refine fx_inc (p' := 42) (e := ((i : Int) + 1)) (ls' := [.ref 78, .int P, .int D, iv (z), iv ((i : Int) + 1)]) rfl rfl rfl (by omega) rfl ?_
      refine am_ev.step (pc' := 5) rfl rfl ?_
      exact lo_222 S v35 hm G n (i + 1) _ _ (by omega) hz (by omega)
theorem go_222 {X Y : Nat → Int32} {P D : Int32} {m : Nat} (S : fS h) (v35 : h.2.2.2 78 35 = iv m) (hm : m ≤ 80) (G : ∀ i, i < m → h.2.2.2 103 i = .int (X i) ∧ h.2.2.2 111 i = .int (Y i)) : am_ev d 222 0 (am_ent [.ref 78, .int P, .int D] 5) [] h (some (iv (la X Y P D m)), h) := by
  show am_ev d 222 0 [.ref 78, .int P, .int D, am_ph, am_ph] [] h _
  refine am_ev.step (pc' := 1) rfl rfl ?_
  refine am_ev.step (pc' := 2) (ls' := [.ref 78, .int P, .int D, iv (-1), am_ph]) rfl rfl ?_
  refine am_ev.step (pc' := 3) rfl rfl ?_
  refine am_ev.step (pc' := 5) (ls' := [.ref 78, .int P, .int D, iv (-1), iv 0]) rfl rfl ?_
  exact lo_222 S v35 hm G m 0 _ _ (by omega) rfl rfl
theorem go_98n (O : am_isO h 40 11 = true) (H : am_ev d 42 0 (am_ent [.ref 40, .int p] 2) [] h (some .null, h)) : am_ev (d + 1) 98 0 (am_ent [.ref 40, .int p, .int a] 3) [] h (some (ax_m (-2)), h) := by
  refine am_ev.step (pc' := 1) rfl rfl ?_
  refine am_ev.step (pc' := 2) rfl rfl ?_
  refine ax_call (z := 42) (p' := 5) (as := [_, _]) rfl (Or.inr (Or.inl ⟨_, rfl⟩)) rfl rfl rfl rfl rfl rfl O rfl H rfl ?_
  refine am_ev.step (pc' := 18) rfl rfl ?_
  refine am_ev.step (pc' := 20) rfl rfl ?_
  exact am_ev.reti rfl rfl rfl
theorem go_98f (O : am_isO h 40 11 = true) (H : am_ev d 42 0 (am_ent [.ref 40, .int p] 2) [] h (some (.ref s), h)) (q : ¬ (0 ≤ a.toInt ∧ a.toInt ≤ 29999)) : am_ev (d + 1) 98 0 (am_ent [.ref 40, .int p, .int a] 3) [] h (some (ax_m (-2)), h) := by
  have H2 := (iw_39 (h := h) (d := d) (u := a) (v := (Int16.ofInt 29999).toInt32)).2 (by rw [show (Int16.ofInt 29999).toInt32.toInt = 29999 by decide]; exact q)
  refine am_ev.step (pc' := 1) rfl rfl ?_
  refine am_ev.step (pc' := 2) rfl rfl ?_
  refine ax_call (z := 42) (p' := 5) (as := [_, _]) rfl (Or.inr (Or.inl ⟨_, rfl⟩)) rfl rfl rfl rfl rfl rfl O rfl H rfl ?_
  refine am_ev.step (pc' := 8) rfl rfl ?_
  refine am_ev.step (pc' := 9) rfl rfl ?_
  refine am_ev.step (pc' := 12) rfl rfl ?_
  refine ax_call (z := 39) (p' := 15) (as := [_, _]) rfl (Or.inl ⟨_, rfl⟩) rfl rfl rfl rfl rfl rfl rfl rfl H2 rfl ?_
  refine ax_z_ne_N (p' := 18) rfl rfl (by decide : Int32.ofInt 0 = 0) ?_
  refine am_ev.step (pc' := 20) rfl rfl ?_
  exact am_ev.reti rfl rfl rfl
theorem go_98t (O : am_isO h 40 11 = true) (O48 : am_isO h 48 7 = true) (v2 : h.2.2.2 40 2 = .ref 48) (H : am_ev d 42 0 (am_ent [.ref 40, .int p] 2) [] h (some (.ref s), h)) (q : 0 ≤ a.toInt ∧ a.toInt ≤ 29999) (H3 : am_ev d 96 0 (am_ent [.ref 48, .int p, .int a] 4) [] h (some (.int x), h)) : am_ev (d + 1) 98 0 (am_ent [.ref 40, .int p, .int a] 3) [] h (some (.int x), h) := by
  have H2 := (iw_39 (h := h) (d := d) (u := a) (v := (Int16.ofInt 29999).toInt32)).1 (by rw [show (Int16.ofInt 29999).toInt32.toInt = 29999 by decide]; exact q)
  refine am_ev.step (pc' := 1) rfl rfl ?_
  refine am_ev.step (pc' := 2) rfl rfl ?_
  refine ax_call (z := 42) (p' := 5) (as := [_, _]) rfl (Or.inr (Or.inl ⟨_, rfl⟩)) rfl rfl rfl rfl rfl rfl O rfl H rfl ?_
  refine am_ev.step (pc' := 8) rfl rfl ?_
  refine am_ev.step (pc' := 9) rfl rfl ?_
  refine am_ev.step (pc' := 12) rfl rfl ?_
  refine ax_call (z := 39) (p' := 15) (as := [_, _]) rfl (Or.inl ⟨_, rfl⟩) rfl rfl rfl rfl rfl rfl rfl rfl H2 rfl ?_
  refine ax_z_ne_T (p' := 21) rfl rfl (by decide : ¬ Int32.ofInt 1 = 0) ?_
  refine am_ev.step (pc' := 22) rfl rfl ?_
  refine ax_gf (p' := 25) rfl rfl O v2 ?_
  refine am_ev.step (pc' := 26) rfl rfl ?_
  refine am_ev.step (pc' := 27) rfl rfl ?_
  refine ax_call (z := 96) (p' := 30) (as := [_, _, _]) rfl (Or.inr (Or.inl ⟨_, rfl⟩)) rfl rfl rfl rfl rfl rfl O48 rfl H3 rfl ?_
  exact am_ev.reti rfl rfl rfl
theorem go_223n (O : am_isO h 78 13 = true) (H : am_ev (d + 1) 188 0 (am_ent [.ref 78, .int p] 2) [] h (some (.int (Int32.ofInt 0)), h)) : am_ev (d + 2) 223 0 (am_ent [.ref 78, .int p, .int a] 3) [] h (some (ax_m (-2)), h) := by
  refine am_ev.step (pc' := 1) rfl rfl ?_
  refine am_ev.step (pc' := 2) rfl rfl ?_
  refine ax_call (z := 188) (p' := 5) (as := [_, _]) rfl (Or.inr (Or.inl ⟨_, rfl⟩)) rfl rfl rfl rfl rfl rfl O rfl H rfl ?_
  refine ax_z_eq_T (p' := 24) rfl rfl (by decide : Int32.ofInt 0 = 0) ?_
  refine am_ev.step (pc' := 26) rfl rfl ?_
  exact am_ev.reti rfl rfl rfl
theorem go_223f (O : am_isO h 78 13 = true) (H : am_ev (d + 1) 188 0 (am_ent [.ref 78, .int p] 2) [] h (some (.int (Int32.ofInt 1)), h)) (q : ¬ (0 ≤ a.toInt ∧ a.toInt ≤ 29999)) : am_ev (d + 2) 223 0 (am_ent [.ref 78, .int p, .int a] 3) [] h (some (ax_m (-2)), h) := by
  have H2 := (go_216 (h := h) (d := d) (a := a)).2 q
  refine am_ev.step (pc' := 1) rfl rfl ?_
  refine am_ev.step (pc' := 2) rfl rfl ?_
  refine ax_call (z := 188) (p' := 5) (as := [_, _]) rfl (Or.inr (Or.inl ⟨_, rfl⟩)) rfl rfl rfl rfl rfl rfl O rfl H rfl ?_
  refine ax_z_eq_N (p' := 8) rfl rfl (by decide : ¬ Int32.ofInt 1 = 0) ?_
  refine am_ev.step (pc' := 9) rfl rfl ?_
  refine ax_call (z := 216) (p' := 12) (as := [_]) rfl (Or.inl ⟨_, rfl⟩) rfl rfl rfl rfl rfl rfl rfl rfl H2 rfl ?_
  refine ax_z_eq_T (p' := 24) rfl rfl (by decide : Int32.ofInt 0 = 0) ?_
  refine am_ev.step (pc' := 26) rfl rfl ?_
  exact am_ev.reti rfl rfl rfl
theorem go_223t (O : am_isO h 78 13 = true) (H : am_ev (d + 1) 188 0 (am_ent [.ref 78, .int p] 2) [] h (some (.int (Int32.ofInt 1)), h)) (q : 0 ≤ a.toInt ∧ a.toInt ≤ 29999) (H3 : am_ev (d + 1) 222 0 (am_ent [.ref 78, .int p, .int a] 5) [] h (some (.int x), h)) : am_ev (d + 2) 223 0 (am_ent [.ref 78, .int p, .int a] 3) [] h (some (.int x), h) := by
  have H2 := (go_216 (h := h) (d := d) (a := a)).1 q
  refine am_ev.step (pc' := 1) rfl rfl ?_
  refine am_ev.step (pc' := 2) rfl rfl ?_
  refine ax_call (z := 188) (p' := 5) (as := [_, _]) rfl (Or.inr (Or.inl ⟨_, rfl⟩)) rfl rfl rfl rfl rfl rfl O rfl H rfl ?_
  refine ax_z_eq_N (p' := 8) rfl rfl (by decide : ¬ Int32.ofInt 1 = 0) ?_
  refine am_ev.step (pc' := 9) rfl rfl ?_
  refine ax_call (z := 216) (p' := 12) (as := [_]) rfl (Or.inl ⟨_, rfl⟩) rfl rfl rfl rfl rfl rfl rfl rfl H2 rfl ?_
  refine ax_z_eq_N (p' := 15) rfl rfl (by decide : ¬ Int32.ofInt 1 = 0) ?_
  refine am_ev.step (pc' := 16) rfl rfl ?_
  refine am_ev.step (pc' := 17) rfl rfl ?_
  refine am_ev.step (pc' := 18) rfl rfl ?_
  refine ax_call (z := 222) (p' := 21) (as := [_, _, _]) rfl (Or.inr (Or.inl ⟨_, rfl⟩)) rfl rfl rfl rfl rfl rfl O rfl H3 rfl ?_
  refine am_ev.step (pc' := 26) rfl rfl ?_
  exact am_ev.reti rfl rfl rfl
end GON
