/-! STANDING SIDE BY SIDE; LAY, methods -/
theorem la_255 : ∀ n : Nat, n < 256 → (Int32.ofInt ((n : Int) - 128) &&& Int32.ofInt 255) = Int32.ofInt (if n < 128 then (n : Int) + 128 else (n : Int) - 128) := by decide +kernel
def laB (b : Int) : Int := if b < 0 then b + 256 else b
theorem la_255i {b : Int} (h : -128 ≤ b ∧ b ≤ 127) : (Int32.ofInt b &&& Int32.ofInt 255) = Int32.ofInt (laB b) := by
  have z := la_255 (b + 128).toNat (by omega)
  rw [show (((b + 128).toNat : Nat) : Int) - 128 = b by omega] at z
  rw [z]
  refine congrArg Int32.ofInt ?_
  unfold laB
  split <;> split <;> omega
theorem la_n1 : ∀ n : Nat, n < 15 → ((Int32.ofInt (n : Int)).toInt64 - (Int64.ofNat 1)).toInt = (n : Int) - 1 := by decide +kernel
section LAM
variable {d n c i L k s k2 s2 t t2 q q2 c1 c2 : Nat} {h g G H : am_H} {b x A m r st y1 y2 : Int} {S0 ap ap2 : Int32} {x4 x5 x6 : Value}
theorem la_122e (Ok : am_isO h k 1 = true) (Ok2 : am_isO h k2 1 = true) (Os : am_isO h s 6 = true) (Os2 : am_isO h s2 6 = true) (x1 : h.2.2.2 k 1 = .ref s) (z1 : h.2.2.2 k2 1 = .ref s2) (y0 : h.2.2.2 s 0 = iv t) (w0 : h.2.2.2 s2 0 = iv t2) (ht : t ≤ 19) (ht2 : t2 ≤ 19) (x7 : h.2.2.2 k 7 = .int ap) (z7 : h.2.2.2 k2 7 = .int ap2) (he : t = t2) : am_ev (d + 1) 122 0 (am_ent [.ref k, .ref k2] 2) [] h (some (iv 0), h) := by
  show am_ev (d + 1) 122 0 [.ref k, .ref k2] [] h _
  refine am_ev.step (pc' := 1) rfl rfl ?_
  refine am_ev.step (pc' := 4) rfl rfl ?_
  refine am_ev.step (pc' := 5) rfl rfl ?_
  refine am_ev.step (pc' := 10) rfl rfl ?_
  refine am_ev.step (pc' := 11) rfl rfl ?_
  refine ax_gf (p' := 14) rfl rfl Ok x1 ?_
  refine ax_gf (p' := 17) rfl rfl Os y0 ?_
  refine am_ev.step (pc' := 18) rfl rfl ?_
  refine ax_gf (p' := 21) rfl rfl Ok2 z1 ?_
  refine ax_gf (p' := 24) rfl rfl Os2 w0 ?_
  refine fx_c_eq_T (pT := 65) rfl (by omega) (by omega) rfl (by omega) ?_
  refine am_ev.step (pc' := 66) rfl rfl ?_
  exact fx_reti rfl rfl rfl
theorem la_122a (Ok : am_isO h k 1 = true) (Ok2 : am_isO h k2 1 = true) (Os : am_isO h s 6 = true) (Os2 : am_isO h s2 6 = true) (x1 : h.2.2.2 k 1 = .ref s) (z1 : h.2.2.2 k2 1 = .ref s2) (y0 : h.2.2.2 s 0 = iv t) (w0 : h.2.2.2 s2 0 = iv t2) (ht : t ≤ 19) (ht2 : t2 ≤ 19) (x7 : h.2.2.2 k 7 = .int ap) (z7 : h.2.2.2 k2 7 = .int ap2) (he : t ≠ t2) (qb : bt ap t2 = true) : am_ev (d + 1) 122 0 (am_ent [.ref k, .ref k2] 2) [] h (some (iv 0), h) := by
  show am_ev (d + 1) 122 0 [.ref k, .ref k2] [] h _
  refine am_ev.step (pc' := 1) rfl rfl ?_
  refine am_ev.step (pc' := 4) rfl rfl ?_
  refine am_ev.step (pc' := 5) rfl rfl ?_
  refine am_ev.step (pc' := 10) rfl rfl ?_
  refine am_ev.step (pc' := 11) rfl rfl ?_
  refine ax_gf (p' := 14) rfl rfl Ok x1 ?_
  refine ax_gf (p' := 17) rfl rfl Os y0 ?_
  refine am_ev.step (pc' := 18) rfl rfl ?_
  refine ax_gf (p' := 21) rfl rfl Ok2 z1 ?_
  refine ax_gf (p' := 24) rfl rfl Os2 w0 ?_
  refine fx_c_eq_F (pF := 27) rfl (by omega) (by omega) rfl (by omega) ?_
  refine am_ev.step (pc' := 28) rfl rfl ?_
  refine ax_gf (p' := 31) rfl rfl Ok x7 ?_
  refine am_ev.step (pc' := 32) rfl rfl ?_
  refine ax_gf (p' := 35) rfl rfl Ok2 z1 ?_
  refine ax_gf (p' := 38) rfl rfl Os2 w0 ?_
  refine ax_call (z := 31) (p' := 41) (as := [_, _]) rfl (Or.inl ⟨_, rfl⟩) rfl rfl rfl rfl rfl rfl rfl rfl ((tk_31 (c := t2) (by omega)).1 qb) rfl ?_
  refine fx_z_ne_T (pT := 65) rfl (by omega) rfl (by omega) ?_
  refine am_ev.step (pc' := 66) rfl rfl ?_
  exact fx_reti rfl rfl rfl
theorem la_122b (Ok : am_isO h k 1 = true) (Ok2 : am_isO h k2 1 = true) (Os : am_isO h s 6 = true) (Os2 : am_isO h s2 6 = true) (x1 : h.2.2.2 k 1 = .ref s) (z1 : h.2.2.2 k2 1 = .ref s2) (y0 : h.2.2.2 s 0 = iv t) (w0 : h.2.2.2 s2 0 = iv t2) (ht : t ≤ 19) (ht2 : t2 ≤ 19) (x7 : h.2.2.2 k 7 = .int ap) (z7 : h.2.2.2 k2 7 = .int ap2) (he : t ≠ t2) (qb : bt ap t2 = false) (qc : bt ap2 t = true) : am_ev (d + 1) 122 0 (am_ent [.ref k, .ref k2] 2) [] h (some (iv 0), h) := by
  show am_ev (d + 1) 122 0 [.ref k, .ref k2] [] h _
  refine am_ev.step (pc' := 1) rfl rfl ?_
  refine am_ev.step (pc' := 4) rfl rfl ?_
  refine am_ev.step (pc' := 5) rfl rfl ?_
  refine am_ev.step (pc' := 10) rfl rfl ?_
  refine am_ev.step (pc' := 11) rfl rfl ?_
  refine ax_gf (p' := 14) rfl rfl Ok x1 ?_
  refine ax_gf (p' := 17) rfl rfl Os y0 ?_
  refine am_ev.step (pc' := 18) rfl rfl ?_
  refine ax_gf (p' := 21) rfl rfl Ok2 z1 ?_
  refine ax_gf (p' := 24) rfl rfl Os2 w0 ?_
  refine fx_c_eq_F (pF := 27) rfl (by omega) (by omega) rfl (by omega) ?_
  refine am_ev.step (pc' := 28) rfl rfl ?_
  refine ax_gf (p' := 31) rfl rfl Ok x7 ?_
  refine am_ev.step (pc' := 32) rfl rfl ?_
  refine ax_gf (p' := 35) rfl rfl Ok2 z1 ?_
  refine ax_gf (p' := 38) rfl rfl Os2 w0 ?_
  refine ax_call (z := 31) (p' := 41) (as := [_, _]) rfl (Or.inl ⟨_, rfl⟩) rfl rfl rfl rfl rfl rfl rfl rfl ((tk_31 (c := t2) (by omega)).2 qb) rfl ?_
  refine fx_z_ne_F (pF := 44) rfl (by omega) rfl (by omega) ?_
  refine am_ev.step (pc' := 45) rfl rfl ?_
  refine ax_gf (p' := 48) rfl rfl Ok2 z7 ?_
  refine am_ev.step (pc' := 49) rfl rfl ?_
  refine ax_gf (p' := 52) rfl rfl Ok x1 ?_
  refine ax_gf (p' := 55) rfl rfl Os y0 ?_
  refine ax_call (z := 31) (p' := 58) (as := [_, _]) rfl (Or.inl ⟨_, rfl⟩) rfl rfl rfl rfl rfl rfl rfl rfl ((tk_31 (c := t) (by omega)).1 qc) rfl ?_
  refine fx_z_ne_T (pT := 65) rfl (by omega) rfl (by omega) ?_
  refine am_ev.step (pc' := 66) rfl rfl ?_
  exact fx_reti rfl rfl rfl
theorem la_122y (Ok : am_isO h k 1 = true) (Ok2 : am_isO h k2 1 = true) (Os : am_isO h s 6 = true) (Os2 : am_isO h s2 6 = true) (x1 : h.2.2.2 k 1 = .ref s) (z1 : h.2.2.2 k2 1 = .ref s2) (y0 : h.2.2.2 s 0 = iv t) (w0 : h.2.2.2 s2 0 = iv t2) (ht : t ≤ 19) (ht2 : t2 ≤ 19) (x7 : h.2.2.2 k 7 = .int ap) (z7 : h.2.2.2 k2 7 = .int ap2) (he : t ≠ t2) (qb : bt ap t2 = false) (qc : bt ap2 t = false) : am_ev (d + 1) 122 0 (am_ent [.ref k, .ref k2] 2) [] h (some (iv 1), h) := by
  show am_ev (d + 1) 122 0 [.ref k, .ref k2] [] h _
  refine am_ev.step (pc' := 1) rfl rfl ?_
  refine am_ev.step (pc' := 4) rfl rfl ?_
  refine am_ev.step (pc' := 5) rfl rfl ?_
  refine am_ev.step (pc' := 10) rfl rfl ?_
  refine am_ev.step (pc' := 11) rfl rfl ?_
  refine ax_gf (p' := 14) rfl rfl Ok x1 ?_
  refine ax_gf (p' := 17) rfl rfl Os y0 ?_
  refine am_ev.step (pc' := 18) rfl rfl ?_
  refine ax_gf (p' := 21) rfl rfl Ok2 z1 ?_
  refine ax_gf (p' := 24) rfl rfl Os2 w0 ?_
  refine fx_c_eq_F (pF := 27) rfl (by omega) (by omega) rfl (by omega) ?_
  refine am_ev.step (pc' := 28) rfl rfl ?_
  refine ax_gf (p' := 31) rfl rfl Ok x7 ?_
  refine am_ev.step (pc' := 32) rfl rfl ?_
  refine ax_gf (p' := 35) rfl rfl Ok2 z1 ?_
  refine ax_gf (p' := 38) rfl rfl Os2 w0 ?_
  refine ax_call (z := 31) (p' := 41) (as := [_, _]) rfl (Or.inl ⟨_, rfl⟩) rfl rfl rfl rfl rfl rfl rfl rfl ((tk_31 (c := t2) (by omega)).2 qb) rfl ?_
  refine fx_z_ne_F (pF := 44) rfl (by omega) rfl (by omega) ?_
  refine am_ev.step (pc' := 45) rfl rfl ?_
  refine ax_gf (p' := 48) rfl rfl Ok2 z7 ?_
  refine am_ev.step (pc' := 49) rfl rfl ?_
  refine ax_gf (p' := 52) rfl rfl Ok x1 ?_
  refine ax_gf (p' := 55) rfl rfl Os y0 ?_
  refine ax_call (z := 31) (p' := 58) (as := [_, _]) rfl (Or.inl ⟨_, rfl⟩) rfl rfl rfl rfl rfl rfl rfl rfl ((tk_31 (c := t) (by omega)).2 qc) rfl ?_
  refine fx_z_ne_F (pF := 61) rfl (by omega) rfl (by omega) ?_
  refine am_ev.step (pc' := 62) rfl rfl ?_
  refine am_ev.step (pc' := 66) rfl rfl ?_
  exact fx_reti rfl rfl rfl
theorem la_121n (H122 : am_ev (d + 1) 122 0 (am_ent [.ref k, .ref k2] 2) [] h (some (iv 0), h)) : am_ev (d + 2) 121 0 (am_ent [.ref k, .ref k2] 2) [] h (some (iv (-1)), h) := by
  show am_ev (d + 2) 121 0 [.ref k, .ref k2] [] h _
  refine am_ev.step (pc' := 1) rfl rfl ?_
  refine am_ev.step (pc' := 4) rfl rfl ?_
  refine am_ev.step (pc' := 5) rfl rfl ?_
  refine am_ev.step (pc' := 8) rfl rfl ?_
  refine am_ev.step (pc' := 9) rfl rfl ?_
  refine am_ev.step (pc' := 10) rfl rfl ?_
  refine ax_call (z := 122) (p' := 13) (as := [_, _]) rfl (Or.inl ⟨_, rfl⟩) rfl rfl rfl rfl rfl rfl rfl rfl H122 rfl ?_
  refine fx_z_ne_F (pF := 16) rfl (by omega) rfl (by omega) ?_
  refine am_ev.step (pc' := 17) rfl rfl ?_
  exact fx_reti rfl rfl rfl
theorem la_121y (H122 : am_ev (d + 1) 122 0 (am_ent [.ref k, .ref k2] 2) [] h (some (iv 1), h)) (Ok : am_isO h k 1 = true) (Ok2 : am_isO h k2 1 = true) (Os : am_isO h s 6 = true) (Os2 : am_isO h s2 6 = true) (x1 : h.2.2.2 k 1 = .ref s) (z1 : h.2.2.2 k2 1 = .ref s2) (u1 : h.2.2.2 s 1 = iv y1) (u2 : h.2.2.2 s2 1 = iv y2) (by1 : 0 ≤ y1 ∧ y1 ≤ 2100) (by2 : 0 ≤ y2 ∧ y2 ≤ 2100) (hm : 0 < y1 - y2 ∧ m = y1 - y2 ∨ y1 - y2 ≤ 0 ∧ m = 0) : am_ev (d + 2) 121 0 (am_ent [.ref k, .ref k2] 2) [] h (some (iv m), h) := by
  show am_ev (d + 2) 121 0 [.ref k, .ref k2] [] h _
  refine am_ev.step (pc' := 1) rfl rfl ?_
  refine am_ev.step (pc' := 4) rfl rfl ?_
  refine am_ev.step (pc' := 5) rfl rfl ?_
  refine am_ev.step (pc' := 8) rfl rfl ?_
  refine am_ev.step (pc' := 9) rfl rfl ?_
  refine am_ev.step (pc' := 10) rfl rfl ?_
  refine ax_call (z := 122) (p' := 13) (as := [_, _]) rfl (Or.inl ⟨_, rfl⟩) rfl rfl rfl rfl rfl rfl rfl rfl H122 rfl ?_
  refine fx_z_ne_T (pT := 18) rfl (by omega) rfl (by omega) ?_
  refine am_ev.step (pc' := 19) rfl rfl ?_
  refine am_ev.step (pc' := 20) rfl rfl ?_
  refine ax_gf (p' := 23) rfl rfl Ok x1 ?_
  refine ax_gf (p' := 26) rfl rfl Os u1 ?_
  refine am_ev.step (pc' := 27) rfl rfl ?_
  refine ax_gf (p' := 30) rfl rfl Ok2 z1 ?_
  refine ax_gf (p' := 33) rfl rfl Os2 u2 ?_
  refine fx_sub (p' := 34) (e := (y1 - y2)) rfl rfl (by omega) ?_
  refine fx_mx (p' := 37) (x1 := 0) (x2 := y1 - y2) (e := m) rfl (Or.inl ⟨_, rfl⟩) rfl rfl rfl rfl (by omega) (by omega) (by omega) (by omega) ?_
  exact fx_reti rfl rfl rfl
theorem la_130 (S : fS h) (vL : h.2.2.2 41 1 = iv L) (hL : L ≤ 14) (hi : i < L) (vb : h.2.2.2 42 i = iv b) (bb : -128 ≤ b ∧ b ≤ 127) : am_ev d 130 0 (am_ent [.ref 41, iv i] 2) [] h (some (iv (laB b)), h) := by
  show am_ev d 130 0 [.ref 41, iv i] [] h (some (.int (Int32.ofInt (laB b))), h)
  rw [← la_255i bb]
  refine am_ev.step (pc' := 1) rfl rfl ?_
  refine fx_z_lt_F (pF := 4) rfl (by omega) rfl (by omega) ?_
  refine am_ev.step (pc' := 5) rfl rfl ?_
  refine am_ev.step (pc' := 6) rfl rfl ?_
  refine ax_gf (p' := 9) rfl rfl (S.ob rfl) vL ?_
  refine fx_c_lt_T (pT := 16) rfl (by omega) (by omega) rfl (by omega) ?_
  refine am_ev.step (pc' := 17) rfl rfl ?_
  refine ax_gf (p' := 20) rfl rfl (S.ob rfl) (S.rf rfl rfl) ?_
  refine am_ev.step (pc' := 21) rfl rfl ?_
  refine ax_baload (p' := 22) rfl rfl (S.rd (k := i) rfl rfl rfl rfl rfl (by omega) vb) ?_
  refine fx_sip (p' := 25) rfl rfl rfl ?_
  refine am_ev.step (pc' := 26) rfl rfl ?_
  exact am_ev.reti rfl rfl rfl
theorem la_129e (S : fS h) (v13 : h.2.2.2 40 13 = iv n) (hn : n ≤ 14) (hL : L ≤ 14) (hi : i = L) {x : Option Value × am_H} (q9 : am_ev (d + 7) 129 92 [.ref 40, iv ((L : Int)), .int S0, iv ((i : Int)), x4] [] h x) : am_ev (d + 7) 129 25 [.ref 40, iv ((L : Int)), .int S0, iv ((i : Int)), x4] [] h x := by
  refine am_ev.step (pc' := 26) rfl rfl ?_
  refine am_ev.step (pc' := 27) rfl rfl ?_
  refine fx_c_ge_T (pT := 92) rfl (by omega) (by omega) rfl (by omega) ?_
  exact q9
theorem la_129a (S : fS h) (v13 : h.2.2.2 40 13 = iv n) (hn : n ≤ 14) (hL : L ≤ 14) (H130 : am_ev (d + 6) 130 0 (am_ent [.ref 41, iv i] 2) [] h (some (iv x), h)) (bx : 0 ≤ x ∧ x ≤ 255) (hv : x - 65 < 0) (hi : i < L) : am_ev (d + 7) 129 25 [.ref 40, iv ((L : Int)), .int S0, iv ((i : Int)), x4] [] h (some (iv (-1)), h) := by
  refine am_ev.step (pc' := 26) rfl rfl ?_
  refine am_ev.step (pc' := 27) rfl rfl ?_
  refine fx_c_ge_F (pF := 30) rfl (by omega) (by omega) rfl (by omega) ?_
  refine am_ev.step (pc' := 31) rfl rfl ?_
  refine ax_gf (p' := 34) rfl rfl (S.ob rfl) (S.rf rfl rfl) ?_
  refine am_ev.step (pc' := 35) rfl rfl ?_
  refine ax_call (z := 130) (p' := 38) (as := [_, _]) rfl (Or.inr (Or.inl ⟨_, rfl⟩)) rfl rfl rfl rfl rfl rfl (S.ob rfl) rfl H130 rfl ?_
  refine fx_bip (p' := 40) rfl rfl rfl ?_
  refine fx_sub (p' := 41) (e := (x - 65)) rfl rfl (by omega) ?_
  refine am_ev.step (pc' := 43) (ls' := [.ref 40, iv ((L : Int)), .int S0, iv ((i : Int)), iv (x - 65)]) rfl rfl ?_
  refine am_ev.step (pc' := 45) rfl rfl ?_
  refine fx_z_lt_T (pT := 66) rfl (by omega) rfl (by omega) ?_
  refine am_ev.step (pc' := 67) rfl rfl ?_
  exact fx_reti rfl rfl rfl
theorem la_129b (S : fS h) (v13 : h.2.2.2 40 13 = iv n) (hn : n ≤ 14) (hL : L ≤ 14) (H130 : am_ev (d + 6) 130 0 (am_ent [.ref 41, iv i] 2) [] h (some (iv x), h)) (bx : 0 ≤ x ∧ x ≤ 255) (hv : 0 ≤ x - 65 ∧ n ≤ x - 65) (hi : i < L) : am_ev (d + 7) 129 25 [.ref 40, iv ((L : Int)), .int S0, iv ((i : Int)), x4] [] h (some (iv (-1)), h) := by
  refine am_ev.step (pc' := 26) rfl rfl ?_
  refine am_ev.step (pc' := 27) rfl rfl ?_
  refine fx_c_ge_F (pF := 30) rfl (by omega) (by omega) rfl (by omega) ?_
  refine am_ev.step (pc' := 31) rfl rfl ?_
  refine ax_gf (p' := 34) rfl rfl (S.ob rfl) (S.rf rfl rfl) ?_
  refine am_ev.step (pc' := 35) rfl rfl ?_
  refine ax_call (z := 130) (p' := 38) (as := [_, _]) rfl (Or.inr (Or.inl ⟨_, rfl⟩)) rfl rfl rfl rfl rfl rfl (S.ob rfl) rfl H130 rfl ?_
  refine fx_bip (p' := 40) rfl rfl rfl ?_
  refine fx_sub (p' := 41) (e := (x - 65)) rfl rfl (by omega) ?_
  refine am_ev.step (pc' := 43) (ls' := [.ref 40, iv ((L : Int)), .int S0, iv ((i : Int)), iv (x - 65)]) rfl rfl ?_
  refine am_ev.step (pc' := 45) rfl rfl ?_
  refine fx_z_lt_F (pF := 48) rfl (by omega) rfl (by omega) ?_
  refine am_ev.step (pc' := 50) rfl rfl ?_
  refine am_ev.step (pc' := 51) rfl rfl ?_
  refine ax_gf (p' := 54) rfl rfl (S.ob rfl) v13 ?_
  refine fx_c_ge_T (pT := 66) rfl (by omega) (by omega) rfl (by omega) ?_
  refine am_ev.step (pc' := 67) rfl rfl ?_
  exact fx_reti rfl rfl rfl
theorem la_129c (S : fS h) (v13 : h.2.2.2 40 13 = iv n) (hn : n ≤ 14) (hL : L ≤ 14) (H130 : am_ev (d + 6) 130 0 (am_ent [.ref 41, iv i] 2) [] h (some (iv ((c : Int) + 65)), h)) (hc : c < n) (qb : bt S0 c = true) (hi : i < L) : am_ev (d + 7) 129 25 [.ref 40, iv ((L : Int)), .int S0, iv ((i : Int)), x4] [] h (some (iv (-1)), h) := by
  refine am_ev.step (pc' := 26) rfl rfl ?_
  refine am_ev.step (pc' := 27) rfl rfl ?_
  refine fx_c_ge_F (pF := 30) rfl (by omega) (by omega) rfl (by omega) ?_
  refine am_ev.step (pc' := 31) rfl rfl ?_
  refine ax_gf (p' := 34) rfl rfl (S.ob rfl) (S.rf rfl rfl) ?_
  refine am_ev.step (pc' := 35) rfl rfl ?_
  refine ax_call (z := 130) (p' := 38) (as := [_, _]) rfl (Or.inr (Or.inl ⟨_, rfl⟩)) rfl rfl rfl rfl rfl rfl (S.ob rfl) rfl H130 rfl ?_
  refine fx_bip (p' := 40) rfl rfl rfl ?_
  refine fx_sub (p' := 41) (e := ((c : Int))) rfl rfl (by omega) ?_
  refine am_ev.step (pc' := 43) (ls' := [.ref 40, iv ((L : Int)), .int S0, iv ((i : Int)), iv ((c : Int))]) rfl rfl ?_
  refine am_ev.step (pc' := 45) rfl rfl ?_
  refine fx_z_lt_F (pF := 48) rfl (by omega) rfl (by omega) ?_
  refine am_ev.step (pc' := 50) rfl rfl ?_
  refine am_ev.step (pc' := 51) rfl rfl ?_
  refine ax_gf (p' := 54) rfl rfl (S.ob rfl) v13 ?_
  refine fx_c_ge_F (pF := 57) rfl (by omega) (by omega) rfl (by omega) ?_
  refine am_ev.step (pc' := 58) rfl rfl ?_
  refine am_ev.step (pc' := 60) rfl rfl ?_
  refine ax_call (z := 31) (p' := 63) (as := [_, _]) rfl (Or.inl ⟨_, rfl⟩) rfl rfl rfl rfl rfl rfl rfl rfl ((tk_31 (c := c) (by omega)).1 qb) rfl ?_
  refine fx_z_eq_F (pF := 66) rfl (by omega) rfl (by omega) ?_
  refine am_ev.step (pc' := 67) rfl rfl ?_
  exact fx_reti rfl rfl rfl
theorem la_129y (S : fS h) (v13 : h.2.2.2 40 13 = iv n) (hn : n ≤ 14) (hL : L ≤ 14) (H130 : am_ev (d + 6) 130 0 (am_ent [.ref 41, iv i] 2) [] h (some (iv ((c : Int) + 65)), h)) (hc : c < n) (qb : bt S0 c = false) (hi : i < L) {x : Option Value × am_H} (q9 : am_ev (d + 7) 129 25 [.ref 40, iv ((L : Int)), .int (S0 ||| (Int32.ofInt 1 <<< (Int32.ofInt (c : Int) &&& 31))), iv ((i + 1 : Nat) : Int), iv ((c : Int))] [] (am_put h 68 i (iv ((c : Int)))) x) : am_ev (d + 7) 129 25 [.ref 40, iv ((L : Int)), .int S0, iv ((i : Int)), x4] [] h x := by
  refine am_ev.step (pc' := 26) rfl rfl ?_
  refine am_ev.step (pc' := 27) rfl rfl ?_
  refine fx_c_ge_F (pF := 30) rfl (by omega) (by omega) rfl (by omega) ?_
  refine am_ev.step (pc' := 31) rfl rfl ?_
  refine ax_gf (p' := 34) rfl rfl (S.ob rfl) (S.rf rfl rfl) ?_
  refine am_ev.step (pc' := 35) rfl rfl ?_
  refine ax_call (z := 130) (p' := 38) (as := [_, _]) rfl (Or.inr (Or.inl ⟨_, rfl⟩)) rfl rfl rfl rfl rfl rfl (S.ob rfl) rfl H130 rfl ?_
  refine fx_bip (p' := 40) rfl rfl rfl ?_
  refine fx_sub (p' := 41) (e := ((c : Int))) rfl rfl (by omega) ?_
  refine am_ev.step (pc' := 43) (ls' := [.ref 40, iv ((L : Int)), .int S0, iv ((i : Int)), iv ((c : Int))]) rfl rfl ?_
  refine am_ev.step (pc' := 45) rfl rfl ?_
  refine fx_z_lt_F (pF := 48) rfl (by omega) rfl (by omega) ?_
  refine am_ev.step (pc' := 50) rfl rfl ?_
  refine am_ev.step (pc' := 51) rfl rfl ?_
  refine ax_gf (p' := 54) rfl rfl (S.ob rfl) v13 ?_
  refine fx_c_ge_F (pF := 57) rfl (by omega) (by omega) rfl (by omega) ?_
  refine am_ev.step (pc' := 58) rfl rfl ?_
  refine am_ev.step (pc' := 60) rfl rfl ?_
  refine ax_call (z := 31) (p' := 63) (as := [_, _]) rfl (Or.inl ⟨_, rfl⟩) rfl rfl rfl rfl rfl rfl rfl rfl ((tk_31 (c := c) (by omega)).2 qb) rfl ?_
  refine fx_z_eq_T (pT := 68) rfl (by omega) rfl (by omega) ?_
  refine am_ev.step (pc' := 69) rfl rfl ?_
  refine am_ev.step (pc' := 70) rfl rfl ?_
  refine am_ev.step (pc' := 72) rfl rfl ?_
  refine am_ev.step (pc' := 73) rfl rfl ?_
  refine am_ev.step (pc' := 74) rfl rfl ?_
  refine am_ev.step (pc' := 75) (ls' := [.ref 40, iv ((L : Int)), .int (S0 ||| ((Int32.ofInt 1) <<< ((Int32.ofInt ((c : Int))) &&& 31))), iv ((i : Int)), iv ((c : Int))]) rfl rfl ?_
  refine am_ev.step (pc' := 76) rfl rfl ?_
  refine ax_gf (p' := 79) rfl rfl (S.ob rfl) (S.rf rfl rfl) ?_
  refine ax_gf (p' := 82) rfl rfl (S.ob rfl) (S.rf rfl rfl) ?_
  refine am_ev.step (pc' := 83) rfl rfl ?_
  refine am_ev.step (pc' := 85) rfl rfl ?_
  refine ax_iastore (p' := 86) rfl rfl (S.wr (k := i) rfl rfl rfl rfl (by omega)) ?_
  refine fx_inc (p' := 89) (e := ((i : Int) + 1)) (ls' := [.ref 40, iv ((L : Int)), .int (S0 ||| ((Int32.ofInt 1) <<< ((Int32.ofInt ((c : Int))) &&& 31))), iv ((i : Int) + 1), iv ((c : Int))]) rfl rfl rfl (by omega) rfl ?_
  refine am_ev.step (pc' := 25) rfl rfl ?_
  exact (rr_n ▸ q9)
theorem la_129n (S : fS h) (vL : h.2.2.2 41 1 = iv L) (hL : L < 1) : am_ev (d + 7) 129 0 (am_ent [.ref 40] 5) [] h (some (iv (-1)), h) := by
  show am_ev (d + 7) 129 0 [.ref 40, am_ph, am_ph, am_ph, am_ph] [] h _
  refine am_ev.step (pc' := 1) rfl rfl ?_
  refine ax_gf (p' := 4) rfl rfl (S.ob rfl) (S.rf rfl rfl) ?_
  refine ax_gf (p' := 7) rfl rfl (S.ob rfl) vL ?_
  refine am_ev.step (pc' := 8) (ls' := [.ref 40, iv ((L : Int)), am_ph, am_ph, am_ph]) rfl rfl ?_
  refine am_ev.step (pc' := 9) rfl rfl ?_
  refine am_ev.step (pc' := 10) rfl rfl ?_
  refine fx_c_lt_T (pT := 19) rfl (by omega) (by omega) rfl (by omega) ?_
  refine am_ev.step (pc' := 20) rfl rfl ?_
  exact fx_reti rfl rfl rfl
theorem la_129m (S : fS h) (vL : h.2.2.2 41 1 = iv L) (hL : 14 < L ∧ L ≤ 1600) : am_ev (d + 7) 129 0 (am_ent [.ref 40] 5) [] h (some (iv (-1)), h) := by
  show am_ev (d + 7) 129 0 [.ref 40, am_ph, am_ph, am_ph, am_ph] [] h _
  refine am_ev.step (pc' := 1) rfl rfl ?_
  refine ax_gf (p' := 4) rfl rfl (S.ob rfl) (S.rf rfl rfl) ?_
  refine ax_gf (p' := 7) rfl rfl (S.ob rfl) vL ?_
  refine am_ev.step (pc' := 8) (ls' := [.ref 40, iv ((L : Int)), am_ph, am_ph, am_ph]) rfl rfl ?_
  refine am_ev.step (pc' := 9) rfl rfl ?_
  refine am_ev.step (pc' := 10) rfl rfl ?_
  refine fx_c_lt_F (pF := 13) rfl (by omega) (by omega) rfl (by omega) ?_
  refine am_ev.step (pc' := 14) rfl rfl ?_
  refine fx_bip (p' := 16) rfl rfl rfl ?_
  refine fx_c_le_F (pF := 19) rfl (by omega) (by omega) rfl (by omega) ?_
  refine am_ev.step (pc' := 20) rfl rfl ?_
  exact fx_reti rfl rfl rfl
theorem la_129s (S : fS h) (vL : h.2.2.2 41 1 = iv L) (hL : 1 ≤ L ∧ L ≤ 14) {x : Option Value × am_H} (q9 : am_ev (d + 7) 129 25 [.ref 40, iv ((L : Int)), iv 0, iv 0, am_ph] [] h x) : am_ev (d + 7) 129 0 (am_ent [.ref 40] 5) [] h x := by
  show am_ev (d + 7) 129 0 [.ref 40, am_ph, am_ph, am_ph, am_ph] [] h _
  refine am_ev.step (pc' := 1) rfl rfl ?_
  refine ax_gf (p' := 4) rfl rfl (S.ob rfl) (S.rf rfl rfl) ?_
  refine ax_gf (p' := 7) rfl rfl (S.ob rfl) vL ?_
  refine am_ev.step (pc' := 8) (ls' := [.ref 40, iv ((L : Int)), am_ph, am_ph, am_ph]) rfl rfl ?_
  refine am_ev.step (pc' := 9) rfl rfl ?_
  refine am_ev.step (pc' := 10) rfl rfl ?_
  refine fx_c_lt_F (pF := 13) rfl (by omega) (by omega) rfl (by omega) ?_
  refine am_ev.step (pc' := 14) rfl rfl ?_
  refine fx_bip (p' := 16) rfl rfl rfl ?_
  refine fx_c_le_T (pT := 21) rfl (by omega) (by omega) rfl (by omega) ?_
  refine am_ev.step (pc' := 22) rfl rfl ?_
  refine am_ev.step (pc' := 23) (ls' := [.ref 40, iv ((L : Int)), iv 0, am_ph, am_ph]) rfl rfl ?_
  refine am_ev.step (pc' := 24) rfl rfl ?_
  refine am_ev.step (pc' := 25) (ls' := [.ref 40, iv ((L : Int)), iv 0, iv 0, am_ph]) rfl rfl ?_
  exact q9
theorem la_129d (S : fS h) (H108 : am_ev (d + 6) 108 0 (am_ent [.ref 40, .int S0] 4) [] h (some (iv 0), g)) (Sg : fS g) : am_ev (d + 7) 129 92 [.ref 40, iv ((L : Int)), .int S0, iv ((L : Int)), x4] [] h (some (iv (-4)), g) := by
  refine am_ev.step (pc' := 93) rfl rfl ?_
  refine am_ev.step (pc' := 94) rfl rfl ?_
  refine ax_call (z := 108) (p' := 97) (as := [_, _]) rfl (Or.inr (Or.inl ⟨_, rfl⟩)) rfl rfl rfl rfl rfl rfl (S.ob rfl) rfl H108 rfl ?_
  refine fx_z_ne_F (pF := 100) rfl (by omega) rfl (by omega) ?_
  refine fx_bip (p' := 102) rfl rfl rfl ?_
  exact fx_reti rfl rfl rfl
theorem la_129f (S : fS h) (H108 : am_ev (d + 6) 108 0 (am_ent [.ref 40, .int S0] 4) [] h (some (iv 1), g)) (Sg : fS g) (v13 : g.2.2.2 40 13 = iv n) (H131 : am_ev (d + 6) 131 0 (am_ent [.ref 67, iv L, .ref 74, iv n] 7) [] g (some (iv (-1)), g)) : am_ev (d + 7) 129 92 [.ref 40, iv ((L : Int)), .int S0, iv ((L : Int)), x4] [] h (some (iv (-1)), g) := by
  refine am_ev.step (pc' := 93) rfl rfl ?_
  refine am_ev.step (pc' := 94) rfl rfl ?_
  refine ax_call (z := 108) (p' := 97) (as := [_, _]) rfl (Or.inr (Or.inl ⟨_, rfl⟩)) rfl rfl rfl rfl rfl rfl (S.ob rfl) rfl H108 rfl ?_
  refine fx_z_ne_T (pT := 103) rfl (by omega) rfl (by omega) ?_
  refine am_ev.step (pc' := 104) rfl rfl ?_
  refine ax_gf (p' := 107) rfl rfl (Sg.ob rfl) (Sg.rf rfl rfl) ?_
  refine am_ev.step (pc' := 108) rfl rfl ?_
  refine am_ev.step (pc' := 109) rfl rfl ?_
  refine ax_gf (p' := 112) rfl rfl (Sg.ob rfl) (Sg.rf rfl rfl) ?_
  refine am_ev.step (pc' := 113) rfl rfl ?_
  refine ax_gf (p' := 116) rfl rfl (Sg.ob rfl) v13 ?_
  refine ax_call (z := 131) (p' := 119) (as := [_, _, _, _]) rfl (Or.inr (Or.inl ⟨_, rfl⟩)) rfl rfl rfl rfl rfl rfl (Sg.ob rfl) rfl H131 rfl ?_
  refine am_ev.step (pc' := 120) (ls' := [.ref 40, iv ((L : Int)), .int S0, iv (-1), x4]) rfl rfl ?_
  refine am_ev.step (pc' := 121) rfl rfl ?_
  refine am_ev.step (pc' := 122) rfl rfl ?_
  refine fx_c_eq_T (pT := 130) rfl (by omega) (by omega) rfl (by omega) ?_
  refine am_ev.step (pc' := 131) rfl rfl ?_
  exact fx_reti rfl rfl rfl
theorem la_129g (S : fS h) (H108 : am_ev (d + 6) 108 0 (am_ent [.ref 40, .int S0] 4) [] h (some (iv 1), g)) (Sg : fS g) (v13 : g.2.2.2 40 13 = iv n) (H131 : am_ev (d + 6) 131 0 (am_ent [.ref 67, iv L, .ref 74, iv n] 7) [] g (some (iv r), g)) (br : 0 ≤ r ∧ r ≤ 50000) (H127 : am_ev (d + 6) 127 0 (am_ent [.ref 40, iv L] 3) [] g (none, G)) (SG : fS G) : am_ev (d + 7) 129 92 [.ref 40, iv ((L : Int)), .int S0, iv ((L : Int)), x4] [] h (some (iv r), G) := by
  refine am_ev.step (pc' := 93) rfl rfl ?_
  refine am_ev.step (pc' := 94) rfl rfl ?_
  refine ax_call (z := 108) (p' := 97) (as := [_, _]) rfl (Or.inr (Or.inl ⟨_, rfl⟩)) rfl rfl rfl rfl rfl rfl (S.ob rfl) rfl H108 rfl ?_
  refine fx_z_ne_T (pT := 103) rfl (by omega) rfl (by omega) ?_
  refine am_ev.step (pc' := 104) rfl rfl ?_
  refine ax_gf (p' := 107) rfl rfl (Sg.ob rfl) (Sg.rf rfl rfl) ?_
  refine am_ev.step (pc' := 108) rfl rfl ?_
  refine am_ev.step (pc' := 109) rfl rfl ?_
  refine ax_gf (p' := 112) rfl rfl (Sg.ob rfl) (Sg.rf rfl rfl) ?_
  refine am_ev.step (pc' := 113) rfl rfl ?_
  refine ax_gf (p' := 116) rfl rfl (Sg.ob rfl) v13 ?_
  refine ax_call (z := 131) (p' := 119) (as := [_, _, _, _]) rfl (Or.inr (Or.inl ⟨_, rfl⟩)) rfl rfl rfl rfl rfl rfl (Sg.ob rfl) rfl H131 rfl ?_
  refine am_ev.step (pc' := 120) (ls' := [.ref 40, iv ((L : Int)), .int S0, iv (r), x4]) rfl rfl ?_
  refine am_ev.step (pc' := 121) rfl rfl ?_
  refine am_ev.step (pc' := 122) rfl rfl ?_
  refine fx_c_eq_F (pF := 125) rfl (by omega) (by omega) rfl (by omega) ?_
  refine am_ev.step (pc' := 126) rfl rfl ?_
  refine am_ev.step (pc' := 127) rfl rfl ?_
  refine ax_call (z := 127) (p' := 130) (as := [_, _]) rfl (Or.inr (Or.inl ⟨_, rfl⟩)) rfl rfl rfl rfl rfl rfl (Sg.ob rfl) rfl H127 rfl ?_
  refine am_ev.step (pc' := 131) rfl rfl ?_
  exact fx_reti rfl rfl rfl
theorem la_131e (S : fS h) (hL : L ≤ 14) (bs : 0 ≤ st ∧ st ≤ 40000) (hi : L ≤ i + 1) (hi2 : i < 14) : am_ev (d + 3) 131 6 [.ref 67, iv ((L : Int)), .ref 74, iv ((n : Int)), iv (st), iv ((i : Int) + 1), x6] [] h (some (iv st), h) := by
  refine am_ev.step (pc' := 8) rfl rfl ?_
  refine am_ev.step (pc' := 9) rfl rfl ?_
  refine fx_c_ge_T (pT := 94) rfl (by omega) (by omega) rfl (by omega) ?_
  refine am_ev.step (pc' := 96) rfl rfl ?_
  exact fx_reti rfl rfl rfl
theorem la_131n (S : fS h) (hL : L ≤ 14) (bs : 0 ≤ st ∧ st ≤ 40000) (hi : i + 1 < L) (f1 : h.2.2.2 68 i = iv c1) (f2 : h.2.2.2 68 (i + 1) = iv c2) (hc1 : c1 < n) (hc2 : c2 < n) (hn : n ≤ 14) (w1 : h.2.2.2 74 c1 = .ref k) (w2 : h.2.2.2 74 c2 = .ref k2) (H121 : am_ev (d + 2) 121 0 (am_ent [.ref k, .ref k2] 2) [] h (some (iv (-1)), h)) : am_ev (d + 3) 131 6 [.ref 67, iv ((L : Int)), .ref 74, iv ((n : Int)), iv (st), iv ((i : Int) + 1), x6] [] h (some (iv (-1)), h) := by
  refine am_ev.step (pc' := 8) rfl rfl ?_
  refine am_ev.step (pc' := 9) rfl rfl ?_
  refine fx_c_ge_F (pF := 12) rfl (by omega) (by omega) rfl (by omega) ?_
  refine am_ev.step (pc' := 14) rfl rfl ?_
  refine am_ev.step (pc' := 15) rfl rfl ?_
  refine ax_gf (p' := 18) rfl rfl (S.ob rfl) (S.rf rfl rfl) ?_
  refine fx_alen (p' := 19) (n := 14) rfl rfl (S.al rfl rfl) ?_
  refine fx_c_ge_F (pF := 22) rfl (by omega) (by omega) rfl (by omega) ?_
  refine am_ev.step (pc' := 23) rfl rfl ?_
  refine ax_gf (p' := 26) rfl rfl (S.ob rfl) (S.rf rfl rfl) ?_
  refine am_ev.step (pc' := 28) rfl rfl ?_
  refine am_ev.step (pc' := 29) rfl rfl ?_
  refine fx_sub (p' := 30) (e := ((i : Int))) rfl rfl (by omega) ?_
  refine ax_iaload (p' := 31) rfl rfl (S.rd (k := i) rfl rfl rfl rfl rfl (by omega) f1) ?_
  refine am_ev.step (pc' := 32) rfl rfl ?_
  refine fx_c_ge_F (pF := 35) rfl (by omega) (by omega) rfl (by omega) ?_
  refine am_ev.step (pc' := 36) rfl rfl ?_
  refine ax_gf (p' := 39) rfl rfl (S.ob rfl) (S.rf rfl rfl) ?_
  refine am_ev.step (pc' := 41) rfl rfl ?_
  refine ax_iaload (p' := 42) rfl rfl (S.rd (k := (i + 1)) rfl rfl rfl rfl (by omega) (by omega) f2) ?_
  refine am_ev.step (pc' := 43) rfl rfl ?_
  refine fx_c_lt_T (pT := 48) rfl (by omega) (by omega) rfl (by omega) ?_
  refine am_ev.step (pc' := 49) rfl rfl ?_
  refine am_ev.step (pc' := 50) rfl rfl ?_
  refine ax_gf (p' := 53) rfl rfl (S.ob rfl) (S.rf rfl rfl) ?_
  refine am_ev.step (pc' := 55) rfl rfl ?_
  refine am_ev.step (pc' := 56) rfl rfl ?_
  refine fx_sub (p' := 57) (e := ((i : Int))) rfl rfl (by omega) ?_
  refine ax_iaload (p' := 58) rfl rfl (S.rd (k := i) rfl rfl rfl rfl rfl (by omega) f1) ?_
  refine ax_aaload (p' := 59) rfl rfl (S.rd (k := c1) rfl rfl rfl rfl rfl (by omega) w1) ?_
  refine am_ev.step (pc' := 60) rfl rfl ?_
  refine am_ev.step (pc' := 61) rfl rfl ?_
  refine ax_gf (p' := 64) rfl rfl (S.ob rfl) (S.rf rfl rfl) ?_
  refine am_ev.step (pc' := 66) rfl rfl ?_
  refine ax_iaload (p' := 67) rfl rfl (S.rd (k := (i + 1)) rfl rfl rfl rfl (by omega) (by omega) f2) ?_
  refine ax_aaload (p' := 68) rfl rfl (S.rd (k := c2) rfl rfl rfl rfl rfl (by omega) w2) ?_
  refine ax_call (z := 121) (p' := 71) (as := [_, _]) rfl (Or.inl ⟨_, rfl⟩) rfl rfl rfl rfl rfl rfl rfl rfl H121 rfl ?_
  refine am_ev.step (pc' := 73) (ls' := [.ref 67, iv ((L : Int)), .ref 74, iv ((n : Int)), iv (st), iv ((i : Int) + 1), iv (-1)]) rfl rfl ?_
  refine am_ev.step (pc' := 75) rfl rfl ?_
  refine am_ev.step (pc' := 76) rfl rfl ?_
  refine fx_c_ne_F (pF := 79) rfl (by omega) (by omega) rfl (by omega) ?_
  refine am_ev.step (pc' := 80) rfl rfl ?_
  exact fx_reti rfl rfl rfl
theorem la_131y (S : fS h) (hL : L ≤ 14) (bs : 0 ≤ st ∧ st ≤ 40000) (hi : i + 1 < L) (f1 : h.2.2.2 68 i = iv c1) (f2 : h.2.2.2 68 (i + 1) = iv c2) (hc1 : c1 < n) (hc2 : c2 < n) (hn : n ≤ 14) (w1 : h.2.2.2 74 c1 = .ref k) (w2 : h.2.2.2 74 c2 = .ref k2) (H121 : am_ev (d + 2) 121 0 (am_ent [.ref k, .ref k2] 2) [] h (some (iv m), h)) (bm : 0 ≤ m ∧ m ≤ 2100) {x : Option Value × am_H} (q9 : am_ev (d + 3) 131 6 [.ref 67, iv ((L : Int)), .ref 74, iv ((n : Int)), iv ((st + m)), iv (((i + 1 : Nat) : Int) + 1), iv (m)] [] h x) : am_ev (d + 3) 131 6 [.ref 67, iv ((L : Int)), .ref 74, iv ((n : Int)), iv (st), iv ((i : Int) + 1), x6] [] h x := by
  refine am_ev.step (pc' := 8) rfl rfl ?_
  refine am_ev.step (pc' := 9) rfl rfl ?_
  refine fx_c_ge_F (pF := 12) rfl (by omega) (by omega) rfl (by omega) ?_
  refine am_ev.step (pc' := 14) rfl rfl ?_
  refine am_ev.step (pc' := 15) rfl rfl ?_
  refine ax_gf (p' := 18) rfl rfl (S.ob rfl) (S.rf rfl rfl) ?_
  refine fx_alen (p' := 19) (n := 14) rfl rfl (S.al rfl rfl) ?_
  refine fx_c_ge_F (pF := 22) rfl (by omega) (by omega) rfl (by omega) ?_
  refine am_ev.step (pc' := 23) rfl rfl ?_
  refine ax_gf (p' := 26) rfl rfl (S.ob rfl) (S.rf rfl rfl) ?_
  refine am_ev.step (pc' := 28) rfl rfl ?_
  refine am_ev.step (pc' := 29) rfl rfl ?_
  refine fx_sub (p' := 30) (e := ((i : Int))) rfl rfl (by omega) ?_
  refine ax_iaload (p' := 31) rfl rfl (S.rd (k := i) rfl rfl rfl rfl rfl (by omega) f1) ?_
  refine am_ev.step (pc' := 32) rfl rfl ?_
  refine fx_c_ge_F (pF := 35) rfl (by omega) (by omega) rfl (by omega) ?_
  refine am_ev.step (pc' := 36) rfl rfl ?_
  refine ax_gf (p' := 39) rfl rfl (S.ob rfl) (S.rf rfl rfl) ?_
  refine am_ev.step (pc' := 41) rfl rfl ?_
  refine ax_iaload (p' := 42) rfl rfl (S.rd (k := (i + 1)) rfl rfl rfl rfl (by omega) (by omega) f2) ?_
  refine am_ev.step (pc' := 43) rfl rfl ?_
  refine fx_c_lt_T (pT := 48) rfl (by omega) (by omega) rfl (by omega) ?_
  refine am_ev.step (pc' := 49) rfl rfl ?_
  refine am_ev.step (pc' := 50) rfl rfl ?_
  refine ax_gf (p' := 53) rfl rfl (S.ob rfl) (S.rf rfl rfl) ?_
  refine am_ev.step (pc' := 55) rfl rfl ?_
  refine am_ev.step (pc' := 56) rfl rfl ?_
  refine fx_sub (p' := 57) (e := ((i : Int))) rfl rfl (by omega) ?_
  refine ax_iaload (p' := 58) rfl rfl (S.rd (k := i) rfl rfl rfl rfl rfl (by omega) f1) ?_
  refine ax_aaload (p' := 59) rfl rfl (S.rd (k := c1) rfl rfl rfl rfl rfl (by omega) w1) ?_
  refine am_ev.step (pc' := 60) rfl rfl ?_
  refine am_ev.step (pc' := 61) rfl rfl ?_
  refine ax_gf (p' := 64) rfl rfl (S.ob rfl) (S.rf rfl rfl) ?_
  refine am_ev.step (pc' := 66) rfl rfl ?_
  refine ax_iaload (p' := 67) rfl rfl (S.rd (k := (i + 1)) rfl rfl rfl rfl (by omega) (by omega) f2) ?_
  refine ax_aaload (p' := 68) rfl rfl (S.rd (k := c2) rfl rfl rfl rfl rfl (by omega) w2) ?_
  refine ax_call (z := 121) (p' := 71) (as := [_, _]) rfl (Or.inl ⟨_, rfl⟩) rfl rfl rfl rfl rfl rfl rfl rfl H121 rfl ?_
  refine am_ev.step (pc' := 73) (ls' := [.ref 67, iv ((L : Int)), .ref 74, iv ((n : Int)), iv (st), iv ((i : Int) + 1), iv (m)]) rfl rfl ?_
  refine am_ev.step (pc' := 75) rfl rfl ?_
  refine am_ev.step (pc' := 76) rfl rfl ?_
  refine fx_c_ne_T (pT := 81) rfl (by omega) (by omega) rfl (by omega) ?_
  refine am_ev.step (pc' := 83) rfl rfl ?_
  refine am_ev.step (pc' := 85) rfl rfl ?_
  refine fx_add (p' := 86) (e := (st + m)) rfl rfl (by omega) ?_
  refine am_ev.step (pc' := 88) (ls' := [.ref 67, iv ((L : Int)), .ref 74, iv ((n : Int)), iv (st + m), iv ((i : Int) + 1), iv (m)]) rfl rfl ?_
  refine fx_inc (p' := 91) (e := ((i : Int) + 2)) (ls' := [.ref 67, iv ((L : Int)), .ref 74, iv ((n : Int)), iv (st + m), iv ((i : Int) + 2), iv (m)]) rfl rfl rfl (by omega) rfl ?_
  refine am_ev.step (pc' := 6) rfl rfl ?_
  exact (show ((i : Int) + 2) = (((i + 1 : Nat) : Int) + 1) by omega) ▸ q9
theorem la_131s {x : Option Value × am_H} (q9 : am_ev (d + 3) 131 6 [.ref 67, iv L, .ref 74, iv n, iv 0, iv 1, am_ph] [] h x) : am_ev (d + 3) 131 0 (am_ent [.ref 67, iv L, .ref 74, iv n] 7) [] h x := by
  show am_ev (d + 3) 131 0 [.ref 67, iv ((L : Int)), .ref 74, iv ((n : Int)), am_ph, am_ph, am_ph] [] h _
  refine am_ev.step (pc' := 1) rfl rfl ?_
  refine am_ev.step (pc' := 3) (ls' := [.ref 67, iv ((L : Int)), .ref 74, iv ((n : Int)), iv 0, am_ph, am_ph]) rfl rfl ?_
  refine am_ev.step (pc' := 4) rfl rfl ?_
  refine am_ev.step (pc' := 6) (ls' := [.ref 67, iv ((L : Int)), .ref 74, iv ((n : Int)), iv 0, iv 1, am_ph]) rfl rfl ?_
  exact q9
theorem la_127y (S : fS h) (hL : L ≤ 14) (hi : i < L) (f1 : h.2.2.2 68 i = iv c) {x : Option Value × am_H} (q9 : am_ev d 127 2 [.ref 40, iv ((L : Int)), iv ((i + 1 : Nat) : Int)] [] (am_put h 75 i (iv ((c : Int)))) x) : am_ev d 127 2 [.ref 40, iv ((L : Int)), iv ((i : Int))] [] h x := by
  refine am_ev.step (pc' := 3) rfl rfl ?_
  refine am_ev.step (pc' := 4) rfl rfl ?_
  refine fx_c_ge_F (pF := 7) rfl (by omega) (by omega) rfl (by omega) ?_
  refine am_ev.step (pc' := 8) rfl rfl ?_
  refine am_ev.step (pc' := 9) rfl rfl ?_
  refine ax_gf (p' := 12) rfl rfl (S.ob rfl) (S.rf rfl rfl) ?_
  refine fx_alen (p' := 13) (n := 14) rfl rfl (S.al rfl rfl) ?_
  refine fx_c_ge_F (pF := 16) rfl (by omega) (by omega) rfl (by omega) ?_
  refine am_ev.step (pc' := 17) rfl rfl ?_
  refine ax_gf (p' := 20) rfl rfl (S.ob rfl) (S.rf rfl rfl) ?_
  refine am_ev.step (pc' := 21) rfl rfl ?_
  refine am_ev.step (pc' := 22) rfl rfl ?_
  refine ax_gf (p' := 25) rfl rfl (S.ob rfl) (S.rf rfl rfl) ?_
  refine ax_gf (p' := 28) rfl rfl (S.ob rfl) (S.rf rfl rfl) ?_
  refine am_ev.step (pc' := 29) rfl rfl ?_
  refine ax_iaload (p' := 30) rfl rfl (S.rd (k := i) rfl rfl rfl rfl rfl (by omega) f1) ?_
  refine ax_iastore (p' := 31) rfl rfl (S.wr (k := i) rfl rfl rfl rfl (by omega)) ?_
  refine fx_inc (p' := 34) (e := ((i : Int) + 1)) (ls' := [.ref 40, iv ((L : Int)), iv ((i : Int) + 1)]) rfl rfl rfl (by omega) rfl ?_
  refine am_ev.step (pc' := 2) rfl rfl ?_
  exact (rr_n ▸ q9)
theorem la_127e (S : fS h) (hL : L ≤ 14) (hi : i = L) : am_ev d 127 2 [.ref 40, iv ((L : Int)), iv ((i : Int))] [] h (none, (am_put (am_put (am_put h 40 15 (iv ((L : Int)))) 72 0 (iv 0)) 40 18 (iv 0))) := by
  refine am_ev.step (pc' := 3) rfl rfl ?_
  refine am_ev.step (pc' := 4) rfl rfl ?_
  refine fx_c_ge_T (pT := 37) rfl (by omega) (by omega) rfl (by omega) ?_
  refine am_ev.step (pc' := 38) rfl rfl ?_
  refine am_ev.step (pc' := 39) rfl rfl ?_
  refine ax_pf (p' := 42) rfl rfl (S.ob rfl) rfl ?_
  refine am_ev.step (pc' := 43) rfl rfl ?_
  refine ax_gf (p' := 46) rfl rfl (fO (S.ob rfl)) (ax_put_o (Or.inr (by decide)) (S.rf rfl rfl)) ?_
  refine am_ev.step (pc' := 47) rfl rfl ?_
  refine ax_pf (p' := 50) rfl rfl (fO (S.ob rfl)) rfl ?_
  refine am_ev.step (pc' := 51) rfl rfl ?_
  refine am_ev.step (pc' := 52) rfl rfl ?_
  refine ax_pf (p' := 55) rfl rfl (fO (fO (S.ob rfl))) rfl ?_
  exact am_ev.retv rfl rfl
theorem la_127s {x : Option Value × am_H} (q9 : am_ev d 127 2 [.ref 40, iv L, iv 0] [] h x) : am_ev d 127 0 (am_ent [.ref 40, iv L] 3) [] h x := by
  show am_ev d 127 0 [.ref 40, iv L, am_ph] [] h _
  refine am_ev.step (pc' := 1) rfl rfl ?_
  refine am_ev.step (pc' := 2) (ls' := [.ref 40, iv ((L : Int)), iv 0]) rfl rfl ?_
  exact q9
theorem la_128r (S : fS h) (H129 : am_ev (d + 7) 129 0 (am_ent [.ref 40] 5) [] h (some (.int ap), G)) (SG : fS G) : am_ev (d + 8) 128 0 (am_ent [.ref 40] 2) [] h (some (.int ap), (am_put G 41 1 (iv 0))) := by
  show am_ev (d + 8) 128 0 [.ref 40, am_ph] [] h _
  refine am_ev.step (pc' := 1) rfl rfl ?_
  refine ax_call (z := 129) (p' := 4) (as := [_]) rfl (Or.inr (Or.inl ⟨_, rfl⟩)) rfl rfl rfl rfl rfl rfl (S.ob rfl) rfl H129 rfl ?_
  refine am_ev.step (pc' := 5) (ls' := [.ref 40, .int ap]) rfl rfl ?_
  refine am_ev.step (pc' := 6) rfl rfl ?_
  refine ax_gf (p' := 9) rfl rfl (SG.ob rfl) (SG.rf rfl rfl) ?_
  refine am_ev.step (pc' := 10) rfl rfl ?_
  refine ax_pf (p' := 13) rfl rfl (SG.ob rfl) rfl ?_
  refine am_ev.step (pc' := 14) rfl rfl ?_
  exact am_ev.reti rfl rfl rfl
theorem la_2270 (S : fS g) (v53 : g.2.2.2 78 53 = iv n) (hn : n ≤ 14) (bx : -2147483648 ≤ x ∧ x ≤ 2147483647) (hx : ¬ (0 ≤ x ∧ x ≤ (n : Int) - 1)) : am_ev (d + 1) 227 0 (am_ent [.ref 78, iv x] 2) [] g (some (iv 0), g) := by
  have H165 : am_ev d 165 0 (am_ent [.long (Int32.ofInt x).toInt64, .long (Int64.ofNat 0), .long ((Int32.ofInt (n : Int)).toInt64 - (Int64.ofNat 1))] 6) [] g (some (iv 0), g) := md_165f (by
    rw [md_l bx, la_n1 n (by omega), show (Int64.ofNat 0).toInt = 0 by decide]
    omega)
  show am_ev (d + 1) 227 0 [.ref 78, iv x] [] g _
  refine am_ev.step (pc' := 1) rfl rfl ?_
  refine am_ev.step (pc' := 2) rfl rfl ?_
  refine am_ev.step (pc' := 3) rfl rfl ?_
  refine am_ev.step (pc' := 4) rfl rfl ?_
  refine ax_gf (p' := 7) rfl rfl (S.ob rfl) v53 ?_
  refine am_ev.step (pc' := 8) rfl rfl ?_
  refine am_ev.step (pc' := 9) rfl rfl ?_
  refine am_ev.step (pc' := 10) rfl rfl ?_
  refine ax_call (z := 165) (p' := 13) (as := [_, _, _]) rfl (Or.inl ⟨_, rfl⟩) rfl rfl rfl rfl rfl rfl rfl rfl H165 rfl ?_
  exact fx_reti rfl rfl rfl
theorem la_2271 (S : fS g) (v53 : g.2.2.2 78 53 = iv n) (hn : n ≤ 14) (bx : -2147483648 ≤ x ∧ x ≤ 2147483647) (hx : 0 ≤ x ∧ x ≤ (n : Int) - 1) : am_ev (d + 1) 227 0 (am_ent [.ref 78, iv x] 2) [] g (some (iv 1), g) := by
  have H165 : am_ev d 165 0 (am_ent [.long (Int32.ofInt x).toInt64, .long (Int64.ofNat 0), .long ((Int32.ofInt (n : Int)).toInt64 - (Int64.ofNat 1))] 6) [] g (some (iv 1), g) := md_165t (by
    rw [md_l bx, la_n1 n (by omega), show (Int64.ofNat 0).toInt = 0 by decide]
    omega)
  show am_ev (d + 1) 227 0 [.ref 78, iv x] [] g _
  refine am_ev.step (pc' := 1) rfl rfl ?_
  refine am_ev.step (pc' := 2) rfl rfl ?_
  refine am_ev.step (pc' := 3) rfl rfl ?_
  refine am_ev.step (pc' := 4) rfl rfl ?_
  refine ax_gf (p' := 7) rfl rfl (S.ob rfl) v53 ?_
  refine am_ev.step (pc' := 8) rfl rfl ?_
  refine am_ev.step (pc' := 9) rfl rfl ?_
  refine am_ev.step (pc' := 10) rfl rfl ?_
  refine ax_call (z := 165) (p' := 13) (as := [_, _, _]) rfl (Or.inl ⟨_, rfl⟩) rfl rfl rfl rfl rfl rfl rfl rfl H165 rfl ?_
  exact fx_reti rfl rfl rfl
theorem la_247n (S : fS g) (v2 : g.2.2.2 78 2 = iv L) (hL : L ≤ 1600) (H165 : am_ev (d + 8) 165 0 (am_ent [.long (Int32.ofInt (L : Int)).toInt64, .long (Int64.ofNat 1), .long (Int64.ofNat 14)] 6) [] (am_put g 78 2 (iv 0)) (some (iv 0), (am_put g 78 2 (iv 0)))) : am_ev (d + 9) 247 0 (am_ent [.ref 78] 7) [] g (some (iv (-1)), (am_put g 78 2 (iv 0))) := by
  show am_ev (d + 9) 247 0 [.ref 78, am_ph, am_ph, am_ph, am_ph, am_ph, am_ph] [] g _
  refine am_ev.step (pc' := 1) rfl rfl ?_
  refine ax_gf (p' := 4) rfl rfl (S.ob rfl) v2 ?_
  refine am_ev.step (pc' := 5) (ls' := [.ref 78, iv ((L : Int)), am_ph, am_ph, am_ph, am_ph, am_ph]) rfl rfl ?_
  refine am_ev.step (pc' := 6) rfl rfl ?_
  refine am_ev.step (pc' := 7) rfl rfl ?_
  refine ax_pf (p' := 10) rfl rfl (S.ob rfl) rfl ?_
  refine am_ev.step (pc' := 11) rfl rfl ?_
  refine am_ev.step (pc' := 12) rfl rfl ?_
  refine am_ev.step (pc' := 13) rfl rfl ?_
  refine am_ev.step (pc' := 16) rfl rfl ?_
  refine ax_call (z := 165) (p' := 19) (as := [_, _, _]) rfl (Or.inl ⟨_, rfl⟩) rfl rfl rfl rfl rfl rfl rfl rfl H165 rfl ?_
  refine fx_z_ne_F (pF := 22) rfl (by omega) rfl (by omega) ?_
  refine am_ev.step (pc' := 23) rfl rfl ?_
  exact fx_reti rfl rfl rfl
theorem la_247s (S : fS g) (v2 : g.2.2.2 78 2 = iv L) (hL : L ≤ 1600) (H165 : am_ev (d + 8) 165 0 (am_ent [.long (Int32.ofInt (L : Int)).toInt64, .long (Int64.ofNat 1), .long (Int64.ofNat 14)] 6) [] (am_put g 78 2 (iv 0)) (some (iv 1), (am_put g 78 2 (iv 0)))) {x : Option Value × am_H} (q9 : am_ev (d + 9) 247 28 [.ref 78, iv ((L : Int)), iv 0, iv 0, am_ph, am_ph, am_ph] [] (am_put g 78 2 (iv 0)) x) : am_ev (d + 9) 247 0 (am_ent [.ref 78] 7) [] g x := by
  show am_ev (d + 9) 247 0 [.ref 78, am_ph, am_ph, am_ph, am_ph, am_ph, am_ph] [] g _
  refine am_ev.step (pc' := 1) rfl rfl ?_
  refine ax_gf (p' := 4) rfl rfl (S.ob rfl) v2 ?_
  refine am_ev.step (pc' := 5) (ls' := [.ref 78, iv ((L : Int)), am_ph, am_ph, am_ph, am_ph, am_ph]) rfl rfl ?_
  refine am_ev.step (pc' := 6) rfl rfl ?_
  refine am_ev.step (pc' := 7) rfl rfl ?_
  refine ax_pf (p' := 10) rfl rfl (S.ob rfl) rfl ?_
  refine am_ev.step (pc' := 11) rfl rfl ?_
  refine am_ev.step (pc' := 12) rfl rfl ?_
  refine am_ev.step (pc' := 13) rfl rfl ?_
  refine am_ev.step (pc' := 16) rfl rfl ?_
  refine ax_call (z := 165) (p' := 19) (as := [_, _, _]) rfl (Or.inl ⟨_, rfl⟩) rfl rfl rfl rfl rfl rfl rfl rfl H165 rfl ?_
  refine fx_z_ne_T (pT := 24) rfl (by omega) rfl (by omega) ?_
  refine am_ev.step (pc' := 25) rfl rfl ?_
  refine am_ev.step (pc' := 26) (ls' := [.ref 78, iv ((L : Int)), iv 0, am_ph, am_ph, am_ph, am_ph]) rfl rfl ?_
  refine am_ev.step (pc' := 27) rfl rfl ?_
  refine am_ev.step (pc' := 28) (ls' := [.ref 78, iv ((L : Int)), iv 0, iv 0, am_ph, am_ph, am_ph]) rfl rfl ?_
  exact q9
theorem la_247e (S : fS g) (hL : L ≤ 14) (hi : i = L) {x : Option Value × am_H} (q9 : am_ev (d + 9) 247 80 [.ref 78, iv ((L : Int)), .int S0, iv 0, x4, x5, x6] [] g x) : am_ev (d + 9) 247 28 [.ref 78, iv ((L : Int)), .int S0, iv ((i : Int)), x4, x5, x6] [] g x := by
  refine am_ev.step (pc' := 29) rfl rfl ?_
  refine am_ev.step (pc' := 30) rfl rfl ?_
  refine fx_c_ge_T (pT := 78) rfl (by omega) (by omega) rfl (by omega) ?_
  refine am_ev.step (pc' := 79) rfl rfl ?_
  refine am_ev.step (pc' := 80) (ls' := [.ref 78, iv ((L : Int)), .int S0, iv 0, x4, x5, x6]) rfl rfl ?_
  exact q9
theorem la_247a (S : fS g) (hL : L ≤ 14) (hi : i < L) (vb : g.2.2.2 80 i = iv b) (bb : -128 ≤ b ∧ b ≤ 127) (H227 : am_ev (d + 8) 227 0 (am_ent [.ref 78, iv (b - 65)] 2) [] g (some (iv 0), g)) : am_ev (d + 9) 247 28 [.ref 78, iv ((L : Int)), .int S0, iv ((i : Int)), x4, x5, x6] [] g (some (iv (-1)), g) := by
  refine am_ev.step (pc' := 29) rfl rfl ?_
  refine am_ev.step (pc' := 30) rfl rfl ?_
  refine fx_c_ge_F (pF := 33) rfl (by omega) (by omega) rfl (by omega) ?_
  refine am_ev.step (pc' := 34) rfl rfl ?_
  refine ax_gf (p' := 37) rfl rfl (S.ob rfl) (S.rf rfl rfl) ?_
  refine am_ev.step (pc' := 38) rfl rfl ?_
  refine ax_baload (p' := 39) rfl rfl (S.rd (k := i) rfl rfl rfl rfl rfl (by omega) vb) ?_
  refine fx_bip (p' := 41) rfl rfl rfl ?_
  refine fx_sub (p' := 42) (e := (b - 65)) rfl rfl (by omega) ?_
  refine am_ev.step (pc' := 44) (ls' := [.ref 78, iv ((L : Int)), .int S0, iv ((i : Int)), iv (b - 65), x5, x6]) rfl rfl ?_
  refine am_ev.step (pc' := 45) rfl rfl ?_
  refine am_ev.step (pc' := 47) rfl rfl ?_
  refine ax_call (z := 227) (p' := 50) (as := [_, _]) rfl (Or.inr (Or.inl ⟨_, rfl⟩)) rfl rfl rfl rfl rfl rfl (S.ob rfl) rfl H227 rfl ?_
  refine fx_z_eq_T (pT := 63) rfl (by omega) rfl (by omega) ?_
  refine am_ev.step (pc' := 64) rfl rfl ?_
  exact fx_reti rfl rfl rfl
theorem la_247b (S : fS g) (hL : L ≤ 14) (hi : i < L) (vb : g.2.2.2 80 i = iv ((c : Int) + 65)) (hc : c < 14) (H227 : am_ev (d + 8) 227 0 (am_ent [.ref 78, iv c] 2) [] g (some (iv 1), g)) (qb : bt S0 c = true) : am_ev (d + 9) 247 28 [.ref 78, iv ((L : Int)), .int S0, iv ((i : Int)), x4, x5, x6] [] g (some (iv (-1)), g) := by
  refine am_ev.step (pc' := 29) rfl rfl ?_
  refine am_ev.step (pc' := 30) rfl rfl ?_
  refine fx_c_ge_F (pF := 33) rfl (by omega) (by omega) rfl (by omega) ?_
  refine am_ev.step (pc' := 34) rfl rfl ?_
  refine ax_gf (p' := 37) rfl rfl (S.ob rfl) (S.rf rfl rfl) ?_
  refine am_ev.step (pc' := 38) rfl rfl ?_
  refine ax_baload (p' := 39) rfl rfl (S.rd (k := i) rfl rfl rfl rfl rfl (by omega) vb) ?_
  refine fx_bip (p' := 41) rfl rfl rfl ?_
  refine fx_sub (p' := 42) (e := ((c : Int))) rfl rfl (by omega) ?_
  refine am_ev.step (pc' := 44) (ls' := [.ref 78, iv ((L : Int)), .int S0, iv ((i : Int)), iv ((c : Int)), x5, x6]) rfl rfl ?_
  refine am_ev.step (pc' := 45) rfl rfl ?_
  refine am_ev.step (pc' := 47) rfl rfl ?_
  refine ax_call (z := 227) (p' := 50) (as := [_, _]) rfl (Or.inr (Or.inl ⟨_, rfl⟩)) rfl rfl rfl rfl rfl rfl (S.ob rfl) rfl H227 rfl ?_
  refine fx_z_eq_F (pF := 53) rfl (by omega) rfl (by omega) ?_
  refine am_ev.step (pc' := 54) rfl rfl ?_
  refine am_ev.step (pc' := 56) rfl rfl ?_
  refine am_ev.step (pc' := 57) rfl rfl ?_
  refine am_ev.step (pc' := 58) rfl rfl ?_
  refine am_ev.step (pc' := 59) rfl rfl ?_
  refine am_ev.step (pc' := 60) rfl rfl ?_
  refine ax_c_ne_N (p' := 63) rfl rfl ((b_sand1 (by omega)).2 qb) ?_
  refine am_ev.step (pc' := 64) rfl rfl ?_
  exact fx_reti rfl rfl rfl
theorem la_247c (S : fS g) (hL : L ≤ 14) (hi : i < L) (vb : g.2.2.2 80 i = iv ((c : Int) + 65)) (hc : c < 14) (H227 : am_ev (d + 8) 227 0 (am_ent [.ref 78, iv c] 2) [] g (some (iv 1), g)) (qb : bt S0 c = false) {x : Option Value × am_H} (q9 : am_ev (d + 9) 247 28 [.ref 78, iv ((L : Int)), .int (S0 ||| (Int32.ofInt 1 <<< (Int32.ofInt (c : Int) &&& 31))), iv ((i + 1 : Nat) : Int), iv ((c : Int)), x5, x6] [] g x) : am_ev (d + 9) 247 28 [.ref 78, iv ((L : Int)), .int S0, iv ((i : Int)), x4, x5, x6] [] g x := by
  refine am_ev.step (pc' := 29) rfl rfl ?_
  refine am_ev.step (pc' := 30) rfl rfl ?_
  refine fx_c_ge_F (pF := 33) rfl (by omega) (by omega) rfl (by omega) ?_
  refine am_ev.step (pc' := 34) rfl rfl ?_
  refine ax_gf (p' := 37) rfl rfl (S.ob rfl) (S.rf rfl rfl) ?_
  refine am_ev.step (pc' := 38) rfl rfl ?_
  refine ax_baload (p' := 39) rfl rfl (S.rd (k := i) rfl rfl rfl rfl rfl (by omega) vb) ?_
  refine fx_bip (p' := 41) rfl rfl rfl ?_
  refine fx_sub (p' := 42) (e := ((c : Int))) rfl rfl (by omega) ?_
  refine am_ev.step (pc' := 44) (ls' := [.ref 78, iv ((L : Int)), .int S0, iv ((i : Int)), iv ((c : Int)), x5, x6]) rfl rfl ?_
  refine am_ev.step (pc' := 45) rfl rfl ?_
  refine am_ev.step (pc' := 47) rfl rfl ?_
  refine ax_call (z := 227) (p' := 50) (as := [_, _]) rfl (Or.inr (Or.inl ⟨_, rfl⟩)) rfl rfl rfl rfl rfl rfl (S.ob rfl) rfl H227 rfl ?_
  refine fx_z_eq_F (pF := 53) rfl (by omega) rfl (by omega) ?_
  refine am_ev.step (pc' := 54) rfl rfl ?_
  refine am_ev.step (pc' := 56) rfl rfl ?_
  refine am_ev.step (pc' := 57) rfl rfl ?_
  refine am_ev.step (pc' := 58) rfl rfl ?_
  refine am_ev.step (pc' := 59) rfl rfl ?_
  refine am_ev.step (pc' := 60) rfl rfl ?_
  refine ax_c_ne_T (p' := 65) rfl rfl (fun z => by rw [(b_sand1 (by omega)).1 z] at qb; cases qb) ?_
  refine am_ev.step (pc' := 66) rfl rfl ?_
  refine am_ev.step (pc' := 67) rfl rfl ?_
  refine am_ev.step (pc' := 69) rfl rfl ?_
  refine am_ev.step (pc' := 70) rfl rfl ?_
  refine am_ev.step (pc' := 71) rfl rfl ?_
  refine am_ev.step (pc' := 72) (ls' := [.ref 78, iv ((L : Int)), .int (S0 ||| ((Int32.ofInt 1) <<< ((Int32.ofInt ((c : Int))) &&& 31))), iv ((i : Int)), iv ((c : Int)), x5, x6]) rfl rfl ?_
  refine fx_inc (p' := 75) (e := ((i : Int) + 1)) (ls' := [.ref 78, iv ((L : Int)), .int (S0 ||| ((Int32.ofInt 1) <<< ((Int32.ofInt ((c : Int))) &&& 31))), iv ((i : Int) + 1), iv ((c : Int)), x5, x6]) rfl rfl rfl (by omega) rfl ?_
  refine am_ev.step (pc' := 28) rfl rfl ?_
  exact (rr_n ▸ q9)
theorem la_247f (S : fS g) (hL : L ≤ 14) (hi : i = L) {x : Option Value × am_H} (q9 : am_ev (d + 9) 247 120 [.ref 78, iv ((L : Int)), .int S0, iv 0, iv 1, x5, x6] [] g x) : am_ev (d + 9) 247 80 [.ref 78, iv ((L : Int)), .int S0, iv ((i : Int)), x4, x5, x6] [] g x := by
  refine am_ev.step (pc' := 81) rfl rfl ?_
  refine am_ev.step (pc' := 82) rfl rfl ?_
  refine fx_c_ge_T (pT := 115) rfl (by omega) (by omega) rfl (by omega) ?_
  refine am_ev.step (pc' := 116) rfl rfl ?_
  refine am_ev.step (pc' := 117) (ls' := [.ref 78, iv ((L : Int)), .int S0, iv 0, x4, x5, x6]) rfl rfl ?_
  refine am_ev.step (pc' := 118) rfl rfl ?_
  refine am_ev.step (pc' := 120) (ls' := [.ref 78, iv ((L : Int)), .int S0, iv 0, iv 1, x5, x6]) rfl rfl ?_
  exact q9
theorem la_247g (S : fS g) (hL : L ≤ 14) (hi : i < L) (vb : g.2.2.2 80 i = iv ((c : Int) + 65)) (hc : c < 14) (v117 : g.2.2.2 117 c = iv q) (hq : q < 40) (H228 : am_ev (d + 8) 228 0 (am_ent [.ref 78, iv q] 3) [] g (some (iv 0), G)) (SG : fS G) : am_ev (d + 9) 247 80 [.ref 78, iv ((L : Int)), .int S0, iv ((i : Int)), x4, x5, x6] [] g (some (iv (-4)), G) := by
  refine am_ev.step (pc' := 81) rfl rfl ?_
  refine am_ev.step (pc' := 82) rfl rfl ?_
  refine fx_c_ge_F (pF := 85) rfl (by omega) (by omega) rfl (by omega) ?_
  refine am_ev.step (pc' := 86) rfl rfl ?_
  refine am_ev.step (pc' := 87) rfl rfl ?_
  refine ax_gf (p' := 90) rfl rfl (S.ob rfl) (S.rf rfl rfl) ?_
  refine am_ev.step (pc' := 91) rfl rfl ?_
  refine ax_gf (p' := 94) rfl rfl (S.ob rfl) (S.rf rfl rfl) ?_
  refine am_ev.step (pc' := 95) rfl rfl ?_
  refine ax_baload (p' := 96) rfl rfl (S.rd (k := i) rfl rfl rfl rfl rfl (by omega) vb) ?_
  refine fx_bip (p' := 98) rfl rfl rfl ?_
  refine fx_sub (p' := 99) (e := ((c : Int))) rfl rfl (by omega) ?_
  refine ax_iaload (p' := 100) rfl rfl (S.rd (k := c) rfl rfl rfl rfl rfl (by omega) v117) ?_
  refine ax_call (z := 228) (p' := 103) (as := [_, _]) rfl (Or.inr (Or.inl ⟨_, rfl⟩)) rfl rfl rfl rfl rfl rfl (S.ob rfl) rfl H228 rfl ?_
  refine fx_z_ne_F (pF := 106) rfl (by omega) rfl (by omega) ?_
  refine fx_bip (p' := 108) rfl rfl rfl ?_
  exact fx_reti rfl rfl rfl
theorem la_247h (S : fS g) (hL : L ≤ 14) (hi : i < L) (vb : g.2.2.2 80 i = iv ((c : Int) + 65)) (hc : c < 14) (v117 : g.2.2.2 117 c = iv q) (hq : q < 40) (H228 : am_ev (d + 8) 228 0 (am_ent [.ref 78, iv q] 3) [] g (some (iv 1), G)) (SG : fS G) {x : Option Value × am_H} (q9 : am_ev (d + 9) 247 80 [.ref 78, iv ((L : Int)), .int S0, iv ((i + 1 : Nat) : Int), x4, x5, x6] [] G x) : am_ev (d + 9) 247 80 [.ref 78, iv ((L : Int)), .int S0, iv ((i : Int)), x4, x5, x6] [] g x := by
  refine am_ev.step (pc' := 81) rfl rfl ?_
  refine am_ev.step (pc' := 82) rfl rfl ?_
  refine fx_c_ge_F (pF := 85) rfl (by omega) (by omega) rfl (by omega) ?_
  refine am_ev.step (pc' := 86) rfl rfl ?_
  refine am_ev.step (pc' := 87) rfl rfl ?_
  refine ax_gf (p' := 90) rfl rfl (S.ob rfl) (S.rf rfl rfl) ?_
  refine am_ev.step (pc' := 91) rfl rfl ?_
  refine ax_gf (p' := 94) rfl rfl (S.ob rfl) (S.rf rfl rfl) ?_
  refine am_ev.step (pc' := 95) rfl rfl ?_
  refine ax_baload (p' := 96) rfl rfl (S.rd (k := i) rfl rfl rfl rfl rfl (by omega) vb) ?_
  refine fx_bip (p' := 98) rfl rfl rfl ?_
  refine fx_sub (p' := 99) (e := ((c : Int))) rfl rfl (by omega) ?_
  refine ax_iaload (p' := 100) rfl rfl (S.rd (k := c) rfl rfl rfl rfl rfl (by omega) v117) ?_
  refine ax_call (z := 228) (p' := 103) (as := [_, _]) rfl (Or.inr (Or.inl ⟨_, rfl⟩)) rfl rfl rfl rfl rfl rfl (S.ob rfl) rfl H228 rfl ?_
  refine fx_z_ne_T (pT := 109) rfl (by omega) rfl (by omega) ?_
  refine fx_inc (p' := 112) (e := ((i : Int) + 1)) (ls' := [.ref 78, iv ((L : Int)), .int S0, iv ((i : Int) + 1), x4, x5, x6]) rfl rfl rfl (by omega) rfl ?_
  refine am_ev.step (pc' := 80) rfl rfl ?_
  exact (rr_n ▸ q9)
theorem la_247i (S : fS g) (hL : L ≤ 14) (bs : 0 ≤ st ∧ st ≤ 40000) (hi : L ≤ i + 1) (hi2 : i < 14) {x : Option Value × am_H} (q9 : am_ev (d + 9) 247 190 [.ref 78, iv ((L : Int)), .int S0, iv (st), iv 0, x5, x6] [] (am_put g 78 55 (iv 0)) x) : am_ev (d + 9) 247 120 [.ref 78, iv ((L : Int)), .int S0, iv (st), iv ((i : Int) + 1), x5, x6] [] g x := by
  refine am_ev.step (pc' := 122) rfl rfl ?_
  refine am_ev.step (pc' := 123) rfl rfl ?_
  refine fx_c_ge_T (pT := 182) rfl (by omega) (by omega) rfl (by omega) ?_
  refine am_ev.step (pc' := 183) rfl rfl ?_
  refine am_ev.step (pc' := 184) rfl rfl ?_
  refine ax_pf (p' := 187) rfl rfl (S.ob rfl) rfl ?_
  refine am_ev.step (pc' := 188) rfl rfl ?_
  refine am_ev.step (pc' := 190) (ls' := [.ref 78, iv ((L : Int)), .int S0, iv (st), iv 0, x5, x6]) rfl rfl ?_
  exact q9
theorem la_247j (S : fS g) (hL : L ≤ 14) (bs : 0 ≤ st ∧ st ≤ 40000) (hi : i + 1 < L) (vb1 : g.2.2.2 80 i = iv ((c1 : Int) + 65)) (vb2 : g.2.2.2 80 (i + 1) = iv ((c2 : Int) + 65)) (hc1 : c1 < 14) (hc2 : c2 < 14) (H241 : am_ev (d + 8) 241 0 (am_ent [.ref 78, iv c1, iv c2] 5) [] g (some (iv 0), g)) : am_ev (d + 9) 247 120 [.ref 78, iv ((L : Int)), .int S0, iv (st), iv ((i : Int) + 1), x5, x6] [] g (some (iv (-1)), g) := by
  refine am_ev.step (pc' := 122) rfl rfl ?_
  refine am_ev.step (pc' := 123) rfl rfl ?_
  refine fx_c_ge_F (pF := 126) rfl (by omega) (by omega) rfl (by omega) ?_
  refine am_ev.step (pc' := 127) rfl rfl ?_
  refine ax_gf (p' := 130) rfl rfl (S.ob rfl) (S.rf rfl rfl) ?_
  refine am_ev.step (pc' := 132) rfl rfl ?_
  refine am_ev.step (pc' := 133) rfl rfl ?_
  refine fx_sub (p' := 134) (e := ((i : Int))) rfl rfl (by omega) ?_
  refine ax_baload (p' := 135) rfl rfl (S.rd (k := i) rfl rfl rfl rfl rfl (by omega) vb1) ?_
  refine fx_bip (p' := 137) rfl rfl rfl ?_
  refine fx_sub (p' := 138) (e := ((c1 : Int))) rfl rfl (by omega) ?_
  refine am_ev.step (pc' := 140) (ls' := [.ref 78, iv ((L : Int)), .int S0, iv (st), iv ((i : Int) + 1), iv ((c1 : Int)), x6]) rfl rfl ?_
  refine am_ev.step (pc' := 141) rfl rfl ?_
  refine ax_gf (p' := 144) rfl rfl (S.ob rfl) (S.rf rfl rfl) ?_
  refine am_ev.step (pc' := 146) rfl rfl ?_
  refine ax_baload (p' := 147) rfl rfl (S.rd (k := (i + 1)) rfl rfl rfl rfl (by omega) (by omega) vb2) ?_
  refine fx_bip (p' := 149) rfl rfl rfl ?_
  refine fx_sub (p' := 150) (e := ((c2 : Int))) rfl rfl (by omega) ?_
  refine am_ev.step (pc' := 152) (ls' := [.ref 78, iv ((L : Int)), .int S0, iv (st), iv ((i : Int) + 1), iv ((c1 : Int)), iv ((c2 : Int))]) rfl rfl ?_
  refine am_ev.step (pc' := 153) rfl rfl ?_
  refine am_ev.step (pc' := 155) rfl rfl ?_
  refine am_ev.step (pc' := 157) rfl rfl ?_
  refine ax_call (z := 241) (p' := 160) (as := [_, _, _]) rfl (Or.inr (Or.inl ⟨_, rfl⟩)) rfl rfl rfl rfl rfl rfl (S.ob rfl) rfl H241 rfl ?_
  refine fx_z_ne_F (pF := 163) rfl (by omega) rfl (by omega) ?_
  refine am_ev.step (pc' := 164) rfl rfl ?_
  exact fx_reti rfl rfl rfl
theorem la_247k (S : fS g) (hL : L ≤ 14) (bs : 0 ≤ st ∧ st ≤ 40000) (hi : i + 1 < L) (vb1 : g.2.2.2 80 i = iv ((c1 : Int) + 65)) (vb2 : g.2.2.2 80 (i + 1) = iv ((c2 : Int) + 65)) (hc1 : c1 < 14) (hc2 : c2 < 14) (H241 : am_ev (d + 8) 241 0 (am_ent [.ref 78, iv c1, iv c2] 5) [] g (some (iv 1), g)) (H244 : am_ev (d + 8) 244 0 (am_ent [.ref 78, iv c1, iv c2] 3) [] g (some (iv m), g)) (bm : 0 ≤ m ∧ m ≤ 2100) {x : Option Value × am_H} (q9 : am_ev (d + 9) 247 120 [.ref 78, iv ((L : Int)), .int S0, iv ((st + m)), iv (((i + 1 : Nat) : Int) + 1), iv ((c1 : Int)), iv ((c2 : Int))] [] g x) : am_ev (d + 9) 247 120 [.ref 78, iv ((L : Int)), .int S0, iv (st), iv ((i : Int) + 1), x5, x6] [] g x := by
  refine am_ev.step (pc' := 122) rfl rfl ?_
  refine am_ev.step (pc' := 123) rfl rfl ?_
  refine fx_c_ge_F (pF := 126) rfl (by omega) (by omega) rfl (by omega) ?_
  refine am_ev.step (pc' := 127) rfl rfl ?_
  refine ax_gf (p' := 130) rfl rfl (S.ob rfl) (S.rf rfl rfl) ?_
  refine am_ev.step (pc' := 132) rfl rfl ?_
  refine am_ev.step (pc' := 133) rfl rfl ?_
  refine fx_sub (p' := 134) (e := ((i : Int))) rfl rfl (by omega) ?_
  refine ax_baload (p' := 135) rfl rfl (S.rd (k := i) rfl rfl rfl rfl rfl (by omega) vb1) ?_
  refine fx_bip (p' := 137) rfl rfl rfl ?_
  refine fx_sub (p' := 138) (e := ((c1 : Int))) rfl rfl (by omega) ?_
  refine am_ev.step (pc' := 140) (ls' := [.ref 78, iv ((L : Int)), .int S0, iv (st), iv ((i : Int) + 1), iv ((c1 : Int)), x6]) rfl rfl ?_
  refine am_ev.step (pc' := 141) rfl rfl ?_
  refine ax_gf (p' := 144) rfl rfl (S.ob rfl) (S.rf rfl rfl) ?_
  refine am_ev.step (pc' := 146) rfl rfl ?_
  refine ax_baload (p' := 147) rfl rfl (S.rd (k := (i + 1)) rfl rfl rfl rfl (by omega) (by omega) vb2) ?_
  refine fx_bip (p' := 149) rfl rfl rfl ?_
  refine fx_sub (p' := 150) (e := ((c2 : Int))) rfl rfl (by omega) ?_
  refine am_ev.step (pc' := 152) (ls' := [.ref 78, iv ((L : Int)), .int S0, iv (st), iv ((i : Int) + 1), iv ((c1 : Int)), iv ((c2 : Int))]) rfl rfl ?_
  refine am_ev.step (pc' := 153) rfl rfl ?_
  refine am_ev.step (pc' := 155) rfl rfl ?_
  refine am_ev.step (pc' := 157) rfl rfl ?_
  refine ax_call (z := 241) (p' := 160) (as := [_, _, _]) rfl (Or.inr (Or.inl ⟨_, rfl⟩)) rfl rfl rfl rfl rfl rfl (S.ob rfl) rfl H241 rfl ?_
  refine fx_z_ne_T (pT := 165) rfl (by omega) rfl (by omega) ?_
  refine am_ev.step (pc' := 166) rfl rfl ?_
  refine am_ev.step (pc' := 167) rfl rfl ?_
  refine am_ev.step (pc' := 169) rfl rfl ?_
  refine am_ev.step (pc' := 171) rfl rfl ?_
  refine ax_call (z := 244) (p' := 174) (as := [_, _, _]) rfl (Or.inr (Or.inl ⟨_, rfl⟩)) rfl rfl rfl rfl rfl rfl (S.ob rfl) rfl H244 rfl ?_
  refine fx_add (p' := 175) (e := (st + m)) rfl rfl (by omega) ?_
  refine am_ev.step (pc' := 176) (ls' := [.ref 78, iv ((L : Int)), .int S0, iv (st + m), iv ((i : Int) + 1), iv ((c1 : Int)), iv ((c2 : Int))]) rfl rfl ?_
  refine fx_inc (p' := 179) (e := ((i : Int) + 2)) (ls' := [.ref 78, iv ((L : Int)), .int S0, iv (st + m), iv ((i : Int) + 2), iv ((c1 : Int)), iv ((c2 : Int))]) rfl rfl rfl (by omega) rfl ?_
  refine am_ev.step (pc' := 120) rfl rfl ?_
  exact (show ((i : Int) + 2) = (((i + 1 : Nat) : Int) + 1) by omega) ▸ q9
theorem la_245 (S : fS g) (v55 : g.2.2.2 78 55 = iv i) (hi : i < 14) (hc : c < 14) : am_ev d 245 0 (am_ent [.ref 78, iv c] 2) [] g (none, (am_put (am_put g 118 i (iv ((c : Int)))) 78 55 (iv ((i : Int) + 1)))) := by
  show am_ev d 245 0 [.ref 78, iv c] [] g _
  refine am_ev.step (pc' := 1) rfl rfl ?_
  refine ax_gf (p' := 4) rfl rfl (S.ob rfl) (S.rf rfl rfl) ?_
  refine am_ev.step (pc' := 5) rfl rfl ?_
  refine ax_gf (p' := 8) rfl rfl (S.ob rfl) v55 ?_
  refine am_ev.step (pc' := 9) rfl rfl ?_
  refine ax_iastore (p' := 10) rfl rfl (S.wr (k := i) rfl rfl rfl rfl (by omega)) ?_
  refine am_ev.step (pc' := 11) rfl rfl ?_
  refine am_ev.step (pc' := 12) rfl rfl ?_
  refine ax_gf (p' := 15) rfl rfl (fO (S.ob rfl)) (ax_put_o (Or.inl (by decide)) v55) ?_
  refine am_ev.step (pc' := 16) rfl rfl ?_
  refine fx_add (p' := 17) (e := ((i : Int) + 1)) rfl rfl (by omega) ?_
  refine ax_pf (p' := 20) rfl rfl (fO (S.ob rfl)) rfl ?_
  exact am_ev.retv rfl rfl
theorem la_246 (S : fS g) : am_ev d 246 0 (am_ent [.ref 78] 1) [] g (none, (am_put (am_put (am_put g 78 75 (iv 0)) 78 80 (iv 0)) 78 81 (iv 0))) := by
  show am_ev d 246 0 [.ref 78] [] g _
  refine am_ev.step (pc' := 1) rfl rfl ?_
  refine am_ev.step (pc' := 2) rfl rfl ?_
  refine ax_pf (p' := 5) rfl rfl (S.ob rfl) rfl ?_
  refine am_ev.step (pc' := 6) rfl rfl ?_
  refine am_ev.step (pc' := 7) rfl rfl ?_
  refine ax_pf (p' := 10) rfl rfl (fO (S.ob rfl)) rfl ?_
  refine am_ev.step (pc' := 11) rfl rfl ?_
  refine am_ev.step (pc' := 12) rfl rfl ?_
  refine ax_pf (p' := 15) rfl rfl (fO (fO (S.ob rfl))) rfl ?_
  exact am_ev.retv rfl rfl
theorem la_247l (S : fS g) (hL : L ≤ 14) (bs : 0 ≤ st ∧ st ≤ 40000) (hi : i = L) (H246 : am_ev (d + 8) 246 0 (am_ent [.ref 78] 1) [] g (none, G)) (SG : fS G) : am_ev (d + 9) 247 190 [.ref 78, iv ((L : Int)), .int S0, iv (st), iv ((i : Int)), x5, x6] [] g (some (iv st), G) := by
  refine am_ev.step (pc' := 192) rfl rfl ?_
  refine am_ev.step (pc' := 193) rfl rfl ?_
  refine fx_c_ge_T (pT := 216) rfl (by omega) (by omega) rfl (by omega) ?_
  refine am_ev.step (pc' := 217) rfl rfl ?_
  refine ax_call (z := 246) (p' := 220) (as := [_]) rfl (Or.inr (Or.inl ⟨_, rfl⟩)) rfl rfl rfl rfl rfl rfl (S.ob rfl) rfl H246 rfl ?_
  refine am_ev.step (pc' := 221) rfl rfl ?_
  exact fx_reti rfl rfl rfl
theorem la_247m (S : fS g) (hL : L ≤ 14) (bs : 0 ≤ st ∧ st ≤ 40000) (hi : i < L) (vb : g.2.2.2 80 i = iv ((c : Int) + 65)) (hc : c < 14) (H245 : am_ev (d + 8) 245 0 (am_ent [.ref 78, iv c] 2) [] g (none, G)) (SG : fS G) {x : Option Value × am_H} (q9 : am_ev (d + 9) 247 190 [.ref 78, iv ((L : Int)), .int S0, iv (st), iv ((i + 1 : Nat) : Int), x5, x6] [] G x) : am_ev (d + 9) 247 190 [.ref 78, iv ((L : Int)), .int S0, iv (st), iv ((i : Int)), x5, x6] [] g x := by
  refine am_ev.step (pc' := 192) rfl rfl ?_
  refine am_ev.step (pc' := 193) rfl rfl ?_
  refine fx_c_ge_F (pF := 196) rfl (by omega) (by omega) rfl (by omega) ?_
  refine am_ev.step (pc' := 197) rfl rfl ?_
  refine am_ev.step (pc' := 198) rfl rfl ?_
  refine ax_gf (p' := 201) rfl rfl (S.ob rfl) (S.rf rfl rfl) ?_
  refine am_ev.step (pc' := 203) rfl rfl ?_
  refine ax_baload (p' := 204) rfl rfl (S.rd (k := i) rfl rfl rfl rfl rfl (by omega) vb) ?_
  refine fx_bip (p' := 206) rfl rfl rfl ?_
  refine fx_sub (p' := 207) (e := ((c : Int))) rfl rfl (by omega) ?_
  refine ax_call (z := 245) (p' := 210) (as := [_, _]) rfl (Or.inr (Or.inl ⟨_, rfl⟩)) rfl rfl rfl rfl rfl rfl (S.ob rfl) rfl H245 rfl ?_
  refine fx_inc (p' := 213) (e := ((i : Int) + 1)) (ls' := [.ref 78, iv ((L : Int)), .int S0, iv (st), iv ((i : Int) + 1), x5, x6]) rfl rfl rfl (by omega) rfl ?_
  refine am_ev.step (pc' := 190) rfl rfl ?_
  exact (rr_n ▸ q9)
end LAM
