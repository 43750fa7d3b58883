/-! ORDER, methods -/
section ORM
variable {d n c z k k2 a b p p2 L r r2 j i one part first W q : Nat} {h g G H : am_H} {m v s due dv best st_ tot : Int} {S0 ap : Int32} {x3 x4 x5 x6 x7 x8 : Value}
theorem ax_top {y pc : Nat} {ls r : List Value} {h : am_H} {x : Option Value × am_H} {u t : Int32} (e : u = t) (q : am_ev d y pc ls (.int t :: r) h x) : am_ev d y pc ls (.int u :: r) h x := by
  rw [e]
  exact q
theorem b_ush {t : Int32} (hj : j < 31) : (t.toUInt32 >>> ((Int32.ofInt (j : Int)).toUInt32 &&& Int32.toUInt32 31)).toInt32 &&& Int32.ofInt 1 = 0 ↔ bt t j = false := by
  rw [b_and1, Int32.ofInt_eq_ofNat, b_ushr j (by omega), Nat.add_zero]
theorem or_118a (S : fS h) (H64 : am_ev (d + 6) 64 0 (am_ent [.int S0] 1) [] h (some (iv z), h)) (hz : z ≤ 32) (H116 : am_ev (d + 6) 116 0 (am_ent [.ref 40, .int S0] 2) [] h (some (iv 0), h)) : am_ev (d + 7) 118 0 (am_ent [.ref 40, .int S0] 4) [] h (some (iv (-2)), h) := by
  show am_ev (d + 7) 118 0 [.ref 40, .int S0, am_ph, am_ph] [] h _
  refine am_ev.step (pc' := 1) rfl rfl ?_
  refine ax_call (z := 64) (p' := 4) (as := [_]) rfl (Or.inl ⟨_, rfl⟩) rfl rfl rfl rfl rfl rfl rfl rfl H64 rfl ?_
  refine am_ev.step (pc' := 5) (ls' := [.ref 40, .int S0, iv ((z : Int)), am_ph]) rfl rfl ?_
  refine am_ev.step (pc' := 6) rfl rfl ?_
  refine am_ev.step (pc' := 7) rfl rfl ?_
  refine ax_call (z := 116) (p' := 10) (as := [_, _]) rfl (Or.inr (Or.inl ⟨_, rfl⟩)) rfl rfl rfl rfl rfl rfl (S.ob rfl) rfl H116 rfl ?_
  refine fx_z_eq_T (pT := 24) rfl (by omega) rfl (by omega) ?_
  refine fx_bip (p' := 26) rfl rfl rfl ?_
  exact fx_reti rfl rfl rfl
theorem or_118b (S : fS h) (H64 : am_ev (d + 6) 64 0 (am_ent [.int S0] 1) [] h (some (iv z), h)) (hz : z ≤ 32) (H116 : am_ev (d + 6) 116 0 (am_ent [.ref 40, .int S0] 2) [] h (some (iv 1), h)) (hz1 : z < 1) : am_ev (d + 7) 118 0 (am_ent [.ref 40, .int S0] 4) [] h (some (iv (-2)), h) := by
  show am_ev (d + 7) 118 0 [.ref 40, .int S0, am_ph, am_ph] [] h _
  refine am_ev.step (pc' := 1) rfl rfl ?_
  refine ax_call (z := 64) (p' := 4) (as := [_]) rfl (Or.inl ⟨_, rfl⟩) rfl rfl rfl rfl rfl rfl rfl rfl H64 rfl ?_
  refine am_ev.step (pc' := 5) (ls' := [.ref 40, .int S0, iv ((z : Int)), am_ph]) rfl rfl ?_
  refine am_ev.step (pc' := 6) rfl rfl ?_
  refine am_ev.step (pc' := 7) rfl rfl ?_
  refine ax_call (z := 116) (p' := 10) (as := [_, _]) rfl (Or.inr (Or.inl ⟨_, rfl⟩)) rfl rfl rfl rfl rfl rfl (S.ob rfl) rfl H116 rfl ?_
  refine fx_z_eq_F (pF := 13) rfl (by omega) rfl (by omega) ?_
  refine am_ev.step (pc' := 14) rfl rfl ?_
  refine am_ev.step (pc' := 15) rfl rfl ?_
  refine fx_c_lt_T (pT := 24) rfl (by omega) (by omega) rfl (by omega) ?_
  refine fx_bip (p' := 26) rfl rfl rfl ?_
  exact fx_reti rfl rfl rfl
theorem or_118c (S : fS h) (H64 : am_ev (d + 6) 64 0 (am_ent [.int S0] 1) [] h (some (iv z), h)) (hz : z ≤ 32) (H116 : am_ev (d + 6) 116 0 (am_ent [.ref 40, .int S0] 2) [] h (some (iv 1), h)) (hz1 : 10 < z) : am_ev (d + 7) 118 0 (am_ent [.ref 40, .int S0] 4) [] h (some (iv (-2)), h) := by
  show am_ev (d + 7) 118 0 [.ref 40, .int S0, am_ph, am_ph] [] h _
  refine am_ev.step (pc' := 1) rfl rfl ?_
  refine ax_call (z := 64) (p' := 4) (as := [_]) rfl (Or.inl ⟨_, rfl⟩) rfl rfl rfl rfl rfl rfl rfl rfl H64 rfl ?_
  refine am_ev.step (pc' := 5) (ls' := [.ref 40, .int S0, iv ((z : Int)), am_ph]) rfl rfl ?_
  refine am_ev.step (pc' := 6) rfl rfl ?_
  refine am_ev.step (pc' := 7) rfl rfl ?_
  refine ax_call (z := 116) (p' := 10) (as := [_, _]) rfl (Or.inr (Or.inl ⟨_, rfl⟩)) rfl rfl rfl rfl rfl rfl (S.ob rfl) rfl H116 rfl ?_
  refine fx_z_eq_F (pF := 13) rfl (by omega) rfl (by omega) ?_
  refine am_ev.step (pc' := 14) rfl rfl ?_
  refine am_ev.step (pc' := 15) rfl rfl ?_
  refine fx_c_lt_F (pF := 18) rfl (by omega) (by omega) rfl (by omega) ?_
  refine am_ev.step (pc' := 19) rfl rfl ?_
  refine fx_bip (p' := 21) rfl rfl rfl ?_
  refine fx_c_le_F (pF := 24) rfl (by omega) (by omega) rfl (by omega) ?_
  refine fx_bip (p' := 26) rfl rfl rfl ?_
  exact fx_reti rfl rfl rfl
theorem or_118d (S : fS h) (H64 : am_ev (d + 6) 64 0 (am_ent [.int S0] 1) [] h (some (iv z), h)) (hz : z ≤ 32) (H116 : am_ev (d + 6) 116 0 (am_ent [.ref 40, .int S0] 2) [] h (some (iv 1), h)) (hz1 : 1 ≤ z ∧ z ≤ 10) (H108 : am_ev (d + 6) 108 0 (am_ent [.ref 40, .int S0] 4) [] h (some (iv 0), g)) (Sg : fS g) : am_ev (d + 7) 118 0 (am_ent [.ref 40, .int S0] 4) [] h (some (iv (-4)), g) := by
  show am_ev (d + 7) 118 0 [.ref 40, .int S0, am_ph, am_ph] [] h _
  refine am_ev.step (pc' := 1) rfl rfl ?_
  refine ax_call (z := 64) (p' := 4) (as := [_]) rfl (Or.inl ⟨_, rfl⟩) rfl rfl rfl rfl rfl rfl rfl rfl H64 rfl ?_
  refine am_ev.step (pc' := 5) (ls' := [.ref 40, .int S0, iv ((z : Int)), am_ph]) rfl rfl ?_
  refine am_ev.step (pc' := 6) rfl rfl ?_
  refine am_ev.step (pc' := 7) rfl rfl ?_
  refine ax_call (z := 116) (p' := 10) (as := [_, _]) rfl (Or.inr (Or.inl ⟨_, rfl⟩)) rfl rfl rfl rfl rfl rfl (S.ob rfl) rfl H116 rfl ?_
  refine fx_z_eq_F (pF := 13) rfl (by omega) rfl (by omega) ?_
  refine am_ev.step (pc' := 14) rfl rfl ?_
  refine am_ev.step (pc' := 15) rfl rfl ?_
  refine fx_c_lt_F (pF := 18) rfl (by omega) (by omega) rfl (by omega) ?_
  refine am_ev.step (pc' := 19) rfl rfl ?_
  refine fx_bip (p' := 21) rfl rfl rfl ?_
  refine fx_c_le_T (pT := 27) rfl (by omega) (by omega) rfl (by omega) ?_
  refine am_ev.step (pc' := 28) rfl rfl ?_
  refine am_ev.step (pc' := 29) rfl rfl ?_
  refine ax_call (z := 108) (p' := 32) (as := [_, _]) rfl (Or.inr (Or.inl ⟨_, rfl⟩)) rfl rfl rfl rfl rfl rfl (S.ob rfl) rfl H108 rfl ?_
  refine fx_z_ne_F (pF := 35) rfl (by omega) rfl (by omega) ?_
  refine fx_bip (p' := 37) rfl rfl rfl ?_
  exact fx_reti rfl rfl rfl
theorem or_118e (S : fS h) (H64 : am_ev (d + 6) 64 0 (am_ent [.int S0] 1) [] h (some (iv z), h)) (hz : z ≤ 32) (H116 : am_ev (d + 6) 116 0 (am_ent [.ref 40, .int S0] 2) [] h (some (iv 1), h)) (hz1 : 1 ≤ z ∧ z ≤ 10) (H108 : am_ev (d + 6) 108 0 (am_ent [.ref 40, .int S0] 4) [] h (some (iv 1), g)) (Sg : fS g) (v13 : g.2.2.2 40 13 = iv n) (H119 : am_ev (d + 6) 119 0 (am_ent [.ref 67, .int S0, .ref 74, iv n] 7) [] g (some (iv (-1)), G)) (SG : fS G) : am_ev (d + 7) 118 0 (am_ent [.ref 40, .int S0] 4) [] h (some (iv (-1)), G) := by
  show am_ev (d + 7) 118 0 [.ref 40, .int S0, am_ph, am_ph] [] h _
  refine am_ev.step (pc' := 1) rfl rfl ?_
  refine ax_call (z := 64) (p' := 4) (as := [_]) rfl (Or.inl ⟨_, rfl⟩) rfl rfl rfl rfl rfl rfl rfl rfl H64 rfl ?_
  refine am_ev.step (pc' := 5) (ls' := [.ref 40, .int S0, iv ((z : Int)), am_ph]) rfl rfl ?_
  refine am_ev.step (pc' := 6) rfl rfl ?_
  refine am_ev.step (pc' := 7) rfl rfl ?_
  refine ax_call (z := 116) (p' := 10) (as := [_, _]) rfl (Or.inr (Or.inl ⟨_, rfl⟩)) rfl rfl rfl rfl rfl rfl (S.ob rfl) rfl H116 rfl ?_
  refine fx_z_eq_F (pF := 13) rfl (by omega) rfl (by omega) ?_
  refine am_ev.step (pc' := 14) rfl rfl ?_
  refine am_ev.step (pc' := 15) rfl rfl ?_
  refine fx_c_lt_F (pF := 18) rfl (by omega) (by omega) rfl (by omega) ?_
  refine am_ev.step (pc' := 19) rfl rfl ?_
  refine fx_bip (p' := 21) rfl rfl rfl ?_
  refine fx_c_le_T (pT := 27) rfl (by omega) (by omega) rfl (by omega) ?_
  refine am_ev.step (pc' := 28) rfl rfl ?_
  refine am_ev.step (pc' := 29) rfl rfl ?_
  refine ax_call (z := 108) (p' := 32) (as := [_, _]) rfl (Or.inr (Or.inl ⟨_, rfl⟩)) rfl rfl rfl rfl rfl rfl (S.ob rfl) rfl H108 rfl ?_
  refine fx_z_ne_T (pT := 38) rfl (by omega) rfl (by omega) ?_
  refine am_ev.step (pc' := 39) rfl rfl ?_
  refine ax_gf (p' := 42) rfl rfl (Sg.ob rfl) (Sg.rf rfl rfl) ?_
  refine am_ev.step (pc' := 43) rfl rfl ?_
  refine am_ev.step (pc' := 44) rfl rfl ?_
  refine ax_gf (p' := 47) rfl rfl (Sg.ob rfl) (Sg.rf rfl rfl) ?_
  refine am_ev.step (pc' := 48) rfl rfl ?_
  refine ax_gf (p' := 51) rfl rfl (Sg.ob rfl) v13 ?_
  refine ax_call (z := 119) (p' := 54) (as := [_, _, _, _]) rfl (Or.inr (Or.inl ⟨_, rfl⟩)) rfl rfl rfl rfl rfl rfl (Sg.ob rfl) rfl H119 rfl ?_
  refine am_ev.step (pc' := 55) (ls' := [.ref 40, .int S0, iv ((z : Int)), iv (-1)]) rfl rfl ?_
  refine am_ev.step (pc' := 56) rfl rfl ?_
  refine am_ev.step (pc' := 57) rfl rfl ?_
  refine fx_c_eq_T (pT := 65) rfl (by omega) (by omega) rfl (by omega) ?_
  refine am_ev.step (pc' := 66) rfl rfl ?_
  exact fx_reti rfl rfl rfl
theorem or_118f (S : fS h) (H64 : am_ev (d + 6) 64 0 (am_ent [.int S0] 1) [] h (some (iv z), h)) (hz : z ≤ 32) (H116 : am_ev (d + 6) 116 0 (am_ent [.ref 40, .int S0] 2) [] h (some (iv 1), h)) (hz1 : 1 ≤ z ∧ z ≤ 10) (H108 : am_ev (d + 6) 108 0 (am_ent [.ref 40, .int S0] 4) [] h (some (iv 1), g)) (Sg : fS g) (v13 : g.2.2.2 40 13 = iv n) (H119 : am_ev (d + 6) 119 0 (am_ent [.ref 67, .int S0, .ref 74, iv n] 7) [] g (some (iv m), G)) (SG : fS G) (bm : 0 ≤ m ∧ m ≤ 50000) (H127 : am_ev (d + 6) 127 0 (am_ent [.ref 40, iv z] 3) [] G (none, H)) (SH : fS H) : am_ev (d + 7) 118 0 (am_ent [.ref 40, .int S0] 4) [] h (some (iv m), H) := by
  show am_ev (d + 7) 118 0 [.ref 40, .int S0, am_ph, am_ph] [] h _
  refine am_ev.step (pc' := 1) rfl rfl ?_
  refine ax_call (z := 64) (p' := 4) (as := [_]) rfl (Or.inl ⟨_, rfl⟩) rfl rfl rfl rfl rfl rfl rfl rfl H64 rfl ?_
  refine am_ev.step (pc' := 5) (ls' := [.ref 40, .int S0, iv ((z : Int)), am_ph]) rfl rfl ?_
  refine am_ev.step (pc' := 6) rfl rfl ?_
  refine am_ev.step (pc' := 7) rfl rfl ?_
  refine ax_call (z := 116) (p' := 10) (as := [_, _]) rfl (Or.inr (Or.inl ⟨_, rfl⟩)) rfl rfl rfl rfl rfl rfl (S.ob rfl) rfl H116 rfl ?_
  refine fx_z_eq_F (pF := 13) rfl (by omega) rfl (by omega) ?_
  refine am_ev.step (pc' := 14) rfl rfl ?_
  refine am_ev.step (pc' := 15) rfl rfl ?_
  refine fx_c_lt_F (pF := 18) rfl (by omega) (by omega) rfl (by omega) ?_
  refine am_ev.step (pc' := 19) rfl rfl ?_
  refine fx_bip (p' := 21) rfl rfl rfl ?_
  refine fx_c_le_T (pT := 27) rfl (by omega) (by omega) rfl (by omega) ?_
  refine am_ev.step (pc' := 28) rfl rfl ?_
  refine am_ev.step (pc' := 29) rfl rfl ?_
  refine ax_call (z := 108) (p' := 32) (as := [_, _]) rfl (Or.inr (Or.inl ⟨_, rfl⟩)) rfl rfl rfl rfl rfl rfl (S.ob rfl) rfl H108 rfl ?_
  refine fx_z_ne_T (pT := 38) rfl (by omega) rfl (by omega) ?_
  refine am_ev.step (pc' := 39) rfl rfl ?_
  refine ax_gf (p' := 42) rfl rfl (Sg.ob rfl) (Sg.rf rfl rfl) ?_
  refine am_ev.step (pc' := 43) rfl rfl ?_
  refine am_ev.step (pc' := 44) rfl rfl ?_
  refine ax_gf (p' := 47) rfl rfl (Sg.ob rfl) (Sg.rf rfl rfl) ?_
  refine am_ev.step (pc' := 48) rfl rfl ?_
  refine ax_gf (p' := 51) rfl rfl (Sg.ob rfl) v13 ?_
  refine ax_call (z := 119) (p' := 54) (as := [_, _, _, _]) rfl (Or.inr (Or.inl ⟨_, rfl⟩)) rfl rfl rfl rfl rfl rfl (Sg.ob rfl) rfl H119 rfl ?_
  refine am_ev.step (pc' := 55) (ls' := [.ref 40, .int S0, iv ((z : Int)), iv (m)]) rfl rfl ?_
  refine am_ev.step (pc' := 56) rfl rfl ?_
  refine am_ev.step (pc' := 57) rfl rfl ?_
  refine fx_c_eq_F (pF := 60) rfl (by omega) (by omega) rfl (by omega) ?_
  refine am_ev.step (pc' := 61) rfl rfl ?_
  refine am_ev.step (pc' := 62) rfl rfl ?_
  refine ax_call (z := 127) (p' := 65) (as := [_, _]) rfl (Or.inr (Or.inl ⟨_, rfl⟩)) rfl rfl rfl rfl rfl rfl (SG.ob rfl) rfl H127 rfl ?_
  refine am_ev.step (pc' := 66) rfl rfl ?_
  exact fx_reti rfl rfl rfl
theorem or_120s (S : fS h) {x : Option Value × am_H} (q9 : am_ev (d + 3) 120 8 [.ref 67, .int S0, .ref 74, iv ((n : Int)), iv 0, am_ph, am_ph] [] (am_put h 67 4 (iv 0)) x) : am_ev (d + 3) 120 0 (am_ent [.ref 67, .int S0, .ref 74, iv n] 7) [] h x := by
  show am_ev (d + 3) 120 0 [.ref 67, .int S0, .ref 74, iv ((n : Int)), am_ph, am_ph, am_ph] [] h _
  refine am_ev.step (pc' := 1) rfl rfl ?_
  refine am_ev.step (pc' := 2) rfl rfl ?_
  refine ax_pf (p' := 5) rfl rfl (S.ob rfl) rfl ?_
  refine am_ev.step (pc' := 6) rfl rfl ?_
  refine am_ev.step (pc' := 8) (ls' := [.ref 67, .int S0, .ref 74, iv ((n : Int)), iv 0, am_ph, am_ph]) rfl rfl ?_
  exact q9
theorem or_120e (S : fS h) (v4 : h.2.2.2 67 4 = iv z) (hz : z ≤ 10) (hn : n ≤ 14) (hc : c = n) {x : Option Value × am_H} (q9 : am_ev (d + 3) 120 69 [.ref 67, .int S0, .ref 74, iv ((n : Int)), iv 0, x5, x6] [] h x) : am_ev (d + 3) 120 8 [.ref 67, .int S0, .ref 74, iv ((n : Int)), iv ((c : Int)), x5, x6] [] h x := by
  refine am_ev.step (pc' := 10) rfl rfl ?_
  refine am_ev.step (pc' := 11) rfl rfl ?_
  refine fx_c_ge_T (pT := 66) rfl (by omega) (by omega) rfl (by omega) ?_
  refine am_ev.step (pc' := 67) rfl rfl ?_
  refine am_ev.step (pc' := 69) (ls' := [.ref 67, .int S0, .ref 74, iv ((n : Int)), iv 0, x5, x6]) rfl rfl ?_
  exact q9
theorem or_120f (S : fS h) (v4 : h.2.2.2 67 4 = iv z) (hz : z ≤ 10) (hn : n ≤ 14) (hc : c < n) (hz1 : z = 10) {x : Option Value × am_H} (q9 : am_ev (d + 3) 120 69 [.ref 67, .int S0, .ref 74, iv ((n : Int)), iv 0, x5, x6] [] h x) : am_ev (d + 3) 120 8 [.ref 67, .int S0, .ref 74, iv ((n : Int)), iv ((c : Int)), x5, x6] [] h x := by
  refine am_ev.step (pc' := 10) rfl rfl ?_
  refine am_ev.step (pc' := 11) rfl rfl ?_
  refine fx_c_ge_F (pF := 14) rfl (by omega) (by omega) rfl (by omega) ?_
  refine am_ev.step (pc' := 16) rfl rfl ?_
  refine fx_bip (p' := 18) rfl rfl rfl ?_
  refine fx_c_ge_F (pF := 21) rfl (by omega) (by omega) rfl (by omega) ?_
  refine am_ev.step (pc' := 22) rfl rfl ?_
  refine ax_gf (p' := 25) rfl rfl (S.ob rfl) v4 ?_
  refine fx_bip (p' := 27) rfl rfl rfl ?_
  refine fx_c_ge_T (pT := 66) rfl (by omega) (by omega) rfl (by omega) ?_
  refine am_ev.step (pc' := 67) rfl rfl ?_
  refine am_ev.step (pc' := 69) (ls' := [.ref 67, .int S0, .ref 74, iv ((n : Int)), iv 0, x5, x6]) rfl rfl ?_
  exact q9
theorem or_120n (S : fS h) (v4 : h.2.2.2 67 4 = iv z) (hz : z ≤ 10) (hn : n ≤ 14) (hc : c < n) (hz1 : z < 10) (qb : bt S0 c = false) {x : Option Value × am_H} (q9 : am_ev (d + 3) 120 8 [.ref 67, .int S0, .ref 74, iv ((n : Int)), iv ((c + 1 : Nat) : Int), x5, x6] [] h x) : am_ev (d + 3) 120 8 [.ref 67, .int S0, .ref 74, iv ((n : Int)), iv ((c : Int)), x5, x6] [] h x := by
  refine am_ev.step (pc' := 10) rfl rfl ?_
  refine am_ev.step (pc' := 11) rfl rfl ?_
  refine fx_c_ge_F (pF := 14) rfl (by omega) (by omega) rfl (by omega) ?_
  refine am_ev.step (pc' := 16) rfl rfl ?_
  refine fx_bip (p' := 18) rfl rfl rfl ?_
  refine fx_c_ge_F (pF := 21) rfl (by omega) (by omega) rfl (by omega) ?_
  refine am_ev.step (pc' := 22) rfl rfl ?_
  refine ax_gf (p' := 25) rfl rfl (S.ob rfl) v4 ?_
  refine fx_bip (p' := 27) rfl rfl rfl ?_
  refine fx_c_ge_F (pF := 30) rfl (by omega) (by omega) rfl (by omega) ?_
  refine am_ev.step (pc' := 31) rfl rfl ?_
  refine am_ev.step (pc' := 33) rfl rfl ?_
  refine ax_call (z := 31) (p' := 36) (as := [_, _]) rfl (Or.inl ⟨_, rfl⟩) rfl rfl rfl rfl rfl rfl rfl rfl ((tk_31 (t := S0) (c := c) (by omega)).2 qb) rfl ?_
  refine fx_z_eq_T (pT := 60) rfl (by omega) rfl (by omega) ?_
  refine fx_inc (p' := 63) (e := ((c : Int) + 1)) (ls' := [.ref 67, .int S0, .ref 74, iv ((n : Int)), iv ((c : Int) + 1), x5, x6]) rfl rfl rfl (by omega) rfl ?_
  refine am_ev.step (pc' := 8) rfl rfl ?_
  exact (rr_n ▸ q9)
theorem or_120y (S : fS h) (v4 : h.2.2.2 67 4 = iv z) (hz : z ≤ 10) (hn : n ≤ 14) (hc : c < n) (hz1 : z < 10) (qb : bt S0 c = true) {x : Option Value × am_H} (q9 : am_ev (d + 3) 120 8 [.ref 67, .int S0, .ref 74, iv ((n : Int)), iv ((c + 1 : Nat) : Int), x5, x6] [] (am_put (am_put h 69 z (iv ((c : Int)))) 67 4 (iv ((z : Int) + 1))) x) : am_ev (d + 3) 120 8 [.ref 67, .int S0, .ref 74, iv ((n : Int)), iv ((c : Int)), x5, x6] [] h x := by
  refine am_ev.step (pc' := 10) rfl rfl ?_
  refine am_ev.step (pc' := 11) rfl rfl ?_
  refine fx_c_ge_F (pF := 14) rfl (by omega) (by omega) rfl (by omega) ?_
  refine am_ev.step (pc' := 16) rfl rfl ?_
  refine fx_bip (p' := 18) rfl rfl rfl ?_
  refine fx_c_ge_F (pF := 21) rfl (by omega) (by omega) rfl (by omega) ?_
  refine am_ev.step (pc' := 22) rfl rfl ?_
  refine ax_gf (p' := 25) rfl rfl (S.ob rfl) v4 ?_
  refine fx_bip (p' := 27) rfl rfl rfl ?_
  refine fx_c_ge_F (pF := 30) rfl (by omega) (by omega) rfl (by omega) ?_
  refine am_ev.step (pc' := 31) rfl rfl ?_
  refine am_ev.step (pc' := 33) rfl rfl ?_
  refine ax_call (z := 31) (p' := 36) (as := [_, _]) rfl (Or.inl ⟨_, rfl⟩) rfl rfl rfl rfl rfl rfl rfl rfl ((tk_31 (t := S0) (c := c) (by omega)).1 qb) rfl ?_
  refine fx_z_eq_F (pF := 39) rfl (by omega) rfl (by omega) ?_
  refine am_ev.step (pc' := 40) rfl rfl ?_
  refine ax_gf (p' := 43) rfl rfl (S.ob rfl) (S.rf rfl rfl) ?_
  refine am_ev.step (pc' := 44) rfl rfl ?_
  refine ax_gf (p' := 47) rfl rfl (S.ob rfl) v4 ?_
  refine am_ev.step (pc' := 49) rfl rfl ?_
  refine ax_iastore (p' := 50) rfl rfl (S.wr (k := z) rfl rfl rfl rfl (by omega)) ?_
  refine am_ev.step (pc' := 51) rfl rfl ?_
  refine am_ev.step (pc' := 52) rfl rfl ?_
  refine ax_gf (p' := 55) rfl rfl (fO (S.ob rfl)) (ax_put_o (Or.inl (by decide)) v4) ?_
  refine am_ev.step (pc' := 56) rfl rfl ?_
  refine fx_add (p' := 57) (e := ((z : Int) + 1)) rfl rfl (by omega) ?_
  refine ax_pf (p' := 60) rfl rfl (fO (S.ob rfl)) rfl ?_
  refine fx_inc (p' := 63) (e := ((c : Int) + 1)) (ls' := [.ref 67, .int S0, .ref 74, iv ((n : Int)), iv ((c : Int) + 1), x5, x6]) rfl rfl rfl (by omega) rfl ?_
  refine am_ev.step (pc' := 8) rfl rfl ?_
  exact (rr_n ▸ q9)
theorem or_120g (S : fS h) (v4 : h.2.2.2 67 4 = iv z) (hz : z ≤ 10) (hn : n ≤ 14) (ha : a = z) : am_ev (d + 3) 120 69 [.ref 67, .int S0, .ref 74, iv ((n : Int)), iv ((a : Int)), x5, x6] [] h (none, h) := by
  refine am_ev.step (pc' := 71) rfl rfl ?_
  refine am_ev.step (pc' := 72) rfl rfl ?_
  refine ax_gf (p' := 75) rfl rfl (S.ob rfl) v4 ?_
  refine fx_c_ge_T (pT := 151) rfl (by omega) (by omega) rfl (by omega) ?_
  exact am_ev.retv rfl rfl
theorem or_120h (S : fS h) (v4 : h.2.2.2 67 4 = iv z) (hz : z ≤ 10) (hn : n ≤ 14) (ha : a < z) {x : Option Value × am_H} (q9 : am_ev (d + 3) 120 81 [.ref 67, .int S0, .ref 74, iv ((n : Int)), iv ((a : Int)), iv 0, x6] [] h x) : am_ev (d + 3) 120 69 [.ref 67, .int S0, .ref 74, iv ((n : Int)), iv ((a : Int)), x5, x6] [] h x := by
  refine am_ev.step (pc' := 71) rfl rfl ?_
  refine am_ev.step (pc' := 72) rfl rfl ?_
  refine ax_gf (p' := 75) rfl rfl (S.ob rfl) v4 ?_
  refine fx_c_ge_F (pF := 78) rfl (by omega) (by omega) rfl (by omega) ?_
  refine am_ev.step (pc' := 79) rfl rfl ?_
  refine am_ev.step (pc' := 81) (ls' := [.ref 67, .int S0, .ref 74, iv ((n : Int)), iv ((a : Int)), iv 0, x6]) rfl rfl ?_
  exact q9
theorem or_120i (S : fS h) (v4 : h.2.2.2 67 4 = iv z) (hz : z ≤ 10) (hn : n ≤ 14) (hb : b = z) {x : Option Value × am_H} (q9 : am_ev (d + 3) 120 69 [.ref 67, .int S0, .ref 74, iv ((n : Int)), iv ((a + 1 : Nat) : Int), iv ((b : Int)), x6] [] h x) : am_ev (d + 3) 120 81 [.ref 67, .int S0, .ref 74, iv ((n : Int)), iv ((a : Int)), iv ((b : Int)), x6] [] h x := by
  refine am_ev.step (pc' := 83) rfl rfl ?_
  refine am_ev.step (pc' := 84) rfl rfl ?_
  refine ax_gf (p' := 87) rfl rfl (S.ob rfl) v4 ?_
  refine fx_c_ge_T (pT := 145) rfl (by omega) (by omega) rfl (by omega) ?_
  refine fx_inc (p' := 148) (e := ((a : Int) + 1)) (ls' := [.ref 67, .int S0, .ref 74, iv ((n : Int)), iv ((a : Int) + 1), iv ((b : Int)), x6]) rfl rfl rfl (by omega) rfl ?_
  refine am_ev.step (pc' := 69) rfl rfl ?_
  exact (rr_n ▸ q9)
theorem or_120j (S : fS h) (v4 : h.2.2.2 67 4 = iv z) (hz : z ≤ 10) (hn : n ≤ 14) (ha : a < z) (hb : b < z) (f1 : h.2.2.2 69 a = iv p) (f2 : h.2.2.2 69 b = iv p2) (hp1 : p < 14) (hp2 : p2 < 14) (w1 : h.2.2.2 74 p = .ref k) (w2 : h.2.2.2 74 p2 = .ref k2) (H121 : am_ev (d + 2) 121 0 (am_ent [.ref k, .ref k2] 2) [] h (some (iv (-1)), h)) {x : Option Value × am_H} (q9 : am_ev (d + 3) 120 81 [.ref 67, .int S0, .ref 74, iv ((n : Int)), iv ((a : Int)), iv ((b + 1 : Nat) : Int), iv (-1)] [] (am_put h 70 (10 * a + b) (iv 1000000)) x) : am_ev (d + 3) 120 81 [.ref 67, .int S0, .ref 74, iv ((n : Int)), iv ((a : Int)), iv ((b : Int)), x6] [] h x := by
  refine am_ev.step (pc' := 83) rfl rfl ?_
  refine am_ev.step (pc' := 84) rfl rfl ?_
  refine ax_gf (p' := 87) rfl rfl (S.ob rfl) v4 ?_
  refine fx_c_ge_F (pF := 90) rfl (by omega) (by omega) rfl (by omega) ?_
  refine am_ev.step (pc' := 91) rfl rfl ?_
  refine am_ev.step (pc' := 92) rfl rfl ?_
  refine ax_gf (p' := 95) rfl rfl (S.ob rfl) (S.rf rfl rfl) ?_
  refine am_ev.step (pc' := 97) rfl rfl ?_
  refine ax_iaload (p' := 98) rfl rfl (S.rd (k := a) rfl rfl rfl rfl rfl (by omega) f1) ?_
  refine ax_aaload (p' := 99) rfl rfl (S.rd (k := p) rfl rfl rfl rfl rfl (by omega) w1) ?_
  refine am_ev.step (pc' := 100) rfl rfl ?_
  refine am_ev.step (pc' := 101) rfl rfl ?_
  refine ax_gf (p' := 104) rfl rfl (S.ob rfl) (S.rf rfl rfl) ?_
  refine am_ev.step (pc' := 106) rfl rfl ?_
  refine ax_iaload (p' := 107) rfl rfl (S.rd (k := b) rfl rfl rfl rfl rfl (by omega) f2) ?_
  refine ax_aaload (p' := 108) rfl rfl (S.rd (k := p2) rfl rfl rfl rfl rfl (by omega) w2) ?_
  refine ax_call (z := 121) (p' := 111) (as := [_, _]) rfl (Or.inl ⟨_, rfl⟩) rfl rfl rfl rfl rfl rfl rfl rfl H121 rfl ?_
  refine am_ev.step (pc' := 113) (ls' := [.ref 67, .int S0, .ref 74, iv ((n : Int)), iv ((a : Int)), iv ((b : Int)), iv (-1)]) rfl rfl ?_
  refine am_ev.step (pc' := 114) rfl rfl ?_
  refine ax_gf (p' := 117) rfl rfl (S.ob rfl) (S.rf rfl rfl) ?_
  refine am_ev.step (pc' := 119) rfl rfl ?_
  refine fx_bip (p' := 121) rfl rfl rfl ?_
  refine fx_mul (p' := 122) (e := (10 * (a : Int))) rfl rfl (by omega) ?_
  refine am_ev.step (pc' := 124) rfl rfl ?_
  refine fx_add (p' := 125) (e := (10 * (a : Int) + (b : Int))) rfl rfl (by omega) ?_
  refine am_ev.step (pc' := 127) rfl rfl ?_
  refine am_ev.step (pc' := 128) rfl rfl ?_
  refine fx_c_ne_F (pF := 131) rfl (by omega) (by omega) rfl (by omega) ?_
  refine am_ev.step (pc' := 133) (st' := [iv 1000000, iv (10 * (a : Int) + (b : Int)), .ref 70]) rfl rfl ?_
  refine am_ev.step (pc' := 138) rfl rfl ?_
  refine ax_iastore (p' := 139) rfl rfl (S.wr (k := (10 * a + b)) rfl rfl rfl (by omega) (by omega)) ?_
  refine fx_inc (p' := 142) (e := ((b : Int) + 1)) (ls' := [.ref 67, .int S0, .ref 74, iv ((n : Int)), iv ((a : Int)), iv ((b : Int) + 1), iv (-1)]) rfl rfl rfl (by omega) rfl ?_
  refine am_ev.step (pc' := 81) rfl rfl ?_
  exact (rr_n ▸ q9)
theorem or_120k (S : fS h) (v4 : h.2.2.2 67 4 = iv z) (hz : z ≤ 10) (hn : n ≤ 14) (ha : a < z) (hb : b < z) (f1 : h.2.2.2 69 a = iv p) (f2 : h.2.2.2 69 b = iv p2) (hp1 : p < 14) (hp2 : p2 < 14) (w1 : h.2.2.2 74 p = .ref k) (w2 : h.2.2.2 74 p2 = .ref k2) (H121 : am_ev (d + 2) 121 0 (am_ent [.ref k, .ref k2] 2) [] h (some (iv m), h)) (bm : 0 ≤ m ∧ m ≤ 2100) {x : Option Value × am_H} (q9 : am_ev (d + 3) 120 81 [.ref 67, .int S0, .ref 74, iv ((n : Int)), iv ((a : Int)), iv ((b + 1 : Nat) : Int), iv (m)] [] (am_put h 70 (10 * a + b) (iv (m))) x) : am_ev (d + 3) 120 81 [.ref 67, .int S0, .ref 74, iv ((n : Int)), iv ((a : Int)), iv ((b : Int)), x6] [] h x := by
  refine am_ev.step (pc' := 83) rfl rfl ?_
  refine am_ev.step (pc' := 84) rfl rfl ?_
  refine ax_gf (p' := 87) rfl rfl (S.ob rfl) v4 ?_
  refine fx_c_ge_F (pF := 90) rfl (by omega) (by omega) rfl (by omega) ?_
  refine am_ev.step (pc' := 91) rfl rfl ?_
  refine am_ev.step (pc' := 92) rfl rfl ?_
  refine ax_gf (p' := 95) rfl rfl (S.ob rfl) (S.rf rfl rfl) ?_
  refine am_ev.step (pc' := 97) rfl rfl ?_
  refine ax_iaload (p' := 98) rfl rfl (S.rd (k := a) rfl rfl rfl rfl rfl (by omega) f1) ?_
  refine ax_aaload (p' := 99) rfl rfl (S.rd (k := p) rfl rfl rfl rfl rfl (by omega) w1) ?_
  refine am_ev.step (pc' := 100) rfl rfl ?_
  refine am_ev.step (pc' := 101) rfl rfl ?_
  refine ax_gf (p' := 104) rfl rfl (S.ob rfl) (S.rf rfl rfl) ?_
  refine am_ev.step (pc' := 106) rfl rfl ?_
  refine ax_iaload (p' := 107) rfl rfl (S.rd (k := b) rfl rfl rfl rfl rfl (by omega) f2) ?_
  refine ax_aaload (p' := 108) rfl rfl (S.rd (k := p2) rfl rfl rfl rfl rfl (by omega) w2) ?_
  refine ax_call (z := 121) (p' := 111) (as := [_, _]) rfl (Or.inl ⟨_, rfl⟩) rfl rfl rfl rfl rfl rfl rfl rfl H121 rfl ?_
  refine am_ev.step (pc' := 113) (ls' := [.ref 67, .int S0, .ref 74, iv ((n : Int)), iv ((a : Int)), iv ((b : Int)), iv (m)]) rfl rfl ?_
  refine am_ev.step (pc' := 114) rfl rfl ?_
  refine ax_gf (p' := 117) rfl rfl (S.ob rfl) (S.rf rfl rfl) ?_
  refine am_ev.step (pc' := 119) rfl rfl ?_
  refine fx_bip (p' := 121) rfl rfl rfl ?_
  refine fx_mul (p' := 122) (e := (10 * (a : Int))) rfl rfl (by omega) ?_
  refine am_ev.step (pc' := 124) rfl rfl ?_
  refine fx_add (p' := 125) (e := (10 * (a : Int) + (b : Int))) rfl rfl (by omega) ?_
  refine am_ev.step (pc' := 127) rfl rfl ?_
  refine am_ev.step (pc' := 128) rfl rfl ?_
  refine fx_c_ne_T (pT := 136) rfl (by omega) (by omega) rfl (by omega) ?_
  refine am_ev.step (pc' := 138) rfl rfl ?_
  refine ax_iastore (p' := 139) rfl rfl (S.wr (k := (10 * a + b)) rfl rfl rfl (by omega) (by omega)) ?_
  refine fx_inc (p' := 142) (e := ((b : Int) + 1)) (ls' := [.ref 67, .int S0, .ref 74, iv ((n : Int)), iv ((a : Int)), iv ((b : Int) + 1), iv (m)]) rfl rfl rfl (by omega) rfl ?_
  refine am_ev.step (pc' := 81) rfl rfl ?_
  exact (rr_n ▸ q9)
theorem or_124 (S : fS h) (hone : one < 10) (hj : j < 10) (hr : r < 1024) (vl : h.2.2.2 70 (10 * one + j) = iv m) (vs : h.2.2.2 71 (10 * r + j) = iv v) (bm : 0 ≤ m ∧ m ≤ 1000000) (bv : 0 ≤ v ∧ v ≤ 1000000) : am_ev d 124 0 (am_ent [.ref 67, iv r, iv one, iv j] 4) [] h (some (iv (m + v)), h) := by
  show am_ev d 124 0 [.ref 67, iv ((r : Int)), iv ((one : Int)), iv ((j : Int))] [] h _
  refine am_ev.step (pc' := 1) rfl rfl ?_
  refine ax_gf (p' := 4) rfl rfl (S.ob rfl) (S.rf rfl rfl) ?_
  refine am_ev.step (pc' := 5) rfl rfl ?_
  refine fx_bip (p' := 7) rfl rfl rfl ?_
  refine fx_mul (p' := 8) (e := (10 * (one : Int))) rfl rfl (by omega) ?_
  refine am_ev.step (pc' := 9) rfl rfl ?_
  refine fx_add (p' := 10) (e := (10 * (one : Int) + (j : Int))) rfl rfl (by omega) ?_
  refine ax_iaload (p' := 11) rfl rfl (S.rd (k := (10 * one + j)) rfl rfl rfl rfl (by omega) (by omega) vl) ?_
  refine am_ev.step (pc' := 12) rfl rfl ?_
  refine ax_gf (p' := 15) rfl rfl (S.ob rfl) (S.rf rfl rfl) ?_
  refine am_ev.step (pc' := 16) rfl rfl ?_
  refine fx_bip (p' := 18) rfl rfl rfl ?_
  refine fx_mul (p' := 19) (e := (10 * (r : Int))) rfl rfl (by omega) ?_
  refine am_ev.step (pc' := 20) rfl rfl ?_
  refine fx_add (p' := 21) (e := (10 * (r : Int) + (j : Int))) rfl rfl (by omega) ?_
  refine ax_iaload (p' := 22) rfl rfl (S.rd (k := (10 * r + j)) rfl rfl rfl rfl (by omega) (by omega) vs) ?_
  refine fx_add (p' := 23) (e := (m + v)) rfl rfl (by omega) ?_
  exact fx_reti rfl rfl rfl
theorem or_123z (hr : r = 0) : am_ev (d + 1) 123 0 (am_ent [.ref 67, iv r, iv one] 6) [] h (some (iv 0), h) := by
  show am_ev (d + 1) 123 0 [.ref 67, iv ((r : Int)), iv ((one : Int)), am_ph, am_ph, am_ph] [] h _
  refine am_ev.step (pc' := 1) rfl rfl ?_
  refine fx_z_ne_F (pF := 4) rfl (by omega) rfl (by omega) ?_
  refine am_ev.step (pc' := 5) rfl rfl ?_
  exact fx_reti rfl rfl rfl
theorem or_123s (hr : r ≠ 0) (hr2 : r < 1024) {x : Option Value × am_H} (q9 : am_ev (d + 1) 123 12 [.ref 67, iv ((r : Int)), iv ((one : Int)), iv 1000000, iv 0, am_ph] [] h x) : am_ev (d + 1) 123 0 (am_ent [.ref 67, iv r, iv one] 6) [] h x := by
  show am_ev (d + 1) 123 0 [.ref 67, iv ((r : Int)), iv ((one : Int)), am_ph, am_ph, am_ph] [] h _
  refine am_ev.step (pc' := 1) rfl rfl ?_
  refine fx_z_ne_T (pT := 6) rfl (by omega) rfl (by omega) ?_
  refine am_ev.step (pc' := 8) (st' := [iv 1000000]) rfl rfl ?_
  refine am_ev.step (pc' := 9) (ls' := [.ref 67, iv ((r : Int)), iv ((one : Int)), iv 1000000, am_ph, am_ph]) rfl rfl ?_
  refine am_ev.step (pc' := 10) rfl rfl ?_
  refine am_ev.step (pc' := 12) (ls' := [.ref 67, iv ((r : Int)), iv ((one : Int)), iv 1000000, iv 0, am_ph]) rfl rfl ?_
  exact q9
theorem or_123e (S : fS h) (v4 : h.2.2.2 67 4 = iv z) (hz : z ≤ 10) (bb : 0 ≤ best ∧ best ≤ 1000000) (hj : j = z) : am_ev (d + 1) 123 12 [.ref 67, iv ((r : Int)), iv ((one : Int)), iv (best), iv ((j : Int)), x5] [] h (some (iv best), h) := by
  refine am_ev.step (pc' := 14) rfl rfl ?_
  refine am_ev.step (pc' := 15) rfl rfl ?_
  refine ax_gf (p' := 18) rfl rfl (S.ob rfl) v4 ?_
  refine fx_c_ge_T (pT := 63) rfl (by omega) (by omega) rfl (by omega) ?_
  refine am_ev.step (pc' := 64) rfl rfl ?_
  exact fx_reti rfl rfl rfl
theorem or_123f (S : fS h) (v4 : h.2.2.2 67 4 = iv z) (hz : z ≤ 10) (bb : 0 ≤ best ∧ best ≤ 1000000) (hj : j < z) (hb : best ≤ 0) : am_ev (d + 1) 123 12 [.ref 67, iv ((r : Int)), iv ((one : Int)), iv (best), iv ((j : Int)), x5] [] h (some (iv best), h) := by
  refine am_ev.step (pc' := 14) rfl rfl ?_
  refine am_ev.step (pc' := 15) rfl rfl ?_
  refine ax_gf (p' := 18) rfl rfl (S.ob rfl) v4 ?_
  refine fx_c_ge_F (pF := 21) rfl (by omega) (by omega) rfl (by omega) ?_
  refine am_ev.step (pc' := 22) rfl rfl ?_
  refine fx_z_le_T (pT := 63) rfl (by omega) rfl (by omega) ?_
  refine am_ev.step (pc' := 64) rfl rfl ?_
  exact fx_reti rfl rfl rfl
theorem or_123n (S : fS h) (v4 : h.2.2.2 67 4 = iv z) (hz : z ≤ 10) (bb : 0 ≤ best ∧ best ≤ 1000000) (hj : j < z) (hb : 0 < best) (qb : bt (Int32.ofInt (r : Int)) j = false) {x : Option Value × am_H} (q9 : am_ev (d + 1) 123 12 [.ref 67, iv ((r : Int)), iv ((one : Int)), iv (best), iv ((j + 1 : Nat) : Int), x5] [] h x) : am_ev (d + 1) 123 12 [.ref 67, iv ((r : Int)), iv ((one : Int)), iv (best), iv ((j : Int)), x5] [] h x := by
  refine am_ev.step (pc' := 14) rfl rfl ?_
  refine am_ev.step (pc' := 15) rfl rfl ?_
  refine ax_gf (p' := 18) rfl rfl (S.ob rfl) v4 ?_
  refine fx_c_ge_F (pF := 21) rfl (by omega) (by omega) rfl (by omega) ?_
  refine am_ev.step (pc' := 22) rfl rfl ?_
  refine fx_z_le_F (pF := 25) rfl (by omega) rfl (by omega) ?_
  refine am_ev.step (pc' := 26) rfl rfl ?_
  refine am_ev.step (pc' := 28) rfl rfl ?_
  refine am_ev.step (pc' := 29) rfl rfl ?_
  refine am_ev.step (pc' := 30) rfl rfl ?_
  refine am_ev.step (pc' := 31) rfl rfl ?_
  refine ax_z_eq_T (p' := 57) rfl rfl ((b_ush (by omega)).2 qb) ?_
  refine fx_inc (p' := 60) (e := ((j : Int) + 1)) (ls' := [.ref 67, iv ((r : Int)), iv ((one : Int)), iv (best), iv ((j : Int) + 1), x5]) rfl rfl rfl (by omega) rfl ?_
  refine am_ev.step (pc' := 12) rfl rfl ?_
  exact (rr_n ▸ q9)
theorem or_123y (S : fS h) (v4 : h.2.2.2 67 4 = iv z) (hz : z ≤ 10) (bb : 0 ≤ best ∧ best ≤ 1000000) (hj : j < z) (hb : 0 < best) (qb : bt (Int32.ofInt (r : Int)) j = true) (H124 : am_ev d 124 0 (am_ent [.ref 67, iv r, iv one, iv j] 4) [] h (some (iv s), h)) (bs : 0 ≤ s ∧ s ≤ 2000000) (hs : s < best) {x : Option Value × am_H} (q9 : am_ev (d + 1) 123 12 [.ref 67, iv ((r : Int)), iv ((one : Int)), iv (s), iv ((j + 1 : Nat) : Int), iv (s)] [] h x) : am_ev (d + 1) 123 12 [.ref 67, iv ((r : Int)), iv ((one : Int)), iv (best), iv ((j : Int)), x5] [] h x := by
  refine am_ev.step (pc' := 14) rfl rfl ?_
  refine am_ev.step (pc' := 15) rfl rfl ?_
  refine ax_gf (p' := 18) rfl rfl (S.ob rfl) v4 ?_
  refine fx_c_ge_F (pF := 21) rfl (by omega) (by omega) rfl (by omega) ?_
  refine am_ev.step (pc' := 22) rfl rfl ?_
  refine fx_z_le_F (pF := 25) rfl (by omega) rfl (by omega) ?_
  refine am_ev.step (pc' := 26) rfl rfl ?_
  refine am_ev.step (pc' := 28) rfl rfl ?_
  refine am_ev.step (pc' := 29) rfl rfl ?_
  refine am_ev.step (pc' := 30) rfl rfl ?_
  refine am_ev.step (pc' := 31) rfl rfl ?_
  refine ax_z_eq_N (p' := 34) rfl rfl (fun z => by rw [(b_ush (by omega)).1 z] at qb; cases qb) ?_
  refine am_ev.step (pc' := 35) rfl rfl ?_
  refine am_ev.step (pc' := 36) rfl rfl ?_
  refine am_ev.step (pc' := 37) rfl rfl ?_
  refine am_ev.step (pc' := 39) rfl rfl ?_
  refine ax_call (z := 124) (p' := 42) (as := [_, _, _, _]) rfl (Or.inr (Or.inl ⟨_, rfl⟩)) rfl rfl rfl rfl rfl rfl (S.ob rfl) rfl H124 rfl ?_
  refine am_ev.step (pc' := 44) (ls' := [.ref 67, iv ((r : Int)), iv ((one : Int)), iv (best), iv ((j : Int)), iv (s)]) rfl rfl ?_
  refine am_ev.step (pc' := 46) rfl rfl ?_
  refine am_ev.step (pc' := 47) rfl rfl ?_
  refine fx_c_ge_F (pF := 50) rfl (by omega) (by omega) rfl (by omega) ?_
  refine am_ev.step (pc' := 52) rfl rfl ?_
  refine am_ev.step (pc' := 56) rfl rfl ?_
  refine am_ev.step (pc' := 57) (ls' := [.ref 67, iv ((r : Int)), iv ((one : Int)), iv (s), iv ((j : Int)), iv (s)]) rfl rfl ?_
  refine fx_inc (p' := 60) (e := ((j : Int) + 1)) (ls' := [.ref 67, iv ((r : Int)), iv ((one : Int)), iv (s), iv ((j : Int) + 1), iv (s)]) rfl rfl rfl (by omega) rfl ?_
  refine am_ev.step (pc' := 12) rfl rfl ?_
  exact (rr_n ▸ q9)
theorem or_123z2 (S : fS h) (v4 : h.2.2.2 67 4 = iv z) (hz : z ≤ 10) (bb : 0 ≤ best ∧ best ≤ 1000000) (hj : j < z) (hb : 0 < best) (qb : bt (Int32.ofInt (r : Int)) j = true) (H124 : am_ev d 124 0 (am_ent [.ref 67, iv r, iv one, iv j] 4) [] h (some (iv s), h)) (bs : 0 ≤ s ∧ s ≤ 2000000) (hs : ¬ s < best) {x : Option Value × am_H} (q9 : am_ev (d + 1) 123 12 [.ref 67, iv ((r : Int)), iv ((one : Int)), iv (best), iv ((j + 1 : Nat) : Int), iv (s)] [] h x) : am_ev (d + 1) 123 12 [.ref 67, iv ((r : Int)), iv ((one : Int)), iv (best), iv ((j : Int)), x5] [] h x := by
  refine am_ev.step (pc' := 14) rfl rfl ?_
  refine am_ev.step (pc' := 15) rfl rfl ?_
  refine ax_gf (p' := 18) rfl rfl (S.ob rfl) v4 ?_
  refine fx_c_ge_F (pF := 21) rfl (by omega) (by omega) rfl (by omega) ?_
  refine am_ev.step (pc' := 22) rfl rfl ?_
  refine fx_z_le_F (pF := 25) rfl (by omega) rfl (by omega) ?_
  refine am_ev.step (pc' := 26) rfl rfl ?_
  refine am_ev.step (pc' := 28) rfl rfl ?_
  refine am_ev.step (pc' := 29) rfl rfl ?_
  refine am_ev.step (pc' := 30) rfl rfl ?_
  refine am_ev.step (pc' := 31) rfl rfl ?_
  refine ax_z_eq_N (p' := 34) rfl rfl (fun z => by rw [(b_ush (by omega)).1 z] at qb; cases qb) ?_
  refine am_ev.step (pc' := 35) rfl rfl ?_
  refine am_ev.step (pc' := 36) rfl rfl ?_
  refine am_ev.step (pc' := 37) rfl rfl ?_
  refine am_ev.step (pc' := 39) rfl rfl ?_
  refine ax_call (z := 124) (p' := 42) (as := [_, _, _, _]) rfl (Or.inr (Or.inl ⟨_, rfl⟩)) rfl rfl rfl rfl rfl rfl (S.ob rfl) rfl H124 rfl ?_
  refine am_ev.step (pc' := 44) (ls' := [.ref 67, iv ((r : Int)), iv ((one : Int)), iv (best), iv ((j : Int)), iv (s)]) rfl rfl ?_
  refine am_ev.step (pc' := 46) rfl rfl ?_
  refine am_ev.step (pc' := 47) rfl rfl ?_
  refine fx_c_ge_T (pT := 55) rfl (by omega) (by omega) rfl (by omega) ?_
  refine am_ev.step (pc' := 56) rfl rfl ?_
  refine am_ev.step (pc' := 57) (ls' := [.ref 67, iv ((r : Int)), iv ((one : Int)), iv (best), iv ((j : Int)), iv (s)]) rfl rfl ?_
  refine fx_inc (p' := 60) (e := ((j : Int) + 1)) (ls' := [.ref 67, iv ((r : Int)), iv ((one : Int)), iv (best), iv ((j : Int) + 1), iv (s)]) rfl rfl rfl (by omega) rfl ?_
  refine am_ev.step (pc' := 12) rfl rfl ?_
  exact (rr_n ▸ q9)
theorem or_126s {x : Option Value × am_H} (q9 : am_ev (d + 1) 126 3 [.ref 67, iv ((r : Int)), iv ((one : Int)), iv (due), iv 0, am_ph] [] h x) : am_ev (d + 1) 126 0 (am_ent [.ref 67, iv r, iv one, iv due] 6) [] h x := by
  show am_ev (d + 1) 126 0 [.ref 67, iv ((r : Int)), iv ((one : Int)), iv (due), am_ph, am_ph] [] h _
  refine am_ev.step (pc' := 1) rfl rfl ?_
  refine am_ev.step (pc' := 3) (ls' := [.ref 67, iv ((r : Int)), iv ((one : Int)), iv (due), iv 0, am_ph]) rfl rfl ?_
  exact q9
theorem or_126n (S : fS h) (v4 : h.2.2.2 67 4 = iv z) (hz : z ≤ 10) (hj : j < z) (bd : 0 ≤ due ∧ due ≤ 1000000) (hone : one < 10) (qb : bt (Int32.ofInt (r : Int)) j = false) {x : Option Value × am_H} (q9 : am_ev (d + 1) 126 3 [.ref 67, iv ((r : Int)), iv ((one : Int)), iv (due), iv ((j + 1 : Nat) : Int), x5] [] h x) : am_ev (d + 1) 126 3 [.ref 67, iv ((r : Int)), iv ((one : Int)), iv (due), iv ((j : Int)), x5] [] h x := by
  refine am_ev.step (pc' := 5) rfl rfl ?_
  refine am_ev.step (pc' := 6) rfl rfl ?_
  refine ax_gf (p' := 9) rfl rfl (S.ob rfl) v4 ?_
  refine fx_c_ge_F (pF := 12) rfl (by omega) (by omega) rfl (by omega) ?_
  refine am_ev.step (pc' := 13) rfl rfl ?_
  refine am_ev.step (pc' := 15) rfl rfl ?_
  refine ax_call (z := 31) (p' := 18) (as := [_, _]) rfl (Or.inl ⟨_, rfl⟩) rfl rfl rfl rfl rfl rfl rfl rfl ((tk_31 (t := Int32.ofInt (r : Int)) (c := j) (by omega)).2 qb) rfl ?_
  refine fx_z_eq_T (pT := 60) rfl (by omega) rfl (by omega) ?_
  refine fx_inc (p' := 63) (e := ((j : Int) + 1)) (ls' := [.ref 67, iv ((r : Int)), iv ((one : Int)), iv (due), iv ((j : Int) + 1), x5]) rfl rfl rfl (by omega) rfl ?_
  refine am_ev.step (pc' := 3) rfl rfl ?_
  exact (rr_n ▸ q9)
theorem or_126y (S : fS h) (v4 : h.2.2.2 67 4 = iv z) (hz : z ≤ 10) (hj : j < z) (bd : 0 ≤ due ∧ due ≤ 1000000) (hone : one < 10) (qb : bt (Int32.ofInt (r : Int)) j = true) (H124 : am_ev d 124 0 (am_ent [.ref 67, iv r, iv one, iv j] 4) [] h (some (iv s), h)) (bs : 0 ≤ s ∧ s ≤ 2000000) (hs : s = due) : am_ev (d + 1) 126 3 [.ref 67, iv ((r : Int)), iv ((one : Int)), iv (due), iv ((j : Int)), x5] [] h (some (iv j), h) := by
  refine am_ev.step (pc' := 5) rfl rfl ?_
  refine am_ev.step (pc' := 6) rfl rfl ?_
  refine ax_gf (p' := 9) rfl rfl (S.ob rfl) v4 ?_
  refine fx_c_ge_F (pF := 12) rfl (by omega) (by omega) rfl (by omega) ?_
  refine am_ev.step (pc' := 13) rfl rfl ?_
  refine am_ev.step (pc' := 15) rfl rfl ?_
  refine ax_call (z := 31) (p' := 18) (as := [_, _]) rfl (Or.inl ⟨_, rfl⟩) rfl rfl rfl rfl rfl rfl rfl rfl ((tk_31 (t := Int32.ofInt (r : Int)) (c := j) (by omega)).1 qb) rfl ?_
  refine fx_z_eq_F (pF := 21) rfl (by omega) rfl (by omega) ?_
  refine am_ev.step (pc' := 22) rfl rfl ?_
  refine am_ev.step (pc' := 23) rfl rfl ?_
  refine fx_c_ne_T (pT := 41) rfl (by omega) (by omega) rfl (by omega) ?_
  refine am_ev.step (pc' := 42) rfl rfl ?_
  refine am_ev.step (pc' := 43) rfl rfl ?_
  refine am_ev.step (pc' := 44) rfl rfl ?_
  refine am_ev.step (pc' := 46) rfl rfl ?_
  refine ax_call (z := 124) (p' := 49) (as := [_, _, _, _]) rfl (Or.inr (Or.inl ⟨_, rfl⟩)) rfl rfl rfl rfl rfl rfl (S.ob rfl) rfl H124 rfl ?_
  refine am_ev.step (pc' := 51) (ls' := [.ref 67, iv ((r : Int)), iv ((one : Int)), iv (due), iv ((j : Int)), iv (s)]) rfl rfl ?_
  refine am_ev.step (pc' := 53) rfl rfl ?_
  refine am_ev.step (pc' := 54) rfl rfl ?_
  refine fx_c_ne_F (pF := 57) rfl (by omega) (by omega) rfl (by omega) ?_
  refine am_ev.step (pc' := 59) rfl rfl ?_
  exact fx_reti rfl rfl rfl
theorem or_126x (S : fS h) (v4 : h.2.2.2 67 4 = iv z) (hz : z ≤ 10) (hj : j < z) (bd : 0 ≤ due ∧ due ≤ 1000000) (hone : one < 10) (qb : bt (Int32.ofInt (r : Int)) j = true) (H124 : am_ev d 124 0 (am_ent [.ref 67, iv r, iv one, iv j] 4) [] h (some (iv s), h)) (bs : 0 ≤ s ∧ s ≤ 2000000) (hs : s ≠ due) {x : Option Value × am_H} (q9 : am_ev (d + 1) 126 3 [.ref 67, iv ((r : Int)), iv ((one : Int)), iv (due), iv ((j + 1 : Nat) : Int), iv (s)] [] h x) : am_ev (d + 1) 126 3 [.ref 67, iv ((r : Int)), iv ((one : Int)), iv (due), iv ((j : Int)), x5] [] h x := by
  refine am_ev.step (pc' := 5) rfl rfl ?_
  refine am_ev.step (pc' := 6) rfl rfl ?_
  refine ax_gf (p' := 9) rfl rfl (S.ob rfl) v4 ?_
  refine fx_c_ge_F (pF := 12) rfl (by omega) (by omega) rfl (by omega) ?_
  refine am_ev.step (pc' := 13) rfl rfl ?_
  refine am_ev.step (pc' := 15) rfl rfl ?_
  refine ax_call (z := 31) (p' := 18) (as := [_, _]) rfl (Or.inl ⟨_, rfl⟩) rfl rfl rfl rfl rfl rfl rfl rfl ((tk_31 (t := Int32.ofInt (r : Int)) (c := j) (by omega)).1 qb) rfl ?_
  refine fx_z_eq_F (pF := 21) rfl (by omega) rfl (by omega) ?_
  refine am_ev.step (pc' := 22) rfl rfl ?_
  refine am_ev.step (pc' := 23) rfl rfl ?_
  refine fx_c_ne_T (pT := 41) rfl (by omega) (by omega) rfl (by omega) ?_
  refine am_ev.step (pc' := 42) rfl rfl ?_
  refine am_ev.step (pc' := 43) rfl rfl ?_
  refine am_ev.step (pc' := 44) rfl rfl ?_
  refine am_ev.step (pc' := 46) rfl rfl ?_
  refine ax_call (z := 124) (p' := 49) (as := [_, _, _, _]) rfl (Or.inr (Or.inl ⟨_, rfl⟩)) rfl rfl rfl rfl rfl rfl (S.ob rfl) rfl H124 rfl ?_
  refine am_ev.step (pc' := 51) (ls' := [.ref 67, iv ((r : Int)), iv ((one : Int)), iv (due), iv ((j : Int)), iv (s)]) rfl rfl ?_
  refine am_ev.step (pc' := 53) rfl rfl ?_
  refine am_ev.step (pc' := 54) rfl rfl ?_
  refine fx_c_ne_T (pT := 60) rfl (by omega) (by omega) rfl (by omega) ?_
  refine fx_inc (p' := 63) (e := ((j : Int) + 1)) (ls' := [.ref 67, iv ((r : Int)), iv ((one : Int)), iv (due), iv ((j : Int) + 1), iv (s)]) rfl rfl rfl (by omega) rfl ?_
  refine am_ev.step (pc' := 3) rfl rfl ?_
  exact (rr_n ▸ q9)
theorem or_126s0 {x : Option Value × am_H} (q9 : am_ev (d + 1) 126 3 [.ref 67, iv ((r : Int)), iv (-1), iv (due), iv 0, am_ph] [] h x) : am_ev (d + 1) 126 0 (am_ent [.ref 67, iv r, iv (-1), iv due] 6) [] h x := by
  show am_ev (d + 1) 126 0 [.ref 67, iv ((r : Int)), iv (-1), iv (due), am_ph, am_ph] [] h _
  refine am_ev.step (pc' := 1) rfl rfl ?_
  refine am_ev.step (pc' := 3) (ls' := [.ref 67, iv ((r : Int)), iv (-1), iv (due), iv 0, am_ph]) rfl rfl ?_
  exact q9
theorem or_126n0 (S : fS h) (v4 : h.2.2.2 67 4 = iv z) (hz : z ≤ 10) (hj : j < z) (bd : 0 ≤ due ∧ due ≤ 1000000) (qb : bt (Int32.ofInt (r : Int)) j = false) {x : Option Value × am_H} (q9 : am_ev (d + 1) 126 3 [.ref 67, iv ((r : Int)), iv (-1), iv (due), iv ((j + 1 : Nat) : Int), x5] [] h x) : am_ev (d + 1) 126 3 [.ref 67, iv ((r : Int)), iv (-1), iv (due), iv ((j : Int)), x5] [] h x := by
  refine am_ev.step (pc' := 5) rfl rfl ?_
  refine am_ev.step (pc' := 6) rfl rfl ?_
  refine ax_gf (p' := 9) rfl rfl (S.ob rfl) v4 ?_
  refine fx_c_ge_F (pF := 12) rfl (by omega) (by omega) rfl (by omega) ?_
  refine am_ev.step (pc' := 13) rfl rfl ?_
  refine am_ev.step (pc' := 15) rfl rfl ?_
  refine ax_call (z := 31) (p' := 18) (as := [_, _]) rfl (Or.inl ⟨_, rfl⟩) rfl rfl rfl rfl rfl rfl rfl rfl ((tk_31 (t := Int32.ofInt (r : Int)) (c := j) (by omega)).2 qb) rfl ?_
  refine fx_z_eq_T (pT := 60) rfl (by omega) rfl (by omega) ?_
  refine fx_inc (p' := 63) (e := ((j : Int) + 1)) (ls' := [.ref 67, iv ((r : Int)), iv (-1), iv (due), iv ((j : Int) + 1), x5]) rfl rfl rfl (by omega) rfl ?_
  refine am_ev.step (pc' := 3) rfl rfl ?_
  exact (rr_n ▸ q9)
theorem or_126y0 (S : fS h) (v4 : h.2.2.2 67 4 = iv z) (hz : z ≤ 10) (hj : j < z) (bd : 0 ≤ due ∧ due ≤ 1000000) (qb : bt (Int32.ofInt (r : Int)) j = true) (hr : r < 1024) (vs : h.2.2.2 71 (10 * r + j) = iv s) (bs : 0 ≤ s ∧ s ≤ 2000000) (hs : s = due) : am_ev (d + 1) 126 3 [.ref 67, iv ((r : Int)), iv (-1), iv (due), iv ((j : Int)), x5] [] h (some (iv j), h) := by
  refine am_ev.step (pc' := 5) rfl rfl ?_
  refine am_ev.step (pc' := 6) rfl rfl ?_
  refine ax_gf (p' := 9) rfl rfl (S.ob rfl) v4 ?_
  refine fx_c_ge_F (pF := 12) rfl (by omega) (by omega) rfl (by omega) ?_
  refine am_ev.step (pc' := 13) rfl rfl ?_
  refine am_ev.step (pc' := 15) rfl rfl ?_
  refine ax_call (z := 31) (p' := 18) (as := [_, _]) rfl (Or.inl ⟨_, rfl⟩) rfl rfl rfl rfl rfl rfl rfl rfl ((tk_31 (t := Int32.ofInt (r : Int)) (c := j) (by omega)).1 qb) rfl ?_
  refine fx_z_eq_F (pF := 21) rfl (by omega) rfl (by omega) ?_
  refine am_ev.step (pc' := 22) rfl rfl ?_
  refine am_ev.step (pc' := 23) rfl rfl ?_
  refine fx_c_ne_F (pF := 26) rfl (by omega) (by omega) rfl (by omega) ?_
  refine am_ev.step (pc' := 27) rfl rfl ?_
  refine ax_gf (p' := 30) rfl rfl (S.ob rfl) (S.rf rfl rfl) ?_
  refine am_ev.step (pc' := 31) rfl rfl ?_
  refine fx_bip (p' := 33) rfl rfl rfl ?_
  refine fx_mul (p' := 34) (e := (10 * (r : Int))) rfl rfl (by omega) ?_
  refine am_ev.step (pc' := 36) rfl rfl ?_
  refine fx_add (p' := 37) (e := (10 * (r : Int) + (j : Int))) rfl rfl (by omega) ?_
  refine ax_iaload (p' := 38) rfl rfl (S.rd (k := (10 * r + j)) rfl rfl rfl rfl (by omega) (by omega) vs) ?_
  refine am_ev.step (pc' := 49) rfl rfl ?_
  refine am_ev.step (pc' := 51) (ls' := [.ref 67, iv ((r : Int)), iv (-1), iv (due), iv ((j : Int)), iv (s)]) rfl rfl ?_
  refine am_ev.step (pc' := 53) rfl rfl ?_
  refine am_ev.step (pc' := 54) rfl rfl ?_
  refine fx_c_ne_F (pF := 57) rfl (by omega) (by omega) rfl (by omega) ?_
  refine am_ev.step (pc' := 59) rfl rfl ?_
  exact fx_reti rfl rfl rfl
theorem or_126x0 (S : fS h) (v4 : h.2.2.2 67 4 = iv z) (hz : z ≤ 10) (hj : j < z) (bd : 0 ≤ due ∧ due ≤ 1000000) (qb : bt (Int32.ofInt (r : Int)) j = true) (hr : r < 1024) (vs : h.2.2.2 71 (10 * r + j) = iv s) (bs : 0 ≤ s ∧ s ≤ 2000000) (hs : s ≠ due) {x : Option Value × am_H} (q9 : am_ev (d + 1) 126 3 [.ref 67, iv ((r : Int)), iv (-1), iv (due), iv ((j + 1 : Nat) : Int), iv (s)] [] h x) : am_ev (d + 1) 126 3 [.ref 67, iv ((r : Int)), iv (-1), iv (due), iv ((j : Int)), x5] [] h x := by
  refine am_ev.step (pc' := 5) rfl rfl ?_
  refine am_ev.step (pc' := 6) rfl rfl ?_
  refine ax_gf (p' := 9) rfl rfl (S.ob rfl) v4 ?_
  refine fx_c_ge_F (pF := 12) rfl (by omega) (by omega) rfl (by omega) ?_
  refine am_ev.step (pc' := 13) rfl rfl ?_
  refine am_ev.step (pc' := 15) rfl rfl ?_
  refine ax_call (z := 31) (p' := 18) (as := [_, _]) rfl (Or.inl ⟨_, rfl⟩) rfl rfl rfl rfl rfl rfl rfl rfl ((tk_31 (t := Int32.ofInt (r : Int)) (c := j) (by omega)).1 qb) rfl ?_
  refine fx_z_eq_F (pF := 21) rfl (by omega) rfl (by omega) ?_
  refine am_ev.step (pc' := 22) rfl rfl ?_
  refine am_ev.step (pc' := 23) rfl rfl ?_
  refine fx_c_ne_F (pF := 26) rfl (by omega) (by omega) rfl (by omega) ?_
  refine am_ev.step (pc' := 27) rfl rfl ?_
  refine ax_gf (p' := 30) rfl rfl (S.ob rfl) (S.rf rfl rfl) ?_
  refine am_ev.step (pc' := 31) rfl rfl ?_
  refine fx_bip (p' := 33) rfl rfl rfl ?_
  refine fx_mul (p' := 34) (e := (10 * (r : Int))) rfl rfl (by omega) ?_
  refine am_ev.step (pc' := 36) rfl rfl ?_
  refine fx_add (p' := 37) (e := (10 * (r : Int) + (j : Int))) rfl rfl (by omega) ?_
  refine ax_iaload (p' := 38) rfl rfl (S.rd (k := (10 * r + j)) rfl rfl rfl rfl (by omega) (by omega) vs) ?_
  refine am_ev.step (pc' := 49) rfl rfl ?_
  refine am_ev.step (pc' := 51) (ls' := [.ref 67, iv ((r : Int)), iv (-1), iv (due), iv ((j : Int)), iv (s)]) rfl rfl ?_
  refine am_ev.step (pc' := 53) rfl rfl ?_
  refine am_ev.step (pc' := 54) rfl rfl ?_
  refine fx_c_ne_T (pT := 60) rfl (by omega) (by omega) rfl (by omega) ?_
  refine fx_inc (p' := 63) (e := ((j : Int) + 1)) (ls' := [.ref 67, iv ((r : Int)), iv (-1), iv (due), iv ((j : Int) + 1), iv (s)]) rfl rfl rfl (by omega) rfl ?_
  refine am_ev.step (pc' := 3) rfl rfl ?_
  exact (rr_n ▸ q9)
theorem or_125s {x : Option Value × am_H} (q9 : am_ev (d + 2) 125 11 [.ref 67, iv ((W : Int)), iv (tot), iv ((W : Int)), iv (-1), iv (tot), iv 0, am_ph] [] h x) : am_ev (d + 2) 125 0 (am_ent [.ref 67, iv W, iv tot] 8) [] h x := by
  show am_ev (d + 2) 125 0 [.ref 67, iv ((W : Int)), iv (tot), am_ph, am_ph, am_ph, am_ph, am_ph] [] h _
  refine am_ev.step (pc' := 1) rfl rfl ?_
  refine am_ev.step (pc' := 2) (ls' := [.ref 67, iv ((W : Int)), iv (tot), iv ((W : Int)), am_ph, am_ph, am_ph, am_ph]) rfl rfl ?_
  refine am_ev.step (pc' := 3) rfl rfl ?_
  refine am_ev.step (pc' := 5) (ls' := [.ref 67, iv ((W : Int)), iv (tot), iv ((W : Int)), iv (-1), am_ph, am_ph, am_ph]) rfl rfl ?_
  refine am_ev.step (pc' := 6) rfl rfl ?_
  refine am_ev.step (pc' := 8) (ls' := [.ref 67, iv ((W : Int)), iv (tot), iv ((W : Int)), iv (-1), iv (tot), am_ph, am_ph]) rfl rfl ?_
  refine am_ev.step (pc' := 9) rfl rfl ?_
  refine am_ev.step (pc' := 11) (ls' := [.ref 67, iv ((W : Int)), iv (tot), iv ((W : Int)), iv (-1), iv (tot), iv 0, am_ph]) rfl rfl ?_
  exact q9
theorem or_125e (S : fS h) (v4 : h.2.2.2 67 4 = iv z) (hz : z ≤ 10) (hi : i = z) : am_ev (d + 2) 125 11 [.ref 67, iv ((W : Int)), iv (tot), iv ((r : Int)), x4, x5, iv ((i : Int)), x7] [] h (none, h) := by
  refine am_ev.step (pc' := 13) rfl rfl ?_
  refine am_ev.step (pc' := 14) rfl rfl ?_
  refine ax_gf (p' := 17) rfl rfl (S.ob rfl) v4 ?_
  refine fx_c_ge_T (pT := 85) rfl (by omega) (by omega) rfl (by omega) ?_
  exact am_ev.retv rfl rfl
theorem or_125y (S : fS h) (v4 : h.2.2.2 67 4 = iv z) (hz : z ≤ 10) (hi : i < z) (hr : r < 1024) (hj : j < 10) (hc : c < 14) (H126 : am_ev (d + 1) 126 0 (am_ent [.ref 67, iv r, iv one, iv due] 6) [] h (some (iv j), h)) (vj : h.2.2.2 69 j = iv c) (vd : h.2.2.2 71 (10 * r + j) = iv dv) (hA : (Int32.ofInt (r : Int) &&& ((Int32.ofInt 1 <<< (Int32.ofInt (j : Int) &&& 31)) ^^^ Int32.ofInt (-1))) = Int32.ofInt (r2 : Int)) {x : Option Value × am_H} (q9 : am_ev (d + 2) 125 11 [.ref 67, iv ((W : Int)), iv (tot), iv ((r2 : Int)), iv ((j : Int)), iv (dv), iv ((i + 1 : Nat) : Int), iv ((j : Int))] [] (am_put h 68 i (iv ((c : Int)))) x) : am_ev (d + 2) 125 11 [.ref 67, iv ((W : Int)), iv (tot), iv ((r : Int)), iv ((one : Int)), iv (due), iv ((i : Int)), x7] [] h x := by
  refine am_ev.step (pc' := 13) rfl rfl ?_
  refine am_ev.step (pc' := 14) rfl rfl ?_
  refine ax_gf (p' := 17) rfl rfl (S.ob rfl) v4 ?_
  refine fx_c_ge_F (pF := 20) rfl (by omega) (by omega) rfl (by omega) ?_
  refine am_ev.step (pc' := 21) rfl rfl ?_
  refine am_ev.step (pc' := 22) rfl rfl ?_
  refine am_ev.step (pc' := 24) rfl rfl ?_
  refine am_ev.step (pc' := 26) rfl rfl ?_
  refine ax_call (z := 126) (p' := 29) (as := [_, _, _, _]) rfl (Or.inr (Or.inl ⟨_, rfl⟩)) rfl rfl rfl rfl rfl rfl (S.ob rfl) rfl H126 rfl ?_
  refine am_ev.step (pc' := 31) (ls' := [.ref 67, iv ((W : Int)), iv (tot), iv ((r : Int)), iv ((one : Int)), iv (due), iv ((i : Int)), iv ((j : Int))]) rfl rfl ?_
  refine am_ev.step (pc' := 33) rfl rfl ?_
  refine am_ev.step (pc' := 34) rfl rfl ?_
  refine fx_c_ne_T (pT := 38) rfl (by omega) (by omega) rfl (by omega) ?_
  refine am_ev.step (pc' := 39) rfl rfl ?_
  refine ax_gf (p' := 42) rfl rfl (S.ob rfl) (S.rf rfl rfl) ?_
  refine am_ev.step (pc' := 44) rfl rfl ?_
  refine am_ev.step (pc' := 45) rfl rfl ?_
  refine ax_gf (p' := 48) rfl rfl (S.ob rfl) (S.rf rfl rfl) ?_
  refine am_ev.step (pc' := 50) rfl rfl ?_
  refine ax_iaload (p' := 51) rfl rfl (S.rd (k := j) rfl rfl rfl rfl rfl (by omega) vj) ?_
  refine ax_iastore (p' := 52) rfl rfl (S.wr (k := i) rfl rfl rfl rfl (by omega)) ?_
  refine am_ev.step (pc' := 53) rfl rfl ?_
  refine ax_gf (p' := 56) rfl rfl (fO (S.ob rfl)) (ax_put_o (Or.inl (by decide)) (S.rf rfl rfl)) ?_
  refine am_ev.step (pc' := 57) rfl rfl ?_
  refine fx_bip (p' := 59) rfl rfl rfl ?_
  refine fx_mul (p' := 60) (e := (10 * (r : Int))) rfl rfl (by omega) ?_
  refine am_ev.step (pc' := 62) rfl rfl ?_
  refine fx_add (p' := 63) (e := (10 * (r : Int) + (j : Int))) rfl rfl (by omega) ?_
  refine ax_iaload (p' := 64) rfl rfl ((S.pa rfl).rd (k := (10 * r + j)) rfl rfl rfl rfl (by omega) (by omega) (ax_put_o (Or.inl (by decide)) vd)) ?_
  refine am_ev.step (pc' := 66) (ls' := [.ref 67, iv ((W : Int)), iv (tot), iv ((r : Int)), iv ((one : Int)), iv (dv), iv ((i : Int)), iv ((j : Int))]) rfl rfl ?_
  refine am_ev.step (pc' := 67) rfl rfl ?_
  refine am_ev.step (pc' := 68) rfl rfl ?_
  refine am_ev.step (pc' := 70) rfl rfl ?_
  refine am_ev.step (pc' := 71) rfl rfl ?_
  refine am_ev.step (pc' := 72) rfl rfl ?_
  refine am_ev.step (pc' := 73) rfl rfl ?_
  refine am_ev.step (pc' := 74) rfl rfl ?_
  refine ax_top hA ?_
  refine am_ev.step (pc' := 75) (ls' := [.ref 67, iv ((W : Int)), iv (tot), iv ((r2 : Int)), iv ((one : Int)), iv (dv), iv ((i : Int)), iv ((j : Int))]) rfl rfl ?_
  refine am_ev.step (pc' := 77) rfl rfl ?_
  refine am_ev.step (pc' := 79) (ls' := [.ref 67, iv ((W : Int)), iv (tot), iv ((r2 : Int)), iv ((j : Int)), iv (dv), iv ((i : Int)), iv ((j : Int))]) rfl rfl ?_
  refine fx_inc (p' := 82) (e := ((i : Int) + 1)) (ls' := [.ref 67, iv ((W : Int)), iv (tot), iv ((r2 : Int)), iv ((j : Int)), iv (dv), iv ((i : Int) + 1), iv ((j : Int))]) rfl rfl rfl (by omega) rfl ?_
  refine am_ev.step (pc' := 11) rfl rfl ?_
  exact (rr_n ▸ q9)
theorem or_125y0 (S : fS h) (v4 : h.2.2.2 67 4 = iv z) (hz : z ≤ 10) (hi : i < z) (hr : r < 1024) (hj : j < 10) (hc : c < 14) (H126 : am_ev (d + 1) 126 0 (am_ent [.ref 67, iv r, iv (-1), iv due] 6) [] h (some (iv j), h)) (vj : h.2.2.2 69 j = iv c) (vd : h.2.2.2 71 (10 * r + j) = iv dv) (hA : (Int32.ofInt (r : Int) &&& ((Int32.ofInt 1 <<< (Int32.ofInt (j : Int) &&& 31)) ^^^ Int32.ofInt (-1))) = Int32.ofInt (r2 : Int)) {x : Option Value × am_H} (q9 : am_ev (d + 2) 125 11 [.ref 67, iv ((W : Int)), iv (tot), iv ((r2 : Int)), iv ((j : Int)), iv (dv), iv ((i + 1 : Nat) : Int), iv ((j : Int))] [] (am_put h 68 i (iv ((c : Int)))) x) : am_ev (d + 2) 125 11 [.ref 67, iv ((W : Int)), iv (tot), iv ((r : Int)), iv (-1), iv (due), iv ((i : Int)), x7] [] h x := by
  refine am_ev.step (pc' := 13) rfl rfl ?_
  refine am_ev.step (pc' := 14) rfl rfl ?_
  refine ax_gf (p' := 17) rfl rfl (S.ob rfl) v4 ?_
  refine fx_c_ge_F (pF := 20) rfl (by omega) (by omega) rfl (by omega) ?_
  refine am_ev.step (pc' := 21) rfl rfl ?_
  refine am_ev.step (pc' := 22) rfl rfl ?_
  refine am_ev.step (pc' := 24) rfl rfl ?_
  refine am_ev.step (pc' := 26) rfl rfl ?_
  refine ax_call (z := 126) (p' := 29) (as := [_, _, _, _]) rfl (Or.inr (Or.inl ⟨_, rfl⟩)) rfl rfl rfl rfl rfl rfl (S.ob rfl) rfl H126 rfl ?_
  refine am_ev.step (pc' := 31) (ls' := [.ref 67, iv ((W : Int)), iv (tot), iv ((r : Int)), iv (-1), iv (due), iv ((i : Int)), iv ((j : Int))]) rfl rfl ?_
  refine am_ev.step (pc' := 33) rfl rfl ?_
  refine am_ev.step (pc' := 34) rfl rfl ?_
  refine fx_c_ne_T (pT := 38) rfl (by omega) (by omega) rfl (by omega) ?_
  refine am_ev.step (pc' := 39) rfl rfl ?_
  refine ax_gf (p' := 42) rfl rfl (S.ob rfl) (S.rf rfl rfl) ?_
  refine am_ev.step (pc' := 44) rfl rfl ?_
  refine am_ev.step (pc' := 45) rfl rfl ?_
  refine ax_gf (p' := 48) rfl rfl (S.ob rfl) (S.rf rfl rfl) ?_
  refine am_ev.step (pc' := 50) rfl rfl ?_
  refine ax_iaload (p' := 51) rfl rfl (S.rd (k := j) rfl rfl rfl rfl rfl (by omega) vj) ?_
  refine ax_iastore (p' := 52) rfl rfl (S.wr (k := i) rfl rfl rfl rfl (by omega)) ?_
  refine am_ev.step (pc' := 53) rfl rfl ?_
  refine ax_gf (p' := 56) rfl rfl (fO (S.ob rfl)) (ax_put_o (Or.inl (by decide)) (S.rf rfl rfl)) ?_
  refine am_ev.step (pc' := 57) rfl rfl ?_
  refine fx_bip (p' := 59) rfl rfl rfl ?_
  refine fx_mul (p' := 60) (e := (10 * (r : Int))) rfl rfl (by omega) ?_
  refine am_ev.step (pc' := 62) rfl rfl ?_
  refine fx_add (p' := 63) (e := (10 * (r : Int) + (j : Int))) rfl rfl (by omega) ?_
  refine ax_iaload (p' := 64) rfl rfl ((S.pa rfl).rd (k := (10 * r + j)) rfl rfl rfl rfl (by omega) (by omega) (ax_put_o (Or.inl (by decide)) vd)) ?_
  refine am_ev.step (pc' := 66) (ls' := [.ref 67, iv ((W : Int)), iv (tot), iv ((r : Int)), iv (-1), iv (dv), iv ((i : Int)), iv ((j : Int))]) rfl rfl ?_
  refine am_ev.step (pc' := 67) rfl rfl ?_
  refine am_ev.step (pc' := 68) rfl rfl ?_
  refine am_ev.step (pc' := 70) rfl rfl ?_
  refine am_ev.step (pc' := 71) rfl rfl ?_
  refine am_ev.step (pc' := 72) rfl rfl ?_
  refine am_ev.step (pc' := 73) rfl rfl ?_
  refine am_ev.step (pc' := 74) rfl rfl ?_
  refine ax_top hA ?_
  refine am_ev.step (pc' := 75) (ls' := [.ref 67, iv ((W : Int)), iv (tot), iv ((r2 : Int)), iv (-1), iv (dv), iv ((i : Int)), iv ((j : Int))]) rfl rfl ?_
  refine am_ev.step (pc' := 77) rfl rfl ?_
  refine am_ev.step (pc' := 79) (ls' := [.ref 67, iv ((W : Int)), iv (tot), iv ((r2 : Int)), iv ((j : Int)), iv (dv), iv ((i : Int)), iv ((j : Int))]) rfl rfl ?_
  refine fx_inc (p' := 82) (e := ((i : Int) + 1)) (ls' := [.ref 67, iv ((W : Int)), iv (tot), iv ((r2 : Int)), iv ((j : Int)), iv (dv), iv ((i : Int) + 1), iv ((j : Int))]) rfl rfl rfl (by omega) rfl ?_
  refine am_ev.step (pc' := 11) rfl rfl ?_
  exact (rr_n ▸ q9)
theorem or_119s (S : fS h) (H120 : am_ev (d + 3) 120 0 (am_ent [.ref 67, .int S0, .ref 74, iv n] 7) [] h (none, G)) (SG : fS G) (v4 : G.2.2.2 67 4 = iv z) (hW : wkM z = Int32.ofInt (W : Int)) {x : Option Value × am_H} (q9 : am_ev (d + 4) 119 20 [.ref 67, .int S0, .ref 74, iv ((n : Int)), iv ((W : Int)), iv 1, am_ph] [] G x) : am_ev (d + 4) 119 0 (am_ent [.ref 67, .int S0, .ref 74, iv n] 7) [] h x := by
  show am_ev (d + 4) 119 0 [.ref 67, .int S0, .ref 74, iv ((n : Int)), am_ph, am_ph, am_ph] [] h _
  refine am_ev.step (pc' := 1) rfl rfl ?_
  refine am_ev.step (pc' := 2) rfl rfl ?_
  refine am_ev.step (pc' := 3) rfl rfl ?_
  refine am_ev.step (pc' := 4) rfl rfl ?_
  refine ax_call (z := 120) (p' := 7) (as := [_, _, _, _]) rfl (Or.inr (Or.inl ⟨_, rfl⟩)) rfl rfl rfl rfl rfl rfl (S.ob rfl) rfl H120 rfl ?_
  refine am_ev.step (pc' := 8) rfl rfl ?_
  refine am_ev.step (pc' := 9) rfl rfl ?_
  refine ax_gf (p' := 12) rfl rfl (SG.ob rfl) v4 ?_
  refine am_ev.step (pc' := 13) rfl rfl ?_
  refine am_ev.step (pc' := 14) rfl rfl ?_
  refine am_ev.step (pc' := 15) rfl rfl ?_
  refine ax_top hW ?_
  refine am_ev.step (pc' := 17) (ls' := [.ref 67, .int S0, .ref 74, iv ((n : Int)), iv ((W : Int)), am_ph, am_ph]) rfl rfl ?_
  refine am_ev.step (pc' := 18) rfl rfl ?_
  refine am_ev.step (pc' := 20) (ls' := [.ref 67, .int S0, .ref 74, iv ((n : Int)), iv ((W : Int)), iv 1, am_ph]) rfl rfl ?_
  exact q9
theorem or_119e (S : fS h) (v4 : h.2.2.2 67 4 = iv z) (hz : z ≤ 10) (bW : W < 1024) (hpt : part = W + 1) {x : Option Value × am_H} (q9 : am_ev (d + 4) 119 96 [.ref 67, .int S0, .ref 74, iv ((n : Int)), iv ((W : Int)), iv 1000000, iv 0] [] h x) : am_ev (d + 4) 119 20 [.ref 67, .int S0, .ref 74, iv ((n : Int)), iv ((W : Int)), iv ((part : Int)), x6] [] h x := by
  refine am_ev.step (pc' := 22) rfl rfl ?_
  refine am_ev.step (pc' := 24) rfl rfl ?_
  refine fx_c_gt_T (pT := 89) rfl (by omega) (by omega) rfl (by omega) ?_
  refine am_ev.step (pc' := 91) (st' := [iv 1000000]) rfl rfl ?_
  refine am_ev.step (pc' := 93) (ls' := [.ref 67, .int S0, .ref 74, iv ((n : Int)), iv ((W : Int)), iv 1000000, x6]) rfl rfl ?_
  refine am_ev.step (pc' := 94) rfl rfl ?_
  refine am_ev.step (pc' := 96) (ls' := [.ref 67, .int S0, .ref 74, iv ((n : Int)), iv ((W : Int)), iv 1000000, iv 0]) rfl rfl ?_
  exact q9
theorem or_119i (S : fS h) (v4 : h.2.2.2 67 4 = iv z) (hz : z ≤ 10) (bW : W < 1024) (hpt : part ≤ W) {x : Option Value × am_H} (q9 : am_ev (d + 4) 119 30 [.ref 67, .int S0, .ref 74, iv ((n : Int)), iv ((W : Int)), iv ((part : Int)), iv 0] [] h x) : am_ev (d + 4) 119 20 [.ref 67, .int S0, .ref 74, iv ((n : Int)), iv ((W : Int)), iv ((part : Int)), x6] [] h x := by
  refine am_ev.step (pc' := 22) rfl rfl ?_
  refine am_ev.step (pc' := 24) rfl rfl ?_
  refine fx_c_gt_F (pF := 27) rfl (by omega) (by omega) rfl (by omega) ?_
  refine am_ev.step (pc' := 28) rfl rfl ?_
  refine am_ev.step (pc' := 30) (ls' := [.ref 67, .int S0, .ref 74, iv ((n : Int)), iv ((W : Int)), iv ((part : Int)), iv 0]) rfl rfl ?_
  exact q9
theorem or_119j (S : fS h) (v4 : h.2.2.2 67 4 = iv z) (hz : z ≤ 10) (bW : W < 1024) (hpt : part ≤ W) (hf : first = z) {x : Option Value × am_H} (q9 : am_ev (d + 4) 119 20 [.ref 67, .int S0, .ref 74, iv ((n : Int)), iv ((W : Int)), iv ((part + 1 : Nat) : Int), iv ((first : Int))] [] h x) : am_ev (d + 4) 119 30 [.ref 67, .int S0, .ref 74, iv ((n : Int)), iv ((W : Int)), iv ((part : Int)), iv ((first : Int))] [] h x := by
  refine am_ev.step (pc' := 32) rfl rfl ?_
  refine am_ev.step (pc' := 33) rfl rfl ?_
  refine ax_gf (p' := 36) rfl rfl (S.ob rfl) v4 ?_
  refine fx_c_ge_T (pT := 83) rfl (by omega) (by omega) rfl (by omega) ?_
  refine fx_inc (p' := 86) (e := ((part : Int) + 1)) (ls' := [.ref 67, .int S0, .ref 74, iv ((n : Int)), iv ((W : Int)), iv ((part : Int) + 1), iv ((first : Int))]) rfl rfl rfl (by omega) rfl ?_
  refine am_ev.step (pc' := 20) rfl rfl ?_
  exact (rr_n ▸ q9)
theorem or_119n (S : fS h) (v4 : h.2.2.2 67 4 = iv z) (hz : z ≤ 10) (bW : W < 1024) (hpt : part ≤ W) (hf : first < z) (qb : bt (Int32.ofInt (part : Int)) first = false) {x : Option Value × am_H} (q9 : am_ev (d + 4) 119 30 [.ref 67, .int S0, .ref 74, iv ((n : Int)), iv ((W : Int)), iv ((part : Int)), iv ((first + 1 : Nat) : Int)] [] h x) : am_ev (d + 4) 119 30 [.ref 67, .int S0, .ref 74, iv ((n : Int)), iv ((W : Int)), iv ((part : Int)), iv ((first : Int))] [] h x := by
  refine am_ev.step (pc' := 32) rfl rfl ?_
  refine am_ev.step (pc' := 33) rfl rfl ?_
  refine ax_gf (p' := 36) rfl rfl (S.ob rfl) v4 ?_
  refine fx_c_ge_F (pF := 39) rfl (by omega) (by omega) rfl (by omega) ?_
  refine am_ev.step (pc' := 41) rfl rfl ?_
  refine am_ev.step (pc' := 43) rfl rfl ?_
  refine ax_call (z := 31) (p' := 46) (as := [_, _]) rfl (Or.inl ⟨_, rfl⟩) rfl rfl rfl rfl rfl rfl rfl rfl ((tk_31 (t := Int32.ofInt (part : Int)) (c := first) (by omega)).2 qb) rfl ?_
  refine fx_z_eq_T (pT := 77) rfl (by omega) rfl (by omega) ?_
  refine fx_inc (p' := 80) (e := ((first : Int) + 1)) (ls' := [.ref 67, .int S0, .ref 74, iv ((n : Int)), iv ((W : Int)), iv ((part : Int)), iv ((first : Int) + 1)]) rfl rfl rfl (by omega) rfl ?_
  refine am_ev.step (pc' := 30) rfl rfl ?_
  exact (rr_n ▸ q9)
theorem or_119y (S : fS h) (v4 : h.2.2.2 67 4 = iv z) (hz : z ≤ 10) (bW : W < 1024) (hpt : part ≤ W) (hf : first < z) (qb : bt (Int32.ofInt (part : Int)) first = true) (hA : (Int32.ofInt (part : Int) &&& ((Int32.ofInt 1 <<< (Int32.ofInt (first : Int) &&& 31)) ^^^ Int32.ofInt (-1))) = Int32.ofInt (r2 : Int)) (H123 : am_ev (d + 3) 123 0 (am_ent [.ref 67, iv r2, iv first] 6) [] h (some (iv v), h)) {x : Option Value × am_H} (q9 : am_ev (d + 4) 119 30 [.ref 67, .int S0, .ref 74, iv ((n : Int)), iv ((W : Int)), iv ((part : Int)), iv ((first + 1 : Nat) : Int)] [] (am_put h 71 (10 * part + first) (iv (v))) x) : am_ev (d + 4) 119 30 [.ref 67, .int S0, .ref 74, iv ((n : Int)), iv ((W : Int)), iv ((part : Int)), iv ((first : Int))] [] h x := by
  refine am_ev.step (pc' := 32) rfl rfl ?_
  refine am_ev.step (pc' := 33) rfl rfl ?_
  refine ax_gf (p' := 36) rfl rfl (S.ob rfl) v4 ?_
  refine fx_c_ge_F (pF := 39) rfl (by omega) (by omega) rfl (by omega) ?_
  refine am_ev.step (pc' := 41) rfl rfl ?_
  refine am_ev.step (pc' := 43) rfl rfl ?_
  refine ax_call (z := 31) (p' := 46) (as := [_, _]) rfl (Or.inl ⟨_, rfl⟩) rfl rfl rfl rfl rfl rfl rfl rfl ((tk_31 (t := Int32.ofInt (part : Int)) (c := first) (by omega)).1 qb) rfl ?_
  refine fx_z_eq_F (pF := 49) rfl (by omega) rfl (by omega) ?_
  refine am_ev.step (pc' := 50) rfl rfl ?_
  refine ax_gf (p' := 53) rfl rfl (S.ob rfl) (S.rf rfl rfl) ?_
  refine am_ev.step (pc' := 55) rfl rfl ?_
  refine fx_bip (p' := 57) rfl rfl rfl ?_
  refine fx_mul (p' := 58) (e := (10 * (part : Int))) rfl rfl (by omega) ?_
  refine am_ev.step (pc' := 60) rfl rfl ?_
  refine fx_add (p' := 61) (e := (10 * (part : Int) + (first : Int))) rfl rfl (by omega) ?_
  refine am_ev.step (pc' := 62) rfl rfl ?_
  refine am_ev.step (pc' := 64) rfl rfl ?_
  refine am_ev.step (pc' := 65) rfl rfl ?_
  refine am_ev.step (pc' := 67) rfl rfl ?_
  refine am_ev.step (pc' := 68) rfl rfl ?_
  refine am_ev.step (pc' := 69) rfl rfl ?_
  refine am_ev.step (pc' := 70) rfl rfl ?_
  refine am_ev.step (pc' := 71) rfl rfl ?_
  refine ax_top hA ?_
  refine am_ev.step (pc' := 73) rfl rfl ?_
  refine ax_call (z := 123) (p' := 76) (as := [_, _, _]) rfl (Or.inr (Or.inl ⟨_, rfl⟩)) rfl rfl rfl rfl rfl rfl (S.ob rfl) rfl H123 rfl ?_
  refine ax_iastore (p' := 77) rfl rfl (S.wr (k := (10 * part + first)) rfl rfl rfl (by omega) (by omega)) ?_
  refine fx_inc (p' := 80) (e := ((first : Int) + 1)) (ls' := [.ref 67, .int S0, .ref 74, iv ((n : Int)), iv ((W : Int)), iv ((part : Int)), iv ((first : Int) + 1)]) rfl rfl rfl (by omega) rfl ?_
  refine am_ev.step (pc' := 30) rfl rfl ?_
  exact (rr_n ▸ q9)
theorem or_119m (S : fS h) (v4 : h.2.2.2 67 4 = iv z) (hz : z ≤ 10) (bW : W < 1024) (bst : 0 ≤ st_ ∧ st_ ≤ 1000000) (hj : j < z) (vv : h.2.2.2 71 (10 * W + j) = iv v) (bv : 0 ≤ v ∧ v ≤ 1000000) (hm : v < st_ ∧ m = v ∨ ¬ v < st_ ∧ m = st_) {x : Option Value × am_H} (q9 : am_ev (d + 4) 119 96 [.ref 67, .int S0, .ref 74, iv ((n : Int)), iv ((W : Int)), iv (m), iv ((j + 1 : Nat) : Int)] [] h x) : am_ev (d + 4) 119 96 [.ref 67, .int S0, .ref 74, iv ((n : Int)), iv ((W : Int)), iv (st_), iv ((j : Int))] [] h x := by
  refine am_ev.step (pc' := 98) rfl rfl ?_
  refine am_ev.step (pc' := 99) rfl rfl ?_
  refine ax_gf (p' := 102) rfl rfl (S.ob rfl) v4 ?_
  refine fx_c_ge_F (pF := 105) rfl (by omega) (by omega) rfl (by omega) ?_
  refine am_ev.step (pc' := 107) rfl rfl ?_
  refine am_ev.step (pc' := 108) rfl rfl ?_
  refine ax_gf (p' := 111) rfl rfl (S.ob rfl) (S.rf rfl rfl) ?_
  refine am_ev.step (pc' := 113) rfl rfl ?_
  refine fx_bip (p' := 115) rfl rfl rfl ?_
  refine fx_mul (p' := 116) (e := (10 * (W : Int))) rfl rfl (by omega) ?_
  refine am_ev.step (pc' := 118) rfl rfl ?_
  refine fx_add (p' := 119) (e := (10 * (W : Int) + (j : Int))) rfl rfl (by omega) ?_
  refine ax_iaload (p' := 120) rfl rfl (S.rd (k := (10 * W + j)) rfl rfl rfl rfl (by omega) (by omega) vv) ?_
  refine fx_mn (p' := 123) (e := m) rfl (Or.inl ⟨_, rfl⟩) rfl rfl rfl rfl (by omega) (by omega) (fun _ => by omega) (fun _ => by omega) ?_
  refine am_ev.step (pc' := 125) (ls' := [.ref 67, .int S0, .ref 74, iv ((n : Int)), iv ((W : Int)), iv (m), iv ((j : Int))]) rfl rfl ?_
  refine fx_inc (p' := 128) (e := ((j : Int) + 1)) (ls' := [.ref 67, .int S0, .ref 74, iv ((n : Int)), iv ((W : Int)), iv (m), iv ((j : Int) + 1)]) rfl rfl rfl (by omega) rfl ?_
  refine am_ev.step (pc' := 96) rfl rfl ?_
  exact (rr_n ▸ q9)
theorem or_119f (S : fS h) (v4 : h.2.2.2 67 4 = iv z) (hz : z ≤ 10) (bW : W < 1024) (bst : 0 ≤ st_ ∧ st_ ≤ 1000000) (hj : j = z) (hs : 1000000 ≤ st_) : am_ev (d + 4) 119 96 [.ref 67, .int S0, .ref 74, iv ((n : Int)), iv ((W : Int)), iv (st_), iv ((j : Int))] [] h (some (iv (-1)), h) := by
  refine am_ev.step (pc' := 98) rfl rfl ?_
  refine am_ev.step (pc' := 99) rfl rfl ?_
  refine ax_gf (p' := 102) rfl rfl (S.ob rfl) v4 ?_
  refine fx_c_ge_T (pT := 131) rfl (by omega) (by omega) rfl (by omega) ?_
  refine am_ev.step (pc' := 133) rfl rfl ?_
  refine am_ev.step (pc' := 135) (st' := [iv 1000000, iv (st_)]) rfl rfl ?_
  refine fx_c_lt_F (pF := 138) rfl (by omega) (by omega) rfl (by omega) ?_
  refine am_ev.step (pc' := 139) rfl rfl ?_
  exact fx_reti rfl rfl rfl
theorem or_119g (S : fS h) (v4 : h.2.2.2 67 4 = iv z) (hz : z ≤ 10) (bW : W < 1024) (bst : 0 ≤ st_ ∧ st_ ≤ 1000000) (hj : j = z) (hs : st_ < 1000000) (H125 : am_ev (d + 3) 125 0 (am_ent [.ref 67, iv W, iv st_] 8) [] h (none, G)) (SG : fS G) : am_ev (d + 4) 119 96 [.ref 67, .int S0, .ref 74, iv ((n : Int)), iv ((W : Int)), iv (st_), iv ((j : Int))] [] h (some (iv st_), G) := by
  refine am_ev.step (pc' := 98) rfl rfl ?_
  refine am_ev.step (pc' := 99) rfl rfl ?_
  refine ax_gf (p' := 102) rfl rfl (S.ob rfl) v4 ?_
  refine fx_c_ge_T (pT := 131) rfl (by omega) (by omega) rfl (by omega) ?_
  refine am_ev.step (pc' := 133) rfl rfl ?_
  refine am_ev.step (pc' := 135) (st' := [iv 1000000, iv (st_)]) rfl rfl ?_
  refine fx_c_lt_T (pT := 140) rfl (by omega) (by omega) rfl (by omega) ?_
  refine am_ev.step (pc' := 141) rfl rfl ?_
  refine am_ev.step (pc' := 143) rfl rfl ?_
  refine am_ev.step (pc' := 145) rfl rfl ?_
  refine ax_call (z := 125) (p' := 148) (as := [_, _, _]) rfl (Or.inr (Or.inl ⟨_, rfl⟩)) rfl rfl rfl rfl rfl rfl (S.ob rfl) rfl H125 rfl ?_
  refine am_ev.step (pc' := 150) rfl rfl ?_
  exact fx_reti rfl rfl rfl
end ORM
