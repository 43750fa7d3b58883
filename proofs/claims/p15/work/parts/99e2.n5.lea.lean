/-! LEAVES: clauses, the program's side -/
section LF1
variable {d : Nat} {h h0 H : am_H} {b : Nat → Int} {L p s e n l q : Nat} {k v r : Int} {t : Int32} {Φ : Nat → Value} {a4 : Value}
theorem lf_79 {x : Option Value × am_H} (q9 : am_ev d 79 4 [.ref 41, iv l, .int (Int32.ofInt 0), iv 0] [] h x) : am_ev d 79 0 (am_ent [.ref 41, iv l] 4) [] h x := by
  show am_ev d 79 0 [.ref 41, iv l, am_ph, am_ph] [] h x
  refine am_ev.step (pc' := 1) rfl rfl ?_
  refine am_ev.step (pc' := 2) (ls' := [.ref 41, iv ((l : Int)), iv 0, am_ph]) rfl rfl ?_
  refine am_ev.step (pc' := 3) rfl rfl ?_
  refine am_ev.step (pc' := 4) (ls' := [.ref 41, iv ((l : Int)), iv 0, iv 0]) rfl rfl ?_
  exact q9
theorem lf_84 {x : Option Value × am_H} (q9 : am_ev d 84 2 [.ref q, .ref 41, iv ((0 : Nat) : Int)] [] h x) : am_ev d 84 0 (am_ent [.ref q, .ref 41] 3) [] h x := by
  show am_ev d 84 0 [.ref q, .ref 41, am_ph] [] h x
  refine am_ev.step (pc' := 1) rfl rfl ?_
  refine am_ev.step (pc' := 2) (ls' := [.ref q, .ref 41, iv 0]) rfl rfl ?_
  exact q9
theorem lf_78_0a (O : am_isO h q 4 = true) (SH : fS H) (OH : am_isO H q 4 = true) (hq : 130 ≤ q) (z : am_ev (d + 2) 79 0 (am_ent [.ref 41, iv 5] 4) [] h (some (.int t), H)) (ne : ¬ t = Int32.ofInt (-1)) : am_ev (d + 3) 78 0 (am_ent [.ref q, iv 0, .ref 41] 3) [] h (some (iv 1), am_put H q 2 (.int t)) := by
  show am_ev (d + 3) 78 0 [.ref q, iv 0, .ref 41] [] h _
  refine am_ev.step (pc' := 1) rfl rfl ?_
  refine fx_ts (p' := 36) rfl (by omega) (by omega) rfl (by decide) ?_
  refine am_ev.step (pc' := 37) rfl rfl ?_
  refine am_ev.step (pc' := 38) rfl rfl ?_
  refine am_ev.step (pc' := 39) rfl rfl ?_
  refine ax_call (z := 79) (p' := 42) (as := [_, _]) rfl (Or.inl ⟨_, rfl⟩) rfl rfl rfl rfl rfl rfl rfl rfl z rfl ?_
  refine ax_pf (p' := 45) rfl rfl OH rfl ?_
  refine am_ev.step (pc' := 46) rfl rfl ?_
  refine ax_gf (p' := 49) rfl rfl (fO OH) (ax_put_s _ _ _) ?_
  refine am_ev.step (pc' := 50) rfl rfl ?_
  refine am_ev.step (pc' := 53) rfl (if_neg ne) ?_
  refine am_ev.step (pc' := 54) rfl rfl ?_
  refine am_ev.step (pc' := 58) rfl rfl ?_
  exact fx_reti rfl rfl rfl
theorem lf_78_0b (O : am_isO h q 4 = true) (SH : fS H) (OH : am_isO H q 4 = true) (hq : 130 ≤ q) (z : am_ev (d + 2) 79 0 (am_ent [.ref 41, iv 5] 4) [] h (some (iv (-1)), H)) : am_ev (d + 3) 78 0 (am_ent [.ref q, iv 0, .ref 41] 3) [] h (some (iv 0), am_put H q 2 (iv (-1))) := by
  show am_ev (d + 3) 78 0 [.ref q, iv 0, .ref 41] [] h _
  refine am_ev.step (pc' := 1) rfl rfl ?_
  refine fx_ts (p' := 36) rfl (by omega) (by omega) rfl (by decide) ?_
  refine am_ev.step (pc' := 37) rfl rfl ?_
  refine am_ev.step (pc' := 38) rfl rfl ?_
  refine am_ev.step (pc' := 39) rfl rfl ?_
  refine ax_call (z := 79) (p' := 42) (as := [_, _]) rfl (Or.inl ⟨_, rfl⟩) rfl rfl rfl rfl rfl rfl rfl rfl z rfl ?_
  refine ax_pf (p' := 45) rfl rfl OH rfl ?_
  refine am_ev.step (pc' := 46) rfl rfl ?_
  refine ax_gf (p' := 49) rfl rfl (fO OH) (ax_put_s _ _ _) ?_
  refine am_ev.step (pc' := 50) rfl rfl ?_
  refine fx_c_eq_T (pT := 57) rfl (by omega) (by omega) rfl (by omega) ?_
  refine am_ev.step (pc' := 58) rfl rfl ?_
  exact fx_reti rfl rfl rfl
theorem lf_78_3a (O : am_isO h q 4 = true) (SH : fS H) (OH : am_isO H q 4 = true) (hq : 130 ≤ q) (z : am_ev (d + 2) 79 0 (am_ent [.ref 41, iv 19] 4) [] h (some (.int t), H)) (ne : ¬ t = Int32.ofInt (-1)) : am_ev (d + 3) 78 0 (am_ent [.ref q, iv 3, .ref 41] 3) [] h (some (iv 1), am_put H q 6 (.int t)) := by
  show am_ev (d + 3) 78 0 [.ref q, iv 3, .ref 41] [] h _
  refine am_ev.step (pc' := 1) rfl rfl ?_
  refine fx_ts (p' := 71) rfl (by omega) (by omega) rfl (by decide) ?_
  refine am_ev.step (pc' := 72) rfl rfl ?_
  refine am_ev.step (pc' := 73) rfl rfl ?_
  refine fx_bip (p' := 75) rfl rfl rfl ?_
  refine ax_call (z := 79) (p' := 78) (as := [_, _]) rfl (Or.inl ⟨_, rfl⟩) rfl rfl rfl rfl rfl rfl rfl rfl z rfl ?_
  refine ax_pf (p' := 81) rfl rfl OH rfl ?_
  refine am_ev.step (pc' := 82) rfl rfl ?_
  refine ax_gf (p' := 85) rfl rfl (fO OH) (ax_put_s _ _ _) ?_
  refine am_ev.step (pc' := 86) rfl rfl ?_
  refine am_ev.step (pc' := 89) rfl (if_neg ne) ?_
  refine am_ev.step (pc' := 90) rfl rfl ?_
  refine am_ev.step (pc' := 94) rfl rfl ?_
  exact fx_reti rfl rfl rfl
theorem lf_78_3b (O : am_isO h q 4 = true) (SH : fS H) (OH : am_isO H q 4 = true) (hq : 130 ≤ q) (z : am_ev (d + 2) 79 0 (am_ent [.ref 41, iv 19] 4) [] h (some (iv (-1)), H)) : am_ev (d + 3) 78 0 (am_ent [.ref q, iv 3, .ref 41] 3) [] h (some (iv 0), am_put H q 6 (iv (-1))) := by
  show am_ev (d + 3) 78 0 [.ref q, iv 3, .ref 41] [] h _
  refine am_ev.step (pc' := 1) rfl rfl ?_
  refine fx_ts (p' := 71) rfl (by omega) (by omega) rfl (by decide) ?_
  refine am_ev.step (pc' := 72) rfl rfl ?_
  refine am_ev.step (pc' := 73) rfl rfl ?_
  refine fx_bip (p' := 75) rfl rfl rfl ?_
  refine ax_call (z := 79) (p' := 78) (as := [_, _]) rfl (Or.inl ⟨_, rfl⟩) rfl rfl rfl rfl rfl rfl rfl rfl z rfl ?_
  refine ax_pf (p' := 81) rfl rfl OH rfl ?_
  refine am_ev.step (pc' := 82) rfl rfl ?_
  refine ax_gf (p' := 85) rfl rfl (fO OH) (ax_put_s _ _ _) ?_
  refine am_ev.step (pc' := 86) rfl rfl ?_
  refine fx_c_eq_T (pT := 93) rfl (by omega) (by omega) rfl (by omega) ?_
  refine am_ev.step (pc' := 94) rfl rfl ?_
  exact fx_reti rfl rfl rfl
theorem lf_78_1_0 (O : am_isO h q 4 = true) (z : am_ev d 81 0 (am_ent [.ref q, .ref 41] 2) [] h (some (iv 0), H)) : am_ev (d + 1) 78 0 (am_ent [.ref q, iv 1, .ref 41] 3) [] h (some (iv 0), H) := by
  show am_ev (d + 1) 78 0 [.ref q, iv 1, .ref 41] [] h _
  refine am_ev.step (pc' := 1) rfl rfl ?_
  refine fx_ts (p' := 59) rfl (by omega) (by omega) rfl (by decide) ?_
  refine am_ev.step (pc' := 60) rfl rfl ?_
  refine am_ev.step (pc' := 61) rfl rfl ?_
  refine ax_call (z := 81) (p' := 64) (as := [_, _]) rfl (Or.inr (Or.inl ⟨_, rfl⟩)) rfl rfl rfl rfl rfl rfl O rfl z rfl ?_
  exact fx_reti rfl rfl rfl
theorem lf_78_1_1 (O : am_isO h q 4 = true) (z : am_ev d 81 0 (am_ent [.ref q, .ref 41] 2) [] h (some (iv 1), H)) : am_ev (d + 1) 78 0 (am_ent [.ref q, iv 1, .ref 41] 3) [] h (some (iv 1), H) := by
  show am_ev (d + 1) 78 0 [.ref q, iv 1, .ref 41] [] h _
  refine am_ev.step (pc' := 1) rfl rfl ?_
  refine fx_ts (p' := 59) rfl (by omega) (by omega) rfl (by decide) ?_
  refine am_ev.step (pc' := 60) rfl rfl ?_
  refine am_ev.step (pc' := 61) rfl rfl ?_
  refine ax_call (z := 81) (p' := 64) (as := [_, _]) rfl (Or.inr (Or.inl ⟨_, rfl⟩)) rfl rfl rfl rfl rfl rfl O rfl z rfl ?_
  exact fx_reti rfl rfl rfl
theorem lf_78_2_0 (O : am_isO h q 4 = true) (z : am_ev d 82 0 (am_ent [.ref q, .ref 41] 2) [] h (some (iv 0), H)) : am_ev (d + 1) 78 0 (am_ent [.ref q, iv 2, .ref 41] 3) [] h (some (iv 0), H) := by
  show am_ev (d + 1) 78 0 [.ref q, iv 2, .ref 41] [] h _
  refine am_ev.step (pc' := 1) rfl rfl ?_
  refine fx_ts (p' := 65) rfl (by omega) (by omega) rfl (by decide) ?_
  refine am_ev.step (pc' := 66) rfl rfl ?_
  refine am_ev.step (pc' := 67) rfl rfl ?_
  refine ax_call (z := 82) (p' := 70) (as := [_, _]) rfl (Or.inr (Or.inl ⟨_, rfl⟩)) rfl rfl rfl rfl rfl rfl O rfl z rfl ?_
  exact fx_reti rfl rfl rfl
theorem lf_78_2_1 (O : am_isO h q 4 = true) (z : am_ev d 82 0 (am_ent [.ref q, .ref 41] 2) [] h (some (iv 1), H)) : am_ev (d + 1) 78 0 (am_ent [.ref q, iv 2, .ref 41] 3) [] h (some (iv 1), H) := by
  show am_ev (d + 1) 78 0 [.ref q, iv 2, .ref 41] [] h _
  refine am_ev.step (pc' := 1) rfl rfl ?_
  refine fx_ts (p' := 65) rfl (by omega) (by omega) rfl (by decide) ?_
  refine am_ev.step (pc' := 66) rfl rfl ?_
  refine am_ev.step (pc' := 67) rfl rfl ?_
  refine ax_call (z := 82) (p' := 70) (as := [_, _]) rfl (Or.inr (Or.inl ⟨_, rfl⟩)) rfl rfl rfl rfl rfl rfl O rfl z rfl ?_
  exact fx_reti rfl rfl rfl
theorem lf_78_4_0 (O : am_isO h q 4 = true) (z : am_ev d 83 0 (am_ent [.ref q, .ref 41] 2) [] h (some (iv 0), H)) : am_ev (d + 1) 78 0 (am_ent [.ref q, iv 4, .ref 41] 3) [] h (some (iv 0), H) := by
  show am_ev (d + 1) 78 0 [.ref q, iv 4, .ref 41] [] h _
  refine am_ev.step (pc' := 1) rfl rfl ?_
  refine fx_ts (p' := 95) rfl (by omega) (by omega) rfl (by decide) ?_
  refine am_ev.step (pc' := 96) rfl rfl ?_
  refine am_ev.step (pc' := 97) rfl rfl ?_
  refine ax_call (z := 83) (p' := 100) (as := [_, _]) rfl (Or.inr (Or.inl ⟨_, rfl⟩)) rfl rfl rfl rfl rfl rfl O rfl z rfl ?_
  exact fx_reti rfl rfl rfl
theorem lf_78_4_1 (O : am_isO h q 4 = true) (z : am_ev d 83 0 (am_ent [.ref q, .ref 41] 2) [] h (some (iv 1), H)) : am_ev (d + 1) 78 0 (am_ent [.ref q, iv 4, .ref 41] 3) [] h (some (iv 1), H) := by
  show am_ev (d + 1) 78 0 [.ref q, iv 4, .ref 41] [] h _
  refine am_ev.step (pc' := 1) rfl rfl ?_
  refine fx_ts (p' := 95) rfl (by omega) (by omega) rfl (by decide) ?_
  refine am_ev.step (pc' := 96) rfl rfl ?_
  refine am_ev.step (pc' := 97) rfl rfl ?_
  refine ax_call (z := 83) (p' := 100) (as := [_, _]) rfl (Or.inr (Or.inl ⟨_, rfl⟩)) rfl rfl rfl rfl rfl rfl O rfl z rfl ?_
  exact fx_reti rfl rfl rfl
theorem lf_78_5_0 (O : am_isO h q 4 = true) (z : am_ev d 84 0 (am_ent [.ref q, .ref 41] 3) [] h (some (iv 0), H)) : am_ev (d + 1) 78 0 (am_ent [.ref q, iv 5, .ref 41] 3) [] h (some (iv 0), H) := by
  show am_ev (d + 1) 78 0 [.ref q, iv 5, .ref 41] [] h _
  refine am_ev.step (pc' := 1) rfl rfl ?_
  refine fx_td (p' := 101) rfl (by omega) (by omega) (by decide) ?_
  refine am_ev.step (pc' := 102) rfl rfl ?_
  refine am_ev.step (pc' := 103) rfl rfl ?_
  refine ax_call (z := 84) (p' := 106) (as := [_, _]) rfl (Or.inr (Or.inl ⟨_, rfl⟩)) rfl rfl rfl rfl rfl rfl O rfl z rfl ?_
  exact fx_reti rfl rfl rfl
theorem lf_78_5_1 (O : am_isO h q 4 = true) (z : am_ev d 84 0 (am_ent [.ref q, .ref 41] 3) [] h (some (iv 1), H)) : am_ev (d + 1) 78 0 (am_ent [.ref q, iv 5, .ref 41] 3) [] h (some (iv 1), H) := by
  show am_ev (d + 1) 78 0 [.ref q, iv 5, .ref 41] [] h _
  refine am_ev.step (pc' := 1) rfl rfl ?_
  refine fx_td (p' := 101) rfl (by omega) (by omega) (by decide) ?_
  refine am_ev.step (pc' := 102) rfl rfl ?_
  refine am_ev.step (pc' := 103) rfl rfl ?_
  refine ax_call (z := 84) (p' := 106) (as := [_, _]) rfl (Or.inr (Or.inl ⟨_, rfl⟩)) rfl rfl rfl rfl rfl rfl O rfl z rfl ?_
  exact fx_reti rfl rfl rfl
theorem lf_E (hb : tz_r b) (hL : L ≤ 1600) (C : lC h h0 q b L p Φ) (hn : n ≤ 6) (t0 : tz_t b L p s e k v) (q0 : k = 0) : am_ev (d + 8) 76 8 [.ref q, .ref 41, .int t, iv ((n : Int)), a4] [] h  (some (iv 1), T1 h s e k) := by
  obtain ⟨S, B, w1, v6, f3, f4, sz, O, hq, fr, F, F2⟩ := C
  have f0 := t0.f5 hb
  refine am_ev.step (pc' := 9) rfl rfl ?_
  refine fx_bip (p' := 11) rfl rfl rfl ?_
  refine fx_c_gt_F (pF := 14) rfl (by omega) (by omega) rfl (by omega) ?_
  refine am_ev.step (pc' := 15) rfl rfl ?_
  refine ax_call (z := 21) (p' := 18) (as := [_]) rfl (Or.inr (Or.inl ⟨_, rfl⟩)) rfl rfl rfl rfl rfl rfl (S.ob rfl) rfl (tk_21w S B hb hL w1 v6 t0) rfl ?_
  refine am_ev.step (pc' := 19) rfl rfl ?_
  refine ax_gf (p' := 22) rfl rfl (fO (fO (fO (S.ob rfl)))) (ax_put_s _ _ _) ?_
  refine fx_z_ne_F (pF := 25) rfl (by omega) rfl (by omega) ?_
  refine am_ev.step (pc' := 26) rfl rfl ?_
  exact fx_reti rfl rfl rfl
theorem lf_x (hb : tz_r b) (hL : L ≤ 1600) (C : lC h h0 q b L p Φ) (hn : n ≤ 6) (t0 : tz_t b L p s e k v) (q0 : k ≠ 0) (q1 : cl_l b s e k (-1)) : am_ev (d + 8) 76 8 [.ref q, .ref 41, .int t, iv ((n : Int)), a4] [] h  (some (iv 0), FL (T1 h s e k) 1 s) := by
  obtain ⟨S, B, w1, v6, f3, f4, sz, O, hq, fr, F, F2⟩ := C
  have f0 := t0.f5 hb
  refine am_ev.step (pc' := 9) rfl rfl ?_
  refine fx_bip (p' := 11) rfl rfl rfl ?_
  refine fx_c_gt_F (pF := 14) rfl (by omega) (by omega) rfl (by omega) ?_
  refine am_ev.step (pc' := 15) rfl rfl ?_
  refine ax_call (z := 21) (p' := 18) (as := [_]) rfl (Or.inr (Or.inl ⟨_, rfl⟩)) rfl rfl rfl rfl rfl rfl (S.ob rfl) rfl (tk_21w S B hb hL w1 v6 t0) rfl ?_
  refine am_ev.step (pc' := 19) rfl rfl ?_
  refine ax_gf (p' := 22) rfl rfl (fO (fO (fO (S.ob rfl)))) (ax_put_s _ _ _) ?_
  refine fx_z_ne_T (pT := 27) rfl (by omega) rfl (by omega) ?_
  refine am_ev.step (pc' := 28) rfl rfl ?_
  refine ax_call (z := 77) (p' := 31) (as := [_]) rfl (Or.inl ⟨_, rfl⟩) rfl rfl rfl rfl rfl rfl rfl rfl (le_77 (((S.po rfl rfl).po rfl rfl).po rfl rfl) (((B.put (by decide)).put (by decide)).put (by decide)) hb hL (ax_put_o (Or.inr (by decide)) (ax_put_o (Or.inr (by decide)) (ax_put_o (Or.inr (by decide)) w1))) (ax_put_s _ _ _) (ax_put_o (Or.inr (by decide)) (ax_put_o (Or.inr (by decide)) (ax_put_s _ _ _))) (ax_put_o (Or.inr (by decide)) (ax_put_s _ _ _)) t0 q1) rfl ?_
  refine am_ev.step (pc' := 33) (ls' := [.ref q, .ref 41, .int t, iv ((n : Int)), iv (-1)]) rfl rfl ?_
  refine am_ev.step (pc' := 35) rfl rfl ?_
  refine am_ev.step (pc' := 36) rfl rfl ?_
  refine fx_c_ne_F (pF := 39) rfl (by omega) (by omega) rfl (by omega) ?_
  refine am_ev.step (pc' := 40) rfl rfl ?_
  refine am_ev.step (pc' := 41) rfl rfl ?_
  refine ax_call (z := 29) (p' := 44) (as := [_, _]) rfl (Or.inr (Or.inl ⟨_, rfl⟩)) rfl rfl rfl rfl rfl rfl (fO (fO (fO (S.ob rfl)))) rfl (tk_29 (s := s) (((S.po rfl rfl).po rfl rfl).po rfl rfl) (ax_put_o (Or.inr (by decide)) (ax_put_o (Or.inr (by decide)) (ax_put_s _ _ _)))) rfl ?_
  exact fx_reti rfl rfl rfl
theorem lf_a (hb : tz_r b) (hL : L ≤ 1600) (C : lC h h0 q b L p Φ) (hn : n ≤ 6) (t0 : tz_t b L p s e k v) (q0 : k ≠ 0) (hl : l < 6) (q1 : cl_l b s e k l) (q2 : bt t l = true) : am_ev (d + 8) 76 8 [.ref q, .ref 41, .int t, iv ((n : Int)), a4] [] h  (some (iv 0), FL (T1 h s e k) 3 s) := by
  obtain ⟨S, B, w1, v6, f3, f4, sz, O, hq, fr, F, F2⟩ := C
  have f0 := t0.f5 hb
  refine am_ev.step (pc' := 9) rfl rfl ?_
  refine fx_bip (p' := 11) rfl rfl rfl ?_
  refine fx_c_gt_F (pF := 14) rfl (by omega) (by omega) rfl (by omega) ?_
  refine am_ev.step (pc' := 15) rfl rfl ?_
  refine ax_call (z := 21) (p' := 18) (as := [_]) rfl (Or.inr (Or.inl ⟨_, rfl⟩)) rfl rfl rfl rfl rfl rfl (S.ob rfl) rfl (tk_21w S B hb hL w1 v6 t0) rfl ?_
  refine am_ev.step (pc' := 19) rfl rfl ?_
  refine ax_gf (p' := 22) rfl rfl (fO (fO (fO (S.ob rfl)))) (ax_put_s _ _ _) ?_
  refine fx_z_ne_T (pT := 27) rfl (by omega) rfl (by omega) ?_
  refine am_ev.step (pc' := 28) rfl rfl ?_
  refine ax_call (z := 77) (p' := 31) (as := [_]) rfl (Or.inl ⟨_, rfl⟩) rfl rfl rfl rfl rfl rfl rfl rfl (le_77 (((S.po rfl rfl).po rfl rfl).po rfl rfl) (((B.put (by decide)).put (by decide)).put (by decide)) hb hL (ax_put_o (Or.inr (by decide)) (ax_put_o (Or.inr (by decide)) (ax_put_o (Or.inr (by decide)) w1))) (ax_put_s _ _ _) (ax_put_o (Or.inr (by decide)) (ax_put_o (Or.inr (by decide)) (ax_put_s _ _ _))) (ax_put_o (Or.inr (by decide)) (ax_put_s _ _ _)) t0 q1) rfl ?_
  refine am_ev.step (pc' := 33) (ls' := [.ref q, .ref 41, .int t, iv ((n : Int)), iv ((l : Int))]) rfl rfl ?_
  refine am_ev.step (pc' := 35) rfl rfl ?_
  refine am_ev.step (pc' := 36) rfl rfl ?_
  refine fx_c_ne_T (pT := 45) rfl (by omega) (by omega) rfl (by omega) ?_
  refine am_ev.step (pc' := 46) rfl rfl ?_
  refine am_ev.step (pc' := 48) rfl rfl ?_
  refine ax_call (z := 31) (p' := 51) (as := [_, _]) rfl (Or.inl ⟨_, rfl⟩) rfl rfl rfl rfl rfl rfl rfl rfl ((tk_31 (c := l) (by omega)).1 q2) rfl ?_
  refine fx_z_eq_F (pF := 54) rfl (by omega) rfl (by omega) ?_
  refine am_ev.step (pc' := 55) rfl rfl ?_
  refine am_ev.step (pc' := 56) rfl rfl ?_
  refine ax_call (z := 29) (p' := 59) (as := [_, _]) rfl (Or.inr (Or.inl ⟨_, rfl⟩)) rfl rfl rfl rfl rfl rfl (fO (fO (fO (S.ob rfl)))) rfl (tk_29 (s := s) (((S.po rfl rfl).po rfl rfl).po rfl rfl) (ax_put_o (Or.inr (by decide)) (ax_put_o (Or.inr (by decide)) (ax_put_s _ _ _)))) rfl ?_
  exact fx_reti rfl rfl rfl
theorem lf_f (hb : tz_r b) (hL : L ≤ 1600) (C : lC h h0 q b L p Φ) (hn : n ≤ 6) (t0 : tz_t b L p s e k v) (q0 : k ≠ 0) (hl : l < 6) (q1 : cl_l b s e k l) (q2 : bt t l = false) (z : am_ev (d + 7) 78 0 (am_ent [.ref q, iv l, .ref 41] 3) [] (T1 h s e k) (some (iv 0), H)) : am_ev (d + 8) 76 8 [.ref q, .ref 41, .int t, iv ((n : Int)), a4] [] h  (some (iv 0), H) := by
  obtain ⟨S, B, w1, v6, f3, f4, sz, O, hq, fr, F, F2⟩ := C
  have f0 := t0.f5 hb
  refine am_ev.step (pc' := 9) rfl rfl ?_
  refine fx_bip (p' := 11) rfl rfl rfl ?_
  refine fx_c_gt_F (pF := 14) rfl (by omega) (by omega) rfl (by omega) ?_
  refine am_ev.step (pc' := 15) rfl rfl ?_
  refine ax_call (z := 21) (p' := 18) (as := [_]) rfl (Or.inr (Or.inl ⟨_, rfl⟩)) rfl rfl rfl rfl rfl rfl (S.ob rfl) rfl (tk_21w S B hb hL w1 v6 t0) rfl ?_
  refine am_ev.step (pc' := 19) rfl rfl ?_
  refine ax_gf (p' := 22) rfl rfl (fO (fO (fO (S.ob rfl)))) (ax_put_s _ _ _) ?_
  refine fx_z_ne_T (pT := 27) rfl (by omega) rfl (by omega) ?_
  refine am_ev.step (pc' := 28) rfl rfl ?_
  refine ax_call (z := 77) (p' := 31) (as := [_]) rfl (Or.inl ⟨_, rfl⟩) rfl rfl rfl rfl rfl rfl rfl rfl (le_77 (((S.po rfl rfl).po rfl rfl).po rfl rfl) (((B.put (by decide)).put (by decide)).put (by decide)) hb hL (ax_put_o (Or.inr (by decide)) (ax_put_o (Or.inr (by decide)) (ax_put_o (Or.inr (by decide)) w1))) (ax_put_s _ _ _) (ax_put_o (Or.inr (by decide)) (ax_put_o (Or.inr (by decide)) (ax_put_s _ _ _))) (ax_put_o (Or.inr (by decide)) (ax_put_s _ _ _)) t0 q1) rfl ?_
  refine am_ev.step (pc' := 33) (ls' := [.ref q, .ref 41, .int t, iv ((n : Int)), iv ((l : Int))]) rfl rfl ?_
  refine am_ev.step (pc' := 35) rfl rfl ?_
  refine am_ev.step (pc' := 36) rfl rfl ?_
  refine fx_c_ne_T (pT := 45) rfl (by omega) (by omega) rfl (by omega) ?_
  refine am_ev.step (pc' := 46) rfl rfl ?_
  refine am_ev.step (pc' := 48) rfl rfl ?_
  refine ax_call (z := 31) (p' := 51) (as := [_, _]) rfl (Or.inl ⟨_, rfl⟩) rfl rfl rfl rfl rfl rfl rfl rfl ((tk_31 (c := l) (by omega)).2 q2) rfl ?_
  refine fx_z_eq_T (pT := 60) rfl (by omega) rfl (by omega) ?_
  refine am_ev.step (pc' := 61) rfl rfl ?_
  refine am_ev.step (pc' := 62) rfl rfl ?_
  refine am_ev.step (pc' := 64) rfl rfl ?_
  refine am_ev.step (pc' := 65) rfl rfl ?_
  refine am_ev.step (pc' := 66) rfl rfl ?_
  refine am_ev.step (pc' := 67) (ls' := [.ref q, .ref 41, .int (t ||| ((Int32.ofInt 1) <<< ((Int32.ofInt ((l : Int))) &&& 31))), iv ((n : Int)), iv ((l : Int))]) rfl rfl ?_
  refine am_ev.step (pc' := 68) rfl rfl ?_
  refine am_ev.step (pc' := 70) rfl rfl ?_
  refine am_ev.step (pc' := 71) rfl rfl ?_
  refine ax_call (z := 78) (p' := 74) (as := [_, _, _]) rfl (Or.inr (Or.inl ⟨_, rfl⟩)) rfl rfl rfl rfl rfl rfl (fO (fO (fO O))) rfl z rfl ?_
  refine fx_z_ne_F (pF := 77) rfl (by omega) rfl (by omega) ?_
  refine am_ev.step (pc' := 78) rfl rfl ?_
  exact fx_reti rfl rfl rfl
theorem lf_n (hb : tz_r b) (hL : L ≤ 1600) (C : lC h h0 q b L p Φ) (hn : n ≤ 6) (t0 : tz_t b L p s e k v) (q0 : k ≠ 0) (hl : l < 6) (q1 : cl_l b s e k l) (q2 : bt t l = false) (z : am_ev (d + 7) 78 0 (am_ent [.ref q, iv l, .ref 41] 3) [] (T1 h s e k) (some (iv 1), H)) {x : Option Value × am_H} (q9 : am_ev (d + 8) 76 8 [.ref q, .ref 41, .int (t ||| ((Int32.ofInt 1) <<< ((Int32.ofInt ((l : Int))) &&& 31))), iv ((n : Int) + 1), iv ((l : Int))] [] H x) : am_ev (d + 8) 76 8 [.ref q, .ref 41, .int t, iv ((n : Int)), a4] [] h  x := by
  obtain ⟨S, B, w1, v6, f3, f4, sz, O, hq, fr, F, F2⟩ := C
  have f0 := t0.f5 hb
  refine am_ev.step (pc' := 9) rfl rfl ?_
  refine fx_bip (p' := 11) rfl rfl rfl ?_
  refine fx_c_gt_F (pF := 14) rfl (by omega) (by omega) rfl (by omega) ?_
  refine am_ev.step (pc' := 15) rfl rfl ?_
  refine ax_call (z := 21) (p' := 18) (as := [_]) rfl (Or.inr (Or.inl ⟨_, rfl⟩)) rfl rfl rfl rfl rfl rfl (S.ob rfl) rfl (tk_21w S B hb hL w1 v6 t0) rfl ?_
  refine am_ev.step (pc' := 19) rfl rfl ?_
  refine ax_gf (p' := 22) rfl rfl (fO (fO (fO (S.ob rfl)))) (ax_put_s _ _ _) ?_
  refine fx_z_ne_T (pT := 27) rfl (by omega) rfl (by omega) ?_
  refine am_ev.step (pc' := 28) rfl rfl ?_
  refine ax_call (z := 77) (p' := 31) (as := [_]) rfl (Or.inl ⟨_, rfl⟩) rfl rfl rfl rfl rfl rfl rfl rfl (le_77 (((S.po rfl rfl).po rfl rfl).po rfl rfl) (((B.put (by decide)).put (by decide)).put (by decide)) hb hL (ax_put_o (Or.inr (by decide)) (ax_put_o (Or.inr (by decide)) (ax_put_o (Or.inr (by decide)) w1))) (ax_put_s _ _ _) (ax_put_o (Or.inr (by decide)) (ax_put_o (Or.inr (by decide)) (ax_put_s _ _ _))) (ax_put_o (Or.inr (by decide)) (ax_put_s _ _ _)) t0 q1) rfl ?_
  refine am_ev.step (pc' := 33) (ls' := [.ref q, .ref 41, .int t, iv ((n : Int)), iv ((l : Int))]) rfl rfl ?_
  refine am_ev.step (pc' := 35) rfl rfl ?_
  refine am_ev.step (pc' := 36) rfl rfl ?_
  refine fx_c_ne_T (pT := 45) rfl (by omega) (by omega) rfl (by omega) ?_
  refine am_ev.step (pc' := 46) rfl rfl ?_
  refine am_ev.step (pc' := 48) rfl rfl ?_
  refine ax_call (z := 31) (p' := 51) (as := [_, _]) rfl (Or.inl ⟨_, rfl⟩) rfl rfl rfl rfl rfl rfl rfl rfl ((tk_31 (c := l) (by omega)).2 q2) rfl ?_
  refine fx_z_eq_T (pT := 60) rfl (by omega) rfl (by omega) ?_
  refine am_ev.step (pc' := 61) rfl rfl ?_
  refine am_ev.step (pc' := 62) rfl rfl ?_
  refine am_ev.step (pc' := 64) rfl rfl ?_
  refine am_ev.step (pc' := 65) rfl rfl ?_
  refine am_ev.step (pc' := 66) rfl rfl ?_
  refine am_ev.step (pc' := 67) (ls' := [.ref q, .ref 41, .int (t ||| ((Int32.ofInt 1) <<< ((Int32.ofInt ((l : Int))) &&& 31))), iv ((n : Int)), iv ((l : Int))]) rfl rfl ?_
  refine am_ev.step (pc' := 68) rfl rfl ?_
  refine am_ev.step (pc' := 70) rfl rfl ?_
  refine am_ev.step (pc' := 71) rfl rfl ?_
  refine ax_call (z := 78) (p' := 74) (as := [_, _, _]) rfl (Or.inr (Or.inl ⟨_, rfl⟩)) rfl rfl rfl rfl rfl rfl (fO (fO (fO O))) rfl z rfl ?_
  refine fx_z_ne_T (pT := 79) rfl (by omega) rfl (by omega) ?_
  refine fx_inc (p' := 82) (e := ((n : Int) + 1)) (ls' := [.ref q, .ref 41, .int (t ||| ((Int32.ofInt 1) <<< ((Int32.ofInt ((l : Int))) &&& 31))), iv ((n : Int) + 1), iv ((l : Int))]) rfl rfl rfl (by omega) rfl ?_
  refine am_ev.step (pc' := 8) rfl rfl ?_
  exact q9
end LF1
/-! LEAVES: clauses, the other side -/
section LF2
variable {d : Nat} {h h0 G M M' : am_H} {b : Nat → Int} {L p s e s1 e1 s2 e2 s3 e3 l n : Nat} {k k1 k2 k3 v v1 v2 v3 w r : Int} {t : Int32} {Φ : Nat → Value} {τ : Nat → Int} {a1 : Value}
theorem lg_212 {x : Option Value × am_H} (q9 : am_ev d 212 2 [.ref 78, iv r, .int (Int32.ofInt 0), am_ph] [] h x) : am_ev d 212 0 (am_ent [.ref 78, iv r] 4) [] h x := by
  show am_ev d 212 0 [.ref 78, iv r, am_ph, am_ph] [] h x
  refine am_ev.step (pc' := 1) rfl rfl ?_
  refine am_ev.step (pc' := 2) (ls' := [.ref 78, iv (r), iv 0, am_ph]) rfl rfl ?_
  exact q9
theorem lg_211_0n (S : fS G) (SM : fS M) (z : am_ev d 212 0 (am_ent [.ref 78, iv 6] 4) [] G (some (.int t), M)) : am_ev (d + 1) 211 0 (am_ent [.ref 78, iv 0] 2) [] G (none, am_put M 104 80 (.int t)) := by
  show am_ev (d + 1) 211 0 [.ref 78, iv 0] [] G _
  refine am_ev.step (pc' := 1) rfl rfl ?_
  refine fx_ts (p' := 36) rfl (by omega) (by omega) rfl (by decide) ?_
  refine am_ev.step (pc' := 37) rfl rfl ?_
  refine ax_gf (p' := 40) rfl rfl (S.ob rfl) (S.rf rfl rfl) ?_
  refine fx_bip (p' := 42) rfl rfl rfl ?_
  refine am_ev.step (pc' := 43) rfl rfl ?_
  refine fx_bip (p' := 45) rfl rfl rfl ?_
  refine ax_call (z := 212) (p' := 48) (as := [_, _]) rfl (Or.inr (Or.inl ⟨_, rfl⟩)) rfl rfl rfl rfl rfl rfl (S.ob rfl) rfl z rfl ?_
  refine ax_iastore (p' := 49) rfl rfl (SM.wr (k := 80) rfl rfl rfl rfl (by decide)) ?_
  refine am_ev.step (pc' := 256) rfl rfl ?_
  exact am_ev.retv rfl rfl
theorem lg_211_0t (S : fS G) (SM : fS M) (z : am_ev d 212 0 (am_ent [.ref 78, iv 6] 4) [] G (some (.retAddr (79 + 1)), M)) : am_ev (d + 1) 211 0 (am_ent [.ref 78, iv 0] 2) [] G (some (.retAddr (79 + 1)), M) := by
  show am_ev (d + 1) 211 0 [.ref 78, iv 0] [] G _
  refine am_ev.step (pc' := 1) rfl rfl ?_
  refine fx_ts (p' := 36) rfl (by omega) (by omega) rfl (by decide) ?_
  refine am_ev.step (pc' := 37) rfl rfl ?_
  refine ax_gf (p' := 40) rfl rfl (S.ob rfl) (S.rf rfl rfl) ?_
  refine fx_bip (p' := 42) rfl rfl rfl ?_
  refine am_ev.step (pc' := 43) rfl rfl ?_
  refine fx_bip (p' := 45) rfl rfl rfl ?_
  refine ax_callT (a := 79) (z := 212) (as := [_, _]) rfl (Or.inr (Or.inl ⟨_, rfl⟩)) rfl rfl rfl rfl rfl rfl (S.ob rfl) z rfl rfl (SM.ob rfl) rfl
theorem lg_211_3n (S : fS G) (SM : fS M) (z : am_ev d 212 0 (am_ent [.ref 78, iv 20] 4) [] G (some (.int t), M)) : am_ev (d + 1) 211 0 (am_ent [.ref 78, iv 3] 2) [] G (none, am_put M 108 80 (.int t)) := by
  show am_ev (d + 1) 211 0 [.ref 78, iv 3] [] G _
  refine am_ev.step (pc' := 1) rfl rfl ?_
  refine fx_ts (p' := 158) rfl (by omega) (by omega) rfl (by decide) ?_
  refine am_ev.step (pc' := 159) rfl rfl ?_
  refine ax_gf (p' := 162) rfl rfl (S.ob rfl) (S.rf rfl rfl) ?_
  refine fx_bip (p' := 164) rfl rfl rfl ?_
  refine am_ev.step (pc' := 165) rfl rfl ?_
  refine fx_bip (p' := 167) rfl rfl rfl ?_
  refine ax_call (z := 212) (p' := 170) (as := [_, _]) rfl (Or.inr (Or.inl ⟨_, rfl⟩)) rfl rfl rfl rfl rfl rfl (S.ob rfl) rfl z rfl ?_
  refine ax_iastore (p' := 171) rfl rfl (SM.wr (k := 80) rfl rfl rfl rfl (by decide)) ?_
  refine am_ev.step (pc' := 256) rfl rfl ?_
  exact am_ev.retv rfl rfl
theorem lg_211_3t (S : fS G) (SM : fS M) (z : am_ev d 212 0 (am_ent [.ref 78, iv 20] 4) [] G (some (.retAddr (79 + 1)), M)) : am_ev (d + 1) 211 0 (am_ent [.ref 78, iv 3] 2) [] G (some (.retAddr (79 + 1)), M) := by
  show am_ev (d + 1) 211 0 [.ref 78, iv 3] [] G _
  refine am_ev.step (pc' := 1) rfl rfl ?_
  refine fx_ts (p' := 158) rfl (by omega) (by omega) rfl (by decide) ?_
  refine am_ev.step (pc' := 159) rfl rfl ?_
  refine ax_gf (p' := 162) rfl rfl (S.ob rfl) (S.rf rfl rfl) ?_
  refine fx_bip (p' := 164) rfl rfl rfl ?_
  refine am_ev.step (pc' := 165) rfl rfl ?_
  refine fx_bip (p' := 167) rfl rfl rfl ?_
  refine ax_callT (a := 79) (z := 212) (as := [_, _]) rfl (Or.inr (Or.inl ⟨_, rfl⟩)) rfl rfl rfl rfl rfl rfl (S.ob rfl) z rfl rfl (SM.ob rfl) rfl
theorem lg_211_1a (hb : tz_r b) (hL : L ≤ 1600) (C : lM h h0 b L p s e k v w τ Φ) (q1 : k ≠ 2) : am_ev (d + 6) 211 0 (am_ent [.ref 78, iv 1] 2) [] h (some (.retAddr (79 + 1)), (am_put (am_put h 78 8 (iv 1)) 78 9 (iv ((s : Int))))) := by
  obtain ⟨S, B, w3, t0, w4, w5, w6, w7, ya, yb, f8, f9, zt, dT, F, fr⟩ := C
  have f0 := t0.f5 hb
  clear ya yb
  show am_ev (d + 6) 211 0 [.ref 78, iv 1] [] h _
  refine am_ev.step (pc' := 1) rfl rfl ?_
  refine fx_ts (p' := 52) rfl (by omega) (by omega) rfl (by decide) ?_
  refine am_ev.step (pc' := 53) rfl rfl ?_
  refine ax_gf (p' := 56) rfl rfl (S.ob rfl) (S.rf rfl rfl) ?_
  refine fx_bip (p' := 58) rfl rfl rfl ?_
  refine am_ev.step (pc' := 59) rfl rfl ?_
  refine am_ev.step (pc' := 60) rfl rfl ?_
  refine fx_sip (p' := 63) rfl rfl rfl ?_
  refine ax_callT (a := 79) (z := 179) (as := [_, _, _]) rfl (Or.inr (Or.inl ⟨_, rfl⟩)) rfl rfl rfl rfl rfl rfl (S.ob rfl) (md_179a (lo := 0) (hi := 29999) (k := k) (s := s) S w4 w6 (by omega) (by omega) (by omega)) rfl rfl (fO (fO (S.ob rfl))) rfl
theorem lg_211_1b (hb : tz_r b) (hL : L ≤ 1600) (C : lM h h0 b L p s e k v w τ Φ) (q1 : k = 2) (q2 : ¬ (0 ≤ v ∧ v ≤ 29999)) : am_ev (d + 6) 211 0 (am_ent [.ref 78, iv 1] 2) [] h (some (.retAddr (79 + 1)), (am_put (am_put h 78 8 (iv 2)) 78 9 (iv ((s : Int))))) := by
  obtain ⟨S, B, w3, t0, w4, w5, w6, w7, ya, yb, f8, f9, zt, dT, F, fr⟩ := C
  have f0 := t0.f5 hb
  have y0 := ya q1
  have u0 := t0.bd hb q1
  clear ya yb
  show am_ev (d + 6) 211 0 [.ref 78, iv 1] [] h _
  refine am_ev.step (pc' := 1) rfl rfl ?_
  refine fx_ts (p' := 52) rfl (by omega) (by omega) rfl (by decide) ?_
  refine am_ev.step (pc' := 53) rfl rfl ?_
  refine ax_gf (p' := 56) rfl rfl (S.ob rfl) (S.rf rfl rfl) ?_
  refine fx_bip (p' := 58) rfl rfl rfl ?_
  refine am_ev.step (pc' := 59) rfl rfl ?_
  refine am_ev.step (pc' := 60) rfl rfl ?_
  refine fx_sip (p' := 63) rfl rfl rfl ?_
  refine ax_callT (a := 79) (z := 179) (as := [_, _, _]) rfl (Or.inr (Or.inl ⟨_, rfl⟩)) rfl rfl rfl rfl rfl rfl (S.ob rfl) (md_179b (lo := 0) (hi := 29999) (k := k) (s := s) S w4 w6 (by omega) (by omega) w7 (by omega) (by omega)) rfl rfl (fO (fO (S.ob rfl))) rfl
theorem lg_211_1c (hb : tz_r b) (hL : L ≤ 1600) (C : lM h h0 b L p s e k v w τ Φ) (q1 : k = 2) (q2 : 0 ≤ v ∧ v ≤ 29999) (t1 : tz_t b L e s1 e1 k1 v1) : am_ev (d + 6) 211 0 (am_ent [.ref 78, iv 1] 2) [] h (none, (am_put (am_put (am_put (am_put (am_put h 78 4 (iv ((s1 : Int)))) 78 7 (iv ((tV b L s1 (w))))) 78 5 (iv ((e1 : Int)))) 78 6 (iv ((tH k1)))) 105 80 (iv (w)))) := by
  obtain ⟨S, B, w3, t0, w4, w5, w6, w7, ya, yb, f8, f9, zt, dT, F, fr⟩ := C
  have f0 := t0.f5 hb
  have y0 := ya q1
  have u0 := t0.bd hb q1
  clear ya yb
  show am_ev (d + 6) 211 0 [.ref 78, iv 1] [] h _
  refine am_ev.step (pc' := 1) rfl rfl ?_
  refine fx_ts (p' := 52) rfl (by omega) (by omega) rfl (by decide) ?_
  refine am_ev.step (pc' := 53) rfl rfl ?_
  refine ax_gf (p' := 56) rfl rfl (S.ob rfl) (S.rf rfl rfl) ?_
  refine fx_bip (p' := 58) rfl rfl rfl ?_
  refine am_ev.step (pc' := 59) rfl rfl ?_
  refine am_ev.step (pc' := 60) rfl rfl ?_
  refine fx_sip (p' := 63) rfl rfl rfl ?_
  refine ax_call (z := 179) (p' := 66) (as := [_, _, _]) rfl (Or.inr (Or.inl ⟨_, rfl⟩)) rfl rfl rfl rfl rfl rfl (S.ob rfl) rfl (md_179c (lo := 0) (hi := 29999) (k := k) (s := s) S w4 w6 (by omega) (by omega) w7 (by omega) B hb hL w3 w5 t1 (by omega)) rfl ?_
  refine ax_iastore (p' := 67) rfl rfl (((((S.po rfl rfl).po rfl rfl).po rfl rfl).po rfl rfl).wr (k := 80) rfl rfl rfl rfl (by decide)) ?_
  refine am_ev.step (pc' := 256) rfl rfl ?_
  exact am_ev.retv rfl rfl
theorem lg_211_4a (hb : tz_r b) (hL : L ≤ 1600) (C : lM h h0 b L p s e k v w τ Φ) (q1 : k ≠ 2) : am_ev (d + 6) 211 0 (am_ent [.ref 78, iv 4] 2) [] h (some (.retAddr (79 + 1)), (am_put (am_put h 78 8 (iv 1)) 78 9 (iv ((s : Int))))) := by
  obtain ⟨S, B, w3, t0, w4, w5, w6, w7, ya, yb, f8, f9, zt, dT, F, fr⟩ := C
  have f0 := t0.f5 hb
  clear ya yb
  show am_ev (d + 6) 211 0 [.ref 78, iv 4] [] h _
  refine am_ev.step (pc' := 1) rfl rfl ?_
  refine fx_ts (p' := 174) rfl (by omega) (by omega) rfl (by decide) ?_
  refine am_ev.step (pc' := 175) rfl rfl ?_
  refine ax_gf (p' := 178) rfl rfl (S.ob rfl) (S.rf rfl rfl) ?_
  refine fx_bip (p' := 180) rfl rfl rfl ?_
  refine am_ev.step (pc' := 181) rfl rfl ?_
  refine am_ev.step (pc' := 182) rfl rfl ?_
  refine am_ev.step (pc' := 183) rfl rfl ?_
  refine ax_callT (a := 79) (z := 179) (as := [_, _, _]) rfl (Or.inr (Or.inl ⟨_, rfl⟩)) rfl rfl rfl rfl rfl rfl (S.ob rfl) (md_179a (lo := 0) (hi := 2) (k := k) (s := s) S w4 w6 (by omega) (by omega) (by omega)) rfl rfl (fO (fO (S.ob rfl))) rfl
theorem lg_211_4b (hb : tz_r b) (hL : L ≤ 1600) (C : lM h h0 b L p s e k v w τ Φ) (q1 : k = 2) (q2 : ¬ (0 ≤ v ∧ v ≤ 2)) : am_ev (d + 6) 211 0 (am_ent [.ref 78, iv 4] 2) [] h (some (.retAddr (79 + 1)), (am_put (am_put h 78 8 (iv 2)) 78 9 (iv ((s : Int))))) := by
  obtain ⟨S, B, w3, t0, w4, w5, w6, w7, ya, yb, f8, f9, zt, dT, F, fr⟩ := C
  have f0 := t0.f5 hb
  have y0 := ya q1
  have u0 := t0.bd hb q1
  clear ya yb
  show am_ev (d + 6) 211 0 [.ref 78, iv 4] [] h _
  refine am_ev.step (pc' := 1) rfl rfl ?_
  refine fx_ts (p' := 174) rfl (by omega) (by omega) rfl (by decide) ?_
  refine am_ev.step (pc' := 175) rfl rfl ?_
  refine ax_gf (p' := 178) rfl rfl (S.ob rfl) (S.rf rfl rfl) ?_
  refine fx_bip (p' := 180) rfl rfl rfl ?_
  refine am_ev.step (pc' := 181) rfl rfl ?_
  refine am_ev.step (pc' := 182) rfl rfl ?_
  refine am_ev.step (pc' := 183) rfl rfl ?_
  refine ax_callT (a := 79) (z := 179) (as := [_, _, _]) rfl (Or.inr (Or.inl ⟨_, rfl⟩)) rfl rfl rfl rfl rfl rfl (S.ob rfl) (md_179b (lo := 0) (hi := 2) (k := k) (s := s) S w4 w6 (by omega) (by omega) w7 (by omega) (by omega)) rfl rfl (fO (fO (S.ob rfl))) rfl
theorem lg_211_4c (hb : tz_r b) (hL : L ≤ 1600) (C : lM h h0 b L p s e k v w τ Φ) (q1 : k = 2) (q2 : 0 ≤ v ∧ v ≤ 2) (t1 : tz_t b L e s1 e1 k1 v1) : am_ev (d + 6) 211 0 (am_ent [.ref 78, iv 4] 2) [] h (none, (am_put (am_put (am_put (am_put (am_put h 78 4 (iv ((s1 : Int)))) 78 7 (iv ((tV b L s1 (w))))) 78 5 (iv ((e1 : Int)))) 78 6 (iv ((tH k1)))) 109 80 (iv (w)))) := by
  obtain ⟨S, B, w3, t0, w4, w5, w6, w7, ya, yb, f8, f9, zt, dT, F, fr⟩ := C
  have f0 := t0.f5 hb
  have y0 := ya q1
  have u0 := t0.bd hb q1
  clear ya yb
  show am_ev (d + 6) 211 0 [.ref 78, iv 4] [] h _
  refine am_ev.step (pc' := 1) rfl rfl ?_
  refine fx_ts (p' := 174) rfl (by omega) (by omega) rfl (by decide) ?_
  refine am_ev.step (pc' := 175) rfl rfl ?_
  refine ax_gf (p' := 178) rfl rfl (S.ob rfl) (S.rf rfl rfl) ?_
  refine fx_bip (p' := 180) rfl rfl rfl ?_
  refine am_ev.step (pc' := 181) rfl rfl ?_
  refine am_ev.step (pc' := 182) rfl rfl ?_
  refine am_ev.step (pc' := 183) rfl rfl ?_
  refine ax_call (z := 179) (p' := 186) (as := [_, _, _]) rfl (Or.inr (Or.inl ⟨_, rfl⟩)) rfl rfl rfl rfl rfl rfl (S.ob rfl) rfl (md_179c (lo := 0) (hi := 2) (k := k) (s := s) S w4 w6 (by omega) (by omega) w7 (by omega) B hb hL w3 w5 t1 (by omega)) rfl ?_
  refine ax_iastore (p' := 187) rfl rfl (((((S.po rfl rfl).po rfl rfl).po rfl rfl).po rfl rfl).wr (k := 80) rfl rfl rfl rfl (by decide)) ?_
  refine am_ev.step (pc' := 256) rfl rfl ?_
  exact am_ev.retv rfl rfl
theorem lg_211_2a (hb : tz_r b) (hL : L ≤ 1600) (C : lM h h0 b L p s e k v w τ Φ) (q1 : k ≠ 2) : am_ev (d + 6) 211 0 (am_ent [.ref 78, iv 2] 2) [] h (some (.retAddr (79 + 1)), (am_put (am_put h 78 8 (iv 1)) 78 9 (iv ((s : Int))))) := by
  obtain ⟨S, B, w3, t0, w4, w5, w6, w7, ya, yb, f8, f9, zt, dT, F, fr⟩ := C
  have f0 := t0.f5 hb
  clear ya yb
  show am_ev (d + 6) 211 0 [.ref 78, iv 2] [] h _
  refine am_ev.step (pc' := 1) rfl rfl ?_
  refine fx_ts (p' := 70) rfl (by omega) (by omega) rfl (by decide) ?_
  refine am_ev.step (pc' := 71) rfl rfl ?_
  refine ax_gf (p' := 74) rfl rfl (S.ob rfl) (S.rf rfl rfl) ?_
  refine fx_bip (p' := 76) rfl rfl rfl ?_
  refine am_ev.step (pc' := 77) rfl rfl ?_
  refine am_ev.step (pc' := 78) rfl rfl ?_
  refine fx_sip (p' := 81) rfl rfl rfl ?_
  refine ax_callT (a := 79) (z := 179) (as := [_, _, _]) rfl (Or.inr (Or.inl ⟨_, rfl⟩)) rfl rfl rfl rfl rfl rfl (S.ob rfl) (md_179a (lo := 0) (hi := 9999) (k := k) (s := s) S w4 w6 (by omega) (by omega) (by omega)) rfl rfl (fO (fO (S.ob rfl))) rfl
theorem lg_211_2b (hb : tz_r b) (hL : L ≤ 1600) (C : lM h h0 b L p s e k v w τ Φ) (q1 : k = 2) (q2 : ¬ (0 ≤ v ∧ v ≤ 9999)) : am_ev (d + 6) 211 0 (am_ent [.ref 78, iv 2] 2) [] h (some (.retAddr (79 + 1)), (am_put (am_put h 78 8 (iv 2)) 78 9 (iv ((s : Int))))) := by
  obtain ⟨S, B, w3, t0, w4, w5, w6, w7, ya, yb, f8, f9, zt, dT, F, fr⟩ := C
  have f0 := t0.f5 hb
  have y0 := ya q1
  have u0 := t0.bd hb q1
  clear ya yb
  show am_ev (d + 6) 211 0 [.ref 78, iv 2] [] h _
  refine am_ev.step (pc' := 1) rfl rfl ?_
  refine fx_ts (p' := 70) rfl (by omega) (by omega) rfl (by decide) ?_
  refine am_ev.step (pc' := 71) rfl rfl ?_
  refine ax_gf (p' := 74) rfl rfl (S.ob rfl) (S.rf rfl rfl) ?_
  refine fx_bip (p' := 76) rfl rfl rfl ?_
  refine am_ev.step (pc' := 77) rfl rfl ?_
  refine am_ev.step (pc' := 78) rfl rfl ?_
  refine fx_sip (p' := 81) rfl rfl rfl ?_
  refine ax_callT (a := 79) (z := 179) (as := [_, _, _]) rfl (Or.inr (Or.inl ⟨_, rfl⟩)) rfl rfl rfl rfl rfl rfl (S.ob rfl) (md_179b (lo := 0) (hi := 9999) (k := k) (s := s) S w4 w6 (by omega) (by omega) w7 (by omega) (by omega)) rfl rfl (fO (fO (S.ob rfl))) rfl
theorem lg_211_2x (hb : tz_r b) (hL : L ≤ 1600) (C : lM h h0 b L p s e k v w τ Φ) (q1 : k = 2) (q2 : 0 ≤ v ∧ v ≤ 9999) (t1 : tz_t b L e s1 e1 k1 v1) (qf : cl_f b s1 e1 k1 (-1)) : am_ev (d + 6) 211 0 (am_ent [.ref 78, iv 2] 2) [] h (some (.retAddr (79 + 1)), (am_put (am_put (am_put (am_put (am_put (am_put (am_put (am_put h 78 4 (iv ((s1 : Int)))) 78 7 (iv ((tV b L s1 (w))))) 78 5 (iv ((e1 : Int)))) 78 6 (iv ((tH k1)))) 106 80 (iv (w))) 107 80 (iv 2)) 78 8 (iv 1)) 78 9 (iv ((s1 : Int))))) := by
  obtain ⟨S, B, w3, t0, w4, w5, w6, w7, ya, yb, f8, f9, zt, dT, F, fr⟩ := C
  have f0 := t0.f5 hb
  have y0 := ya q1
  have u0 := t0.bd hb q1
  clear ya yb
  have f1 := t1.f5 hb
  show am_ev (d + 6) 211 0 [.ref 78, iv 2] [] h _
  refine am_ev.step (pc' := 1) rfl rfl ?_
  refine fx_ts (p' := 70) rfl (by omega) (by omega) rfl (by decide) ?_
  refine am_ev.step (pc' := 71) rfl rfl ?_
  refine ax_gf (p' := 74) rfl rfl (S.ob rfl) (S.rf rfl rfl) ?_
  refine fx_bip (p' := 76) rfl rfl rfl ?_
  refine am_ev.step (pc' := 77) rfl rfl ?_
  refine am_ev.step (pc' := 78) rfl rfl ?_
  refine fx_sip (p' := 81) rfl rfl rfl ?_
  refine ax_call (z := 179) (p' := 84) (as := [_, _, _]) rfl (Or.inr (Or.inl ⟨_, rfl⟩)) rfl rfl rfl rfl rfl rfl (S.ob rfl) rfl (md_179c (lo := 0) (hi := 9999) (k := k) (s := s) S w4 w6 (by omega) (by omega) w7 (by omega) B hb hL w3 w5 t1 (by omega)) rfl ?_
  refine ax_iastore (p' := 85) rfl rfl (((((S.po rfl rfl).po rfl rfl).po rfl rfl).po rfl rfl).wr (k := 80) rfl rfl rfl rfl (by decide)) ?_
  refine am_ev.step (pc' := 86) rfl rfl ?_
  refine ax_gf (p' := 89) rfl rfl (fO (fO (fO (fO (fO (S.ob rfl)))))) (ax_put_o (Or.inl (by decide)) (ax_put_o (Or.inr (by decide)) (ax_put_o (Or.inr (by decide)) (ax_put_o (Or.inr (by decide)) (ax_put_o (Or.inr (by decide)) (S.rf rfl rfl)))))) ?_
  refine fx_bip (p' := 91) rfl rfl rfl ?_
  refine am_ev.step (pc' := 92) rfl rfl ?_
  refine am_ev.ldcw rfl rfl rfl rfl ?_
  refine ax_call (z := 175) (p' := 98) (as := [_, _]) rfl (Or.inr (Or.inl ⟨_, rfl⟩)) rfl rfl rfl rfl rfl rfl (fO (fO (fO (fO (fO (S.ob rfl)))))) rfl ((tk_175 (i := 8) (k := k1) (s := s1) (e := e1) (by decide) (((((S.po rfl rfl).po rfl rfl).po rfl rfl).po rfl rfl).pa rfl) (((((B.put (by decide)).put (by decide)).put (by decide)).put (by decide)).put (by decide)) hb hL (ax_put_o (Or.inl (by decide)) (ax_put_s _ _ _)) (ax_put_o (Or.inl (by decide)) (ax_put_o (Or.inr (by decide)) (ax_put_o (Or.inr (by decide)) (ax_put_o (Or.inr (by decide)) (ax_put_s _ _ _))))) (ax_put_o (Or.inl (by decide)) (ax_put_o (Or.inr (by decide)) (ax_put_s _ _ _))) ⟨(t1.f hb).2.1, (t1.f hb).2.2.1⟩ ⟨(t1.f hb).2.2.2.1, Int.le_trans (t1.f hb).2.2.2.2.1 (by decide)⟩).2 ((cl_f_w qf (n := 0) (by decide)).2 (by decide))) rfl ?_
  refine fx_z_eq_T (pT := 105) rfl (by omega) rfl (by omega) ?_
  refine am_ev.step (pc' := 106) rfl rfl ?_
  refine am_ev.ldc rfl rfl rfl rfl ?_
  refine ax_call (z := 175) (p' := 111) (as := [_, _]) rfl (Or.inr (Or.inl ⟨_, rfl⟩)) rfl rfl rfl rfl rfl rfl (fO (fO (fO (fO (fO (S.ob rfl)))))) rfl ((tk_175 (i := 10) (k := k1) (s := s1) (e := e1) (by decide) (((((S.po rfl rfl).po rfl rfl).po rfl rfl).po rfl rfl).pa rfl) (((((B.put (by decide)).put (by decide)).put (by decide)).put (by decide)).put (by decide)) hb hL (ax_put_o (Or.inl (by decide)) (ax_put_s _ _ _)) (ax_put_o (Or.inl (by decide)) (ax_put_o (Or.inr (by decide)) (ax_put_o (Or.inr (by decide)) (ax_put_o (Or.inr (by decide)) (ax_put_s _ _ _))))) (ax_put_o (Or.inl (by decide)) (ax_put_o (Or.inr (by decide)) (ax_put_s _ _ _))) ⟨(t1.f hb).2.1, (t1.f hb).2.2.1⟩ ⟨(t1.f hb).2.2.2.1, Int.le_trans (t1.f hb).2.2.2.2.1 (by decide)⟩).2 ((cl_f_w qf (n := 1) (by decide)).2 (by decide))) rfl ?_
  refine fx_z_eq_T (pT := 118) rfl (by omega) rfl (by omega) ?_
  refine am_ev.step (pc' := 119) rfl rfl ?_
  refine ax_iastore (p' := 120) rfl rfl ((((((S.po rfl rfl).po rfl rfl).po rfl rfl).po rfl rfl).pa rfl).wr (k := 80) rfl rfl rfl rfl (by decide)) ?_
  refine am_ev.step (pc' := 121) rfl rfl ?_
  refine am_ev.step (pc' := 122) rfl rfl ?_
  refine ax_gf (p' := 125) rfl rfl (fO (fO (fO (fO (fO (fO (S.ob rfl))))))) (ax_put_o (Or.inl (by decide)) (ax_put_o (Or.inl (by decide)) (ax_put_o (Or.inr (by decide)) (ax_put_o (Or.inr (by decide)) (ax_put_o (Or.inr (by decide)) (ax_put_o (Or.inr (by decide)) (S.rf rfl rfl))))))) ?_
  refine fx_bip (p' := 127) rfl rfl rfl ?_
  refine ax_iaload (p' := 128) rfl rfl (((((((S.po rfl rfl).po rfl rfl).po rfl rfl).po rfl rfl).pa rfl).pa rfl).rd (k := 80) rfl rfl rfl rfl rfl (by decide) (ax_put_s _ _ _)) ?_
  refine am_ev.step (pc' := 129) rfl rfl ?_
  refine fx_c_lt_F (pF := 132) rfl (by omega) (by omega) rfl (by omega) ?_
  refine am_ev.step (pc' := 133) rfl rfl ?_
  refine am_ev.ldcw rfl rfl rfl rfl ?_
  refine ax_call (z := 175) (p' := 139) (as := [_, _]) rfl (Or.inr (Or.inl ⟨_, rfl⟩)) rfl rfl rfl rfl rfl rfl (fO (fO (fO (fO (fO (fO (S.ob rfl))))))) rfl ((tk_175 (i := 0) (k := k1) (s := s1) (e := e1) (by decide) ((((((S.po rfl rfl).po rfl rfl).po rfl rfl).po rfl rfl).pa rfl).pa rfl) ((((((B.put (by decide)).put (by decide)).put (by decide)).put (by decide)).put (by decide)).put (by decide)) hb hL (ax_put_o (Or.inl (by decide)) (ax_put_o (Or.inl (by decide)) (ax_put_s _ _ _))) (ax_put_o (Or.inl (by decide)) (ax_put_o (Or.inl (by decide)) (ax_put_o (Or.inr (by decide)) (ax_put_o (Or.inr (by decide)) (ax_put_o (Or.inr (by decide)) (ax_put_s _ _ _)))))) (ax_put_o (Or.inl (by decide)) (ax_put_o (Or.inl (by decide)) (ax_put_o (Or.inr (by decide)) (ax_put_s _ _ _)))) ⟨(t1.f hb).2.1, (t1.f hb).2.2.1⟩ ⟨(t1.f hb).2.2.2.1, Int.le_trans (t1.f hb).2.2.2.2.1 (by decide)⟩).2 ((cl_f_w qf (n := 2) (by decide)).2 (by decide))) rfl ?_
  refine fx_z_eq_T (pT := 146) rfl (by omega) rfl (by omega) ?_
  refine am_ev.step (pc' := 147) rfl rfl ?_
  refine am_ev.step (pc' := 148) rfl rfl ?_
  refine ax_callT (a := 79) (z := 177) (as := [_, _, _]) rfl (Or.inr (Or.inl ⟨_, rfl⟩)) rfl rfl rfl rfl rfl rfl (fO (fO (fO (fO (fO (fO (S.ob rfl))))))) (md_177f (s := s1) ((((((S.po rfl rfl).po rfl rfl).po rfl rfl).po rfl rfl).pa rfl).pa rfl) (ax_put_o (Or.inl (by decide)) (ax_put_o (Or.inl (by decide)) (ax_put_o (Or.inr (by decide)) (ax_put_o (Or.inr (by decide)) (ax_put_o (Or.inr (by decide)) (ax_put_s _ _ _))))))) rfl rfl (fO (fO (fO (fO (fO (fO (fO (fO (S.ob rfl))))))))) rfl
theorem lg_211_2m0 (hb : tz_r b) (hL : L ≤ 1600) (C : lM h h0 b L p s e k v w τ Φ) (q1 : k = 2) (q2 : 0 ≤ v ∧ v ≤ 9999) (t1 : tz_t b L e s1 e1 k1 v1) (qf : cl_f b s1 e1 k1 ((0 : Nat) : Int)) (t2 : tz_t b L e1 s2 e2 k2 v2) : am_ev (d + 6) 211 0 (am_ent [.ref 78, iv 2] 2) [] h (none, (am_put (am_put (am_put (am_put (am_put (am_put (am_put (am_put (am_put (am_put h 78 4 (iv ((s1 : Int)))) 78 7 (iv ((tV b L s1 (w))))) 78 5 (iv ((e1 : Int)))) 78 6 (iv ((tH k1)))) 106 80 (iv (w))) 107 80 (iv 0)) 78 4 (iv ((s2 : Int)))) 78 7 (iv ((tV b L s2 ((tV b L s1 (w))))))) 78 5 (iv ((e2 : Int)))) 78 6 (iv ((tH k2))))) := by
  obtain ⟨S, B, w3, t0, w4, w5, w6, w7, ya, yb, f8, f9, zt, dT, F, fr⟩ := C
  have f0 := t0.f5 hb
  have y0 := ya q1
  have u0 := t0.bd hb q1
  clear ya yb
  have f1 := t1.f5 hb
  show am_ev (d + 6) 211 0 [.ref 78, iv 2] [] h _
  refine am_ev.step (pc' := 1) rfl rfl ?_
  refine fx_ts (p' := 70) rfl (by omega) (by omega) rfl (by decide) ?_
  refine am_ev.step (pc' := 71) rfl rfl ?_
  refine ax_gf (p' := 74) rfl rfl (S.ob rfl) (S.rf rfl rfl) ?_
  refine fx_bip (p' := 76) rfl rfl rfl ?_
  refine am_ev.step (pc' := 77) rfl rfl ?_
  refine am_ev.step (pc' := 78) rfl rfl ?_
  refine fx_sip (p' := 81) rfl rfl rfl ?_
  refine ax_call (z := 179) (p' := 84) (as := [_, _, _]) rfl (Or.inr (Or.inl ⟨_, rfl⟩)) rfl rfl rfl rfl rfl rfl (S.ob rfl) rfl (md_179c (lo := 0) (hi := 9999) (k := k) (s := s) S w4 w6 (by omega) (by omega) w7 (by omega) B hb hL w3 w5 t1 (by omega)) rfl ?_
  refine ax_iastore (p' := 85) rfl rfl (((((S.po rfl rfl).po rfl rfl).po rfl rfl).po rfl rfl).wr (k := 80) rfl rfl rfl rfl (by decide)) ?_
  refine am_ev.step (pc' := 86) rfl rfl ?_
  refine ax_gf (p' := 89) rfl rfl (fO (fO (fO (fO (fO (S.ob rfl)))))) (ax_put_o (Or.inl (by decide)) (ax_put_o (Or.inr (by decide)) (ax_put_o (Or.inr (by decide)) (ax_put_o (Or.inr (by decide)) (ax_put_o (Or.inr (by decide)) (S.rf rfl rfl)))))) ?_
  refine fx_bip (p' := 91) rfl rfl rfl ?_
  refine am_ev.step (pc' := 92) rfl rfl ?_
  refine am_ev.ldcw rfl rfl rfl rfl ?_
  refine ax_call (z := 175) (p' := 98) (as := [_, _]) rfl (Or.inr (Or.inl ⟨_, rfl⟩)) rfl rfl rfl rfl rfl rfl (fO (fO (fO (fO (fO (S.ob rfl)))))) rfl ((tk_175 (i := 8) (k := k1) (s := s1) (e := e1) (by decide) (((((S.po rfl rfl).po rfl rfl).po rfl rfl).po rfl rfl).pa rfl) (((((B.put (by decide)).put (by decide)).put (by decide)).put (by decide)).put (by decide)) hb hL (ax_put_o (Or.inl (by decide)) (ax_put_s _ _ _)) (ax_put_o (Or.inl (by decide)) (ax_put_o (Or.inr (by decide)) (ax_put_o (Or.inr (by decide)) (ax_put_o (Or.inr (by decide)) (ax_put_s _ _ _))))) (ax_put_o (Or.inl (by decide)) (ax_put_o (Or.inr (by decide)) (ax_put_s _ _ _))) ⟨(t1.f hb).2.1, (t1.f hb).2.2.1⟩ ⟨(t1.f hb).2.2.2.1, Int.le_trans (t1.f hb).2.2.2.2.1 (by decide)⟩).1 ((cl_f_w qf (n := 0) (by decide)).1 rfl)) rfl ?_
  refine fx_z_eq_F (pF := 101) rfl (by omega) rfl (by omega) ?_
  refine am_ev.step (pc' := 102) rfl rfl ?_
  refine am_ev.step (pc' := 119) rfl rfl ?_
  refine ax_iastore (p' := 120) rfl rfl ((((((S.po rfl rfl).po rfl rfl).po rfl rfl).po rfl rfl).pa rfl).wr (k := 80) rfl rfl rfl rfl (by decide)) ?_
  refine am_ev.step (pc' := 121) rfl rfl ?_
  refine am_ev.step (pc' := 122) rfl rfl ?_
  refine ax_gf (p' := 125) rfl rfl (fO (fO (fO (fO (fO (fO (S.ob rfl))))))) (ax_put_o (Or.inl (by decide)) (ax_put_o (Or.inl (by decide)) (ax_put_o (Or.inr (by decide)) (ax_put_o (Or.inr (by decide)) (ax_put_o (Or.inr (by decide)) (ax_put_o (Or.inr (by decide)) (S.rf rfl rfl))))))) ?_
  refine fx_bip (p' := 127) rfl rfl rfl ?_
  refine ax_iaload (p' := 128) rfl rfl (((((((S.po rfl rfl).po rfl rfl).po rfl rfl).po rfl rfl).pa rfl).pa rfl).rd (k := 80) rfl rfl rfl rfl rfl (by decide) (ax_put_s _ _ _)) ?_
  refine am_ev.step (pc' := 129) rfl rfl ?_
  refine fx_c_lt_T (pT := 142) rfl (by omega) (by omega) rfl (by omega) ?_
  refine am_ev.step (pc' := 143) rfl rfl ?_
  refine am_ev.step (pc' := 147) rfl rfl ?_
  refine am_ev.step (pc' := 148) rfl rfl ?_
  refine ax_call (z := 177) (p' := 151) (as := [_, _, _]) rfl (Or.inr (Or.inl ⟨_, rfl⟩)) rfl rfl rfl rfl rfl rfl (fO (fO (fO (fO (fO (fO (S.ob rfl))))))) rfl md_177t rfl ?_
  refine am_ev.step (pc' := 152) rfl rfl ?_
  refine ax_call (z := 170) (p' := 155) (as := [_]) rfl (Or.inr (Or.inl ⟨_, rfl⟩)) rfl rfl rfl rfl rfl rfl (fO (fO (fO (fO (fO (fO (S.ob rfl))))))) rfl (md_170 ((((((S.po rfl rfl).po rfl rfl).po rfl rfl).po rfl rfl).pa rfl).pa rfl) ((((((B.put (by decide)).put (by decide)).put (by decide)).put (by decide)).put (by decide)).put (by decide)) hb hL (ax_put_o (Or.inl (by decide)) (ax_put_o (Or.inl (by decide)) (ax_put_o (Or.inr (by decide)) (ax_put_o (Or.inr (by decide)) (ax_put_o (Or.inr (by decide)) (ax_put_o (Or.inr (by decide)) w3)))))) (ax_put_o (Or.inl (by decide)) (ax_put_o (Or.inl (by decide)) (ax_put_o (Or.inr (by decide)) (ax_put_s _ _ _)))) (ax_put_o (Or.inl (by decide)) (ax_put_o (Or.inl (by decide)) (ax_put_o (Or.inr (by decide)) (ax_put_o (Or.inr (by decide)) (ax_put_s _ _ _))))) t2) rfl ?_
  refine am_ev.step (pc' := 256) rfl rfl ?_
  exact am_ev.retv rfl rfl
theorem lg_211_2m1 (hb : tz_r b) (hL : L ≤ 1600) (C : lM h h0 b L p s e k v w τ Φ) (q1 : k = 2) (q2 : 0 ≤ v ∧ v ≤ 9999) (t1 : tz_t b L e s1 e1 k1 v1) (qf : cl_f b s1 e1 k1 ((1 : Nat) : Int)) (t2 : tz_t b L e1 s2 e2 k2 v2) : am_ev (d + 6) 211 0 (am_ent [.ref 78, iv 2] 2) [] h (none, (am_put (am_put (am_put (am_put (am_put (am_put (am_put (am_put (am_put (am_put h 78 4 (iv ((s1 : Int)))) 78 7 (iv ((tV b L s1 (w))))) 78 5 (iv ((e1 : Int)))) 78 6 (iv ((tH k1)))) 106 80 (iv (w))) 107 80 (iv 1)) 78 4 (iv ((s2 : Int)))) 78 7 (iv ((tV b L s2 ((tV b L s1 (w))))))) 78 5 (iv ((e2 : Int)))) 78 6 (iv ((tH k2))))) := by
  obtain ⟨S, B, w3, t0, w4, w5, w6, w7, ya, yb, f8, f9, zt, dT, F, fr⟩ := C
  have f0 := t0.f5 hb
  have y0 := ya q1
  have u0 := t0.bd hb q1
  clear ya yb
  have f1 := t1.f5 hb
  show am_ev (d + 6) 211 0 [.ref 78, iv 2] [] h _
  refine am_ev.step (pc' := 1) rfl rfl ?_
  refine fx_ts (p' := 70) rfl (by omega) (by omega) rfl (by decide) ?_
  refine am_ev.step (pc' := 71) rfl rfl ?_
  refine ax_gf (p' := 74) rfl rfl (S.ob rfl) (S.rf rfl rfl) ?_
  refine fx_bip (p' := 76) rfl rfl rfl ?_
  refine am_ev.step (pc' := 77) rfl rfl ?_
  refine am_ev.step (pc' := 78) rfl rfl ?_
  refine fx_sip (p' := 81) rfl rfl rfl ?_
  refine ax_call (z := 179) (p' := 84) (as := [_, _, _]) rfl (Or.inr (Or.inl ⟨_, rfl⟩)) rfl rfl rfl rfl rfl rfl (S.ob rfl) rfl (md_179c (lo := 0) (hi := 9999) (k := k) (s := s) S w4 w6 (by omega) (by omega) w7 (by omega) B hb hL w3 w5 t1 (by omega)) rfl ?_
  refine ax_iastore (p' := 85) rfl rfl (((((S.po rfl rfl).po rfl rfl).po rfl rfl).po rfl rfl).wr (k := 80) rfl rfl rfl rfl (by decide)) ?_
  refine am_ev.step (pc' := 86) rfl rfl ?_
  refine ax_gf (p' := 89) rfl rfl (fO (fO (fO (fO (fO (S.ob rfl)))))) (ax_put_o (Or.inl (by decide)) (ax_put_o (Or.inr (by decide)) (ax_put_o (Or.inr (by decide)) (ax_put_o (Or.inr (by decide)) (ax_put_o (Or.inr (by decide)) (S.rf rfl rfl)))))) ?_
  refine fx_bip (p' := 91) rfl rfl rfl ?_
  refine am_ev.step (pc' := 92) rfl rfl ?_
  refine am_ev.ldcw rfl rfl rfl rfl ?_
  refine ax_call (z := 175) (p' := 98) (as := [_, _]) rfl (Or.inr (Or.inl ⟨_, rfl⟩)) rfl rfl rfl rfl rfl rfl (fO (fO (fO (fO (fO (S.ob rfl)))))) rfl ((tk_175 (i := 8) (k := k1) (s := s1) (e := e1) (by decide) (((((S.po rfl rfl).po rfl rfl).po rfl rfl).po rfl rfl).pa rfl) (((((B.put (by decide)).put (by decide)).put (by decide)).put (by decide)).put (by decide)) hb hL (ax_put_o (Or.inl (by decide)) (ax_put_s _ _ _)) (ax_put_o (Or.inl (by decide)) (ax_put_o (Or.inr (by decide)) (ax_put_o (Or.inr (by decide)) (ax_put_o (Or.inr (by decide)) (ax_put_s _ _ _))))) (ax_put_o (Or.inl (by decide)) (ax_put_o (Or.inr (by decide)) (ax_put_s _ _ _))) ⟨(t1.f hb).2.1, (t1.f hb).2.2.1⟩ ⟨(t1.f hb).2.2.2.1, Int.le_trans (t1.f hb).2.2.2.2.1 (by decide)⟩).2 ((cl_f_w qf (n := 0) (by decide)).2 (by decide))) rfl ?_
  refine fx_z_eq_T (pT := 105) rfl (by omega) rfl (by omega) ?_
  refine am_ev.step (pc' := 106) rfl rfl ?_
  refine am_ev.ldc rfl rfl rfl rfl ?_
  refine ax_call (z := 175) (p' := 111) (as := [_, _]) rfl (Or.inr (Or.inl ⟨_, rfl⟩)) rfl rfl rfl rfl rfl rfl (fO (fO (fO (fO (fO (S.ob rfl)))))) rfl ((tk_175 (i := 10) (k := k1) (s := s1) (e := e1) (by decide) (((((S.po rfl rfl).po rfl rfl).po rfl rfl).po rfl rfl).pa rfl) (((((B.put (by decide)).put (by decide)).put (by decide)).put (by decide)).put (by decide)) hb hL (ax_put_o (Or.inl (by decide)) (ax_put_s _ _ _)) (ax_put_o (Or.inl (by decide)) (ax_put_o (Or.inr (by decide)) (ax_put_o (Or.inr (by decide)) (ax_put_o (Or.inr (by decide)) (ax_put_s _ _ _))))) (ax_put_o (Or.inl (by decide)) (ax_put_o (Or.inr (by decide)) (ax_put_s _ _ _))) ⟨(t1.f hb).2.1, (t1.f hb).2.2.1⟩ ⟨(t1.f hb).2.2.2.1, Int.le_trans (t1.f hb).2.2.2.2.1 (by decide)⟩).1 ((cl_f_w qf (n := 1) (by decide)).1 rfl)) rfl ?_
  refine fx_z_eq_F (pF := 114) rfl (by omega) rfl (by omega) ?_
  refine am_ev.step (pc' := 115) rfl rfl ?_
  refine am_ev.step (pc' := 119) rfl rfl ?_
  refine ax_iastore (p' := 120) rfl rfl ((((((S.po rfl rfl).po rfl rfl).po rfl rfl).po rfl rfl).pa rfl).wr (k := 80) rfl rfl rfl rfl (by decide)) ?_
  refine am_ev.step (pc' := 121) rfl rfl ?_
  refine am_ev.step (pc' := 122) rfl rfl ?_
  refine ax_gf (p' := 125) rfl rfl (fO (fO (fO (fO (fO (fO (S.ob rfl))))))) (ax_put_o (Or.inl (by decide)) (ax_put_o (Or.inl (by decide)) (ax_put_o (Or.inr (by decide)) (ax_put_o (Or.inr (by decide)) (ax_put_o (Or.inr (by decide)) (ax_put_o (Or.inr (by decide)) (S.rf rfl rfl))))))) ?_
  refine fx_bip (p' := 127) rfl rfl rfl ?_
  refine ax_iaload (p' := 128) rfl rfl (((((((S.po rfl rfl).po rfl rfl).po rfl rfl).po rfl rfl).pa rfl).pa rfl).rd (k := 80) rfl rfl rfl rfl rfl (by decide) (ax_put_s _ _ _)) ?_
  refine am_ev.step (pc' := 129) rfl rfl ?_
  refine fx_c_lt_T (pT := 142) rfl (by omega) (by omega) rfl (by omega) ?_
  refine am_ev.step (pc' := 143) rfl rfl ?_
  refine am_ev.step (pc' := 147) rfl rfl ?_
  refine am_ev.step (pc' := 148) rfl rfl ?_
  refine ax_call (z := 177) (p' := 151) (as := [_, _, _]) rfl (Or.inr (Or.inl ⟨_, rfl⟩)) rfl rfl rfl rfl rfl rfl (fO (fO (fO (fO (fO (fO (S.ob rfl))))))) rfl md_177t rfl ?_
  refine am_ev.step (pc' := 152) rfl rfl ?_
  refine ax_call (z := 170) (p' := 155) (as := [_]) rfl (Or.inr (Or.inl ⟨_, rfl⟩)) rfl rfl rfl rfl rfl rfl (fO (fO (fO (fO (fO (fO (S.ob rfl))))))) rfl (md_170 ((((((S.po rfl rfl).po rfl rfl).po rfl rfl).po rfl rfl).pa rfl).pa rfl) ((((((B.put (by decide)).put (by decide)).put (by decide)).put (by decide)).put (by decide)).put (by decide)) hb hL (ax_put_o (Or.inl (by decide)) (ax_put_o (Or.inl (by decide)) (ax_put_o (Or.inr (by decide)) (ax_put_o (Or.inr (by decide)) (ax_put_o (Or.inr (by decide)) (ax_put_o (Or.inr (by decide)) w3)))))) (ax_put_o (Or.inl (by decide)) (ax_put_o (Or.inl (by decide)) (ax_put_o (Or.inr (by decide)) (ax_put_s _ _ _)))) (ax_put_o (Or.inl (by decide)) (ax_put_o (Or.inl (by decide)) (ax_put_o (Or.inr (by decide)) (ax_put_o (Or.inr (by decide)) (ax_put_s _ _ _))))) t2) rfl ?_
  refine am_ev.step (pc' := 256) rfl rfl ?_
  exact am_ev.retv rfl rfl
theorem lg_211_2m2 (hb : tz_r b) (hL : L ≤ 1600) (C : lM h h0 b L p s e k v w τ Φ) (q1 : k = 2) (q2 : 0 ≤ v ∧ v ≤ 9999) (t1 : tz_t b L e s1 e1 k1 v1) (qf : cl_f b s1 e1 k1 ((2 : Nat) : Int)) (t2 : tz_t b L e1 s2 e2 k2 v2) : am_ev (d + 6) 211 0 (am_ent [.ref 78, iv 2] 2) [] h (none, (am_put (am_put (am_put (am_put (am_put (am_put (am_put (am_put (am_put (am_put h 78 4 (iv ((s1 : Int)))) 78 7 (iv ((tV b L s1 (w))))) 78 5 (iv ((e1 : Int)))) 78 6 (iv ((tH k1)))) 106 80 (iv (w))) 107 80 (iv 2)) 78 4 (iv ((s2 : Int)))) 78 7 (iv ((tV b L s2 ((tV b L s1 (w))))))) 78 5 (iv ((e2 : Int)))) 78 6 (iv ((tH k2))))) := by
  obtain ⟨S, B, w3, t0, w4, w5, w6, w7, ya, yb, f8, f9, zt, dT, F, fr⟩ := C
  have f0 := t0.f5 hb
  have y0 := ya q1
  have u0 := t0.bd hb q1
  clear ya yb
  have f1 := t1.f5 hb
  show am_ev (d + 6) 211 0 [.ref 78, iv 2] [] h _
  refine am_ev.step (pc' := 1) rfl rfl ?_
  refine fx_ts (p' := 70) rfl (by omega) (by omega) rfl (by decide) ?_
  refine am_ev.step (pc' := 71) rfl rfl ?_
  refine ax_gf (p' := 74) rfl rfl (S.ob rfl) (S.rf rfl rfl) ?_
  refine fx_bip (p' := 76) rfl rfl rfl ?_
  refine am_ev.step (pc' := 77) rfl rfl ?_
  refine am_ev.step (pc' := 78) rfl rfl ?_
  refine fx_sip (p' := 81) rfl rfl rfl ?_
  refine ax_call (z := 179) (p' := 84) (as := [_, _, _]) rfl (Or.inr (Or.inl ⟨_, rfl⟩)) rfl rfl rfl rfl rfl rfl (S.ob rfl) rfl (md_179c (lo := 0) (hi := 9999) (k := k) (s := s) S w4 w6 (by omega) (by omega) w7 (by omega) B hb hL w3 w5 t1 (by omega)) rfl ?_
  refine ax_iastore (p' := 85) rfl rfl (((((S.po rfl rfl).po rfl rfl).po rfl rfl).po rfl rfl).wr (k := 80) rfl rfl rfl rfl (by decide)) ?_
  refine am_ev.step (pc' := 86) rfl rfl ?_
  refine ax_gf (p' := 89) rfl rfl (fO (fO (fO (fO (fO (S.ob rfl)))))) (ax_put_o (Or.inl (by decide)) (ax_put_o (Or.inr (by decide)) (ax_put_o (Or.inr (by decide)) (ax_put_o (Or.inr (by decide)) (ax_put_o (Or.inr (by decide)) (S.rf rfl rfl)))))) ?_
  refine fx_bip (p' := 91) rfl rfl rfl ?_
  refine am_ev.step (pc' := 92) rfl rfl ?_
  refine am_ev.ldcw rfl rfl rfl rfl ?_
  refine ax_call (z := 175) (p' := 98) (as := [_, _]) rfl (Or.inr (Or.inl ⟨_, rfl⟩)) rfl rfl rfl rfl rfl rfl (fO (fO (fO (fO (fO (S.ob rfl)))))) rfl ((tk_175 (i := 8) (k := k1) (s := s1) (e := e1) (by decide) (((((S.po rfl rfl).po rfl rfl).po rfl rfl).po rfl rfl).pa rfl) (((((B.put (by decide)).put (by decide)).put (by decide)).put (by decide)).put (by decide)) hb hL (ax_put_o (Or.inl (by decide)) (ax_put_s _ _ _)) (ax_put_o (Or.inl (by decide)) (ax_put_o (Or.inr (by decide)) (ax_put_o (Or.inr (by decide)) (ax_put_o (Or.inr (by decide)) (ax_put_s _ _ _))))) (ax_put_o (Or.inl (by decide)) (ax_put_o (Or.inr (by decide)) (ax_put_s _ _ _))) ⟨(t1.f hb).2.1, (t1.f hb).2.2.1⟩ ⟨(t1.f hb).2.2.2.1, Int.le_trans (t1.f hb).2.2.2.2.1 (by decide)⟩).2 ((cl_f_w qf (n := 0) (by decide)).2 (by decide))) rfl ?_
  refine fx_z_eq_T (pT := 105) rfl (by omega) rfl (by omega) ?_
  refine am_ev.step (pc' := 106) rfl rfl ?_
  refine am_ev.ldc rfl rfl rfl rfl ?_
  refine ax_call (z := 175) (p' := 111) (as := [_, _]) rfl (Or.inr (Or.inl ⟨_, rfl⟩)) rfl rfl rfl rfl rfl rfl (fO (fO (fO (fO (fO (S.ob rfl)))))) rfl ((tk_175 (i := 10) (k := k1) (s := s1) (e := e1) (by decide) (((((S.po rfl rfl).po rfl rfl).po rfl rfl).po rfl rfl).pa rfl) (((((B.put (by decide)).put (by decide)).put (by decide)).put (by decide)).put (by decide)) hb hL (ax_put_o (Or.inl (by decide)) (ax_put_s _ _ _)) (ax_put_o (Or.inl (by decide)) (ax_put_o (Or.inr (by decide)) (ax_put_o (Or.inr (by decide)) (ax_put_o (Or.inr (by decide)) (ax_put_s _ _ _))))) (ax_put_o (Or.inl (by decide)) (ax_put_o (Or.inr (by decide)) (ax_put_s _ _ _))) ⟨(t1.f hb).2.1, (t1.f hb).2.2.1⟩ ⟨(t1.f hb).2.2.2.1, Int.le_trans (t1.f hb).2.2.2.2.1 (by decide)⟩).2 ((cl_f_w qf (n := 1) (by decide)).2 (by decide))) rfl ?_
  refine fx_z_eq_T (pT := 118) rfl (by omega) rfl (by omega) ?_
  refine am_ev.step (pc' := 119) rfl rfl ?_
  refine ax_iastore (p' := 120) rfl rfl ((((((S.po rfl rfl).po rfl rfl).po rfl rfl).po rfl rfl).pa rfl).wr (k := 80) rfl rfl rfl rfl (by decide)) ?_
  refine am_ev.step (pc' := 121) rfl rfl ?_
  refine am_ev.step (pc' := 122) rfl rfl ?_
  refine ax_gf (p' := 125) rfl rfl (fO (fO (fO (fO (fO (fO (S.ob rfl))))))) (ax_put_o (Or.inl (by decide)) (ax_put_o (Or.inl (by decide)) (ax_put_o (Or.inr (by decide)) (ax_put_o (Or.inr (by decide)) (ax_put_o (Or.inr (by decide)) (ax_put_o (Or.inr (by decide)) (S.rf rfl rfl))))))) ?_
  refine fx_bip (p' := 127) rfl rfl rfl ?_
  refine ax_iaload (p' := 128) rfl rfl (((((((S.po rfl rfl).po rfl rfl).po rfl rfl).po rfl rfl).pa rfl).pa rfl).rd (k := 80) rfl rfl rfl rfl rfl (by decide) (ax_put_s _ _ _)) ?_
  refine am_ev.step (pc' := 129) rfl rfl ?_
  refine fx_c_lt_F (pF := 132) rfl (by omega) (by omega) rfl (by omega) ?_
  refine am_ev.step (pc' := 133) rfl rfl ?_
  refine am_ev.ldcw rfl rfl rfl rfl ?_
  refine ax_call (z := 175) (p' := 139) (as := [_, _]) rfl (Or.inr (Or.inl ⟨_, rfl⟩)) rfl rfl rfl rfl rfl rfl (fO (fO (fO (fO (fO (fO (S.ob rfl))))))) rfl ((tk_175 (i := 0) (k := k1) (s := s1) (e := e1) (by decide) ((((((S.po rfl rfl).po rfl rfl).po rfl rfl).po rfl rfl).pa rfl).pa rfl) ((((((B.put (by decide)).put (by decide)).put (by decide)).put (by decide)).put (by decide)).put (by decide)) hb hL (ax_put_o (Or.inl (by decide)) (ax_put_o (Or.inl (by decide)) (ax_put_s _ _ _))) (ax_put_o (Or.inl (by decide)) (ax_put_o (Or.inl (by decide)) (ax_put_o (Or.inr (by decide)) (ax_put_o (Or.inr (by decide)) (ax_put_o (Or.inr (by decide)) (ax_put_s _ _ _)))))) (ax_put_o (Or.inl (by decide)) (ax_put_o (Or.inl (by decide)) (ax_put_o (Or.inr (by decide)) (ax_put_s _ _ _)))) ⟨(t1.f hb).2.1, (t1.f hb).2.2.1⟩ ⟨(t1.f hb).2.2.2.1, Int.le_trans (t1.f hb).2.2.2.2.1 (by decide)⟩).1 ((cl_f_w qf (n := 2) (by decide)).1 rfl)) rfl ?_
  refine fx_z_eq_F (pF := 142) rfl (by omega) rfl (by omega) ?_
  refine am_ev.step (pc' := 143) rfl rfl ?_
  refine am_ev.step (pc' := 147) rfl rfl ?_
  refine am_ev.step (pc' := 148) rfl rfl ?_
  refine ax_call (z := 177) (p' := 151) (as := [_, _, _]) rfl (Or.inr (Or.inl ⟨_, rfl⟩)) rfl rfl rfl rfl rfl rfl (fO (fO (fO (fO (fO (fO (S.ob rfl))))))) rfl md_177t rfl ?_
  refine am_ev.step (pc' := 152) rfl rfl ?_
  refine ax_call (z := 170) (p' := 155) (as := [_]) rfl (Or.inr (Or.inl ⟨_, rfl⟩)) rfl rfl rfl rfl rfl rfl (fO (fO (fO (fO (fO (fO (S.ob rfl))))))) rfl (md_170 ((((((S.po rfl rfl).po rfl rfl).po rfl rfl).po rfl rfl).pa rfl).pa rfl) ((((((B.put (by decide)).put (by decide)).put (by decide)).put (by decide)).put (by decide)).put (by decide)) hb hL (ax_put_o (Or.inl (by decide)) (ax_put_o (Or.inl (by decide)) (ax_put_o (Or.inr (by decide)) (ax_put_o (Or.inr (by decide)) (ax_put_o (Or.inr (by decide)) (ax_put_o (Or.inr (by decide)) w3)))))) (ax_put_o (Or.inl (by decide)) (ax_put_o (Or.inl (by decide)) (ax_put_o (Or.inr (by decide)) (ax_put_s _ _ _)))) (ax_put_o (Or.inl (by decide)) (ax_put_o (Or.inl (by decide)) (ax_put_o (Or.inr (by decide)) (ax_put_o (Or.inr (by decide)) (ax_put_s _ _ _))))) t2) rfl ?_
  refine am_ev.step (pc' := 256) rfl rfl ?_
  exact am_ev.retv rfl rfl
theorem lg_211_5a (hb : tz_r b) (hL : L ≤ 1600) (C : lM h h0 b L p s e k v w τ Φ) (q1 : k ≠ 1) : am_ev (d + 6) 211 0 (am_ent [.ref 78, iv 5] 2) [] h (some (.retAddr (79 + 1)), (am_put (am_put h 78 8 (iv 1)) 78 9 (iv ((s : Int))))) := by
  obtain ⟨S, B, w3, t0, w4, w5, w6, w7, ya, yb, f8, f9, zt, dT, F, fr⟩ := C
  have f0 := t0.f5 hb
  clear ya yb
  have hh := tH_c (k := k) ⟨f0.2.2.2.1, f0.2.2.2.2⟩
  show am_ev (d + 6) 211 0 [.ref 78, iv 5] [] h _
  refine am_ev.step (pc' := 1) rfl rfl ?_
  refine fx_td (p' := 190) rfl (by omega) (by omega) (by decide) ?_
  refine am_ev.step (pc' := 191) rfl rfl ?_
  refine am_ev.step (pc' := 192) rfl rfl ?_
  refine ax_gf (p' := 195) rfl rfl (S.ob rfl) w6 ?_
  refine am_ev.step (pc' := 196) rfl rfl ?_
  refine fx_c_ne_T (pT := 203) rfl (by omega) (by omega) rfl (by omega) ?_
  refine am_ev.step (pc' := 204) rfl rfl ?_
  refine am_ev.step (pc' := 205) rfl rfl ?_
  refine ax_callT (a := 79) (z := 177) (as := [_, _, _]) rfl (Or.inr (Or.inl ⟨_, rfl⟩)) rfl rfl rfl rfl rfl rfl (S.ob rfl) (md_177f (s := s) S w4) rfl rfl (fO (fO (S.ob rfl))) rfl
theorem lg_211_5n (hb : tz_r b) (hL : L ≤ 1600) (C : lM h h0 b L p s e k v w τ Φ) (q1 : k = 1) {x : Option Value × am_H} (q9 : am_ev (d + 6) 211 208 [.ref 78, iv 5] [] h x) : am_ev (d + 6) 211 0 (am_ent [.ref 78, iv 5] 2) [] h x := by
  obtain ⟨S, B, w3, t0, w4, w5, w6, w7, ya, yb, f8, f9, zt, dT, F, fr⟩ := C
  have f0 := t0.f5 hb
  clear ya yb
  have e1 : tH k = 1 := by
    rw [q1]
    rfl
  show am_ev (d + 6) 211 0 [.ref 78, iv 5] [] h x
  refine am_ev.step (pc' := 1) rfl rfl ?_
  refine fx_td (p' := 190) rfl (by omega) (by omega) (by decide) ?_
  refine am_ev.step (pc' := 191) rfl rfl ?_
  refine am_ev.step (pc' := 192) rfl rfl ?_
  refine ax_gf (p' := 195) rfl rfl (S.ob rfl) w6 ?_
  refine am_ev.step (pc' := 196) rfl rfl ?_
  refine fx_c_ne_F (pF := 199) rfl (by omega) (by omega) rfl (by omega) ?_
  refine am_ev.step (pc' := 200) rfl rfl ?_
  refine am_ev.step (pc' := 204) rfl rfl ?_
  refine am_ev.step (pc' := 205) rfl rfl ?_
  refine ax_call (z := 177) (p' := 208) (as := [_, _, _]) rfl (Or.inr (Or.inl ⟨_, rfl⟩)) rfl rfl rfl rfl rfl rfl (S.ob rfl) rfl md_177t rfl ?_
  exact q9
theorem lg_E (hb : tz_r b) (hL : L ≤ 1600) (C : lM h h0 b L p s e k v w τ Φ) (q0 : k = 0) : am_ev (d + 8) 209 79 [.ref 78, a1] [] h  (none, h) := by
  obtain ⟨S, B, w3, t0, w4, w5, w6, w7, ya, yb, f8, f9, zt, dT, F, fr⟩ := C
  have f0 := t0.f5 hb
  clear ya yb
  have hr0 := tH_r (k := k) ⟨f0.2.2.2.1, f0.2.2.2.2⟩
  have e0 : tH k = 0 := by
    rw [q0]
    rfl
  refine am_ev.step (pc' := 80) rfl rfl ?_
  refine ax_gf (p' := 83) rfl rfl (S.ob rfl) w6 ?_
  refine fx_z_eq_T (pT := 148) rfl (by omega) rfl (by omega) ?_
  exact am_ev.retv rfl rfl
theorem lg_210 {c : Int} (S : fS h) (B : tb h 80 b L) (hb : tz_r b) (hL : L ≤ 1600) (w4 : h.2.2.2 78 4 = iv s) (w5 : h.2.2.2 78 5 = iv e) (w6 : h.2.2.2 78 6 = iv (tH k)) (t0 : tz_t b L p s e k v) (q : cl_l b s e k c) : am_ev (d + 6) 210 0 (am_ent [.ref 78] 1) [] h (some (iv c), h) := by
  show am_ev (d + 6) 210 0 [.ref 78] [] h _
  have q0 := q
  rcases q with ⟨n, hn, rfl, -⟩ | ⟨rfl, -⟩
  · have w : ∀ m : Nat, m < 6 → (n = m → tz_w b s e k (tx_l m)) ∧ (n ≠ m → ¬ tz_w b s e k (tx_l m)) := fun m hm => ⟨fun z => (cl_l_w q0 hm).1 (by omega), fun z => (cl_l_w q0 hm).2 (by omega)⟩
    have hn2 : n = 0 ∨ n = 1 ∨ n = 2 ∨ n = 3 ∨ n = 4 ∨ n = 5 := by omega
    rcases hn2 with rfl | rfl | rfl | rfl | rfl | rfl
    · refine am_ev.step (pc' := 1) rfl rfl ?_
      refine am_ev.ldcw rfl rfl rfl rfl ?_
      refine ax_call (z := 175) (p' := 7) (as := [_, _]) rfl (Or.inr (Or.inl ⟨_, rfl⟩)) rfl rfl rfl rfl rfl rfl (S.ob rfl) rfl ((tk_175 (i := 7) (k := k) (s := s) (e := e) (by decide) S B hb hL w6 w4 w5 ⟨(t0.f hb).2.1, (t0.f hb).2.2.1⟩ ⟨(t0.f hb).2.2.2.1, Int.le_trans (t0.f hb).2.2.2.2.1 (by decide)⟩).1 ((w 0 (by decide)).1 rfl)) rfl ?_
      refine fx_z_eq_F (pF := 10) rfl (by omega) rfl (by omega) ?_
      refine am_ev.step (pc' := 11) rfl rfl ?_
      exact fx_reti rfl rfl rfl
    · refine am_ev.step (pc' := 1) rfl rfl ?_
      refine am_ev.ldcw rfl rfl rfl rfl ?_
      refine ax_call (z := 175) (p' := 7) (as := [_, _]) rfl (Or.inr (Or.inl ⟨_, rfl⟩)) rfl rfl rfl rfl rfl rfl (S.ob rfl) rfl ((tk_175 (i := 7) (k := k) (s := s) (e := e) (by decide) S B hb hL w6 w4 w5 ⟨(t0.f hb).2.1, (t0.f hb).2.2.1⟩ ⟨(t0.f hb).2.2.2.1, Int.le_trans (t0.f hb).2.2.2.2.1 (by decide)⟩).2 ((w 0 (by decide)).2 (by decide))) rfl ?_
      refine fx_z_eq_T (pT := 12) rfl (by omega) rfl (by omega) ?_
      refine am_ev.step (pc' := 13) rfl rfl ?_
      refine am_ev.ldcw rfl rfl rfl rfl ?_
      refine ax_call (z := 175) (p' := 19) (as := [_, _]) rfl (Or.inr (Or.inl ⟨_, rfl⟩)) rfl rfl rfl rfl rfl rfl (S.ob rfl) rfl ((tk_175 (i := 15) (k := k) (s := s) (e := e) (by decide) S B hb hL w6 w4 w5 ⟨(t0.f hb).2.1, (t0.f hb).2.2.1⟩ ⟨(t0.f hb).2.2.2.1, Int.le_trans (t0.f hb).2.2.2.2.1 (by decide)⟩).1 ((w 1 (by decide)).1 rfl)) rfl ?_
      refine fx_z_eq_F (pF := 22) rfl (by omega) rfl (by omega) ?_
      refine am_ev.step (pc' := 23) rfl rfl ?_
      exact fx_reti rfl rfl rfl
    · refine am_ev.step (pc' := 1) rfl rfl ?_
      refine am_ev.ldcw rfl rfl rfl rfl ?_
      refine ax_call (z := 175) (p' := 7) (as := [_, _]) rfl (Or.inr (Or.inl ⟨_, rfl⟩)) rfl rfl rfl rfl rfl rfl (S.ob rfl) rfl ((tk_175 (i := 7) (k := k) (s := s) (e := e) (by decide) S B hb hL w6 w4 w5 ⟨(t0.f hb).2.1, (t0.f hb).2.2.1⟩ ⟨(t0.f hb).2.2.2.1, Int.le_trans (t0.f hb).2.2.2.2.1 (by decide)⟩).2 ((w 0 (by decide)).2 (by decide))) rfl ?_
      refine fx_z_eq_T (pT := 12) rfl (by omega) rfl (by omega) ?_
      refine am_ev.step (pc' := 13) rfl rfl ?_
      refine am_ev.ldcw rfl rfl rfl rfl ?_
      refine ax_call (z := 175) (p' := 19) (as := [_, _]) rfl (Or.inr (Or.inl ⟨_, rfl⟩)) rfl rfl rfl rfl rfl rfl (S.ob rfl) rfl ((tk_175 (i := 15) (k := k) (s := s) (e := e) (by decide) S B hb hL w6 w4 w5 ⟨(t0.f hb).2.1, (t0.f hb).2.2.1⟩ ⟨(t0.f hb).2.2.2.1, Int.le_trans (t0.f hb).2.2.2.2.1 (by decide)⟩).2 ((w 1 (by decide)).2 (by decide))) rfl ?_
      refine fx_z_eq_T (pT := 24) rfl (by omega) rfl (by omega) ?_
      refine am_ev.step (pc' := 25) rfl rfl ?_
      refine am_ev.ldcw rfl rfl rfl rfl ?_
      refine ax_call (z := 175) (p' := 31) (as := [_, _]) rfl (Or.inr (Or.inl ⟨_, rfl⟩)) rfl rfl rfl rfl rfl rfl (S.ob rfl) rfl ((tk_175 (i := 4) (k := k) (s := s) (e := e) (by decide) S B hb hL w6 w4 w5 ⟨(t0.f hb).2.1, (t0.f hb).2.2.1⟩ ⟨(t0.f hb).2.2.2.1, Int.le_trans (t0.f hb).2.2.2.2.1 (by decide)⟩).1 ((w 2 (by decide)).1 rfl)) rfl ?_
      refine fx_z_eq_F (pF := 34) rfl (by omega) rfl (by omega) ?_
      refine am_ev.step (pc' := 35) rfl rfl ?_
      exact fx_reti rfl rfl rfl
    · refine am_ev.step (pc' := 1) rfl rfl ?_
      refine am_ev.ldcw rfl rfl rfl rfl ?_
      refine ax_call (z := 175) (p' := 7) (as := [_, _]) rfl (Or.inr (Or.inl ⟨_, rfl⟩)) rfl rfl rfl rfl rfl rfl (S.ob rfl) rfl ((tk_175 (i := 7) (k := k) (s := s) (e := e) (by decide) S B hb hL w6 w4 w5 ⟨(t0.f hb).2.1, (t0.f hb).2.2.1⟩ ⟨(t0.f hb).2.2.2.1, Int.le_trans (t0.f hb).2.2.2.2.1 (by decide)⟩).2 ((w 0 (by decide)).2 (by decide))) rfl ?_
      refine fx_z_eq_T (pT := 12) rfl (by omega) rfl (by omega) ?_
      refine am_ev.step (pc' := 13) rfl rfl ?_
      refine am_ev.ldcw rfl rfl rfl rfl ?_
      refine ax_call (z := 175) (p' := 19) (as := [_, _]) rfl (Or.inr (Or.inl ⟨_, rfl⟩)) rfl rfl rfl rfl rfl rfl (S.ob rfl) rfl ((tk_175 (i := 15) (k := k) (s := s) (e := e) (by decide) S B hb hL w6 w4 w5 ⟨(t0.f hb).2.1, (t0.f hb).2.2.1⟩ ⟨(t0.f hb).2.2.2.1, Int.le_trans (t0.f hb).2.2.2.2.1 (by decide)⟩).2 ((w 1 (by decide)).2 (by decide))) rfl ?_
      refine fx_z_eq_T (pT := 24) rfl (by omega) rfl (by omega) ?_
      refine am_ev.step (pc' := 25) rfl rfl ?_
      refine am_ev.ldcw rfl rfl rfl rfl ?_
      refine ax_call (z := 175) (p' := 31) (as := [_, _]) rfl (Or.inr (Or.inl ⟨_, rfl⟩)) rfl rfl rfl rfl rfl rfl (S.ob rfl) rfl ((tk_175 (i := 4) (k := k) (s := s) (e := e) (by decide) S B hb hL w6 w4 w5 ⟨(t0.f hb).2.1, (t0.f hb).2.2.1⟩ ⟨(t0.f hb).2.2.2.1, Int.le_trans (t0.f hb).2.2.2.2.1 (by decide)⟩).2 ((w 2 (by decide)).2 (by decide))) rfl ?_
      refine fx_z_eq_T (pT := 36) rfl (by omega) rfl (by omega) ?_
      refine am_ev.step (pc' := 37) rfl rfl ?_
      refine am_ev.ldcw rfl rfl rfl rfl ?_
      refine ax_call (z := 175) (p' := 43) (as := [_, _]) rfl (Or.inr (Or.inl ⟨_, rfl⟩)) rfl rfl rfl rfl rfl rfl (S.ob rfl) rfl ((tk_175 (i := 1) (k := k) (s := s) (e := e) (by decide) S B hb hL w6 w4 w5 ⟨(t0.f hb).2.1, (t0.f hb).2.2.1⟩ ⟨(t0.f hb).2.2.2.1, Int.le_trans (t0.f hb).2.2.2.2.1 (by decide)⟩).1 ((w 3 (by decide)).1 rfl)) rfl ?_
      refine fx_z_eq_F (pF := 46) rfl (by omega) rfl (by omega) ?_
      refine am_ev.step (pc' := 47) rfl rfl ?_
      exact fx_reti rfl rfl rfl
    · refine am_ev.step (pc' := 1) rfl rfl ?_
      refine am_ev.ldcw rfl rfl rfl rfl ?_
      refine ax_call (z := 175) (p' := 7) (as := [_, _]) rfl (Or.inr (Or.inl ⟨_, rfl⟩)) rfl rfl rfl rfl rfl rfl (S.ob rfl) rfl ((tk_175 (i := 7) (k := k) (s := s) (e := e) (by decide) S B hb hL w6 w4 w5 ⟨(t0.f hb).2.1, (t0.f hb).2.2.1⟩ ⟨(t0.f hb).2.2.2.1, Int.le_trans (t0.f hb).2.2.2.2.1 (by decide)⟩).2 ((w 0 (by decide)).2 (by decide))) rfl ?_
      refine fx_z_eq_T (pT := 12) rfl (by omega) rfl (by omega) ?_
      refine am_ev.step (pc' := 13) rfl rfl ?_
      refine am_ev.ldcw rfl rfl rfl rfl ?_
      refine ax_call (z := 175) (p' := 19) (as := [_, _]) rfl (Or.inr (Or.inl ⟨_, rfl⟩)) rfl rfl rfl rfl rfl rfl (S.ob rfl) rfl ((tk_175 (i := 15) (k := k) (s := s) (e := e) (by decide) S B hb hL w6 w4 w5 ⟨(t0.f hb).2.1, (t0.f hb).2.2.1⟩ ⟨(t0.f hb).2.2.2.1, Int.le_trans (t0.f hb).2.2.2.2.1 (by decide)⟩).2 ((w 1 (by decide)).2 (by decide))) rfl ?_
      refine fx_z_eq_T (pT := 24) rfl (by omega) rfl (by omega) ?_
      refine am_ev.step (pc' := 25) rfl rfl ?_
      refine am_ev.ldcw rfl rfl rfl rfl ?_
      refine ax_call (z := 175) (p' := 31) (as := [_, _]) rfl (Or.inr (Or.inl ⟨_, rfl⟩)) rfl rfl rfl rfl rfl rfl (S.ob rfl) rfl ((tk_175 (i := 4) (k := k) (s := s) (e := e) (by decide) S B hb hL w6 w4 w5 ⟨(t0.f hb).2.1, (t0.f hb).2.2.1⟩ ⟨(t0.f hb).2.2.2.1, Int.le_trans (t0.f hb).2.2.2.2.1 (by decide)⟩).2 ((w 2 (by decide)).2 (by decide))) rfl ?_
      refine fx_z_eq_T (pT := 36) rfl (by omega) rfl (by omega) ?_
      refine am_ev.step (pc' := 37) rfl rfl ?_
      refine am_ev.ldcw rfl rfl rfl rfl ?_
      refine ax_call (z := 175) (p' := 43) (as := [_, _]) rfl (Or.inr (Or.inl ⟨_, rfl⟩)) rfl rfl rfl rfl rfl rfl (S.ob rfl) rfl ((tk_175 (i := 1) (k := k) (s := s) (e := e) (by decide) S B hb hL w6 w4 w5 ⟨(t0.f hb).2.1, (t0.f hb).2.2.1⟩ ⟨(t0.f hb).2.2.2.1, Int.le_trans (t0.f hb).2.2.2.2.1 (by decide)⟩).2 ((w 3 (by decide)).2 (by decide))) rfl ?_
      refine fx_z_eq_T (pT := 48) rfl (by omega) rfl (by omega) ?_
      refine am_ev.step (pc' := 49) rfl rfl ?_
      refine am_ev.ldcw rfl rfl rfl rfl ?_
      refine ax_call (z := 175) (p' := 55) (as := [_, _]) rfl (Or.inr (Or.inl ⟨_, rfl⟩)) rfl rfl rfl rfl rfl rfl (S.ob rfl) rfl ((tk_175 (i := 3) (k := k) (s := s) (e := e) (by decide) S B hb hL w6 w4 w5 ⟨(t0.f hb).2.1, (t0.f hb).2.2.1⟩ ⟨(t0.f hb).2.2.2.1, Int.le_trans (t0.f hb).2.2.2.2.1 (by decide)⟩).1 ((w 4 (by decide)).1 rfl)) rfl ?_
      refine fx_z_eq_F (pF := 58) rfl (by omega) rfl (by omega) ?_
      refine am_ev.step (pc' := 59) rfl rfl ?_
      exact fx_reti rfl rfl rfl
    · refine am_ev.step (pc' := 1) rfl rfl ?_
      refine am_ev.ldcw rfl rfl rfl rfl ?_
      refine ax_call (z := 175) (p' := 7) (as := [_, _]) rfl (Or.inr (Or.inl ⟨_, rfl⟩)) rfl rfl rfl rfl rfl rfl (S.ob rfl) rfl ((tk_175 (i := 7) (k := k) (s := s) (e := e) (by decide) S B hb hL w6 w4 w5 ⟨(t0.f hb).2.1, (t0.f hb).2.2.1⟩ ⟨(t0.f hb).2.2.2.1, Int.le_trans (t0.f hb).2.2.2.2.1 (by decide)⟩).2 ((w 0 (by decide)).2 (by decide))) rfl ?_
      refine fx_z_eq_T (pT := 12) rfl (by omega) rfl (by omega) ?_
      refine am_ev.step (pc' := 13) rfl rfl ?_
      refine am_ev.ldcw rfl rfl rfl rfl ?_
      refine ax_call (z := 175) (p' := 19) (as := [_, _]) rfl (Or.inr (Or.inl ⟨_, rfl⟩)) rfl rfl rfl rfl rfl rfl (S.ob rfl) rfl ((tk_175 (i := 15) (k := k) (s := s) (e := e) (by decide) S B hb hL w6 w4 w5 ⟨(t0.f hb).2.1, (t0.f hb).2.2.1⟩ ⟨(t0.f hb).2.2.2.1, Int.le_trans (t0.f hb).2.2.2.2.1 (by decide)⟩).2 ((w 1 (by decide)).2 (by decide))) rfl ?_
      refine fx_z_eq_T (pT := 24) rfl (by omega) rfl (by omega) ?_
      refine am_ev.step (pc' := 25) rfl rfl ?_
      refine am_ev.ldcw rfl rfl rfl rfl ?_
      refine ax_call (z := 175) (p' := 31) (as := [_, _]) rfl (Or.inr (Or.inl ⟨_, rfl⟩)) rfl rfl rfl rfl rfl rfl (S.ob rfl) rfl ((tk_175 (i := 4) (k := k) (s := s) (e := e) (by decide) S B hb hL w6 w4 w5 ⟨(t0.f hb).2.1, (t0.f hb).2.2.1⟩ ⟨(t0.f hb).2.2.2.1, Int.le_trans (t0.f hb).2.2.2.2.1 (by decide)⟩).2 ((w 2 (by decide)).2 (by decide))) rfl ?_
      refine fx_z_eq_T (pT := 36) rfl (by omega) rfl (by omega) ?_
      refine am_ev.step (pc' := 37) rfl rfl ?_
      refine am_ev.ldcw rfl rfl rfl rfl ?_
      refine ax_call (z := 175) (p' := 43) (as := [_, _]) rfl (Or.inr (Or.inl ⟨_, rfl⟩)) rfl rfl rfl rfl rfl rfl (S.ob rfl) rfl ((tk_175 (i := 1) (k := k) (s := s) (e := e) (by decide) S B hb hL w6 w4 w5 ⟨(t0.f hb).2.1, (t0.f hb).2.2.1⟩ ⟨(t0.f hb).2.2.2.1, Int.le_trans (t0.f hb).2.2.2.2.1 (by decide)⟩).2 ((w 3 (by decide)).2 (by decide))) rfl ?_
      refine fx_z_eq_T (pT := 48) rfl (by omega) rfl (by omega) ?_
      refine am_ev.step (pc' := 49) rfl rfl ?_
      refine am_ev.ldcw rfl rfl rfl rfl ?_
      refine ax_call (z := 175) (p' := 55) (as := [_, _]) rfl (Or.inr (Or.inl ⟨_, rfl⟩)) rfl rfl rfl rfl rfl rfl (S.ob rfl) rfl ((tk_175 (i := 3) (k := k) (s := s) (e := e) (by decide) S B hb hL w6 w4 w5 ⟨(t0.f hb).2.1, (t0.f hb).2.2.1⟩ ⟨(t0.f hb).2.2.2.1, Int.le_trans (t0.f hb).2.2.2.2.1 (by decide)⟩).2 ((w 4 (by decide)).2 (by decide))) rfl ?_
      refine fx_z_eq_T (pT := 60) rfl (by omega) rfl (by omega) ?_
      refine am_ev.step (pc' := 61) rfl rfl ?_
      refine am_ev.ldcw rfl rfl rfl rfl ?_
      refine ax_call (z := 175) (p' := 67) (as := [_, _]) rfl (Or.inr (Or.inl ⟨_, rfl⟩)) rfl rfl rfl rfl rfl rfl (S.ob rfl) rfl ((tk_175 (i := 2) (k := k) (s := s) (e := e) (by decide) S B hb hL w6 w4 w5 ⟨(t0.f hb).2.1, (t0.f hb).2.2.1⟩ ⟨(t0.f hb).2.2.2.1, Int.le_trans (t0.f hb).2.2.2.2.1 (by decide)⟩).1 ((w 5 (by decide)).1 rfl)) rfl ?_
      refine fx_z_eq_F (pF := 70) rfl (by omega) rfl (by omega) ?_
      refine am_ev.step (pc' := 71) rfl rfl ?_
      refine am_ev.step (pc' := 75) rfl rfl ?_
      exact fx_reti rfl rfl rfl
  · refine am_ev.step (pc' := 1) rfl rfl ?_
    refine am_ev.ldcw rfl rfl rfl rfl ?_
    refine ax_call (z := 175) (p' := 7) (as := [_, _]) rfl (Or.inr (Or.inl ⟨_, rfl⟩)) rfl rfl rfl rfl rfl rfl (S.ob rfl) rfl ((tk_175 (i := 7) (k := k) (s := s) (e := e) (by decide) S B hb hL w6 w4 w5 ⟨(t0.f hb).2.1, (t0.f hb).2.2.1⟩ ⟨(t0.f hb).2.2.2.1, Int.le_trans (t0.f hb).2.2.2.2.1 (by decide)⟩).2 ((cl_l_w q0 (n := 0) (by decide)).2 (by decide))) rfl ?_
    refine fx_z_eq_T (pT := 12) rfl (by omega) rfl (by omega) ?_
    refine am_ev.step (pc' := 13) rfl rfl ?_
    refine am_ev.ldcw rfl rfl rfl rfl ?_
    refine ax_call (z := 175) (p' := 19) (as := [_, _]) rfl (Or.inr (Or.inl ⟨_, rfl⟩)) rfl rfl rfl rfl rfl rfl (S.ob rfl) rfl ((tk_175 (i := 15) (k := k) (s := s) (e := e) (by decide) S B hb hL w6 w4 w5 ⟨(t0.f hb).2.1, (t0.f hb).2.2.1⟩ ⟨(t0.f hb).2.2.2.1, Int.le_trans (t0.f hb).2.2.2.2.1 (by decide)⟩).2 ((cl_l_w q0 (n := 1) (by decide)).2 (by decide))) rfl ?_
    refine fx_z_eq_T (pT := 24) rfl (by omega) rfl (by omega) ?_
    refine am_ev.step (pc' := 25) rfl rfl ?_
    refine am_ev.ldcw rfl rfl rfl rfl ?_
    refine ax_call (z := 175) (p' := 31) (as := [_, _]) rfl (Or.inr (Or.inl ⟨_, rfl⟩)) rfl rfl rfl rfl rfl rfl (S.ob rfl) rfl ((tk_175 (i := 4) (k := k) (s := s) (e := e) (by decide) S B hb hL w6 w4 w5 ⟨(t0.f hb).2.1, (t0.f hb).2.2.1⟩ ⟨(t0.f hb).2.2.2.1, Int.le_trans (t0.f hb).2.2.2.2.1 (by decide)⟩).2 ((cl_l_w q0 (n := 2) (by decide)).2 (by decide))) rfl ?_
    refine fx_z_eq_T (pT := 36) rfl (by omega) rfl (by omega) ?_
    refine am_ev.step (pc' := 37) rfl rfl ?_
    refine am_ev.ldcw rfl rfl rfl rfl ?_
    refine ax_call (z := 175) (p' := 43) (as := [_, _]) rfl (Or.inr (Or.inl ⟨_, rfl⟩)) rfl rfl rfl rfl rfl rfl (S.ob rfl) rfl ((tk_175 (i := 1) (k := k) (s := s) (e := e) (by decide) S B hb hL w6 w4 w5 ⟨(t0.f hb).2.1, (t0.f hb).2.2.1⟩ ⟨(t0.f hb).2.2.2.1, Int.le_trans (t0.f hb).2.2.2.2.1 (by decide)⟩).2 ((cl_l_w q0 (n := 3) (by decide)).2 (by decide))) rfl ?_
    refine fx_z_eq_T (pT := 48) rfl (by omega) rfl (by omega) ?_
    refine am_ev.step (pc' := 49) rfl rfl ?_
    refine am_ev.ldcw rfl rfl rfl rfl ?_
    refine ax_call (z := 175) (p' := 55) (as := [_, _]) rfl (Or.inr (Or.inl ⟨_, rfl⟩)) rfl rfl rfl rfl rfl rfl (S.ob rfl) rfl ((tk_175 (i := 3) (k := k) (s := s) (e := e) (by decide) S B hb hL w6 w4 w5 ⟨(t0.f hb).2.1, (t0.f hb).2.2.1⟩ ⟨(t0.f hb).2.2.2.1, Int.le_trans (t0.f hb).2.2.2.2.1 (by decide)⟩).2 ((cl_l_w q0 (n := 4) (by decide)).2 (by decide))) rfl ?_
    refine fx_z_eq_T (pT := 60) rfl (by omega) rfl (by omega) ?_
    refine am_ev.step (pc' := 61) rfl rfl ?_
    refine am_ev.ldcw rfl rfl rfl rfl ?_
    refine ax_call (z := 175) (p' := 67) (as := [_, _]) rfl (Or.inr (Or.inl ⟨_, rfl⟩)) rfl rfl rfl rfl rfl rfl (S.ob rfl) rfl ((tk_175 (i := 2) (k := k) (s := s) (e := e) (by decide) S B hb hL w6 w4 w5 ⟨(t0.f hb).2.1, (t0.f hb).2.2.1⟩ ⟨(t0.f hb).2.2.2.1, Int.le_trans (t0.f hb).2.2.2.2.1 (by decide)⟩).2 ((cl_l_w q0 (n := 5) (by decide)).2 (by decide))) rfl ?_
    refine fx_z_eq_T (pT := 74) rfl (by omega) rfl (by omega) ?_
    refine am_ev.step (pc' := 75) rfl rfl ?_
    exact fx_reti rfl rfl rfl
theorem lg_x (hb : tz_r b) (hL : L ≤ 1600) (C : lM h h0 b L p s e k v w τ Φ) (q0 : k ≠ 0) (q1 : cl_l b s e k (-1)) : am_ev (d + 8) 209 79 [.ref 78, a1] [] h  (some (.retAddr (79 + 1)), FMo h 1 s) := by
  obtain ⟨S, B, w3, t0, w4, w5, w6, w7, ya, yb, f8, f9, zt, dT, F, fr⟩ := C
  have f0 := t0.f5 hb
  clear ya yb
  have hr0 := tH_r (k := k) ⟨f0.2.2.2.1, f0.2.2.2.2⟩
  have hn0 := tH_0 (k := k) ⟨f0.2.2.2.1, f0.2.2.2.2⟩ q0
  refine am_ev.step (pc' := 80) rfl rfl ?_
  refine ax_gf (p' := 83) rfl rfl (S.ob rfl) w6 ?_
  refine fx_z_eq_F (pF := 86) rfl (by omega) rfl (by omega) ?_
  refine am_ev.step (pc' := 87) rfl rfl ?_
  refine ax_call (z := 210) (p' := 90) (as := [_]) rfl (Or.inr (Or.inl ⟨_, rfl⟩)) rfl rfl rfl rfl rfl rfl (S.ob rfl) rfl (lg_210 S B hb hL w4 w5 w6 t0 q1) rfl ?_
  refine am_ev.step (pc' := 91) (ls' := [.ref 78, iv (-1)]) rfl rfl ?_
  refine am_ev.step (pc' := 92) rfl rfl ?_
  refine am_ev.step (pc' := 93) rfl rfl ?_
  refine am_ev.step (pc' := 94) rfl rfl ?_
  refine fx_c_eq_T (pT := 101) rfl (by omega) (by omega) rfl (by omega) ?_
  refine am_ev.step (pc' := 102) rfl rfl ?_
  refine am_ev.step (pc' := 103) rfl rfl ?_
  refine ax_callT (a := 79) (z := 177) (as := [_, _, _]) rfl (Or.inr (Or.inl ⟨_, rfl⟩)) rfl rfl rfl rfl rfl rfl (S.ob rfl) (md_177f (s := s) S w4) rfl rfl (fO (fO (S.ob rfl))) rfl
theorem lg_a (hb : tz_r b) (hL : L ≤ 1600) (C : lM h h0 b L p s e k v w τ Φ) (q0 : k ≠ 0) (hl : l < 6) (q1 : cl_l b s e k l) (q2 : τ l = 1) : am_ev (d + 8) 209 79 [.ref 78, a1] [] h  (some (.retAddr (79 + 1)), FMo h 3 s) := by
  obtain ⟨S, B, w3, t0, w4, w5, w6, w7, ya, yb, f8, f9, zt, dT, F, fr⟩ := C
  have f0 := t0.f5 hb
  clear ya yb
  have hr0 := tH_r (k := k) ⟨f0.2.2.2.1, f0.2.2.2.2⟩
  have hn0 := tH_0 (k := k) ⟨f0.2.2.2.1, f0.2.2.2.2⟩ q0
  refine am_ev.step (pc' := 80) rfl rfl ?_
  refine ax_gf (p' := 83) rfl rfl (S.ob rfl) w6 ?_
  refine fx_z_eq_F (pF := 86) rfl (by omega) rfl (by omega) ?_
  refine am_ev.step (pc' := 87) rfl rfl ?_
  refine ax_call (z := 210) (p' := 90) (as := [_]) rfl (Or.inr (Or.inl ⟨_, rfl⟩)) rfl rfl rfl rfl rfl rfl (S.ob rfl) rfl (lg_210 S B hb hL w4 w5 w6 t0 q1) rfl ?_
  refine am_ev.step (pc' := 91) (ls' := [.ref 78, iv ((l : Int))]) rfl rfl ?_
  refine am_ev.step (pc' := 92) rfl rfl ?_
  refine am_ev.step (pc' := 93) rfl rfl ?_
  refine am_ev.step (pc' := 94) rfl rfl ?_
  refine fx_c_eq_F (pF := 97) rfl (by omega) (by omega) rfl (by omega) ?_
  refine am_ev.step (pc' := 98) rfl rfl ?_
  refine am_ev.step (pc' := 102) rfl rfl ?_
  refine am_ev.step (pc' := 103) rfl rfl ?_
  refine ax_call (z := 177) (p' := 106) (as := [_, _, _]) rfl (Or.inr (Or.inl ⟨_, rfl⟩)) rfl rfl rfl rfl rfl rfl (S.ob rfl) rfl md_177t rfl ?_
  refine am_ev.step (pc' := 107) rfl rfl ?_
  refine am_ev.step (pc' := 108) rfl rfl ?_
  refine ax_gf (p' := 111) rfl rfl (S.ob rfl) (S.rf rfl rfl) ?_
  refine am_ev.step (pc' := 112) rfl rfl ?_
  refine ax_baload (p' := 113) rfl rfl (S.rd (k := l) rfl rfl rfl rfl rfl (by omega) (dT l (by omega))) ?_
  refine fx_z_ne_T (pT := 120) rfl (by omega) rfl (by omega) ?_
  refine am_ev.step (pc' := 121) rfl rfl ?_
  refine am_ev.step (pc' := 122) rfl rfl ?_
  refine ax_callT (a := 79) (z := 177) (as := [_, _, _]) rfl (Or.inr (Or.inl ⟨_, rfl⟩)) rfl rfl rfl rfl rfl rfl (S.ob rfl) (md_177f (s := s) S w4) rfl rfl (fO (fO (S.ob rfl))) rfl
theorem lg_c (hb : tz_r b) (hL : L ≤ 1600) (C : lM h h0 b L p s e k v w τ Φ) (q0 : k ≠ 0) (hl : l < 6) (q1 : cl_l b s e k l) (q2 : τ l = 0) (t1 : tz_t b L e s1 e1 k1 v1) {x : Option Value × am_H} (q9 : am_ev (d + 8) 209 136 [.ref 78, iv l] [] (M1 (am_put h 85 l (iv 1)) s1 e1 (tH k1) (tV b L s1 w)) x) : am_ev (d + 8) 209 79 [.ref 78, a1] [] h  x := by
  obtain ⟨S, B, w3, t0, w4, w5, w6, w7, ya, yb, f8, f9, zt, dT, F, fr⟩ := C
  have f0 := t0.f5 hb
  clear ya yb
  have hr0 := tH_r (k := k) ⟨f0.2.2.2.1, f0.2.2.2.2⟩
  have hn0 := tH_0 (k := k) ⟨f0.2.2.2.1, f0.2.2.2.2⟩ q0
  refine am_ev.step (pc' := 80) rfl rfl ?_
  refine ax_gf (p' := 83) rfl rfl (S.ob rfl) w6 ?_
  refine fx_z_eq_F (pF := 86) rfl (by omega) rfl (by omega) ?_
  refine am_ev.step (pc' := 87) rfl rfl ?_
  refine ax_call (z := 210) (p' := 90) (as := [_]) rfl (Or.inr (Or.inl ⟨_, rfl⟩)) rfl rfl rfl rfl rfl rfl (S.ob rfl) rfl (lg_210 S B hb hL w4 w5 w6 t0 q1) rfl ?_
  refine am_ev.step (pc' := 91) (ls' := [.ref 78, iv ((l : Int))]) rfl rfl ?_
  refine am_ev.step (pc' := 92) rfl rfl ?_
  refine am_ev.step (pc' := 93) rfl rfl ?_
  refine am_ev.step (pc' := 94) rfl rfl ?_
  refine fx_c_eq_F (pF := 97) rfl (by omega) (by omega) rfl (by omega) ?_
  refine am_ev.step (pc' := 98) rfl rfl ?_
  refine am_ev.step (pc' := 102) rfl rfl ?_
  refine am_ev.step (pc' := 103) rfl rfl ?_
  refine ax_call (z := 177) (p' := 106) (as := [_, _, _]) rfl (Or.inr (Or.inl ⟨_, rfl⟩)) rfl rfl rfl rfl rfl rfl (S.ob rfl) rfl md_177t rfl ?_
  refine am_ev.step (pc' := 107) rfl rfl ?_
  refine am_ev.step (pc' := 108) rfl rfl ?_
  refine ax_gf (p' := 111) rfl rfl (S.ob rfl) (S.rf rfl rfl) ?_
  refine am_ev.step (pc' := 112) rfl rfl ?_
  refine ax_baload (p' := 113) rfl rfl (S.rd (k := l) rfl rfl rfl rfl rfl (by omega) (dT l (by omega))) ?_
  refine fx_z_ne_F (pF := 116) rfl (by omega) rfl (by omega) ?_
  refine am_ev.step (pc' := 117) rfl rfl ?_
  refine am_ev.step (pc' := 121) rfl rfl ?_
  refine am_ev.step (pc' := 122) rfl rfl ?_
  refine ax_call (z := 177) (p' := 125) (as := [_, _, _]) rfl (Or.inr (Or.inl ⟨_, rfl⟩)) rfl rfl rfl rfl rfl rfl (S.ob rfl) rfl md_177t rfl ?_
  refine am_ev.step (pc' := 126) rfl rfl ?_
  refine ax_gf (p' := 129) rfl rfl (S.ob rfl) (S.rf rfl rfl) ?_
  refine am_ev.step (pc' := 130) rfl rfl ?_
  refine am_ev.step (pc' := 131) rfl rfl ?_
  refine ax_bas2 (p' := 132) rfl rfl (S.wr (k := l) rfl rfl rfl rfl (by omega)) (S.sb rfl rfl) (by decide) ?_
  refine am_ev.step (pc' := 133) rfl rfl ?_
  refine ax_call (z := 170) (p' := 136) (as := [_]) rfl (Or.inr (Or.inl ⟨_, rfl⟩)) rfl rfl rfl rfl rfl rfl (fO (S.ob rfl)) rfl (md_170 (S.pa rfl) (B.put (by decide)) hb hL (ax_put_o (Or.inl (by decide)) w3) (ax_put_o (Or.inl (by decide)) w5) (ax_put_o (Or.inl (by decide)) w7) t1) rfl ?_
  exact q9
theorem lg_t (S : fS h) (SM : fS M) (z : am_ev (d + 7) 211 0 (am_ent [.ref 78, iv l] 2) [] h (some (.retAddr (79 + 1)), M)) : am_ev (d + 8) 209 136 [.ref 78, iv l] [] h (some (.retAddr (79 + 1)), M) := by
  refine am_ev.step (pc' := 137) rfl rfl ?_
  refine am_ev.step (pc' := 138) rfl rfl ?_
  refine ax_callT (a := 79) (z := 211) (as := [_, _]) rfl (Or.inr (Or.inl ⟨_, rfl⟩)) rfl rfl rfl rfl rfl rfl (S.ob rfl) z rfl rfl (SM.ob rfl) rfl
theorem lg_u (hb : tz_r b) (hL : L ≤ 1600) (C : lM M h0 b L p s e k v w τ Φ) (Sh : fS h) (q1 : k ≠ 59) (z : am_ev (d + 7) 211 0 (am_ent [.ref 78, iv l] 2) [] h (none, M)) : am_ev (d + 8) 209 136 [.ref 78, iv l] [] h (some (.retAddr (79 + 1)), FMo M 1 s) := by
  obtain ⟨S, B, w3, t0, w4, w5, w6, w7, ya, yb, f8, f9, zt, dT, F, fr⟩ := C
  have f0 := t0.f5 hb
  refine am_ev.step (pc' := 137) rfl rfl ?_
  refine am_ev.step (pc' := 138) rfl rfl ?_
  refine ax_call (z := 211) (p' := 141) (as := [_, _]) rfl (Or.inr (Or.inl ⟨_, rfl⟩)) rfl rfl rfl rfl rfl rfl (Sh.ob rfl) rfl z rfl ?_
  refine am_ev.step (pc' := 142) rfl rfl ?_
  refine ax_callT (a := 79) (z := 181) (as := [_]) rfl (Or.inr (Or.inl ⟨_, rfl⟩)) rfl rfl rfl rfl rfl rfl (S.ob rfl) (md_181a (s := s) (k := k) S w4 w6 ⟨f0.2.2.2.1, f0.2.2.2.2⟩ w7 yb (t0.h4 hb) q1) rfl rfl (fO (fO (S.ob rfl))) rfl
theorem lg_n (hb : tz_r b) (hL : L ≤ 1600) (C : lM M h0 b L p s e k v w τ Φ) (Sh : fS h) (q1 : k = 59) (t1 : tz_t b L e s1 e1 k1 v1) (z : am_ev (d + 7) 211 0 (am_ent [.ref 78, iv l] 2) [] h (none, M)) {x : Option Value × am_H} (q9 : am_ev (d + 8) 209 79 [.ref 78, iv l] [] (M1 M s1 e1 (tH k1) (tV b L s1 w)) x) : am_ev (d + 8) 209 136 [.ref 78, iv l] [] h x := by
  obtain ⟨S, B, w3, t0, w4, w5, w6, w7, ya, yb, f8, f9, zt, dT, F, fr⟩ := C
  have f0 := t0.f5 hb
  refine am_ev.step (pc' := 137) rfl rfl ?_
  refine am_ev.step (pc' := 138) rfl rfl ?_
  refine ax_call (z := 211) (p' := 141) (as := [_, _]) rfl (Or.inr (Or.inl ⟨_, rfl⟩)) rfl rfl rfl rfl rfl rfl (Sh.ob rfl) rfl z rfl ?_
  refine am_ev.step (pc' := 142) rfl rfl ?_
  refine ax_call (z := 181) (p' := 145) (as := [_]) rfl (Or.inr (Or.inl ⟨_, rfl⟩)) rfl rfl rfl rfl rfl rfl (S.ob rfl) rfl (md_181b (s := s) (k := k) S w4 w6 ⟨f0.2.2.2.1, f0.2.2.2.2⟩ w7 yb B hb hL w3 w5 t1 q1) rfl ?_
  refine am_ev.step (pc' := 79) rfl rfl ?_
  exact q9
end LF2
