/-! DEATHS AND WHO MAY AT THE LAW -/
section DED
variable {h : am_H} {d n : Nat} {x y c : Int}
theorem de_91t (S : fS h) (v5 : h.2.2.2 48 5 = iv n) (hn : n < 60) : am_ev d 91 0 (am_ent [.ref 48, iv (x), iv (y), iv (c)] 4) [] h (some (iv ((n : Int) + 1)), (am_put (am_put (am_put (am_put h 50 n (iv (x))) 51 n (iv (y))) 52 n (iv (c))) 48 5 (iv ((n : Int) + 1)))) := by
  show am_ev d 91 0 [.ref 48, iv (x), iv (y), iv (c)] [] h _
  refine am_ev.step (pc' := 1) rfl rfl ?_
  refine ax_gf (p' := 4) rfl rfl (S.ob rfl) v5 ?_
  refine fx_z_lt_F (pF := 7) rfl (by omega) rfl (by omega) ?_
  refine am_ev.step (pc' := 8) rfl rfl ?_
  refine ax_gf (p' := 11) rfl rfl (S.ob rfl) v5 ?_
  refine fx_bip (p' := 13) rfl rfl rfl ?_
  refine fx_c_lt_T (pT := 19) rfl (by omega) (by omega) rfl (by omega) ?_
  refine am_ev.step (pc' := 20) rfl rfl ?_
  refine ax_gf (p' := 23) rfl rfl (S.ob rfl) (S.rf rfl rfl) ?_
  refine am_ev.step (pc' := 24) rfl rfl ?_
  refine ax_gf (p' := 27) rfl rfl (S.ob rfl) v5 ?_
  refine am_ev.step (pc' := 28) rfl rfl ?_
  refine ax_iastore (p' := 29) rfl rfl (S.wr (k := n) rfl rfl rfl rfl (by omega)) ?_
  refine am_ev.step (pc' := 30) rfl rfl ?_
  refine ax_gf (p' := 33) rfl rfl (fO (S.ob rfl)) (ax_put_o (Or.inl (by decide)) (S.rf rfl rfl)) ?_
  refine am_ev.step (pc' := 34) rfl rfl ?_
  refine ax_gf (p' := 37) rfl rfl (fO (S.ob rfl)) (ax_put_o (Or.inl (by decide)) v5) ?_
  refine am_ev.step (pc' := 38) rfl rfl ?_
  refine ax_iastore (p' := 39) rfl rfl ((S.pa rfl).wr (k := n) rfl rfl rfl rfl (by omega)) ?_
  refine am_ev.step (pc' := 40) rfl rfl ?_
  refine ax_gf (p' := 43) rfl rfl (fO (fO (S.ob rfl))) (ax_put_o (Or.inl (by decide)) (ax_put_o (Or.inl (by decide)) (S.rf rfl rfl))) ?_
  refine am_ev.step (pc' := 44) rfl rfl ?_
  refine ax_gf (p' := 47) rfl rfl (fO (fO (S.ob rfl))) (ax_put_o (Or.inl (by decide)) (ax_put_o (Or.inl (by decide)) v5)) ?_
  refine am_ev.step (pc' := 48) rfl rfl ?_
  refine ax_iastore (p' := 49) rfl rfl (((S.pa rfl).pa rfl).wr (k := n) rfl rfl rfl rfl (by omega)) ?_
  refine am_ev.step (pc' := 50) rfl rfl ?_
  refine am_ev.step (pc' := 51) rfl rfl ?_
  refine ax_gf (p' := 54) rfl rfl (fO (fO (fO (S.ob rfl)))) (ax_put_o (Or.inl (by decide)) (ax_put_o (Or.inl (by decide)) (ax_put_o (Or.inl (by decide)) v5))) ?_
  refine am_ev.step (pc' := 55) rfl rfl ?_
  refine fx_add (p' := 56) (e := ((n : Int) + 1)) rfl rfl (by omega) ?_
  refine ax_pf (p' := 59) rfl rfl (fO (fO (fO (S.ob rfl)))) rfl ?_
  refine am_ev.step (pc' := 60) rfl rfl ?_
  refine ax_gf (p' := 63) rfl rfl (fO (fO (fO (fO (S.ob rfl))))) (ax_put_s _ _ _) ?_
  exact fx_reti rfl rfl rfl
theorem de_91f (S : fS h) (v5 : h.2.2.2 48 5 = iv n) (hn : n = 60) : am_ev d 91 0 (am_ent [.ref 48, iv (x), iv (y), iv (c)] 4) [] h (some (iv (-3)), h) := by
  show am_ev d 91 0 [.ref 48, iv (x), iv (y), iv (c)] [] h _
  refine am_ev.step (pc' := 1) rfl rfl ?_
  refine ax_gf (p' := 4) rfl rfl (S.ob rfl) v5 ?_
  refine fx_z_lt_F (pF := 7) rfl (by omega) rfl (by omega) ?_
  refine am_ev.step (pc' := 8) rfl rfl ?_
  refine ax_gf (p' := 11) rfl rfl (S.ob rfl) v5 ?_
  refine fx_bip (p' := 13) rfl rfl rfl ?_
  refine fx_c_lt_F (pF := 16) rfl (by omega) (by omega) rfl (by omega) ?_
  refine fx_bip (p' := 18) rfl rfl rfl ?_
  exact fx_reti rfl rfl rfl
theorem de_90a (S : fS h) (r_x : -2147483648 ≤ x ∧ x ≤ 2147483647) (r_y : -2147483648 ≤ y ∧ y ≤ 2147483647) (vc : h.2.2.2 40 9 = iv c) (q1 : ¬ (0 ≤ x ∧ x ≤ 19)) : am_ev (d + 2) 90 0 (am_ent [.ref 40, iv (x), iv (y)] 3) [] h (some (iv (-2)), h) := by
  show am_ev (d + 2) 90 0 [.ref 40, iv (x), iv (y)] [] h _
  refine am_ev.step (pc' := 1) rfl rfl ?_
  refine fx_bip (p' := 3) rfl rfl rfl ?_
  refine ax_call (z := 39) (p' := 6) (as := [_, _]) rfl (Or.inl ⟨_, rfl⟩) rfl rfl rfl rfl rfl rfl rfl rfl (w39_19f r_x q1) rfl ?_
  refine fx_z_eq_T (pT := 19) rfl (by omega) rfl (by omega) ?_
  refine fx_bip (p' := 21) rfl rfl rfl ?_
  exact fx_reti rfl rfl rfl
theorem de_217a (S : fS h) (r_x : -2147483648 ≤ x ∧ x ≤ 2147483647) (r_y : -2147483648 ≤ y ∧ y ≤ 2147483647) (vc : h.2.2.2 78 15 = iv c) (q1 : ¬ (0 ≤ x ∧ x ≤ 19)) : am_ev (d + 2) 217 0 (am_ent [.ref 78, iv (x), iv (y)] 3) [] h (some (iv (-2)), h) := by
  show am_ev (d + 2) 217 0 [.ref 78, iv (x), iv (y)] [] h _
  refine am_ev.step (pc' := 1) rfl rfl ?_
  refine ax_call (z := 186) (p' := 4) (as := [_]) rfl (Or.inl ⟨_, rfl⟩) rfl rfl rfl rfl rfl rfl rfl rfl (w186f r_x q1) rfl ?_
  refine fx_z_eq_T (pT := 14) rfl (by omega) rfl (by omega) ?_
  refine fx_bip (p' := 16) rfl rfl rfl ?_
  exact fx_reti rfl rfl rfl
theorem de_90b (S : fS h) (r_x : -2147483648 ≤ x ∧ x ≤ 2147483647) (r_y : -2147483648 ≤ y ∧ y ≤ 2147483647) (vc : h.2.2.2 40 9 = iv c) (q1 : 0 ≤ x ∧ x ≤ 19) (q2 : ¬ (0 ≤ y ∧ y ≤ 29999)) : am_ev (d + 2) 90 0 (am_ent [.ref 40, iv (x), iv (y)] 3) [] h (some (iv (-2)), h) := by
  show am_ev (d + 2) 90 0 [.ref 40, iv (x), iv (y)] [] h _
  refine am_ev.step (pc' := 1) rfl rfl ?_
  refine fx_bip (p' := 3) rfl rfl rfl ?_
  refine ax_call (z := 39) (p' := 6) (as := [_, _]) rfl (Or.inl ⟨_, rfl⟩) rfl rfl rfl rfl rfl rfl rfl rfl (w39_19t r_x q1) rfl ?_
  refine fx_z_eq_F (pF := 9) rfl (by omega) rfl (by omega) ?_
  refine am_ev.step (pc' := 10) rfl rfl ?_
  refine fx_sip (p' := 13) rfl rfl rfl ?_
  refine ax_call (z := 39) (p' := 16) (as := [_, _]) rfl (Or.inl ⟨_, rfl⟩) rfl rfl rfl rfl rfl rfl rfl rfl (w39_29999f r_y q2) rfl ?_
  refine fx_z_ne_F (pF := 19) rfl (by omega) rfl (by omega) ?_
  refine fx_bip (p' := 21) rfl rfl rfl ?_
  exact fx_reti rfl rfl rfl
theorem de_217b (S : fS h) (r_x : -2147483648 ≤ x ∧ x ≤ 2147483647) (r_y : -2147483648 ≤ y ∧ y ≤ 2147483647) (vc : h.2.2.2 78 15 = iv c) (q1 : 0 ≤ x ∧ x ≤ 19) (q2 : ¬ (0 ≤ y ∧ y ≤ 29999)) : am_ev (d + 2) 217 0 (am_ent [.ref 78, iv (x), iv (y)] 3) [] h (some (iv (-2)), h) := by
  show am_ev (d + 2) 217 0 [.ref 78, iv (x), iv (y)] [] h _
  refine am_ev.step (pc' := 1) rfl rfl ?_
  refine ax_call (z := 186) (p' := 4) (as := [_]) rfl (Or.inl ⟨_, rfl⟩) rfl rfl rfl rfl rfl rfl rfl rfl (w186t r_x q1) rfl ?_
  refine fx_z_eq_F (pF := 7) rfl (by omega) rfl (by omega) ?_
  refine am_ev.step (pc' := 8) rfl rfl ?_
  refine ax_call (z := 216) (p' := 11) (as := [_]) rfl (Or.inl ⟨_, rfl⟩) rfl rfl rfl rfl rfl rfl rfl rfl (w216f r_y q2) rfl ?_
  refine fx_z_ne_F (pF := 14) rfl (by omega) rfl (by omega) ?_
  refine fx_bip (p' := 16) rfl rfl rfl ?_
  exact fx_reti rfl rfl rfl
theorem de_90f (S : fS h) (r_x : -2147483648 ≤ x ∧ x ≤ 2147483647) (r_y : -2147483648 ≤ y ∧ y ≤ 2147483647) (vc : h.2.2.2 40 9 = iv c) (q1 : 0 ≤ x ∧ x ≤ 19) (q2 : 0 ≤ y ∧ y ≤ 29999) (v5 : h.2.2.2 48 5 = iv n) (hn : n = 60) : am_ev (d + 2) 90 0 (am_ent [.ref 40, iv (x), iv (y)] 3) [] h (some (iv (-3)), h) := by
  show am_ev (d + 2) 90 0 [.ref 40, iv (x), iv (y)] [] h _
  refine am_ev.step (pc' := 1) rfl rfl ?_
  refine fx_bip (p' := 3) rfl rfl rfl ?_
  refine ax_call (z := 39) (p' := 6) (as := [_, _]) rfl (Or.inl ⟨_, rfl⟩) rfl rfl rfl rfl rfl rfl rfl rfl (w39_19t r_x q1) rfl ?_
  refine fx_z_eq_F (pF := 9) rfl (by omega) rfl (by omega) ?_
  refine am_ev.step (pc' := 10) rfl rfl ?_
  refine fx_sip (p' := 13) rfl rfl rfl ?_
  refine ax_call (z := 39) (p' := 16) (as := [_, _]) rfl (Or.inl ⟨_, rfl⟩) rfl rfl rfl rfl rfl rfl rfl rfl (w39_29999t r_y q2) rfl ?_
  refine fx_z_ne_T (pT := 22) rfl (by omega) rfl (by omega) ?_
  refine am_ev.step (pc' := 23) rfl rfl ?_
  refine ax_gf (p' := 26) rfl rfl (S.ob rfl) (S.rf rfl rfl) ?_
  refine am_ev.step (pc' := 27) rfl rfl ?_
  refine am_ev.step (pc' := 28) rfl rfl ?_
  refine am_ev.step (pc' := 29) rfl rfl ?_
  refine ax_gf (p' := 32) rfl rfl (S.ob rfl) vc ?_
  refine ax_call (z := 91) (p' := 35) (as := [_, _, _, _]) rfl (Or.inr (Or.inl ⟨_, rfl⟩)) rfl rfl rfl rfl rfl rfl (S.ob rfl) rfl (de_91f S v5 hn) rfl ?_
  exact fx_reti rfl rfl rfl
theorem de_217f (S : fS h) (r_x : -2147483648 ≤ x ∧ x ≤ 2147483647) (r_y : -2147483648 ≤ y ∧ y ≤ 2147483647) (vc : h.2.2.2 78 15 = iv c) (q1 : 0 ≤ x ∧ x ≤ 19) (q2 : 0 ≤ y ∧ y ≤ 29999) (v36 : h.2.2.2 78 36 = iv n) (hn : n = 60) : am_ev (d + 2) 217 0 (am_ent [.ref 78, iv (x), iv (y)] 3) [] h (some (iv (-3)), h) := by
  show am_ev (d + 2) 217 0 [.ref 78, iv (x), iv (y)] [] h _
  refine am_ev.step (pc' := 1) rfl rfl ?_
  refine ax_call (z := 186) (p' := 4) (as := [_]) rfl (Or.inl ⟨_, rfl⟩) rfl rfl rfl rfl rfl rfl rfl rfl (w186t r_x q1) rfl ?_
  refine fx_z_eq_F (pF := 7) rfl (by omega) rfl (by omega) ?_
  refine am_ev.step (pc' := 8) rfl rfl ?_
  refine ax_call (z := 216) (p' := 11) (as := [_]) rfl (Or.inl ⟨_, rfl⟩) rfl rfl rfl rfl rfl rfl rfl rfl (w216t r_y q2) rfl ?_
  refine fx_z_ne_T (pT := 17) rfl (by omega) rfl (by omega) ?_
  refine am_ev.step (pc' := 18) rfl rfl ?_
  refine ax_gf (p' := 21) rfl rfl (S.ob rfl) v36 ?_
  refine fx_bip (p' := 23) rfl rfl rfl ?_
  refine fx_c_ne_F (pF := 26) rfl (by omega) (by omega) rfl (by omega) ?_
  refine fx_bip (p' := 28) rfl rfl rfl ?_
  exact fx_reti rfl rfl rfl
theorem de_90t (S : fS h) (r_x : -2147483648 ≤ x ∧ x ≤ 2147483647) (r_y : -2147483648 ≤ y ∧ y ≤ 2147483647) (vc : h.2.2.2 40 9 = iv c) (q1 : 0 ≤ x ∧ x ≤ 19) (q2 : 0 ≤ y ∧ y ≤ 29999) (v5 : h.2.2.2 48 5 = iv n) (hn : n < 60) : am_ev (d + 2) 90 0 (am_ent [.ref 40, iv (x), iv (y)] 3) [] h (some (iv ((n : Int) + 1)), (am_put (am_put (am_put (am_put h 50 n (iv (x))) 51 n (iv (y))) 52 n (iv (c))) 48 5 (iv ((n : Int) + 1)))) := by
  show am_ev (d + 2) 90 0 [.ref 40, iv (x), iv (y)] [] h _
  refine am_ev.step (pc' := 1) rfl rfl ?_
  refine fx_bip (p' := 3) rfl rfl rfl ?_
  refine ax_call (z := 39) (p' := 6) (as := [_, _]) rfl (Or.inl ⟨_, rfl⟩) rfl rfl rfl rfl rfl rfl rfl rfl (w39_19t r_x q1) rfl ?_
  refine fx_z_eq_F (pF := 9) rfl (by omega) rfl (by omega) ?_
  refine am_ev.step (pc' := 10) rfl rfl ?_
  refine fx_sip (p' := 13) rfl rfl rfl ?_
  refine ax_call (z := 39) (p' := 16) (as := [_, _]) rfl (Or.inl ⟨_, rfl⟩) rfl rfl rfl rfl rfl rfl rfl rfl (w39_29999t r_y q2) rfl ?_
  refine fx_z_ne_T (pT := 22) rfl (by omega) rfl (by omega) ?_
  refine am_ev.step (pc' := 23) rfl rfl ?_
  refine ax_gf (p' := 26) rfl rfl (S.ob rfl) (S.rf rfl rfl) ?_
  refine am_ev.step (pc' := 27) rfl rfl ?_
  refine am_ev.step (pc' := 28) rfl rfl ?_
  refine am_ev.step (pc' := 29) rfl rfl ?_
  refine ax_gf (p' := 32) rfl rfl (S.ob rfl) vc ?_
  refine ax_call (z := 91) (p' := 35) (as := [_, _, _, _]) rfl (Or.inr (Or.inl ⟨_, rfl⟩)) rfl rfl rfl rfl rfl rfl (S.ob rfl) rfl (de_91t S v5 hn) rfl ?_
  exact fx_reti rfl rfl rfl
theorem de_217t (S : fS h) (r_x : -2147483648 ≤ x ∧ x ≤ 2147483647) (r_y : -2147483648 ≤ y ∧ y ≤ 2147483647) (vc : h.2.2.2 78 15 = iv c) (q1 : 0 ≤ x ∧ x ≤ 19) (q2 : 0 ≤ y ∧ y ≤ 29999) (v36 : h.2.2.2 78 36 = iv n) (hn : n < 60) : am_ev (d + 2) 217 0 (am_ent [.ref 78, iv (x), iv (y)] 3) [] h (some (iv ((n : Int) + 1)), (am_put (am_put (am_put (am_put h 114 n (iv (x))) 115 n (iv (y))) 116 n (iv (c))) 78 36 (iv ((n : Int) + 1)))) := by
  show am_ev (d + 2) 217 0 [.ref 78, iv (x), iv (y)] [] h _
  refine am_ev.step (pc' := 1) rfl rfl ?_
  refine ax_call (z := 186) (p' := 4) (as := [_]) rfl (Or.inl ⟨_, rfl⟩) rfl rfl rfl rfl rfl rfl rfl rfl (w186t r_x q1) rfl ?_
  refine fx_z_eq_F (pF := 7) rfl (by omega) rfl (by omega) ?_
  refine am_ev.step (pc' := 8) rfl rfl ?_
  refine ax_call (z := 216) (p' := 11) (as := [_]) rfl (Or.inl ⟨_, rfl⟩) rfl rfl rfl rfl rfl rfl rfl rfl (w216t r_y q2) rfl ?_
  refine fx_z_ne_T (pT := 17) rfl (by omega) rfl (by omega) ?_
  refine am_ev.step (pc' := 18) rfl rfl ?_
  refine ax_gf (p' := 21) rfl rfl (S.ob rfl) v36 ?_
  refine fx_bip (p' := 23) rfl rfl rfl ?_
  refine fx_c_ne_T (pT := 29) rfl (by omega) (by omega) rfl (by omega) ?_
  refine am_ev.step (pc' := 30) rfl rfl ?_
  refine ax_gf (p' := 33) rfl rfl (S.ob rfl) (S.rf rfl rfl) ?_
  refine am_ev.step (pc' := 34) rfl rfl ?_
  refine ax_gf (p' := 37) rfl rfl (S.ob rfl) v36 ?_
  refine am_ev.step (pc' := 38) rfl rfl ?_
  refine ax_iastore (p' := 39) rfl rfl (S.wr (k := n) rfl rfl rfl rfl (by omega)) ?_
  refine am_ev.step (pc' := 40) rfl rfl ?_
  refine ax_gf (p' := 43) rfl rfl (fO (S.ob rfl)) (ax_put_o (Or.inl (by decide)) (S.rf rfl rfl)) ?_
  refine am_ev.step (pc' := 44) rfl rfl ?_
  refine ax_gf (p' := 47) rfl rfl (fO (S.ob rfl)) (ax_put_o (Or.inl (by decide)) v36) ?_
  refine am_ev.step (pc' := 48) rfl rfl ?_
  refine ax_iastore (p' := 49) rfl rfl ((S.pa rfl).wr (k := n) rfl rfl rfl rfl (by omega)) ?_
  refine am_ev.step (pc' := 50) rfl rfl ?_
  refine ax_gf (p' := 53) rfl rfl (fO (fO (S.ob rfl))) (ax_put_o (Or.inl (by decide)) (ax_put_o (Or.inl (by decide)) (S.rf rfl rfl))) ?_
  refine am_ev.step (pc' := 54) rfl rfl ?_
  refine ax_gf (p' := 57) rfl rfl (fO (fO (S.ob rfl))) (ax_put_o (Or.inl (by decide)) (ax_put_o (Or.inl (by decide)) v36)) ?_
  refine am_ev.step (pc' := 58) rfl rfl ?_
  refine ax_gf (p' := 61) rfl rfl (fO (fO (S.ob rfl))) (ax_put_o (Or.inl (by decide)) (ax_put_o (Or.inl (by decide)) vc)) ?_
  refine ax_iastore (p' := 62) rfl rfl (((S.pa rfl).pa rfl).wr (k := n) rfl rfl rfl rfl (by omega)) ?_
  refine am_ev.step (pc' := 63) rfl rfl ?_
  refine am_ev.step (pc' := 64) rfl rfl ?_
  refine ax_gf (p' := 67) rfl rfl (fO (fO (fO (S.ob rfl)))) (ax_put_o (Or.inl (by decide)) (ax_put_o (Or.inl (by decide)) (ax_put_o (Or.inl (by decide)) v36))) ?_
  refine am_ev.step (pc' := 68) rfl rfl ?_
  refine fx_add (p' := 69) (e := ((n : Int) + 1)) rfl rfl (by omega) ?_
  refine ax_pf (p' := 72) rfl rfl (fO (fO (fO (S.ob rfl)))) rfl ?_
  refine am_ev.step (pc' := 73) rfl rfl ?_
  refine ax_gf (p' := 76) rfl rfl (fO (fO (fO (fO (S.ob rfl))))) (ax_put_s _ _ _) ?_
  exact fx_reti rfl rfl rfl
/-- the deaths told, on both sides -/
def rD1 (h : am_H) (X Z Y : Nat → Int) (i : Nat) : Prop := h.2.2.2 50 i = iv (X i) ∧ h.2.2.2 51 i = iv (Z i) ∧ h.2.2.2 52 i = iv (Y i) ∧ h.2.2.2 114 i = iv (X i) ∧ h.2.2.2 115 i = iv (Z i) ∧ h.2.2.2 116 i = iv (Y i)
def rD (h : am_H) : Prop := ∃ (n : Nat) (X Z Y : Nat → Int), n ≤ 60 ∧ h.2.2.2 48 5 = iv n ∧ h.2.2.2 78 36 = iv n ∧ dB X Z Y n ∧ ∀ i, i < n → rD1 h X Z Y i
def rD_m (m : cq_W) : Bool := lw_nF m 48 5 && lw_nF m 78 36 && (lw_nA m 50 && lw_nA m 51 && lw_nA m 52) && (lw_nA m 114 && lw_nA m 115 && lw_nA m 116)
theorem rD1_eq {h2 : am_H} {X Z Y : Nat → Int} {i : Nat} (e : ∀ c, (c = 50 ∨ c = 51 ∨ c = 52 ∨ c = 114 ∨ c = 115 ∨ c = 116) → h2.2.2.2 c i = h.2.2.2 c i) (q : rD1 h X Z Y i) : rD1 h2 X Z Y i := by
  obtain ⟨q1, q2, q3, q4, q5, q6⟩ := q
  exact ⟨(e 50 (by decide)).trans q1, (e 51 (by decide)).trans q2, (e 52 (by decide)).trans q3, (e 114 (by decide)).trans q4, (e 115 (by decide)).trans q5, (e 116 (by decide)).trans q6⟩
theorem rD_fr {h h2 : am_H} {m : cq_W} (I : cq_Inv none h) (F : cq_Fr m h h2) (q : rD_m m = true) (X : rD h) : rD h2 := by
  have b1 := (Bool.and_eq_true _ _ ▸ q)
  have b2 := (Bool.and_eq_true _ _ ▸ b1.1)
  have b3 := (Bool.and_eq_true _ _ ▸ b2.1)
  have b4 := (Bool.and_eq_true _ _ ▸ b2.2)
  have b5 := (Bool.and_eq_true _ _ ▸ b4.1)
  have b6 := (Bool.and_eq_true _ _ ▸ b1.2)
  have b7 := (Bool.and_eq_true _ _ ▸ b6.1)
  obtain ⟨n, X, Z, Y, hn, v1, v2, B, K⟩ := X
  refine ⟨n, X, Z, Y, hn, (lw_frF F I.lo (by decide) b3.1).trans v1, (lw_frF F I.lo (by decide) b3.2).trans v2, B, fun i hi => rD1_eq (fun c hc => ?_) (K i hi)⟩
  rcases hc with rfl | rfl | rfl | rfl | rfl | rfl
  · exact lw_frA F I.lo (by decide) b5.1 i
  · exact lw_frA F I.lo (by decide) b5.2 i
  · exact lw_frA F I.lo (by decide) b4.2 i
  · exact lw_frA F I.lo (by decide) b7.1 i
  · exact lw_frA F I.lo (by decide) b7.2 i
  · exact lw_frA F I.lo (by decide) b6.2 i
theorem op_ded (I : cq_Inv none h) (R : rD h) (Tc : tT h (40, 9, 78, 15)) (p a : Int32) : ∃ (x : Int32) (h1 h2 : am_H), am_ev (d + 10) 90 0 (am_ent [.ref 40, .int p, .int a] (am_in 90).2.2.1) [] h (some (.int x), h1) ∧ am_ev (d + 10) 217 0 (am_ent [.ref 78, .int p, .int a] (am_in 217).2.2.1) [] h1 (some (.int x), h2) ∧ cq_Inv none h1 ∧ cq_Inv none h2 ∧ cq_Fr ct_90.2.2.2.1 h h1 ∧ cq_Fr ct_217.2.2.2.1 h1 h2 ∧ (∀ q ∈ [((48 : Nat), (5 : Nat), (78 : Nat), (36 : Nat))], tT h2 q) ∧ rD h2 ∧ h2.1 ≤ h.1 + 12 ∧ h2.2.1 ≤ h.2.1 + 624 := by
  have lo := I.lo
  obtain ⟨r, h1, ev1, T1', I1, F1, A1, B1⟩ := sp_ap2 (A := 0) (B := 0) ok_90 rfl rfl (by decide +kernel) I (d := d + 10) (Nat.le_trans (by decide +kernel) (Nat.le_add_left 10 d)) p a
  obtain ⟨r', h2, ev2, T2', I2, F2, A2, B2⟩ := sp_ap2 (A := 0) (B := 0) ok_217 rfl rfl (by decide +kernel) I1 (d := d + 10) (Nat.le_trans (by decide +kernel) (Nat.le_add_left 10 d)) p a
  have S := fS.of I
  have S1 := fS.of I1
  obtain ⟨cc, c1, c2⟩ := Tc
  have c1 : h.2.2.2 40 9 = .int cc := c1
  have c2 : h.2.2.2 78 15 = .int cc := c2
  obtain ⟨yy, ey, cb1, cb2⟩ := ax_in I (c := 40) (j := 9) (l := 0) (u := 29999) (by decide +kernel) (by decide +kernel)
  rw [c1] at ey
  cases ey
  have c1 := c1.trans (fx_of cc)
  have c2 := c2.trans (fx_of cc)
  have R0 := R
  obtain ⟨n, X, Z, Y, hn, v1, v2, B, K⟩ := R
  have k36 : h1.2.2.2 78 36 = iv n := by rw [lw_frF F1 lo (by decide) (by decide +kernel), v2]
  have k15 : h1.2.2.2 78 15 = iv cc.toInt := by rw [lw_frF F1 lo (by decide) (by decide +kernel), c2]
  have fin : ∀ x : Int32, r = some (.int x) → r' = some (.int x) → rD h2 → ∃ (x : Int32) (h1 h2 : am_H), am_ev (d + 10) 90 0 (am_ent [.ref 40, .int p, .int a] (am_in 90).2.2.1) [] h (some (.int x), h1) ∧ am_ev (d + 10) 217 0 (am_ent [.ref 78, .int p, .int a] (am_in 217).2.2.1) [] h1 (some (.int x), h2) ∧ cq_Inv none h1 ∧ cq_Inv none h2 ∧ cq_Fr ct_90.2.2.2.1 h h1 ∧ cq_Fr ct_217.2.2.2.1 h1 h2 ∧ (∀ q ∈ [((48 : Nat), (5 : Nat), (78 : Nat), (36 : Nat))], tT h2 q) ∧ rD h2 ∧ h2.1 ≤ h.1 + 12 ∧ h2.2.1 ≤ h.2.1 + 624 := fun x e1 e2 R2 => ⟨x, h1, h2, by rw [← e1]; exact ev1, by rw [← e2]; exact ev2, I1, I2, F1, F2, (fun q hq => by
    rw [List.mem_singleton.1 hq]
    obtain ⟨n', -, -, -, -, w1, w2, -, -⟩ := R2
    exact ⟨Int32.ofInt n', w1, w2⟩), R2, by omega, by omega⟩
  have fin' : ∀ e : Int, r = some (iv e) → r' = some (iv e) → rD h2 → _ := fun e => fin (Int32.ofInt e)
  have rp := i_rng p
  have ra := i_rng a
  have ep := fx_of p
  have ea := fx_of a
  rw [ep, ea] at ev1 ev2
  by_cases q1 : 0 ≤ p.toInt ∧ p.toInt ≤ 19
  · by_cases q2 : 0 ≤ a.toInt ∧ a.toInt ≤ 29999
    · by_cases qn : n < 60
      · have z1 := ax_det ev1 (de_90t (d := d + 8) S rp ra c1 q1 q2 v1 qn)
        have z2 := ax_det ev2 (de_217t (d := d + 8) S1 rp ra k15 q1 q2 k36 qn)
        have e3 := (Prod.mk.inj z1).2
        have e4 := (Prod.mk.inj z2).2
        have f1 : ∀ c j, c < 78 → h2.2.2.2 c j = h1.2.2.2 c j := fun c j hc => by
          rw [e4]
          exact (ax_put_o (by omega) (ax_put_o (by omega) (ax_put_o (by omega) (ax_put_o (by omega) rfl))))
        refine fin' _ (Prod.mk.inj z1).1 (Prod.mk.inj z2).1 ⟨n + 1, up1 X n p.toInt, up1 Z n a.toInt, up1 Y n cc.toInt, by omega, ?_, ?_, fun i hi => ?_, fun i hi => ?_⟩
        · rw [f1 48 5 (by decide), e3]
          exact Eq.trans (ax_put_s _ _ _) (congrArg iv (by omega))
        · rw [e4]
          exact Eq.trans (ax_put_s _ _ _) (congrArg iv (by omega))
        · by_cases e : i = n
          · rw [show up1 X n p.toInt i = p.toInt from if_pos e, show up1 Z n a.toInt i = a.toInt from if_pos e, show up1 Y n cc.toInt i = cc.toInt from if_pos e]
            omega
          · rw [show up1 X n p.toInt i = X i from if_neg e, show up1 Z n a.toInt i = Z i from if_neg e, show up1 Y n cc.toInt i = Y i from if_neg e]
            exact B i (by omega)
        · by_cases e : i = n
          · subst e
            refine ⟨?_, ?_, ?_, ?_, ?_, ?_⟩
            · rw [f1 50 _ (by decide), e3, show up1 X i p.toInt i = p.toInt from if_pos rfl]
              exact (ax_put_o (Or.inl (by decide)) (ax_put_o (Or.inl (by decide)) (ax_put_o (Or.inl (by decide)) (ax_put_s _ _ _))))
            · rw [f1 51 _ (by decide), e3, show up1 Z i a.toInt i = a.toInt from if_pos rfl]
              exact (ax_put_o (Or.inl (by decide)) (ax_put_o (Or.inl (by decide)) (ax_put_s _ _ _)))
            · rw [f1 52 _ (by decide), e3, show up1 Y i cc.toInt i = cc.toInt from if_pos rfl]
              exact (ax_put_o (Or.inl (by decide)) (ax_put_s _ _ _))
            · rw [e4, show up1 X i p.toInt i = p.toInt from if_pos rfl]
              exact (ax_put_o (Or.inl (by decide)) (ax_put_o (Or.inl (by decide)) (ax_put_o (Or.inl (by decide)) (ax_put_s _ _ _))))
            · rw [e4, show up1 Z i a.toInt i = a.toInt from if_pos rfl]
              exact (ax_put_o (Or.inl (by decide)) (ax_put_o (Or.inl (by decide)) (ax_put_s _ _ _)))
            · rw [e4, show up1 Y i cc.toInt i = cc.toInt from if_pos rfl]
              exact (ax_put_o (Or.inl (by decide)) (ax_put_s _ _ _))
          · have K' : rD1 h2 X Z Y i := rD1_eq (fun c hc => by
              have u : ∀ c, c < 117 → (c = 50 ∨ c = 51 ∨ c = 52 ∨ c = 114 ∨ c = 115 ∨ c = 116) → h2.2.2.2 c i = h.2.2.2 c i := fun c _ hc => by
                rw [e4]
                refine Eq.trans (ax_put_o (by omega) (ax_put_o (by omega) (ax_put_o (by omega) (ax_put_o (by omega) rfl)))) ?_
                rw [e3]
                exact (ax_put_o (by omega) (ax_put_o (by omega) (ax_put_o (by omega) (ax_put_o (by omega) rfl))))
              exact u c (by omega) hc) (K i (by omega))
            unfold rD1
            rw [show up1 X n p.toInt i = X i from if_neg e, show up1 Z n a.toInt i = Z i from if_neg e, show up1 Y n cc.toInt i = Y i from if_neg e]
            exact K'
      · have z1 := ax_det ev1 (de_90f (d := d + 8) S rp ra c1 q1 q2 v1 (by omega))
        have z2 := ax_det ev2 (de_217f (d := d + 8) S1 rp ra k15 q1 q2 k36 (by omega))
        refine fin' (-3) (Prod.mk.inj z1).1 (Prod.mk.inj z2).1 ?_
        rw [(Prod.mk.inj z2).2, (Prod.mk.inj z1).2]
        exact R0
    · have z1 := ax_det ev1 (de_90b (d := d + 8) S rp ra c1 q1 q2)
      have z2 := ax_det ev2 (de_217b (d := d + 8) S1 rp ra k15 q1 q2)
      refine fin' (-2) (Prod.mk.inj z1).1 (Prod.mk.inj z2).1 ?_
      rw [(Prod.mk.inj z2).2, (Prod.mk.inj z1).2]
      exact R0
  · have z1 := ax_det ev1 (de_90a (d := d + 8) S rp ra c1 q1)
    have z2 := ax_det ev2 (de_217a (d := d + 8) S1 rp ra k15 q1)
    refine fin' (-2) (Prod.mk.inj z1).1 (Prod.mk.inj z2).1 ?_
    rw [(Prod.mk.inj z2).2, (Prod.mk.inj z1).2]
    exact R0
end DED
section OPM
variable {h : am_H} {d : Nat}
theorem lf_i9 (I : cq_Inv none h) {s : Nat} (K : cq_kOk h s (0, 4, 0)) : ∃ x : Int32, h.2.2.2 s 9 = .int x := by
  obtain ⟨x, ex, -⟩ : ∃ x : Int32, h.2.2.2 s 9 = .int x ∧ (cq_cl 4 9).2.1 ≤ x.toInt ∧ x.toInt ≤ (cq_cl 4 9).2.2.1 := ax_fd I K (j := 9) (t := (1, (cq_cl 4 9).2.1, (cq_cl 4 9).2.2.1, 0, 0, 0)) (by decide +kernel) (by decide +kernel)
  exact ⟨x, ex⟩
theorem lf_i10 (I : cq_Inv none h) {s : Nat} (K : cq_kOk h s (0, 4, 0)) : ∃ x : Int32, h.2.2.2 s 10 = .int x := by
  obtain ⟨x, ex, -⟩ : ∃ x : Int32, h.2.2.2 s 10 = .int x ∧ (cq_cl 4 10).2.1 ≤ x.toInt ∧ x.toInt ≤ (cq_cl 4 10).2.2.1 := ax_fd I K (j := 10) (t := (1, (cq_cl 4 10).2.1, (cq_cl 4 10).2.2.1, 0, 0, 0)) (by decide +kernel) (by decide +kernel)
  exact ⟨x, ex⟩
theorem op_may (I : cq_Inv none h) (X : rT h) (P : rp_P h) (R : rL h) (XB : rbV h) (Dr : rD h) (p a b e : Int32) : ∃ (x : Int32) (h1 h2 : am_H), am_ev (d + 10) 92 0 (am_ent [.ref 40, .int p, .int a, .int b, .int e] (am_in 92).2.2.1) [] h (some (.int x), h1) ∧ am_ev (d + 10) 218 0 (am_ent [.ref 78, .int p, .int a, .int b, .int e] (am_in 218).2.2.1) [] h1 (some (.int x), h2) ∧ cq_Inv none h1 ∧ cq_Inv none h2 ∧ cq_Fr ct_92.2.2.2.1 h h1 ∧ cq_Fr ct_218.2.2.2.1 h1 h2 ∧ (∀ q ∈ ([] : List (Nat × Nat × Nat × Nat)), tT h2 q) ∧ h2.1 ≤ h.1 + 12 ∧ h2.2.1 ≤ h.2.1 + 624 := by
  have S := fS.of I
  have O78 := ax_o I (c := 78) (k := 13) (by decide +kernel)
  have O40 := ax_o I (c := 40) (k := 11) (by decide +kernel)
  have O48 := ax_o I (c := 48) (k := 7) (by decide +kernel)
  have v2 := ax_rf I (c := 40) (j := 2) (k := 48) (by decide +kernel) (by decide +kernel)
  have v0 := ax_rf I (c := 48) (j := 0) (k := 49) (by decide +kernel) (by decide +kernel)
  have A49 := ax_ar I (c := 49) (tc := 8) (n := 80) (by decide) (by decide +kernel)
  have rp := i_rng p
  have ra := i_rng a
  have rb := i_rng b
  have re := i_rng e
  have fin : ∀ r : Int, am_ev (d + 10) 92 0 (am_ent [.ref 40, .int p, iv a.toInt, iv b.toInt, iv e.toInt] 6) [] h (some (iv r), h) → am_ev (d + 10) 218 0 (am_ent [.ref 78, .int p, iv a.toInt, iv b.toInt, iv e.toInt] 5) [] h (some (iv r), h) → ∃ (x : Int32) (h1 h2 : am_H), am_ev (d + 10) 92 0 (am_ent [.ref 40, .int p, .int a, .int b, .int e] (am_in 92).2.2.1) [] h (some (.int x), h1) ∧ am_ev (d + 10) 218 0 (am_ent [.ref 78, .int p, .int a, .int b, .int e] (am_in 218).2.2.1) [] h1 (some (.int x), h2) ∧ cq_Inv none h1 ∧ cq_Inv none h2 ∧ cq_Fr ct_92.2.2.2.1 h h1 ∧ cq_Fr ct_218.2.2.2.1 h1 h2 ∧ (∀ q ∈ ([] : List (Nat × Nat × Nat × Nat)), tT h2 q) ∧ h2.1 ≤ h.1 + 12 ∧ h2.2.1 ≤ h.2.1 + 624 := fun r z1 z2 => by
    rw [fx_of a, fx_of b, fx_of e]
    exact ⟨Int32.ofInt r, h, h, z1, z2, I, I, ct_nil, ct_nil, fun q hq => (by cases hq), by omega, by omega⟩
  obtain ⟨pm, m1, m2, PP, PD⟩ := P
  have bp := rp_bm I m1
  by_cases hp : 0 ≤ p.toInt ∧ p.toInt < pm.toInt
  · obtain ⟨s, t, w, s1, v0', g86, v4, g90⟩ := PP p.toInt.toNat (by omega)
    have Os := ax_kO (rp_obj I (p := p.toInt.toNat) (by omega) s1)
    have H42 := (po_42 (d := d + 9) I m1 bp).1 hp
    rw [s1] at H42
    have H188 : am_ev (d + 9) 188 0 (am_ent [.ref 78, .int p] 2) [] h (some (iv 1), h) := (po_188 (d := d + 8) O78 m2 bp).1 hp
    by_cases qa : 0 ≤ a.toInt ∧ a.toInt ≤ 5
    · by_cases qb : 0 ≤ b.toInt ∧ b.toInt ≤ 29999
      · by_cases qe : 0 ≤ e.toInt ∧ e.toInt ≤ 29999
        · obtain ⟨l, hl⟩ : ∃ l : Nat, a.toInt = (l : Int) := ⟨a.toInt.toNat, by omega⟩
          obtain ⟨q, hq⟩ : ∃ q : Nat, p.toInt = (q : Int) := ⟨p.toInt.toNat, by omega⟩
          have hq' : p.toInt.toNat = q := by omega
          rw [hq'] at g86 g90 s1
          rw [hl] at fin
          have hl6 : l < 6 := by omega
          have rt := i_rng t
          have rw_ := i_rng w
          have v0' := v0'.trans (fx_of t)
          have g86 := g86.trans (fx_of t)
          have v4 := v4.trans (fx_of w)
          have g90 := g90.trans (fx_of w)
          obtain ⟨V, Yr, BV, -, gr⟩ := XB
          have gr2 : ∀ j, j < 6 → h.2.2.2 82 j = iv (Yr j) := fun j hj => (X.2.2 j hj).symm.trans (gr j hj)
          obtain ⟨n, X1, Z1, Y1, hn, w5, w36, B, K⟩ := Dr
          have e94 := fun P rP => dt_94 (d := d + 8) (P := P) S rP re w5 hn B (fun i hi => (K i hi).1) (fun i hi => (K i hi).2.1) (fun i hi => (K i hi).2.2.1)
          have bf := dl_b (P := t.toInt) (D := e.toInt) n B
          have bg := dl_b (P := w.toInt) (D := e.toInt) n B
          have e93 := dt_93 (d := d + 8) S Os rt rw_ rb gr BV.2 v0' v4 bf bg (e94 t.toInt rt) (e94 w.toInt rw_)
          have FB := fls_bt (dy := b.toInt) (Yr := Yr) (w := w.toInt) (l := l) bf bg hl6
          have e221t := fun P rP q => dt_221t (d := d + 8) (P := P) S rP re rb w36 hn B (fun i hi => (K i hi).2.2.2.1) (fun i hi => (K i hi).2.2.2.2.1) (fun i hi => (K i hi).2.2.2.2.2) hl6 gr2 BV.2 q
          have e221f := fun P rP q => dt_221f (d := d + 8) (P := P) S rP re rb w36 hn B (fun i hi => (K i hi).2.2.2.1) (fun i hi => (K i hi).2.2.2.2.1) (fun i hi => (K i hi).2.2.2.2.2) hl6 gr2 BV.2 q
          obtain ⟨m, n1, n2, RP, RD⟩ := R
          have bm := rL_bm I n1
          obtain ⟨k, hk⟩ : ∃ k : Nat, m.toInt.toNat = k := ⟨_, rfl⟩
          have G : ∀ i, i < k → ∃ s, h.2.2.2 49 i = .ref s ∧ am_isO h s 4 = true ∧ h.2.2.2 s 0 = .int (gI (h.2.2.2 103 i)) ∧ h.2.2.2 s 1 = .int (gI (h.2.2.2 111 i)) := fun i hi => by
            obtain ⟨s, z1, z2, z3, -⟩ := RP i (by omega)
            have ko := rL_ob I (k := i) (by omega) z1
            obtain ⟨x, ex⟩ := lf_i0 I ko
            obtain ⟨y, ey⟩ := lf_i1 I ko
            refine ⟨s, z1, ax_kO ko, ?_, ?_⟩
            · rw [← z2, ex]
              rfl
            · rw [← z3, ey]
              rfl
          have G1 : ∀ i, i < k → h.2.2.2 103 i = .int (gI (h.2.2.2 103 i)) ∧ h.2.2.2 111 i = .int (gI (h.2.2.2 111 i)) := fun i hi => by
            obtain ⟨s, z1, z2, z3, -⟩ := RP i (by omega)
            obtain ⟨s', y1, -, y2, y3⟩ := G i hi
            rw [z1] at y1
            cases y1
            exact ⟨by rw [← y2, z2], by rw [← y3, z3]⟩
          have e96 := go_96 (X := fun i => gI (h.2.2.2 103 i)) (Y := fun i => gI (h.2.2.2 111 i)) (P := p) (D := e) (n := k) (d := d + 8) S (iv_nat n1 bm.1 hk) (by omega) G
          have e222 := go_222 (X := fun i => gI (h.2.2.2 103 i)) (Y := fun i => gI (h.2.2.2 111 i)) (P := p) (D := e) (m := k) (d := d + 8) S (iv_nat n2 bm.1 hk) (by omega) G1
          have bK := la_b (fun i => gI (h.2.2.2 103 i)) (fun i => gI (h.2.2.2 111 i)) p e k
          generalize la (fun i => gI (h.2.2.2 103 i)) (fun i => gI (h.2.2.2 111 i)) p e k = KK at e96 e222 bK
          rw [fx_of p, fx_of e] at e96
          rw [fx_of p, fx_of e, hq] at e222
          have hq40 : q < 40 := by omega
          by_cases hF : (dl X1 Z1 Y1 t.toInt e.toInt n ≠ -1 ∧ dl X1 Z1 Y1 t.toInt e.toInt n + 365 * Yr l ≤ b.toInt) ∧ (w.toInt = -1 ∨ (dl X1 Z1 Y1 w.toInt e.toInt n ≠ -1 ∧ dl X1 Z1 Y1 w.toInt e.toInt n + 365 * Yr l ≤ b.toInt))
          · have z1 := cm_92_2 (d := d + 7) S Os hl6 qb qe H42 e93 (FB.2 hF)
            have m : am_ev (d + 9) 220 0 (am_ent [.ref 78, iv q, iv l, iv b.toInt, iv e.toInt] 6) [] h (some (iv 2), h) := by
              by_cases qw : w.toInt = -1
              · exact mm_220a S hq40 g86 g90 rw_ (e221t t.toInt rt hF.1) qw
              · exact mm_220b S hq40 g86 g90 rw_ (e221t t.toInt rt hF.1) (e221t w.toInt rw_ (hF.2.resolve_left qw)) qw
            exact fin 2 z1 (mm_218t (d := d + 7) S hl6 qb qe H188 (by rw [← hq, ← fx_of p] at m; exact m))
          · have qF : bt (fls (dt (dl X1 Z1 Y1 t.toInt e.toInt n) (dl X1 Z1 Y1 w.toInt e.toInt n) w.toInt) b.toInt Yr) l = false := by
              cases z : bt (fls (dt (dl X1 Z1 Y1 t.toInt e.toInt n) (dl X1 Z1 Y1 w.toInt e.toInt n) w.toInt) b.toInt Yr) l with
              | false => rfl
              | true => exact absurd (FB.1 z) hF
            have NF : ¬ (dl X1 Z1 Y1 t.toInt e.toInt n ≠ -1 ∧ dl X1 Z1 Y1 t.toInt e.toInt n + 365 * Yr l ≤ b.toInt) ∨ ((dl X1 Z1 Y1 t.toInt e.toInt n ≠ -1 ∧ dl X1 Z1 Y1 t.toInt e.toInt n + 365 * Yr l ≤ b.toInt) ∧ w.toInt ≠ -1 ∧ ¬ (dl X1 Z1 Y1 w.toInt e.toInt n ≠ -1 ∧ dl X1 Z1 Y1 w.toInt e.toInt n + 365 * Yr l ≤ b.toInt)) := by
              by_cases c1 : (dl X1 Z1 Y1 t.toInt e.toInt n ≠ -1 ∧ dl X1 Z1 Y1 t.toInt e.toInt n + 365 * Yr l ≤ b.toInt)
              · by_cases c2 : w.toInt = -1
                · exact absurd ⟨c1, Or.inl c2⟩ hF
                · exact Or.inr ⟨c1, c2, fun c3 => hF ⟨c1, Or.inr c3⟩⟩
              · exact Or.inl c1
            by_cases hK : KK = -1
            · have e87 := go_87f (d := d + 8) (p := Int32.ofInt KK) O48 n1 (by rw [fx_ti (by omega)]; omega)
              have e95 := dt_95n (d := d + 8) (dy := b.toInt) S e96 e87
              rw [← fx_of p] at e95
              have z1 := cm_92_0 (d := d + 7) S Os hl6 qb qe H42 e93 e95 qF (bt_z l)
              subst hK
              have m : am_ev (d + 9) 220 0 (am_ent [.ref 78, iv q, iv l, iv b.toInt, iv e.toInt] 6) [] h (some (iv 0), h) := by
                rcases NF with nf | ⟨nf1, nf2, nf3⟩
                · exact mm_220x0 S hq40 g86 g90 rw_ (e221f t.toInt rt nf) e222
                · exact mm_220y0 S hq40 g86 g90 rw_ (e221t t.toInt rt nf1) (e221f w.toInt rw_ nf3) nf2 e222
              exact fin 0 z1 (mm_218t (d := d + 7) S hl6 qb qe H188 (by rw [← hq, ← fx_of p] at m; exact m))
            · obtain ⟨κ, hκ⟩ : ∃ κ : Nat, KK = (κ : Int) := ⟨KK.toNat, by omega⟩
              subst hκ
              have hκ80 : κ < 80 := by omega
              obtain ⟨s', y1, y2, y3, yj, y9⟩ := RP κ (by omega)
              have ko := rL_ob I (k := κ) hκ80 y1
              have Os' := ax_kO ko
              obtain ⟨x2, ex2⟩ := lf_i2 I ko
              obtain ⟨x3, ex3⟩ := lf_i3 I ko
              obtain ⟨x9, ex9⟩ := lf_i9 I ko
              obtain ⟨x10, ex10⟩ := lf_i10 I ko
              obtain ⟨x12, ex12⟩ := ru_int I (c := 112) (n := 81) (j := κ) (by decide +kernel) (by decide +kernel) (by decide +kernel) (by omega)
              obtain ⟨x13, ex13⟩ := ru_int I (c := 113) (n := 81) (j := κ) (by decide +kernel) (by decide +kernel) (by decide +kernel) (by omega)
              have gL := (yj 2 (by decide) (by decide)).symm.trans ex2
              have gu := ((yj 3 (by decide) (by decide)).symm.trans ex3).trans (fx_of x3)
              have rel : (x9.toInt = -1 ∧ x13.toInt = -1) ∨ (0 ≤ x9.toInt ∧ 0 ≤ x10.toInt ∧ x12.toInt = x9.toInt ∧ x13.toInt = x10.toInt) := by
                have m1 : (Int32.ofInt (-1)).toInt = -1 := by decide
                rcases y9 with ⟨u1, u2⟩ | ⟨u, v, ub, vb, u1, u2, u3, u4⟩
                · rw [ex9] at u1
                  rw [ex13] at u2
                  cases u1
                  cases u2
                  exact Or.inl ⟨m1, m1⟩
                · rw [ex9] at u1
                  rw [ex12] at u2
                  rw [ex10] at u3
                  rw [ex13] at u4
                  cases u1
                  cases u2
                  cases u3
                  cases u4
                  exact Or.inr ⟨ub, vb, rfl, rfl⟩
              have rd : am_rd h 49 (Int32.ofInt (κ : Int)) (fun c => Nat.ble 4 c && am_isA c) = some (.ref s') := by
                have z := fx_ti (e := (κ : Int)) (by omega)
                rw [ax_rdv A49.1 A49.2 (by decide) (by decide +kernel) (by omega) (by omega), z, Int.toNat_natCast, y1]
              have e87 := go_87t (d := d + 8) (p := Int32.ofInt (κ : Int)) O48 n1 v0 (by rw [fx_ti (by omega)]; omega) rd
              have e97 := dt_97 (d := d + 8) S Os' (i_rng x9) (i_rng x10) (i_rng x3) rb re (ex9.trans (fx_of x9)) (ex10.trans (fx_of x10)) (ex3.trans (fx_of x3)) ex2
              have e95 := dt_95t (d := d + 8) S Os' e96 e87 e97
              rw [← fx_of p] at e95
              have gk := ex13.trans (fx_of x13)
              have gg := ex12.trans (fx_of x12)
              by_cases qB : bt x2 l = true
              · by_cases qu : b.toInt ≤ x3.toInt
                · by_cases qg : x13.toInt ≠ -1 ∧ x13.toInt ≤ e.toInt ∧ x12.toInt ≤ b.toInt
                  · rw [show gls x9.toInt x10.toInt x3.toInt b.toInt e.toInt x2 = Int32.ofInt 0 from if_pos (Or.inl (by omega))] at e95
                    have z1 := cm_92_0 (d := d + 7) S Os hl6 qb qe H42 e93 e95 qF (bt_z l)
                    have m : am_ev (d + 9) 220 0 (am_ent [.ref 78, iv q, iv l, iv b.toInt, iv e.toInt] 6) [] h (some (iv 0), h) := by
                      rcases NF with nf | ⟨nf1, nf2, nf3⟩
                      · exact mm_220x3 S hq40 g86 g90 rw_ (e221f t.toInt rt nf) hκ80 e222 gL gu gk gg (i_rng x3) (i_rng x13) (i_rng x12) rb re (by omega) qB qu qg
                      · exact mm_220y3 S hq40 g86 g90 rw_ (e221t t.toInt rt nf1) (e221f w.toInt rw_ nf3) nf2 hκ80 e222 gL gu gk gg (i_rng x3) (i_rng x13) (i_rng x12) rb re (by omega) qB qu qg
                    exact fin 0 z1 (mm_218t (d := d + 7) S hl6 qb qe H188 (by rw [← hq, ← fx_of p] at m; exact m))
                  · rw [show gls x9.toInt x10.toInt x3.toInt b.toInt e.toInt x2 = x2 from if_neg (by omega)] at e95
                    have z1 := cm_92_1 (d := d + 7) S Os hl6 qb qe H42 e93 e95 qF qB
                    by_cases g1 : x13.toInt = -1
                    · have m : am_ev (d + 9) 220 0 (am_ent [.ref 78, iv q, iv l, iv b.toInt, iv e.toInt] 6) [] h (some (iv 1), h) := by
                        rcases NF with nf | ⟨nf1, nf2, nf3⟩
                        · exact mm_220x4 S hq40 g86 g90 rw_ (e221f t.toInt rt nf) hκ80 e222 gL gu gk gg (i_rng x3) (i_rng x13) (i_rng x12) rb re (by omega) qB qu g1
                        · exact mm_220y4 S hq40 g86 g90 rw_ (e221t t.toInt rt nf1) (e221f w.toInt rw_ nf3) nf2 hκ80 e222 gL gu gk gg (i_rng x3) (i_rng x13) (i_rng x12) rb re (by omega) qB qu g1
                      exact fin 1 z1 (mm_218t (d := d + 7) S hl6 qb qe H188 (by rw [← hq, ← fx_of p] at m; exact m))
                    · by_cases g2 : e.toInt < x13.toInt
                      · have m : am_ev (d + 9) 220 0 (am_ent [.ref 78, iv q, iv l, iv b.toInt, iv e.toInt] 6) [] h (some (iv 1), h) := by
                          rcases NF with nf | ⟨nf1, nf2, nf3⟩
                          · exact mm_220x5 S hq40 g86 g90 rw_ (e221f t.toInt rt nf) hκ80 e222 gL gu gk gg (i_rng x3) (i_rng x13) (i_rng x12) rb re (by omega) qB qu ⟨g1, g2⟩
                          · exact mm_220y5 S hq40 g86 g90 rw_ (e221t t.toInt rt nf1) (e221f w.toInt rw_ nf3) nf2 hκ80 e222 gL gu gk gg (i_rng x3) (i_rng x13) (i_rng x12) rb re (by omega) qB qu ⟨g1, g2⟩
                        exact fin 1 z1 (mm_218t (d := d + 7) S hl6 qb qe H188 (by rw [← hq, ← fx_of p] at m; exact m))
                      · have m : am_ev (d + 9) 220 0 (am_ent [.ref 78, iv q, iv l, iv b.toInt, iv e.toInt] 6) [] h (some (iv 1), h) := by
                          rcases NF with nf | ⟨nf1, nf2, nf3⟩
                          · exact mm_220x6 S hq40 g86 g90 rw_ (e221f t.toInt rt nf) hκ80 e222 gL gu gk gg (i_rng x3) (i_rng x13) (i_rng x12) rb re (by omega) qB qu ⟨g1, by omega, by omega⟩
                          · exact mm_220y6 S hq40 g86 g90 rw_ (e221t t.toInt rt nf1) (e221f w.toInt rw_ nf3) nf2 hκ80 e222 gL gu gk gg (i_rng x3) (i_rng x13) (i_rng x12) rb re (by omega) qB qu ⟨g1, by omega, by omega⟩
                        exact fin 1 z1 (mm_218t (d := d + 7) S hl6 qb qe H188 (by rw [← hq, ← fx_of p] at m; exact m))
                · rw [show gls x9.toInt x10.toInt x3.toInt b.toInt e.toInt x2 = Int32.ofInt 0 from if_pos (Or.inr (by omega))] at e95
                  have z1 := cm_92_0 (d := d + 7) S Os hl6 qb qe H42 e93 e95 qF (bt_z l)
                  have m : am_ev (d + 9) 220 0 (am_ent [.ref 78, iv q, iv l, iv b.toInt, iv e.toInt] 6) [] h (some (iv 0), h) := by
                    rcases NF with nf | ⟨nf1, nf2, nf3⟩
                    · exact mm_220x2 S hq40 g86 g90 rw_ (e221f t.toInt rt nf) hκ80 e222 gL gu gk gg (i_rng x3) (i_rng x13) (i_rng x12) rb re (by omega) qB (by omega)
                    · exact mm_220y2 S hq40 g86 g90 rw_ (e221t t.toInt rt nf1) (e221f w.toInt rw_ nf3) nf2 hκ80 e222 gL gu gk gg (i_rng x3) (i_rng x13) (i_rng x12) rb re (by omega) qB (by omega)
                  exact fin 0 z1 (mm_218t (d := d + 7) S hl6 qb qe H188 (by rw [← hq, ← fx_of p] at m; exact m))
              · have qB : bt x2 l = false := by
                  cases z : bt x2 l with
                  | false => rfl
                  | true => exact absurd z qB
                have qG : bt (gls x9.toInt x10.toInt x3.toInt b.toInt e.toInt x2) l = false := by
                  unfold gls
                  split
                  · exact bt_z l
                  · exact qB
                have z1 := cm_92_0 (d := d + 7) S Os hl6 qb qe H42 e93 e95 qF qG
                have m : am_ev (d + 9) 220 0 (am_ent [.ref 78, iv q, iv l, iv b.toInt, iv e.toInt] 6) [] h (some (iv 0), h) := by
                  rcases NF with nf | ⟨nf1, nf2, nf3⟩
                  · exact mm_220x1 S hq40 g86 g90 rw_ (e221f t.toInt rt nf) hκ80 e222 gL gu gk gg (i_rng x3) (i_rng x13) (i_rng x12) rb re (by omega) qB
                  · exact mm_220y1 S hq40 g86 g90 rw_ (e221t t.toInt rt nf1) (e221f w.toInt rw_ nf3) nf2 hκ80 e222 gL gu gk gg (i_rng x3) (i_rng x13) (i_rng x12) rb re (by omega) qB
                exact fin 0 z1 (mm_218t (d := d + 7) S hl6 qb qe H188 (by rw [← hq, ← fx_of p] at m; exact m))
        · exact fin (-2) (cm_92c (d := d + 7) S ra rb re H42 qa qb qe) (mm_218c (d := d + 7) S ra rb re H188 qa qb qe)
      · exact fin (-2) (cm_92b (d := d + 7) S ra rb re H42 qa qb) (mm_218b (d := d + 7) S ra rb re H188 qa qb)
    · exact fin (-2) (cm_92a (d := d + 7) S ra rb re H42 qa) (mm_218a (d := d + 7) S ra rb re H188 qa)
  · have H42 := (po_42 (d := d + 9) I m1 bp).2 hp
    have H188 : am_ev (d + 9) 188 0 (am_ent [.ref 78, .int p] 2) [] h (some (iv 0), h) := (po_188 (d := d + 8) O78 m2 bp).2 hp
    exact fin (-2) (cm_92n (d := d + 7) S H42) (mm_218n (d := d + 7) S H188)
end OPM
