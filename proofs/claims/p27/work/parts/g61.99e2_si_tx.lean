/-! THE CALLS text AND breakAt: methods -/
section TXM
variable {d E s q P c l z i n : Nat} {h H g : am_H} {e p r w : Int} {t u : Int32} {v : Value}
theorem tx_53t (Os : am_isO h s 6 = true) (v6 : h.2.2.2 s 6 = iv c) (hc : c ≤ 3) (be : -2147483648 ≤ e ∧ e ≤ 2147483647) (v7 : h.2.2.2 s 7 = .ref q) (rd : am_rd h q (Int32.ofInt e) (fun c => Nat.ble 4 c && am_isA c) = some (.ref E)) (he : 0 ≤ e ∧ e < c) : am_ev d 53 0 (am_ent [.ref s, iv e] 2) [] h (some (.ref E), h) := by
  show am_ev d 53 0 [.ref s, iv e] [] h _
  refine am_ev.step (pc' := 1) rfl rfl ?_
  refine fx_z_lt_F (pF := 4) rfl (by omega) rfl (by omega) ?_
  refine am_ev.step (pc' := 5) rfl rfl ?_
  refine am_ev.step (pc' := 6) rfl rfl ?_
  refine ax_gf (p' := 9) rfl rfl Os v6 ?_
  refine fx_c_ge_F (pF := 12) rfl (by omega) (by omega) rfl (by omega) ?_
  refine am_ev.step (pc' := 13) rfl rfl ?_
  refine am_ev.step (pc' := 14) rfl rfl ?_
  refine fx_c_lt_T (pT := 21) rfl (by omega) (by omega) rfl (by omega) ?_
  refine am_ev.step (pc' := 22) rfl rfl ?_
  refine ax_gf (p' := 25) rfl rfl Os v7 ?_
  refine am_ev.step (pc' := 26) rfl rfl ?_
  refine ax_aaload (p' := 27) rfl rfl rd ?_
  exact am_ev.reta rfl rfl
theorem tx_53f (Os : am_isO h s 6 = true) (v6 : h.2.2.2 s 6 = iv c) (hc : c ≤ 3) (be : -2147483648 ≤ e ∧ e ≤ 2147483647) (he : ¬ (0 ≤ e ∧ e < c)) : am_ev d 53 0 (am_ent [.ref s, iv e] 2) [] h (some .null, h) := by
  show am_ev d 53 0 [.ref s, iv e] [] h _
  refine am_ev.step (pc' := 1) rfl rfl ?_
  refine fx_z_lt (pT := 17) (pF := 4) rfl (by omega) rfl rfl (fun c1 => ?_) (fun c1 => ?_)
  · refine am_ev.step (pc' := 18) rfl rfl ?_
    refine am_ev.step (pc' := 27) rfl rfl ?_
    exact am_ev.retn rfl rfl
  · refine am_ev.step (pc' := 5) rfl rfl ?_
    refine am_ev.step (pc' := 6) rfl rfl ?_
    refine ax_gf (p' := 9) rfl rfl Os v6 ?_
    refine fx_c_ge (pT := 17) (pF := 12) rfl (by omega) (by omega) rfl rfl (fun c2 => ?_) (fun c2 => ?_)
    · refine am_ev.step (pc' := 18) rfl rfl ?_
      refine am_ev.step (pc' := 27) rfl rfl ?_
      exact am_ev.retn rfl rfl
    · refine am_ev.step (pc' := 13) rfl rfl ?_
      refine am_ev.step (pc' := 14) rfl rfl ?_
      refine fx_c_lt (pT := 21) (pF := 17) rfl (by omega) (by omega) rfl rfl (fun c3 => ?_) (fun c3 => ?_)
      · (exfalso; omega)
      · refine am_ev.step (pc' := 18) rfl rfl ?_
        refine am_ev.step (pc' := 27) rfl rfl ?_
        exact am_ev.retn rfl rfl
variable {pp ee ww : Int32}
theorem tx_52n (S : fS h) (H42 : am_ev d 42 0 (am_ent [.ref 40, .int pp] 2) [] h (some .null, h)) : am_ev (d + 1) 52 0 (am_ent [.ref 40, .int pp, .int ee] 4) [] h (some .null, h) := by
  show am_ev (d + 1) 52 0 [.ref 40, .int pp, .int ee, am_ph] [] h _
  refine am_ev.step (pc' := 1) rfl rfl ?_
  refine am_ev.step (pc' := 2) rfl rfl ?_
  refine ax_call (z := 42) (p' := 5) (as := [_, _]) rfl (Or.inr (Or.inl ⟨_, rfl⟩)) rfl rfl rfl rfl rfl rfl (S.ob rfl) rfl H42 rfl ?_
  refine am_ev.step (pc' := 6) (ls' := [.ref 40, .int pp, .int ee, .null]) rfl rfl ?_
  refine am_ev.step (pc' := 7) rfl rfl ?_
  refine am_ev.step (pc' := 10) rfl rfl ?_
  refine am_ev.step (pc' := 11) rfl rfl ?_
  refine am_ev.step (pc' := 19) rfl rfl ?_
  exact am_ev.retn rfl rfl
theorem tx_52f (S : fS h) (Os : am_isO h s 6 = true) (H42 : am_ev d 42 0 (am_ent [.ref 40, .int pp] 2) [] h (some (.ref s), h)) (H53 : am_ev d 53 0 (am_ent [.ref s, .int ee] 2) [] h (some .null, h)) : am_ev (d + 1) 52 0 (am_ent [.ref 40, .int pp, .int ee] 4) [] h (some .null, h) := by
  show am_ev (d + 1) 52 0 [.ref 40, .int pp, .int ee, am_ph] [] h _
  refine am_ev.step (pc' := 1) rfl rfl ?_
  refine am_ev.step (pc' := 2) rfl rfl ?_
  refine ax_call (z := 42) (p' := 5) (as := [_, _]) rfl (Or.inr (Or.inl ⟨_, rfl⟩)) rfl rfl rfl rfl rfl rfl (S.ob rfl) rfl H42 rfl ?_
  refine am_ev.step (pc' := 6) (ls' := [.ref 40, .int pp, .int ee, .ref s]) rfl rfl ?_
  refine am_ev.step (pc' := 7) rfl rfl ?_
  refine am_ev.step (pc' := 14) rfl rfl ?_
  refine am_ev.step (pc' := 15) rfl rfl ?_
  refine am_ev.step (pc' := 16) rfl rfl ?_
  refine ax_call (z := 53) (p' := 19) (as := [_, _]) rfl (Or.inr (Or.inl ⟨_, rfl⟩)) rfl rfl rfl rfl rfl rfl Os rfl H53 rfl ?_
  exact am_ev.retn rfl rfl
theorem tx_52t (S : fS h) (Os : am_isO h s 6 = true) (H42 : am_ev d 42 0 (am_ent [.ref 40, .int pp] 2) [] h (some (.ref s), h)) (H53 : am_ev d 53 0 (am_ent [.ref s, .int ee] 2) [] h (some (.ref E), h)) : am_ev (d + 1) 52 0 (am_ent [.ref 40, .int pp, .int ee] 4) [] h (some (.ref E), h) := by
  show am_ev (d + 1) 52 0 [.ref 40, .int pp, .int ee, am_ph] [] h _
  refine am_ev.step (pc' := 1) rfl rfl ?_
  refine am_ev.step (pc' := 2) rfl rfl ?_
  refine ax_call (z := 42) (p' := 5) (as := [_, _]) rfl (Or.inr (Or.inl ⟨_, rfl⟩)) rfl rfl rfl rfl rfl rfl (S.ob rfl) rfl H42 rfl ?_
  refine am_ev.step (pc' := 6) (ls' := [.ref 40, .int pp, .int ee, .ref s]) rfl rfl ?_
  refine am_ev.step (pc' := 7) rfl rfl ?_
  refine am_ev.step (pc' := 14) rfl rfl ?_
  refine am_ev.step (pc' := 15) rfl rfl ?_
  refine am_ev.step (pc' := 16) rfl rfl ?_
  refine ax_call (z := 53) (p' := 19) (as := [_, _]) rfl (Or.inr (Or.inl ⟨_, rfl⟩)) rfl rfl rfl rfl rfl rfl Os rfl H53 rfl ?_
  exact am_ev.reta rfl rfl
theorem tx_49 (OE : am_isO h E 3 = true) (x1 : h.2.2.2 E 1 = .ref (E + 2)) (hl : l ≤ 30) (hal : am_len h (E + 2) = some (l + 1)) (rd : am_rd h (E + 2) (Int32.ofInt (l : Int)) (fun c => Nat.beq c 0) = some (iv n)) : am_ev d 49 0 (am_ent [.ref E, iv l] 2) [] h (some (iv n), h) := by
  show am_ev d 49 0 [.ref E, iv l] [] h _
  refine am_ev.step (pc' := 1) rfl rfl ?_
  refine fx_z_lt_F (pF := 4) rfl (by omega) rfl (by omega) ?_
  refine am_ev.step (pc' := 5) rfl rfl ?_
  refine am_ev.step (pc' := 6) rfl rfl ?_
  refine ax_gf (p' := 9) rfl rfl OE x1 ?_
  refine fx_alen (p' := 10) (n := l + 1) rfl rfl hal ?_
  refine fx_c_lt_T (pT := 17) rfl (by omega) (by omega) rfl (by omega) ?_
  refine am_ev.step (pc' := 18) rfl rfl ?_
  refine ax_gf (p' := 21) rfl rfl OE x1 ?_
  refine am_ev.step (pc' := 22) rfl rfl ?_
  refine ax_iaload (p' := 23) rfl rfl rd ?_
  exact fx_reti rfl rfl rfl
theorem tx_48 (OE : am_isO h E 3 = true) (x3 : h.2.2.2 E 3 = iv l) (H49 : am_ev d 49 0 (am_ent [.ref E, iv l] 2) [] h (some (iv n), h)) : am_ev (d + 1) 48 0 (am_ent [.ref E] 1) [] h (some (iv n), h) := by
  show am_ev (d + 1) 48 0 [.ref E] [] h _
  refine am_ev.step (pc' := 1) rfl rfl ?_
  refine am_ev.step (pc' := 2) rfl rfl ?_
  refine ax_gf (p' := 5) rfl rfl OE x3 ?_
  refine ax_call (z := 49) (p' := 8) (as := [_, _]) rfl (Or.inr (Or.inl ⟨_, rfl⟩)) rfl rfl rfl rfl rfl rfl OE rfl H49 rfl ?_
  exact fx_reti rfl rfl rfl
theorem tx_63 (OE : am_isO h E 3 = true) (x5 : h.2.2.2 E 5 = .int u) : am_ev (d + 1) 63 0 (am_ent [.ref E] 1) [] h (some (iv (cS (bt u) 32)), h) := by
  show am_ev (d + 1) 63 0 [.ref E] [] h _
  refine am_ev.step (pc' := 1) rfl rfl ?_
  refine ax_gf (p' := 4) rfl rfl OE x5 ?_
  refine ax_call (z := 64) (p' := 7) (as := [_]) rfl (Or.inl ⟨_, rfl⟩) rfl rfl rfl rfl rfl rfl rfl rfl ly_64 rfl ?_
  exact fx_reti rfl rfl rfl
theorem tx_66t (OE : am_isO h E 3 = true) (x8 : h.2.2.2 E 8 = iv p) (x2 : h.2.2.2 E 2 = .ref (E + 3)) (hal : am_len h (E + 3) = some l) (hl : l ≤ 30) (bp : -1 ≤ p ∧ p ≤ 100) (be : -2147483648 ≤ e ∧ e ≤ 2147483647) (he : 0 ≤ e ∧ e + 1 < p ∧ e < l) (rd : am_rd h (E + 3) (Int32.ofInt e) (fun c => Nat.beq c 0) = some (iv w)) : am_ev d 66 0 (am_ent [.ref E, iv e] 2) [] h (some (iv w), h) := by
  show am_ev d 66 0 [.ref E, iv e] [] h _
  refine am_ev.step (pc' := 1) rfl rfl ?_
  refine fx_z_lt_F (pF := 4) rfl (by omega) rfl (by omega) ?_
  refine am_ev.step (pc' := 5) rfl rfl ?_
  refine am_ev.step (pc' := 6) rfl rfl ?_
  refine ax_gf (p' := 9) rfl rfl OE x8 ?_
  refine am_ev.step (pc' := 10) rfl rfl ?_
  refine fx_sub (p' := 11) (e := (p - 1)) rfl rfl (by omega) ?_
  refine fx_c_ge_F (pF := 14) rfl (by omega) (by omega) rfl (by omega) ?_
  refine am_ev.step (pc' := 15) rfl rfl ?_
  refine am_ev.step (pc' := 16) rfl rfl ?_
  refine ax_gf (p' := 19) rfl rfl OE x2 ?_
  refine fx_alen (p' := 20) (n := l) rfl rfl hal ?_
  refine fx_c_lt_T (pT := 27) rfl (by omega) (by omega) rfl (by omega) ?_
  refine am_ev.step (pc' := 28) rfl rfl ?_
  refine ax_gf (p' := 31) rfl rfl OE x2 ?_
  refine am_ev.step (pc' := 32) rfl rfl ?_
  refine ax_iaload (p' := 33) rfl rfl rd ?_
  exact fx_reti rfl rfl rfl
theorem tx_66f (OE : am_isO h E 3 = true) (x8 : h.2.2.2 E 8 = iv p) (x2 : h.2.2.2 E 2 = .ref (E + 3)) (hal : am_len h (E + 3) = some l) (hl : l ≤ 30) (bp : -1 ≤ p ∧ p ≤ 100) (be : -2147483648 ≤ e ∧ e ≤ 2147483647) (he : ¬ (0 ≤ e ∧ e + 1 < p ∧ e < l)) : am_ev d 66 0 (am_ent [.ref E, iv e] 2) [] h (some (iv (-1)), h) := by
  show am_ev d 66 0 [.ref E, iv e] [] h _
  refine am_ev.step (pc' := 1) rfl rfl ?_
  refine fx_z_lt (pT := 23) (pF := 4) rfl (by omega) rfl rfl (fun c1 => ?_) (fun c1 => ?_)
  · refine am_ev.step (pc' := 24) rfl rfl ?_
    refine am_ev.step (pc' := 33) rfl rfl ?_
    exact fx_reti rfl rfl rfl
  · refine am_ev.step (pc' := 5) rfl rfl ?_
    refine am_ev.step (pc' := 6) rfl rfl ?_
    refine ax_gf (p' := 9) rfl rfl OE x8 ?_
    refine am_ev.step (pc' := 10) rfl rfl ?_
    refine fx_sub (p' := 11) (e := (p - 1)) rfl rfl (by omega) ?_
    refine fx_c_ge (pT := 23) (pF := 14) rfl (by omega) (by omega) rfl rfl (fun c2 => ?_) (fun c2 => ?_)
    · refine am_ev.step (pc' := 24) rfl rfl ?_
      refine am_ev.step (pc' := 33) rfl rfl ?_
      exact fx_reti rfl rfl rfl
    · refine am_ev.step (pc' := 15) rfl rfl ?_
      refine am_ev.step (pc' := 16) rfl rfl ?_
      refine ax_gf (p' := 19) rfl rfl OE x2 ?_
      refine fx_alen (p' := 20) (n := l) rfl rfl hal ?_
      refine fx_c_lt (pT := 27) (pF := 23) rfl (by omega) (by omega) rfl rfl (fun c3 => ?_) (fun c3 => ?_)
      · (exfalso; omega)
      · refine am_ev.step (pc' := 24) rfl rfl ?_
        refine am_ev.step (pc' := 33) rfl rfl ?_
        exact fx_reti rfl rfl rfl
theorem tx_51n (S : fS h) (H52 : am_ev d 52 0 (am_ent [.ref 40, .int pp, .int ee] 4) [] h (some .null, h)) : am_ev (d + 1) 51 0 (am_ent [.ref 40, .int pp, .int ee, .int ww] 5) [] h (some (iv (-9)), h) := by
  show am_ev (d + 1) 51 0 [.ref 40, .int pp, .int ee, .int ww, am_ph] [] h _
  refine am_ev.step (pc' := 1) rfl rfl ?_
  refine am_ev.step (pc' := 2) rfl rfl ?_
  refine am_ev.step (pc' := 3) rfl rfl ?_
  refine ax_call (z := 52) (p' := 6) (as := [_, _, _]) rfl (Or.inr (Or.inl ⟨_, rfl⟩)) rfl rfl rfl rfl rfl rfl (S.ob rfl) rfl H52 rfl ?_
  refine am_ev.step (pc' := 8) (ls' := [.ref 40, .int pp, .int ee, .int ww, .null]) rfl rfl ?_
  refine am_ev.step (pc' := 10) rfl rfl ?_
  refine am_ev.step (pc' := 13) rfl rfl ?_
  refine fx_bip (p' := 15) rfl rfl rfl ?_
  exact fx_reti rfl rfl rfl
theorem tx_51_0 (S : fS h) (H52 : am_ev (d + 3) 52 0 (am_ent [.ref 40, .int pp, .int ee] 4) [] h (some (.ref E), h)) (H54 : am_ev (d + 3) 54 0 (am_ent [.ref 53, .ref E, .ref 43] 8) [] h (none, H)) (SH : fS H) (OH : am_isO H E 3 = true) (x3 : H.2.2.2 E 3 = iv l) : am_ev (d + 4) 51 0 (am_ent [.ref 40, .int pp, .int ee, iv 0] 5) [] h (some (iv l), H) := by
  show am_ev (d + 4) 51 0 [.ref 40, .int pp, .int ee, iv 0, am_ph] [] h _
  refine am_ev.step (pc' := 1) rfl rfl ?_
  refine am_ev.step (pc' := 2) rfl rfl ?_
  refine am_ev.step (pc' := 3) rfl rfl ?_
  refine ax_call (z := 52) (p' := 6) (as := [_, _, _]) rfl (Or.inr (Or.inl ⟨_, rfl⟩)) rfl rfl rfl rfl rfl rfl (S.ob rfl) rfl H52 rfl ?_
  refine am_ev.step (pc' := 8) (ls' := [.ref 40, .int pp, .int ee, iv 0, .ref E]) rfl rfl ?_
  refine am_ev.step (pc' := 10) rfl rfl ?_
  refine am_ev.step (pc' := 16) rfl rfl ?_
  refine am_ev.step (pc' := 17) rfl rfl ?_
  refine ax_gf (p' := 20) rfl rfl (S.ob rfl) (S.rf rfl rfl) ?_
  refine am_ev.step (pc' := 22) rfl rfl ?_
  refine am_ev.step (pc' := 23) rfl rfl ?_
  refine ax_gf (p' := 26) rfl rfl (S.ob rfl) (S.rf rfl rfl) ?_
  refine ax_call (z := 54) (p' := 29) (as := [_, _, _]) rfl (Or.inr (Or.inl ⟨_, rfl⟩)) rfl rfl rfl rfl rfl rfl (S.ob rfl) rfl H54 rfl ?_
  refine am_ev.step (pc' := 30) rfl rfl ?_
  refine fx_ts (p' := 64) rfl (by omega) (by omega) rfl (by decide) ?_
  refine am_ev.step (pc' := 66) rfl rfl ?_
  refine ax_gf (p' := 69) rfl rfl OH x3 ?_
  exact fx_reti rfl rfl rfl
theorem tx_51_1 (S : fS h) (H52 : am_ev (d + 3) 52 0 (am_ent [.ref 40, .int pp, .int ee] 4) [] h (some (.ref E), h)) (H54 : am_ev (d + 3) 54 0 (am_ent [.ref 53, .ref E, .ref 43] 8) [] h (none, H)) (SH : fS H) (OH : am_isO H E 3 = true) (H63 : am_ev (d + 3) 63 0 (am_ent [.ref E] 1) [] H (some (iv (cS (bt u) 32)), H)) : am_ev (d + 4) 51 0 (am_ent [.ref 40, .int pp, .int ee, iv 1] 5) [] h (some (iv (cS (bt u) 32)), H) := by
  show am_ev (d + 4) 51 0 [.ref 40, .int pp, .int ee, iv 1, am_ph] [] h _
  refine am_ev.step (pc' := 1) rfl rfl ?_
  refine am_ev.step (pc' := 2) rfl rfl ?_
  refine am_ev.step (pc' := 3) rfl rfl ?_
  refine ax_call (z := 52) (p' := 6) (as := [_, _, _]) rfl (Or.inr (Or.inl ⟨_, rfl⟩)) rfl rfl rfl rfl rfl rfl (S.ob rfl) rfl H52 rfl ?_
  refine am_ev.step (pc' := 8) (ls' := [.ref 40, .int pp, .int ee, iv 1, .ref E]) rfl rfl ?_
  refine am_ev.step (pc' := 10) rfl rfl ?_
  refine am_ev.step (pc' := 16) rfl rfl ?_
  refine am_ev.step (pc' := 17) rfl rfl ?_
  refine ax_gf (p' := 20) rfl rfl (S.ob rfl) (S.rf rfl rfl) ?_
  refine am_ev.step (pc' := 22) rfl rfl ?_
  refine am_ev.step (pc' := 23) rfl rfl ?_
  refine ax_gf (p' := 26) rfl rfl (S.ob rfl) (S.rf rfl rfl) ?_
  refine ax_call (z := 54) (p' := 29) (as := [_, _, _]) rfl (Or.inr (Or.inl ⟨_, rfl⟩)) rfl rfl rfl rfl rfl rfl (S.ob rfl) rfl H54 rfl ?_
  refine am_ev.step (pc' := 30) rfl rfl ?_
  refine fx_ts (p' := 70) rfl (by omega) (by omega) rfl (by decide) ?_
  refine am_ev.step (pc' := 72) rfl rfl ?_
  refine ax_call (z := 63) (p' := 75) (as := [_]) rfl (Or.inr (Or.inl ⟨_, rfl⟩)) rfl rfl rfl rfl rfl rfl OH rfl H63 rfl ?_
  exact fx_reti rfl rfl rfl
theorem tx_51_2 (S : fS h) (H52 : am_ev (d + 3) 52 0 (am_ent [.ref 40, .int pp, .int ee] 4) [] h (some (.ref E), h)) (H54 : am_ev (d + 3) 54 0 (am_ent [.ref 53, .ref E, .ref 43] 8) [] h (none, H)) (SH : fS H) (OH : am_isO H E 3 = true) (H48 : am_ev (d + 3) 48 0 (am_ent [.ref E] 1) [] H (some (iv n), H)) : am_ev (d + 4) 51 0 (am_ent [.ref 40, .int pp, .int ee, iv 2] 5) [] h (some (iv n), H) := by
  show am_ev (d + 4) 51 0 [.ref 40, .int pp, .int ee, iv 2, am_ph] [] h _
  refine am_ev.step (pc' := 1) rfl rfl ?_
  refine am_ev.step (pc' := 2) rfl rfl ?_
  refine am_ev.step (pc' := 3) rfl rfl ?_
  refine ax_call (z := 52) (p' := 6) (as := [_, _, _]) rfl (Or.inr (Or.inl ⟨_, rfl⟩)) rfl rfl rfl rfl rfl rfl (S.ob rfl) rfl H52 rfl ?_
  refine am_ev.step (pc' := 8) (ls' := [.ref 40, .int pp, .int ee, iv 2, .ref E]) rfl rfl ?_
  refine am_ev.step (pc' := 10) rfl rfl ?_
  refine am_ev.step (pc' := 16) rfl rfl ?_
  refine am_ev.step (pc' := 17) rfl rfl ?_
  refine ax_gf (p' := 20) rfl rfl (S.ob rfl) (S.rf rfl rfl) ?_
  refine am_ev.step (pc' := 22) rfl rfl ?_
  refine am_ev.step (pc' := 23) rfl rfl ?_
  refine ax_gf (p' := 26) rfl rfl (S.ob rfl) (S.rf rfl rfl) ?_
  refine ax_call (z := 54) (p' := 29) (as := [_, _, _]) rfl (Or.inr (Or.inl ⟨_, rfl⟩)) rfl rfl rfl rfl rfl rfl (S.ob rfl) rfl H54 rfl ?_
  refine am_ev.step (pc' := 30) rfl rfl ?_
  refine fx_ts (p' := 76) rfl (by omega) (by omega) rfl (by decide) ?_
  refine am_ev.step (pc' := 78) rfl rfl ?_
  refine ax_call (z := 48) (p' := 81) (as := [_]) rfl (Or.inr (Or.inl ⟨_, rfl⟩)) rfl rfl rfl rfl rfl rfl OH rfl H48 rfl ?_
  exact fx_reti rfl rfl rfl
theorem tx_51_3 (S : fS h) (H52 : am_ev (d + 3) 52 0 (am_ent [.ref 40, .int pp, .int ee] 4) [] h (some (.ref E), h)) (H54 : am_ev (d + 3) 54 0 (am_ent [.ref 53, .ref E, .ref 43] 8) [] h (none, H)) (SH : fS H) (OH : am_isO H E 3 = true) (x8 : H.2.2.2 E 8 = iv p) : am_ev (d + 4) 51 0 (am_ent [.ref 40, .int pp, .int ee, iv 3] 5) [] h (some (iv p), H) := by
  show am_ev (d + 4) 51 0 [.ref 40, .int pp, .int ee, iv 3, am_ph] [] h _
  refine am_ev.step (pc' := 1) rfl rfl ?_
  refine am_ev.step (pc' := 2) rfl rfl ?_
  refine am_ev.step (pc' := 3) rfl rfl ?_
  refine ax_call (z := 52) (p' := 6) (as := [_, _, _]) rfl (Or.inr (Or.inl ⟨_, rfl⟩)) rfl rfl rfl rfl rfl rfl (S.ob rfl) rfl H52 rfl ?_
  refine am_ev.step (pc' := 8) (ls' := [.ref 40, .int pp, .int ee, iv 3, .ref E]) rfl rfl ?_
  refine am_ev.step (pc' := 10) rfl rfl ?_
  refine am_ev.step (pc' := 16) rfl rfl ?_
  refine am_ev.step (pc' := 17) rfl rfl ?_
  refine ax_gf (p' := 20) rfl rfl (S.ob rfl) (S.rf rfl rfl) ?_
  refine am_ev.step (pc' := 22) rfl rfl ?_
  refine am_ev.step (pc' := 23) rfl rfl ?_
  refine ax_gf (p' := 26) rfl rfl (S.ob rfl) (S.rf rfl rfl) ?_
  refine ax_call (z := 54) (p' := 29) (as := [_, _, _]) rfl (Or.inr (Or.inl ⟨_, rfl⟩)) rfl rfl rfl rfl rfl rfl (S.ob rfl) rfl H54 rfl ?_
  refine am_ev.step (pc' := 30) rfl rfl ?_
  refine fx_ts (p' := 82) rfl (by omega) (by omega) rfl (by decide) ?_
  refine am_ev.step (pc' := 84) rfl rfl ?_
  refine ax_gf (p' := 87) rfl rfl OH x8 ?_
  exact fx_reti rfl rfl rfl
theorem tx_51_4 (S : fS h) (H52 : am_ev (d + 3) 52 0 (am_ent [.ref 40, .int pp, .int ee] 4) [] h (some (.ref E), h)) (H54 : am_ev (d + 3) 54 0 (am_ent [.ref 53, .ref E, .ref 43] 8) [] h (none, H)) (SH : fS H) (OH : am_isO H E 3 = true) (x9 : H.2.2.2 E 9 = iv r) : am_ev (d + 4) 51 0 (am_ent [.ref 40, .int pp, .int ee, iv 4] 5) [] h (some (iv r), H) := by
  show am_ev (d + 4) 51 0 [.ref 40, .int pp, .int ee, iv 4, am_ph] [] h _
  refine am_ev.step (pc' := 1) rfl rfl ?_
  refine am_ev.step (pc' := 2) rfl rfl ?_
  refine am_ev.step (pc' := 3) rfl rfl ?_
  refine ax_call (z := 52) (p' := 6) (as := [_, _, _]) rfl (Or.inr (Or.inl ⟨_, rfl⟩)) rfl rfl rfl rfl rfl rfl (S.ob rfl) rfl H52 rfl ?_
  refine am_ev.step (pc' := 8) (ls' := [.ref 40, .int pp, .int ee, iv 4, .ref E]) rfl rfl ?_
  refine am_ev.step (pc' := 10) rfl rfl ?_
  refine am_ev.step (pc' := 16) rfl rfl ?_
  refine am_ev.step (pc' := 17) rfl rfl ?_
  refine ax_gf (p' := 20) rfl rfl (S.ob rfl) (S.rf rfl rfl) ?_
  refine am_ev.step (pc' := 22) rfl rfl ?_
  refine am_ev.step (pc' := 23) rfl rfl ?_
  refine ax_gf (p' := 26) rfl rfl (S.ob rfl) (S.rf rfl rfl) ?_
  refine ax_call (z := 54) (p' := 29) (as := [_, _, _]) rfl (Or.inr (Or.inl ⟨_, rfl⟩)) rfl rfl rfl rfl rfl rfl (S.ob rfl) rfl H54 rfl ?_
  refine am_ev.step (pc' := 30) rfl rfl ?_
  refine fx_ts (p' := 88) rfl (by omega) (by omega) rfl (by decide) ?_
  refine am_ev.step (pc' := 90) rfl rfl ?_
  refine ax_gf (p' := 93) rfl rfl OH x9 ?_
  exact fx_reti rfl rfl rfl
theorem tx_51_d (S : fS h) (H52 : am_ev (d + 3) 52 0 (am_ent [.ref 40, .int pp, .int ee] 4) [] h (some (.ref E), h)) (H54 : am_ev (d + 3) 54 0 (am_ent [.ref 53, .ref E, .ref 43] 8) [] h (none, H)) (SH : fS H) (OH : am_isO H E 3 = true) (bw : -2147483648 ≤ w ∧ w ≤ 2147483647) (hw : w < 0 ∨ 4 < w) : am_ev (d + 4) 51 0 (am_ent [.ref 40, .int pp, .int ee, iv w] 5) [] h (some (iv (-9)), H) := by
  show am_ev (d + 4) 51 0 [.ref 40, .int pp, .int ee, iv (w), am_ph] [] h _
  refine am_ev.step (pc' := 1) rfl rfl ?_
  refine am_ev.step (pc' := 2) rfl rfl ?_
  refine am_ev.step (pc' := 3) rfl rfl ?_
  refine ax_call (z := 52) (p' := 6) (as := [_, _, _]) rfl (Or.inr (Or.inl ⟨_, rfl⟩)) rfl rfl rfl rfl rfl rfl (S.ob rfl) rfl H52 rfl ?_
  refine am_ev.step (pc' := 8) (ls' := [.ref 40, .int pp, .int ee, iv (w), .ref E]) rfl rfl ?_
  refine am_ev.step (pc' := 10) rfl rfl ?_
  refine am_ev.step (pc' := 16) rfl rfl ?_
  refine am_ev.step (pc' := 17) rfl rfl ?_
  refine ax_gf (p' := 20) rfl rfl (S.ob rfl) (S.rf rfl rfl) ?_
  refine am_ev.step (pc' := 22) rfl rfl ?_
  refine am_ev.step (pc' := 23) rfl rfl ?_
  refine ax_gf (p' := 26) rfl rfl (S.ob rfl) (S.rf rfl rfl) ?_
  refine ax_call (z := 54) (p' := 29) (as := [_, _, _]) rfl (Or.inr (Or.inl ⟨_, rfl⟩)) rfl rfl rfl rfl rfl rfl (S.ob rfl) rfl H54 rfl ?_
  refine am_ev.step (pc' := 30) rfl rfl ?_
  refine fx_td (p' := 94) rfl bw (by omega) (by decide) ?_
  refine fx_bip (p' := 96) rfl rfl rfl ?_
  exact fx_reti rfl rfl rfl
theorem tx_65n (S : fS h) (H52 : am_ev d 52 0 (am_ent [.ref 40, .int pp, .int ee] 4) [] h (some .null, h)) : am_ev (d + 1) 65 0 (am_ent [.ref 40, .int pp, .int ee, .int ww] 5) [] h (some (iv (-1)), h) := by
  show am_ev (d + 1) 65 0 [.ref 40, .int pp, .int ee, .int ww, am_ph] [] h _
  refine am_ev.step (pc' := 1) rfl rfl ?_
  refine am_ev.step (pc' := 2) rfl rfl ?_
  refine am_ev.step (pc' := 3) rfl rfl ?_
  refine ax_call (z := 52) (p' := 6) (as := [_, _, _]) rfl (Or.inr (Or.inl ⟨_, rfl⟩)) rfl rfl rfl rfl rfl rfl (S.ob rfl) rfl H52 rfl ?_
  refine am_ev.step (pc' := 8) (ls' := [.ref 40, .int pp, .int ee, .int ww, .null]) rfl rfl ?_
  refine am_ev.step (pc' := 10) rfl rfl ?_
  refine am_ev.step (pc' := 13) rfl rfl ?_
  refine am_ev.step (pc' := 14) rfl rfl ?_
  exact fx_reti rfl rfl rfl
theorem tx_65 (S : fS h) (H52 : am_ev (d + 3) 52 0 (am_ent [.ref 40, .int pp, .int ee] 4) [] h (some (.ref E), h)) (H54 : am_ev (d + 3) 54 0 (am_ent [.ref 53, .ref E, .ref 43] 8) [] h (none, H)) (SH : fS H) (OH : am_isO H E 3 = true) (H66 : am_ev (d + 3) 66 0 (am_ent [.ref E, .int ww] 2) [] H (some (iv w), H)) : am_ev (d + 4) 65 0 (am_ent [.ref 40, .int pp, .int ee, .int ww] 5) [] h (some (iv w), H) := by
  show am_ev (d + 4) 65 0 [.ref 40, .int pp, .int ee, .int ww, am_ph] [] h _
  refine am_ev.step (pc' := 1) rfl rfl ?_
  refine am_ev.step (pc' := 2) rfl rfl ?_
  refine am_ev.step (pc' := 3) rfl rfl ?_
  refine ax_call (z := 52) (p' := 6) (as := [_, _, _]) rfl (Or.inr (Or.inl ⟨_, rfl⟩)) rfl rfl rfl rfl rfl rfl (S.ob rfl) rfl H52 rfl ?_
  refine am_ev.step (pc' := 8) (ls' := [.ref 40, .int pp, .int ee, .int ww, .ref E]) rfl rfl ?_
  refine am_ev.step (pc' := 10) rfl rfl ?_
  refine am_ev.step (pc' := 15) rfl rfl ?_
  refine am_ev.step (pc' := 16) rfl rfl ?_
  refine ax_gf (p' := 19) rfl rfl (S.ob rfl) (S.rf rfl rfl) ?_
  refine am_ev.step (pc' := 21) rfl rfl ?_
  refine am_ev.step (pc' := 22) rfl rfl ?_
  refine ax_gf (p' := 25) rfl rfl (S.ob rfl) (S.rf rfl rfl) ?_
  refine ax_call (z := 54) (p' := 28) (as := [_, _, _]) rfl (Or.inr (Or.inl ⟨_, rfl⟩)) rfl rfl rfl rfl rfl rfl (S.ob rfl) rfl H54 rfl ?_
  refine am_ev.step (pc' := 30) rfl rfl ?_
  refine am_ev.step (pc' := 31) rfl rfl ?_
  refine ax_call (z := 66) (p' := 34) (as := [_, _]) rfl (Or.inr (Or.inl ⟨_, rfl⟩)) rfl rfl rfl rfl rfl rfl OH rfl H66 rfl ?_
  exact fx_reti rfl rfl rfl
theorem tm_196n (S : fS g) (H188 : am_ev (d + 1) 188 0 (am_ent [.ref 78, .int pp] 2) [] g (some (iv 0), g)) : am_ev (d + 2) 196 0 (am_ent [.ref 78, .int pp, .int ee] 3) [] g (some (iv 0), g) := by
  show am_ev (d + 2) 196 0 [.ref 78, .int pp, .int ee] [] g _
  refine am_ev.step (pc' := 1) rfl rfl ?_
  refine am_ev.step (pc' := 2) rfl rfl ?_
  refine ax_call (z := 188) (p' := 5) (as := [_, _]) rfl (Or.inr (Or.inl ⟨_, rfl⟩)) rfl rfl rfl rfl rfl rfl (S.ob rfl) rfl H188 rfl ?_
  refine fx_z_eq_T (pT := 30) rfl (by omega) rfl (by omega) ?_
  refine am_ev.step (pc' := 31) rfl rfl ?_
  exact fx_reti rfl rfl rfl
theorem tm_196t (S : fS g) (H188 : am_ev (d + 1) 188 0 (am_ent [.ref 78, iv P] 2) [] g (some (iv 1), g)) (hP : P ≤ 39) (g92 : g.2.2.2 92 P = iv c) (hc : c ≤ 3) (be : -2147483648 ≤ e ∧ e ≤ 2147483647) (he : 0 ≤ e ∧ e < c) : am_ev (d + 2) 196 0 (am_ent [.ref 78, iv P, iv e] 3) [] g (some (iv 1), g) := by
  have q0 : ((Int32.ofInt e).toInt64).toInt = e := by rw [Int32.toInt_toInt64, fx_ti be]
  have q1 : ((Int32.ofInt (c : Int)).toInt64 - Int64.ofNat 1).toInt = (c : Int) - 1 := by
    rw [Int64.toInt_sub, Int32.toInt_toInt64, fx_ti (by omega), show (Int64.ofNat 1).toInt = 1 by decide, Int.bmod_eq_of_le (by omega) (by omega)]
  have q2 : (Int64.ofNat 0).toInt = 0 := by decide
  have H165 := in_165t (h := g) (d := d + 1) (a := (Int32.ofInt e).toInt64) (b := Int64.ofNat 0) (c := (Int32.ofInt (c : Int)).toInt64 - Int64.ofNat 1) (by rw [q0, q1, q2]; omega)
  show am_ev (d + 2) 196 0 [.ref 78, iv ((P : Int)), iv (e)] [] g _
  refine am_ev.step (pc' := 1) rfl rfl ?_
  refine am_ev.step (pc' := 2) rfl rfl ?_
  refine ax_call (z := 188) (p' := 5) (as := [_, _]) rfl (Or.inr (Or.inl ⟨_, rfl⟩)) rfl rfl rfl rfl rfl rfl (S.ob rfl) rfl H188 rfl ?_
  refine fx_z_eq_F (pF := 8) rfl (by omega) rfl (by omega) ?_
  refine am_ev.step (pc' := 9) rfl rfl ?_
  refine am_ev.step (pc' := 10) rfl rfl ?_
  refine am_ev.step (pc' := 11) rfl rfl ?_
  refine am_ev.step (pc' := 12) rfl rfl ?_
  refine ax_gf (p' := 15) rfl rfl (S.ob rfl) (S.rf rfl rfl) ?_
  refine am_ev.step (pc' := 16) rfl rfl ?_
  refine ax_iaload (p' := 17) rfl rfl (S.rd (k := P) rfl rfl rfl rfl rfl (by omega) g92) ?_
  refine am_ev.step (pc' := 18) rfl rfl ?_
  refine am_ev.step (pc' := 19) rfl rfl ?_
  refine am_ev.step (pc' := 20) rfl rfl ?_
  refine ax_call (z := 165) (p' := 23) (as := [_, _, _]) rfl (Or.inl ⟨_, rfl⟩) rfl rfl rfl rfl rfl rfl rfl rfl H165 rfl ?_
  refine fx_z_eq_F (pF := 26) rfl (by omega) rfl (by omega) ?_
  refine am_ev.step (pc' := 27) rfl rfl ?_
  refine am_ev.step (pc' := 31) rfl rfl ?_
  exact fx_reti rfl rfl rfl
theorem tm_196f (S : fS g) (H188 : am_ev (d + 1) 188 0 (am_ent [.ref 78, iv P] 2) [] g (some (iv 1), g)) (hP : P ≤ 39) (g92 : g.2.2.2 92 P = iv c) (hc : c ≤ 3) (be : -2147483648 ≤ e ∧ e ≤ 2147483647) (he : ¬ (0 ≤ e ∧ e < c)) : am_ev (d + 2) 196 0 (am_ent [.ref 78, iv P, iv e] 3) [] g (some (iv 0), g) := by
  have q0 : ((Int32.ofInt e).toInt64).toInt = e := by rw [Int32.toInt_toInt64, fx_ti be]
  have q1 : ((Int32.ofInt (c : Int)).toInt64 - Int64.ofNat 1).toInt = (c : Int) - 1 := by
    rw [Int64.toInt_sub, Int32.toInt_toInt64, fx_ti (by omega), show (Int64.ofNat 1).toInt = 1 by decide, Int.bmod_eq_of_le (by omega) (by omega)]
  have q2 : (Int64.ofNat 0).toInt = 0 := by decide
  have H165 := in_165f (h := g) (d := d + 1) (a := (Int32.ofInt e).toInt64) (b := Int64.ofNat 0) (c := (Int32.ofInt (c : Int)).toInt64 - Int64.ofNat 1) (by rw [q0, q1, q2]; omega)
  show am_ev (d + 2) 196 0 [.ref 78, iv ((P : Int)), iv (e)] [] g _
  refine am_ev.step (pc' := 1) rfl rfl ?_
  refine am_ev.step (pc' := 2) rfl rfl ?_
  refine ax_call (z := 188) (p' := 5) (as := [_, _]) rfl (Or.inr (Or.inl ⟨_, rfl⟩)) rfl rfl rfl rfl rfl rfl (S.ob rfl) rfl H188 rfl ?_
  refine fx_z_eq_F (pF := 8) rfl (by omega) rfl (by omega) ?_
  refine am_ev.step (pc' := 9) rfl rfl ?_
  refine am_ev.step (pc' := 10) rfl rfl ?_
  refine am_ev.step (pc' := 11) rfl rfl ?_
  refine am_ev.step (pc' := 12) rfl rfl ?_
  refine ax_gf (p' := 15) rfl rfl (S.ob rfl) (S.rf rfl rfl) ?_
  refine am_ev.step (pc' := 16) rfl rfl ?_
  refine ax_iaload (p' := 17) rfl rfl (S.rd (k := P) rfl rfl rfl rfl rfl (by omega) g92) ?_
  refine am_ev.step (pc' := 18) rfl rfl ?_
  refine am_ev.step (pc' := 19) rfl rfl ?_
  refine am_ev.step (pc' := 20) rfl rfl ?_
  refine ax_call (z := 165) (p' := 23) (as := [_, _, _]) rfl (Or.inl ⟨_, rfl⟩) rfl rfl rfl rfl rfl rfl rfl rfl H165 rfl ?_
  refine fx_z_eq_T (pT := 30) rfl (by omega) rfl (by omega) ?_
  refine am_ev.step (pc' := 31) rfl rfl ?_
  exact fx_reti rfl rfl rfl
theorem tm_195n (S : fS g) (H196 : am_ev (d + 5) 196 0 (am_ent [.ref 78, .int pp, .int ee] 3) [] g (some (iv 0), g)) : am_ev (d + 6) 195 0 (am_ent [.ref 78, .int pp, .int ee, .int ww] 7) [] g (some (iv (-9)), g) := by
  show am_ev (d + 6) 195 0 [.ref 78, .int pp, .int ee, .int ww, am_ph, am_ph, am_ph] [] g _
  refine am_ev.step (pc' := 1) rfl rfl ?_
  refine am_ev.step (pc' := 2) rfl rfl ?_
  refine am_ev.step (pc' := 3) rfl rfl ?_
  refine ax_call (z := 196) (p' := 6) (as := [_, _, _]) rfl (Or.inr (Or.inl ⟨_, rfl⟩)) rfl rfl rfl rfl rfl rfl (S.ob rfl) rfl H196 rfl ?_
  refine fx_z_ne_F (pF := 9) rfl (by omega) rfl (by omega) ?_
  refine fx_bip (p' := 11) rfl rfl rfl ?_
  exact fx_reti rfl rfl rfl
variable {e_ : Nat}
variable {G : am_H}
theorem tm_195_0 (S : fS g) (H196 : am_ev (d + 5) 196 0 (am_ent [.ref 78, iv P, iv e_] 3) [] g (some (iv 1), g)) (hP : P ≤ 39) (hz : z ≤ 119) (H194 : am_ev (d + 5) 194 0 (am_ent [iv P, iv e_] 2) [] g (some (iv z), g)) (g93 : g.2.2.2 93 z = iv l) : am_ev (d + 6) 195 0 (am_ent [.ref 78, iv P, iv e_, iv 0] 7) [] g (some (iv l), g) := by
  show am_ev (d + 6) 195 0 [.ref 78, iv ((P : Int)), iv ((e_ : Int)), iv 0, am_ph, am_ph, am_ph] [] g _
  refine am_ev.step (pc' := 1) rfl rfl ?_
  refine am_ev.step (pc' := 2) rfl rfl ?_
  refine am_ev.step (pc' := 3) rfl rfl ?_
  refine ax_call (z := 196) (p' := 6) (as := [_, _, _]) rfl (Or.inr (Or.inl ⟨_, rfl⟩)) rfl rfl rfl rfl rfl rfl (S.ob rfl) rfl H196 rfl ?_
  refine fx_z_ne_T (pT := 12) rfl (by omega) rfl (by omega) ?_
  refine am_ev.step (pc' := 13) rfl rfl ?_
  refine am_ev.step (pc' := 14) rfl rfl ?_
  refine ax_call (z := 194) (p' := 17) (as := [_, _]) rfl (Or.inl ⟨_, rfl⟩) rfl rfl rfl rfl rfl rfl rfl rfl H194 rfl ?_
  refine am_ev.step (pc' := 19) (ls' := [.ref 78, iv ((P : Int)), iv ((e_ : Int)), iv 0, iv ((z : Int)), am_ph, am_ph]) rfl rfl ?_
  refine am_ev.step (pc' := 20) rfl rfl ?_
  refine am_ev.step (pc' := 22) (ls' := [.ref 78, iv ((P : Int)), iv ((e_ : Int)), iv 0, iv ((z : Int)), iv 0, am_ph]) rfl rfl ?_
  refine am_ev.step (pc' := 23) rfl rfl ?_
  refine fx_ts (p' := 56) rfl (by omega) (by omega) rfl (by decide) ?_
  refine am_ev.step (pc' := 57) rfl rfl ?_
  refine ax_gf (p' := 60) rfl rfl (S.ob rfl) (S.rf rfl rfl) ?_
  refine am_ev.step (pc' := 62) rfl rfl ?_
  refine ax_iaload (p' := 63) rfl rfl (S.rd (k := z) rfl rfl rfl rfl rfl (by omega) g93) ?_
  exact fx_reti rfl rfl rfl
theorem tm_195_3 (S : fS g) (H196 : am_ev (d + 5) 196 0 (am_ent [.ref 78, iv P, iv e_] 3) [] g (some (iv 1), g)) (hP : P ≤ 39) (hz : z ≤ 119) (H194 : am_ev (d + 5) 194 0 (am_ent [iv P, iv e_] 2) [] g (some (iv z), g)) (H197 : am_ev (d + 5) 197 0 (am_ent [.ref 78, iv z] 3) [] g (some (iv p), G)) : am_ev (d + 6) 195 0 (am_ent [.ref 78, iv P, iv e_, iv 3] 7) [] g (some (iv p), G) := by
  show am_ev (d + 6) 195 0 [.ref 78, iv ((P : Int)), iv ((e_ : Int)), iv 3, am_ph, am_ph, am_ph] [] g _
  refine am_ev.step (pc' := 1) rfl rfl ?_
  refine am_ev.step (pc' := 2) rfl rfl ?_
  refine am_ev.step (pc' := 3) rfl rfl ?_
  refine ax_call (z := 196) (p' := 6) (as := [_, _, _]) rfl (Or.inr (Or.inl ⟨_, rfl⟩)) rfl rfl rfl rfl rfl rfl (S.ob rfl) rfl H196 rfl ?_
  refine fx_z_ne_T (pT := 12) rfl (by omega) rfl (by omega) ?_
  refine am_ev.step (pc' := 13) rfl rfl ?_
  refine am_ev.step (pc' := 14) rfl rfl ?_
  refine ax_call (z := 194) (p' := 17) (as := [_, _]) rfl (Or.inl ⟨_, rfl⟩) rfl rfl rfl rfl rfl rfl rfl rfl H194 rfl ?_
  refine am_ev.step (pc' := 19) (ls' := [.ref 78, iv ((P : Int)), iv ((e_ : Int)), iv 3, iv ((z : Int)), am_ph, am_ph]) rfl rfl ?_
  refine am_ev.step (pc' := 20) rfl rfl ?_
  refine am_ev.step (pc' := 22) (ls' := [.ref 78, iv ((P : Int)), iv ((e_ : Int)), iv 3, iv ((z : Int)), iv 0, am_ph]) rfl rfl ?_
  refine am_ev.step (pc' := 23) rfl rfl ?_
  refine fx_ts (p' := 154) rfl (by omega) (by omega) rfl (by decide) ?_
  refine am_ev.step (pc' := 155) rfl rfl ?_
  refine am_ev.step (pc' := 157) rfl rfl ?_
  refine ax_call (z := 197) (p' := 160) (as := [_, _]) rfl (Or.inr (Or.inl ⟨_, rfl⟩)) rfl rfl rfl rfl rfl rfl (S.ob rfl) rfl H197 rfl ?_
  exact fx_reti rfl rfl rfl
theorem tm_195_4n (S : fS g) (H196 : am_ev (d + 5) 196 0 (am_ent [.ref 78, iv P, iv e_] 3) [] g (some (iv 1), g)) (hP : P ≤ 39) (hz : z ≤ 119) (H194 : am_ev (d + 5) 194 0 (am_ent [iv P, iv e_] 2) [] g (some (iv z), g)) (SG : fS G) (H197 : am_ev (d + 5) 197 0 (am_ent [.ref 78, iv z] 3) [] g (some (iv p), G)) (bp : -2147483648 ≤ p ∧ p ≤ 2147483647) (hp : p = -1) : am_ev (d + 6) 195 0 (am_ent [.ref 78, iv P, iv e_, iv 4] 7) [] g (some (iv (-1)), G) := by
  show am_ev (d + 6) 195 0 [.ref 78, iv ((P : Int)), iv ((e_ : Int)), iv 4, am_ph, am_ph, am_ph] [] g _
  refine am_ev.step (pc' := 1) rfl rfl ?_
  refine am_ev.step (pc' := 2) rfl rfl ?_
  refine am_ev.step (pc' := 3) rfl rfl ?_
  refine ax_call (z := 196) (p' := 6) (as := [_, _, _]) rfl (Or.inr (Or.inl ⟨_, rfl⟩)) rfl rfl rfl rfl rfl rfl (S.ob rfl) rfl H196 rfl ?_
  refine fx_z_ne_T (pT := 12) rfl (by omega) rfl (by omega) ?_
  refine am_ev.step (pc' := 13) rfl rfl ?_
  refine am_ev.step (pc' := 14) rfl rfl ?_
  refine ax_call (z := 194) (p' := 17) (as := [_, _]) rfl (Or.inl ⟨_, rfl⟩) rfl rfl rfl rfl rfl rfl rfl rfl H194 rfl ?_
  refine am_ev.step (pc' := 19) (ls' := [.ref 78, iv ((P : Int)), iv ((e_ : Int)), iv 4, iv ((z : Int)), am_ph, am_ph]) rfl rfl ?_
  refine am_ev.step (pc' := 20) rfl rfl ?_
  refine am_ev.step (pc' := 22) (ls' := [.ref 78, iv ((P : Int)), iv ((e_ : Int)), iv 4, iv ((z : Int)), iv 0, am_ph]) rfl rfl ?_
  refine am_ev.step (pc' := 23) rfl rfl ?_
  refine fx_ts (p' := 161) rfl (by omega) (by omega) rfl (by decide) ?_
  refine am_ev.step (pc' := 162) rfl rfl ?_
  refine am_ev.step (pc' := 164) rfl rfl ?_
  refine ax_call (z := 197) (p' := 167) (as := [_, _]) rfl (Or.inr (Or.inl ⟨_, rfl⟩)) rfl rfl rfl rfl rfl rfl (S.ob rfl) rfl H197 rfl ?_
  refine am_ev.step (pc' := 168) rfl rfl ?_
  refine fx_c_ne_F (pF := 171) rfl (by omega) (by omega) rfl (by omega) ?_
  refine am_ev.step (pc' := 172) rfl rfl ?_
  refine am_ev.step (pc' := 181) rfl rfl ?_
  exact fx_reti rfl rfl rfl
theorem tm_195_4 (S : fS g) (H196 : am_ev (d + 5) 196 0 (am_ent [.ref 78, iv P, iv e_] 3) [] g (some (iv 1), g)) (hP : P ≤ 39) (hz : z ≤ 119) (H194 : am_ev (d + 5) 194 0 (am_ent [iv P, iv e_] 2) [] g (some (iv z), g)) (SG : fS G) (H197 : am_ev (d + 5) 197 0 (am_ent [.ref 78, iv z] 3) [] g (some (iv p), G)) (bp : -2147483648 ≤ p ∧ p ≤ 2147483647) (hp : p ≠ -1) (w9 : G.2.2.2 99 0 = iv r) : am_ev (d + 6) 195 0 (am_ent [.ref 78, iv P, iv e_, iv 4] 7) [] g (some (iv r), G) := by
  show am_ev (d + 6) 195 0 [.ref 78, iv ((P : Int)), iv ((e_ : Int)), iv 4, am_ph, am_ph, am_ph] [] g _
  refine am_ev.step (pc' := 1) rfl rfl ?_
  refine am_ev.step (pc' := 2) rfl rfl ?_
  refine am_ev.step (pc' := 3) rfl rfl ?_
  refine ax_call (z := 196) (p' := 6) (as := [_, _, _]) rfl (Or.inr (Or.inl ⟨_, rfl⟩)) rfl rfl rfl rfl rfl rfl (S.ob rfl) rfl H196 rfl ?_
  refine fx_z_ne_T (pT := 12) rfl (by omega) rfl (by omega) ?_
  refine am_ev.step (pc' := 13) rfl rfl ?_
  refine am_ev.step (pc' := 14) rfl rfl ?_
  refine ax_call (z := 194) (p' := 17) (as := [_, _]) rfl (Or.inl ⟨_, rfl⟩) rfl rfl rfl rfl rfl rfl rfl rfl H194 rfl ?_
  refine am_ev.step (pc' := 19) (ls' := [.ref 78, iv ((P : Int)), iv ((e_ : Int)), iv 4, iv ((z : Int)), am_ph, am_ph]) rfl rfl ?_
  refine am_ev.step (pc' := 20) rfl rfl ?_
  refine am_ev.step (pc' := 22) (ls' := [.ref 78, iv ((P : Int)), iv ((e_ : Int)), iv 4, iv ((z : Int)), iv 0, am_ph]) rfl rfl ?_
  refine am_ev.step (pc' := 23) rfl rfl ?_
  refine fx_ts (p' := 161) rfl (by omega) (by omega) rfl (by decide) ?_
  refine am_ev.step (pc' := 162) rfl rfl ?_
  refine am_ev.step (pc' := 164) rfl rfl ?_
  refine ax_call (z := 197) (p' := 167) (as := [_, _]) rfl (Or.inr (Or.inl ⟨_, rfl⟩)) rfl rfl rfl rfl rfl rfl (S.ob rfl) rfl H197 rfl ?_
  refine am_ev.step (pc' := 168) rfl rfl ?_
  refine fx_c_ne_T (pT := 175) rfl (by omega) (by omega) rfl (by omega) ?_
  refine am_ev.step (pc' := 176) rfl rfl ?_
  refine ax_gf (p' := 179) rfl rfl (SG.ob rfl) (SG.rf rfl rfl) ?_
  refine am_ev.step (pc' := 180) rfl rfl ?_
  refine ax_iaload (p' := 181) rfl rfl (SG.rd (k := 0) rfl rfl rfl rfl rfl (by decide) w9) ?_
  exact fx_reti rfl rfl rfl
theorem tm_195_d (S : fS g) (H196 : am_ev (d + 5) 196 0 (am_ent [.ref 78, iv P, iv e_] 3) [] g (some (iv 1), g)) (hP : P ≤ 39) (hz : z ≤ 119) (H194 : am_ev (d + 5) 194 0 (am_ent [iv P, iv e_] 2) [] g (some (iv z), g)) (bw : -2147483648 ≤ w ∧ w ≤ 2147483647) (hw : w < 0 ∨ 4 < w) : am_ev (d + 6) 195 0 (am_ent [.ref 78, iv P, iv e_, iv (w)] 7) [] g (some (iv (-9)), g) := by
  show am_ev (d + 6) 195 0 [.ref 78, iv ((P : Int)), iv ((e_ : Int)), iv (w), am_ph, am_ph, am_ph] [] g _
  refine am_ev.step (pc' := 1) rfl rfl ?_
  refine am_ev.step (pc' := 2) rfl rfl ?_
  refine am_ev.step (pc' := 3) rfl rfl ?_
  refine ax_call (z := 196) (p' := 6) (as := [_, _, _]) rfl (Or.inr (Or.inl ⟨_, rfl⟩)) rfl rfl rfl rfl rfl rfl (S.ob rfl) rfl H196 rfl ?_
  refine fx_z_ne_T (pT := 12) rfl (by omega) rfl (by omega) ?_
  refine am_ev.step (pc' := 13) rfl rfl ?_
  refine am_ev.step (pc' := 14) rfl rfl ?_
  refine ax_call (z := 194) (p' := 17) (as := [_, _]) rfl (Or.inl ⟨_, rfl⟩) rfl rfl rfl rfl rfl rfl rfl rfl H194 rfl ?_
  refine am_ev.step (pc' := 19) (ls' := [.ref 78, iv ((P : Int)), iv ((e_ : Int)), iv (w), iv ((z : Int)), am_ph, am_ph]) rfl rfl ?_
  refine am_ev.step (pc' := 20) rfl rfl ?_
  refine am_ev.step (pc' := 22) (ls' := [.ref 78, iv ((P : Int)), iv ((e_ : Int)), iv (w), iv ((z : Int)), iv 0, am_ph]) rfl rfl ?_
  refine am_ev.step (pc' := 23) rfl rfl ?_
  refine fx_td (p' := 182) rfl bw (by omega) (by decide) ?_
  refine fx_bip (p' := 184) rfl rfl rfl ?_
  exact fx_reti rfl rfl rfl
theorem tm_195s1 (S : fS g) (H196 : am_ev (d + 5) 196 0 (am_ent [.ref 78, iv P, iv e_] 3) [] g (some (iv 1), g)) (hP : P ≤ 39) (hz : z ≤ 119) (H194 : am_ev (d + 5) 194 0 (am_ent [iv P, iv e_] 2) [] g (some (iv z), g)) {x : Option Value × am_H} (q9 : am_ev (d + 6) 195 67 [.ref 78, iv ((P : Int)), iv ((e_ : Int)), iv 1, iv ((z : Int)), iv 0, iv 0] [] g x) : am_ev (d + 6) 195 0 (am_ent [.ref 78, iv P, iv e_, iv 1] 7) [] g x := by
  show am_ev (d + 6) 195 0 [.ref 78, iv ((P : Int)), iv ((e_ : Int)), iv 1, am_ph, am_ph, am_ph] [] g _
  refine am_ev.step (pc' := 1) rfl rfl ?_
  refine am_ev.step (pc' := 2) rfl rfl ?_
  refine am_ev.step (pc' := 3) rfl rfl ?_
  refine ax_call (z := 196) (p' := 6) (as := [_, _, _]) rfl (Or.inr (Or.inl ⟨_, rfl⟩)) rfl rfl rfl rfl rfl rfl (S.ob rfl) rfl H196 rfl ?_
  refine fx_z_ne_T (pT := 12) rfl (by omega) rfl (by omega) ?_
  refine am_ev.step (pc' := 13) rfl rfl ?_
  refine am_ev.step (pc' := 14) rfl rfl ?_
  refine ax_call (z := 194) (p' := 17) (as := [_, _]) rfl (Or.inl ⟨_, rfl⟩) rfl rfl rfl rfl rfl rfl rfl rfl H194 rfl ?_
  refine am_ev.step (pc' := 19) (ls' := [.ref 78, iv ((P : Int)), iv ((e_ : Int)), iv 1, iv ((z : Int)), am_ph, am_ph]) rfl rfl ?_
  refine am_ev.step (pc' := 20) rfl rfl ?_
  refine am_ev.step (pc' := 22) (ls' := [.ref 78, iv ((P : Int)), iv ((e_ : Int)), iv 1, iv ((z : Int)), iv 0, am_ph]) rfl rfl ?_
  refine am_ev.step (pc' := 23) rfl rfl ?_
  refine fx_ts (p' := 64) rfl (by omega) (by omega) rfl (by decide) ?_
  refine am_ev.step (pc' := 65) rfl rfl ?_
  refine am_ev.step (pc' := 67) (ls' := [.ref 78, iv ((P : Int)), iv ((e_ : Int)), iv 1, iv ((z : Int)), iv 0, iv 0]) rfl rfl ?_
  exact q9
theorem tm_195e1 (S : fS g) (hz : z ≤ 119) (hl : l ≤ 30) (g93 : g.2.2.2 93 z = iv l) (hi : i = l) : am_ev (d + 6) 195 67 [.ref 78, iv ((P : Int)), iv ((e_ : Int)), iv 1, iv ((z : Int)), iv (w), iv ((i : Int))] [] g (some (iv w), g) := by
  refine am_ev.step (pc' := 69) rfl rfl ?_
  refine am_ev.step (pc' := 70) rfl rfl ?_
  refine ax_gf (p' := 73) rfl rfl (S.ob rfl) (S.rf rfl rfl) ?_
  refine am_ev.step (pc' := 75) rfl rfl ?_
  refine ax_iaload (p' := 76) rfl rfl (S.rd (k := z) rfl rfl rfl rfl rfl (by omega) g93) ?_
  refine fx_c_ge_T (pT := 110) rfl (by omega) (by omega) rfl (by omega) ?_
  refine am_ev.step (pc' := 112) rfl rfl ?_
  exact fx_reti rfl rfl rfl
theorem tm_195s2 (S : fS g) (H196 : am_ev (d + 5) 196 0 (am_ent [.ref 78, iv P, iv e_] 3) [] g (some (iv 1), g)) (hP : P ≤ 39) (hz : z ≤ 119) (H194 : am_ev (d + 5) 194 0 (am_ent [iv P, iv e_] 2) [] g (some (iv z), g)) {x : Option Value × am_H} (q9 : am_ev (d + 6) 195 116 [.ref 78, iv ((P : Int)), iv ((e_ : Int)), iv 2, iv ((z : Int)), iv 0, iv 0] [] g x) : am_ev (d + 6) 195 0 (am_ent [.ref 78, iv P, iv e_, iv 2] 7) [] g x := by
  show am_ev (d + 6) 195 0 [.ref 78, iv ((P : Int)), iv ((e_ : Int)), iv 2, am_ph, am_ph, am_ph] [] g _
  refine am_ev.step (pc' := 1) rfl rfl ?_
  refine am_ev.step (pc' := 2) rfl rfl ?_
  refine am_ev.step (pc' := 3) rfl rfl ?_
  refine ax_call (z := 196) (p' := 6) (as := [_, _, _]) rfl (Or.inr (Or.inl ⟨_, rfl⟩)) rfl rfl rfl rfl rfl rfl (S.ob rfl) rfl H196 rfl ?_
  refine fx_z_ne_T (pT := 12) rfl (by omega) rfl (by omega) ?_
  refine am_ev.step (pc' := 13) rfl rfl ?_
  refine am_ev.step (pc' := 14) rfl rfl ?_
  refine ax_call (z := 194) (p' := 17) (as := [_, _]) rfl (Or.inl ⟨_, rfl⟩) rfl rfl rfl rfl rfl rfl rfl rfl H194 rfl ?_
  refine am_ev.step (pc' := 19) (ls' := [.ref 78, iv ((P : Int)), iv ((e_ : Int)), iv 2, iv ((z : Int)), am_ph, am_ph]) rfl rfl ?_
  refine am_ev.step (pc' := 20) rfl rfl ?_
  refine am_ev.step (pc' := 22) (ls' := [.ref 78, iv ((P : Int)), iv ((e_ : Int)), iv 2, iv ((z : Int)), iv 0, am_ph]) rfl rfl ?_
  refine am_ev.step (pc' := 23) rfl rfl ?_
  refine fx_ts (p' := 113) rfl (by omega) (by omega) rfl (by decide) ?_
  refine am_ev.step (pc' := 114) rfl rfl ?_
  refine am_ev.step (pc' := 116) (ls' := [.ref 78, iv ((P : Int)), iv ((e_ : Int)), iv 2, iv ((z : Int)), iv 0, iv 0]) rfl rfl ?_
  exact q9
theorem tm_195e2 (S : fS g) (hz : z ≤ 119) (hl : l ≤ 30) (g93 : g.2.2.2 93 z = iv l) (hi : i = l) : am_ev (d + 6) 195 116 [.ref 78, iv ((P : Int)), iv ((e_ : Int)), iv 2, iv ((z : Int)), iv (w), iv ((i : Int))] [] g (some (iv w), g) := by
  refine am_ev.step (pc' := 118) rfl rfl ?_
  refine am_ev.step (pc' := 119) rfl rfl ?_
  refine ax_gf (p' := 122) rfl rfl (S.ob rfl) (S.rf rfl rfl) ?_
  refine am_ev.step (pc' := 124) rfl rfl ?_
  refine ax_iaload (p' := 125) rfl rfl (S.rd (k := z) rfl rfl rfl rfl rfl (by omega) g93) ?_
  refine fx_c_ge_T (pT := 151) rfl (by omega) (by omega) rfl (by omega) ?_
  refine am_ev.step (pc' := 153) rfl rfl ?_
  exact fx_reti rfl rfl rfl
theorem tm_195a1 (S : fS g) (hz : z ≤ 119) (hl : l ≤ 30) (g93 : g.2.2.2 93 z = iv l) (w1 : g.2.2.2 96 (30 * z + i) = iv 1) (hi : i < l) (bw : 0 ≤ w ∧ w ≤ 1000) {x : Option Value × am_H} (q9 : am_ev (d + 6) 195 67 [.ref 78, iv P, iv e_, iv 1, iv z, iv (w + 1), iv ((i + 1 : Nat) : Int)] [] g x) : am_ev (d + 6) 195 67 [.ref 78, iv ((P : Int)), iv ((e_ : Int)), iv 1, iv ((z : Int)), iv (w), iv ((i : Int))] [] g x := by
  refine am_ev.step (pc' := 69) rfl rfl ?_
  refine am_ev.step (pc' := 70) rfl rfl ?_
  refine ax_gf (p' := 73) rfl rfl (S.ob rfl) (S.rf rfl rfl) ?_
  refine am_ev.step (pc' := 75) rfl rfl ?_
  refine ax_iaload (p' := 76) rfl rfl (S.rd (k := z) rfl rfl rfl rfl rfl (by omega) g93) ?_
  refine fx_c_ge_F (pF := 79) rfl (by omega) (by omega) rfl (by omega) ?_
  refine am_ev.step (pc' := 81) rfl rfl ?_
  refine am_ev.step (pc' := 82) rfl rfl ?_
  refine ax_gf (p' := 85) rfl rfl (S.ob rfl) (S.rf rfl rfl) ?_
  refine am_ev.step (pc' := 87) rfl rfl ?_
  refine am_ev.step (pc' := 89) rfl rfl ?_
  refine ax_call (z := 191) (p' := 92) (as := [_, _]) rfl (Or.inl ⟨_, rfl⟩) rfl rfl rfl rfl rfl rfl rfl rfl (ml_191x (i := i) (by omega) (by omega) (by omega)) rfl ?_
  refine ax_baload (p' := 93) rfl rfl (S.rd (k := (30 * z + i)) rfl rfl rfl rfl (by omega) (by omega) w1) ?_
  refine fx_z_eq_F (pF := 96) rfl (by omega) rfl (by omega) ?_
  refine am_ev.step (pc' := 97) rfl rfl ?_
  refine am_ev.step (pc' := 101) rfl rfl ?_
  refine fx_add (p' := 102) (e := (w + 1)) rfl rfl (by omega) ?_
  refine am_ev.step (pc' := 104) (ls' := [.ref 78, iv ((P : Int)), iv ((e_ : Int)), iv 1, iv ((z : Int)), iv (w + 1), iv ((i : Int))]) rfl rfl ?_
  refine fx_inc (p' := 107) (e := ((i : Int) + 1)) (ls' := [.ref 78, iv ((P : Int)), iv ((e_ : Int)), iv 1, iv ((z : Int)), iv (w + 1), iv ((i : Int) + 1)]) rfl rfl rfl (by omega) rfl ?_
  refine am_ev.step (pc' := 67) rfl rfl ?_
  exact (rr_n ▸ q9)
theorem tm_195a0 (S : fS g) (hz : z ≤ 119) (hl : l ≤ 30) (g93 : g.2.2.2 93 z = iv l) (w1 : g.2.2.2 96 (30 * z + i) = iv 0) (hi : i < l) (bw : 0 ≤ w ∧ w ≤ 1000) {x : Option Value × am_H} (q9 : am_ev (d + 6) 195 67 [.ref 78, iv P, iv e_, iv 1, iv z, iv (w), iv ((i + 1 : Nat) : Int)] [] g x) : am_ev (d + 6) 195 67 [.ref 78, iv ((P : Int)), iv ((e_ : Int)), iv 1, iv ((z : Int)), iv (w), iv ((i : Int))] [] g x := by
  refine am_ev.step (pc' := 69) rfl rfl ?_
  refine am_ev.step (pc' := 70) rfl rfl ?_
  refine ax_gf (p' := 73) rfl rfl (S.ob rfl) (S.rf rfl rfl) ?_
  refine am_ev.step (pc' := 75) rfl rfl ?_
  refine ax_iaload (p' := 76) rfl rfl (S.rd (k := z) rfl rfl rfl rfl rfl (by omega) g93) ?_
  refine fx_c_ge_F (pF := 79) rfl (by omega) (by omega) rfl (by omega) ?_
  refine am_ev.step (pc' := 81) rfl rfl ?_
  refine am_ev.step (pc' := 82) rfl rfl ?_
  refine ax_gf (p' := 85) rfl rfl (S.ob rfl) (S.rf rfl rfl) ?_
  refine am_ev.step (pc' := 87) rfl rfl ?_
  refine am_ev.step (pc' := 89) rfl rfl ?_
  refine ax_call (z := 191) (p' := 92) (as := [_, _]) rfl (Or.inl ⟨_, rfl⟩) rfl rfl rfl rfl rfl rfl rfl rfl (ml_191x (i := i) (by omega) (by omega) (by omega)) rfl ?_
  refine ax_baload (p' := 93) rfl rfl (S.rd (k := (30 * z + i)) rfl rfl rfl rfl (by omega) (by omega) w1) ?_
  refine fx_z_eq_T (pT := 100) rfl (by omega) rfl (by omega) ?_
  refine am_ev.step (pc' := 101) rfl rfl ?_
  refine fx_add (p' := 102) (e := (w)) rfl rfl (by omega) ?_
  refine am_ev.step (pc' := 104) (ls' := [.ref 78, iv ((P : Int)), iv ((e_ : Int)), iv 1, iv ((z : Int)), iv (w), iv ((i : Int))]) rfl rfl ?_
  refine fx_inc (p' := 107) (e := ((i : Int) + 1)) (ls' := [.ref 78, iv ((P : Int)), iv ((e_ : Int)), iv 1, iv ((z : Int)), iv (w), iv ((i : Int) + 1)]) rfl rfl rfl (by omega) rfl ?_
  refine am_ev.step (pc' := 67) rfl rfl ?_
  exact (rr_n ▸ q9)
theorem tm_195b (S : fS g) (hz : z ≤ 119) (hl : l ≤ 30) (g93 : g.2.2.2 93 z = iv l) (w1 : g.2.2.2 94 (30 * z + i) = iv r) (hi : i < l) (bw : 0 ≤ w ∧ w ≤ 1000) (br : 0 ≤ r ∧ r ≤ 1000) {x : Option Value × am_H} (q9 : am_ev (d + 6) 195 116 [.ref 78, iv P, iv e_, iv 2, iv z, iv (w + r), iv ((i + 1 : Nat) : Int)] [] g x) : am_ev (d + 6) 195 116 [.ref 78, iv ((P : Int)), iv ((e_ : Int)), iv 2, iv ((z : Int)), iv (w), iv ((i : Int))] [] g x := by
  refine am_ev.step (pc' := 118) rfl rfl ?_
  refine am_ev.step (pc' := 119) rfl rfl ?_
  refine ax_gf (p' := 122) rfl rfl (S.ob rfl) (S.rf rfl rfl) ?_
  refine am_ev.step (pc' := 124) rfl rfl ?_
  refine ax_iaload (p' := 125) rfl rfl (S.rd (k := z) rfl rfl rfl rfl rfl (by omega) g93) ?_
  refine fx_c_ge_F (pF := 128) rfl (by omega) (by omega) rfl (by omega) ?_
  refine am_ev.step (pc' := 130) rfl rfl ?_
  refine am_ev.step (pc' := 131) rfl rfl ?_
  refine ax_gf (p' := 134) rfl rfl (S.ob rfl) (S.rf rfl rfl) ?_
  refine am_ev.step (pc' := 136) rfl rfl ?_
  refine am_ev.step (pc' := 138) rfl rfl ?_
  refine ax_call (z := 191) (p' := 141) (as := [_, _]) rfl (Or.inl ⟨_, rfl⟩) rfl rfl rfl rfl rfl rfl rfl rfl (ml_191x (i := i) (by omega) (by omega) (by omega)) rfl ?_
  refine ax_iaload (p' := 142) rfl rfl (S.rd (k := (30 * z + i)) rfl rfl rfl rfl (by omega) (by omega) w1) ?_
  refine fx_add (p' := 143) (e := (w + r)) rfl rfl (by omega) ?_
  refine am_ev.step (pc' := 145) (ls' := [.ref 78, iv ((P : Int)), iv ((e_ : Int)), iv 2, iv ((z : Int)), iv (w + r), iv ((i : Int))]) rfl rfl ?_
  refine fx_inc (p' := 148) (e := ((i : Int) + 1)) (ls' := [.ref 78, iv ((P : Int)), iv ((e_ : Int)), iv 2, iv ((z : Int)), iv (w + r), iv ((i : Int) + 1)]) rfl rfl rfl (by omega) rfl ?_
  refine am_ev.step (pc' := 116) rfl rfl ?_
  exact (rr_n ▸ q9)
theorem tm_195A (S : fS g) (hz : z ≤ 119) (hl : l ≤ 30) (g93 : g.2.2.2 93 z = iv l) (g96 : ∀ i, i < l → g.2.2.2 96 (30 * z + i) = iv (b2 (bt u i))) : ∀ m i : Nat, i + m = l → am_ev (d + 6) 195 67 [.ref 78, iv P, iv e_, iv 1, iv z, iv (cS (bt u) i), iv i] [] g (some (iv (cS (bt u) l)), g)
  | 0, i, h => by
    have e : i = l := h
    rw [← e]
    exact tm_195e1 S hz hl g93 e
  | m + 1, i, h => by
    have IH := tm_195A S hz hl g93 g96 m (i + 1) (by omega)
    have k := cS_b (f := bt u) i
    have w1 := g96 i (by omega)
    have st : cS (bt u) (i + 1) = cS (bt u) i + b2 (bt u i) := rfl
    cases e : bt u i with
    | true =>
      rw [e] at w1 st
      rw [show cS (bt u) (i + 1) = cS (bt u) i + 1 from st] at IH
      exact tm_195a1 S hz hl g93 w1 (by omega) (by omega) IH
    | false =>
      rw [e] at w1 st
      rw [show cS (bt u) (i + 1) = cS (bt u) i from st.trans (Int.add_zero _)] at IH
      exact tm_195a0 S hz hl g93 w1 (by omega) (by omega) IH
theorem tm_195B {st : Nat → Nat} (S : fS g) (hz : z ≤ 119) (hl : l ≤ 30) (g93 : g.2.2.2 93 z = iv l) (s0 : ∀ i, i < l → st i ≤ st (i + 1) ∧ st (i + 1) ≤ st i + 8 ∧ st i ≤ 8 * i) (g94 : ∀ i, i < l → g.2.2.2 94 (30 * z + i) = iv ((st (i + 1) : Int) - (st i : Int))) : ∀ m i : Nat, i + m = l → am_ev (d + 6) 195 116 [.ref 78, iv P, iv e_, iv 2, iv z, iv (st i : Int), iv i] [] g (some (iv (st l : Int)), g)
  | 0, i, h => by
    have e : i = l := h
    rw [← e]
    exact tm_195e2 S hz hl g93 e
  | m + 1, i, h => by
    have IH := tm_195B S hz hl g93 s0 g94 m (i + 1) (by omega)
    have k := s0 i (by omega)
    rw [show ((st (i + 1) : Nat) : Int) = (st i : Int) + ((st (i + 1) : Int) - (st i : Int)) by omega] at IH
    exact tm_195b S hz hl g93 (g94 i (by omega)) (by omega) (by omega) (by omega) IH
theorem tm_202n (S : fS g) (H196 : am_ev (d + 5) 196 0 (am_ent [.ref 78, .int pp, .int ee] 3) [] g (some (iv 0), g)) : am_ev (d + 6) 202 0 (am_ent [.ref 78, .int pp, .int ee, .int ww] 4) [] g (some (iv (-1)), g) := by
  show am_ev (d + 6) 202 0 [.ref 78, .int pp, .int ee, .int ww] [] g _
  refine am_ev.step (pc' := 1) rfl rfl ?_
  refine am_ev.step (pc' := 2) rfl rfl ?_
  refine am_ev.step (pc' := 3) rfl rfl ?_
  refine ax_call (z := 196) (p' := 6) (as := [_, _, _]) rfl (Or.inr (Or.inl ⟨_, rfl⟩)) rfl rfl rfl rfl rfl rfl (S.ob rfl) rfl H196 rfl ?_
  refine fx_z_eq_T (pT := 22) rfl (by omega) rfl (by omega) ?_
  refine am_ev.step (pc' := 23) rfl rfl ?_
  exact fx_reti rfl rfl rfl
theorem tm_202z (S : fS g) (H196 : am_ev (d + 5) 196 0 (am_ent [.ref 78, iv P, iv e_] 3) [] g (some (iv 1), g)) (hP : P ≤ 39) (hz : z ≤ 119) (H194 : am_ev (d + 5) 194 0 (am_ent [iv P, iv e_] 2) [] g (some (iv z), g)) (SG : fS G) (H197 : am_ev (d + 5) 197 0 (am_ent [.ref 78, iv z] 3) [] g (some (iv p), G)) (bp : -2147483648 ≤ p ∧ p ≤ 2147483647) (hp : p = -1) : am_ev (d + 6) 202 0 (am_ent [.ref 78, iv P, iv e_, .int ww] 4) [] g (some (iv (-1)), G) := by
  show am_ev (d + 6) 202 0 [.ref 78, iv ((P : Int)), iv ((e_ : Int)), .int ww] [] g _
  refine am_ev.step (pc' := 1) rfl rfl ?_
  refine am_ev.step (pc' := 2) rfl rfl ?_
  refine am_ev.step (pc' := 3) rfl rfl ?_
  refine ax_call (z := 196) (p' := 6) (as := [_, _, _]) rfl (Or.inr (Or.inl ⟨_, rfl⟩)) rfl rfl rfl rfl rfl rfl (S.ob rfl) rfl H196 rfl ?_
  refine fx_z_eq_F (pF := 9) rfl (by omega) rfl (by omega) ?_
  refine am_ev.step (pc' := 10) rfl rfl ?_
  refine am_ev.step (pc' := 11) rfl rfl ?_
  refine am_ev.step (pc' := 12) rfl rfl ?_
  refine ax_call (z := 194) (p' := 15) (as := [_, _]) rfl (Or.inl ⟨_, rfl⟩) rfl rfl rfl rfl rfl rfl rfl rfl H194 rfl ?_
  refine ax_call (z := 197) (p' := 18) (as := [_, _]) rfl (Or.inr (Or.inl ⟨_, rfl⟩)) rfl rfl rfl rfl rfl rfl (S.ob rfl) rfl H197 rfl ?_
  refine am_ev.step (pc' := 19) rfl rfl ?_
  refine fx_c_ne_F (pF := 22) rfl (by omega) (by omega) rfl (by omega) ?_
  refine am_ev.step (pc' := 23) rfl rfl ?_
  exact fx_reti rfl rfl rfl
variable {K : am_H}
theorem tm_202t (S : fS g) (H196 : am_ev (d + 5) 196 0 (am_ent [.ref 78, iv P, iv e_] 3) [] g (some (iv 1), g)) (hP : P ≤ 39) (hz : z ≤ 119) (H194 : am_ev (d + 5) 194 0 (am_ent [iv P, iv e_] 2) [] g (some (iv z), g)) (SG : fS G) (H197 : am_ev (d + 5) 197 0 (am_ent [.ref 78, iv z] 3) [] g (some (iv p), G)) (bp : -2147483648 ≤ p ∧ p ≤ 2147483647) (hp : p ≠ -1) (SK : fS K) (H194G : am_ev (d + 5) 194 0 (am_ent [iv P, iv e_] 2) [] G (some (iv z), G)) (H203 : am_ev (d + 5) 203 0 (am_ent [.ref 78, iv z] 4) [] G (none, K)) (w8 : K.2.2.2 78 32 = iv r) (br : 0 ≤ r ∧ r ≤ 100) (bw : -2147483648 ≤ w ∧ w ≤ 2147483647) (hw : 0 ≤ w ∧ w < r) (rd : am_rd K 100 (Int32.ofInt w) (fun c => Nat.beq c 0) = some (iv e)) : am_ev (d + 6) 202 0 (am_ent [.ref 78, iv P, iv e_, iv w] 4) [] g (some (iv e), K) := by
  have q0 : ((Int32.ofInt w).toInt64).toInt = w := by rw [Int32.toInt_toInt64, fx_ti bw]
  have q1 : ((Int32.ofInt r).toInt64 - Int64.ofNat 1).toInt = r - 1 := by
    rw [Int64.toInt_sub, Int32.toInt_toInt64, fx_ti (by omega), show (Int64.ofNat 1).toInt = 1 by decide, Int.bmod_eq_of_le (by omega) (by omega)]
  have q2 : (Int64.ofNat 0).toInt = 0 := by decide
  have H165 := in_165t (h := K) (d := d + 5) (a := (Int32.ofInt w).toInt64) (b := Int64.ofNat 0) (c := (Int32.ofInt r).toInt64 - Int64.ofNat 1) (by rw [q0, q1, q2]; omega)
  show am_ev (d + 6) 202 0 [.ref 78, iv ((P : Int)), iv ((e_ : Int)), iv (w)] [] g _
  refine am_ev.step (pc' := 1) rfl rfl ?_
  refine am_ev.step (pc' := 2) rfl rfl ?_
  refine am_ev.step (pc' := 3) rfl rfl ?_
  refine ax_call (z := 196) (p' := 6) (as := [_, _, _]) rfl (Or.inr (Or.inl ⟨_, rfl⟩)) rfl rfl rfl rfl rfl rfl (S.ob rfl) rfl H196 rfl ?_
  refine fx_z_eq_F (pF := 9) rfl (by omega) rfl (by omega) ?_
  refine am_ev.step (pc' := 10) rfl rfl ?_
  refine am_ev.step (pc' := 11) rfl rfl ?_
  refine am_ev.step (pc' := 12) rfl rfl ?_
  refine ax_call (z := 194) (p' := 15) (as := [_, _]) rfl (Or.inl ⟨_, rfl⟩) rfl rfl rfl rfl rfl rfl rfl rfl H194 rfl ?_
  refine ax_call (z := 197) (p' := 18) (as := [_, _]) rfl (Or.inr (Or.inl ⟨_, rfl⟩)) rfl rfl rfl rfl rfl rfl (S.ob rfl) rfl H197 rfl ?_
  refine am_ev.step (pc' := 19) rfl rfl ?_
  refine fx_c_ne_T (pT := 24) rfl (by omega) (by omega) rfl (by omega) ?_
  refine am_ev.step (pc' := 25) rfl rfl ?_
  refine am_ev.step (pc' := 26) rfl rfl ?_
  refine am_ev.step (pc' := 27) rfl rfl ?_
  refine ax_call (z := 194) (p' := 30) (as := [_, _]) rfl (Or.inl ⟨_, rfl⟩) rfl rfl rfl rfl rfl rfl rfl rfl H194G rfl ?_
  refine ax_call (z := 203) (p' := 33) (as := [_, _]) rfl (Or.inr (Or.inl ⟨_, rfl⟩)) rfl rfl rfl rfl rfl rfl (SG.ob rfl) rfl H203 rfl ?_
  refine am_ev.step (pc' := 34) rfl rfl ?_
  refine am_ev.step (pc' := 35) rfl rfl ?_
  refine am_ev.step (pc' := 36) rfl rfl ?_
  refine am_ev.step (pc' := 37) rfl rfl ?_
  refine ax_gf (p' := 40) rfl rfl (SK.ob rfl) w8 ?_
  refine am_ev.step (pc' := 41) rfl rfl ?_
  refine am_ev.step (pc' := 42) rfl rfl ?_
  refine am_ev.step (pc' := 43) rfl rfl ?_
  refine ax_call (z := 165) (p' := 46) (as := [_, _, _]) rfl (Or.inl ⟨_, rfl⟩) rfl rfl rfl rfl rfl rfl rfl rfl H165 rfl ?_
  refine fx_z_eq_F (pF := 49) rfl (by omega) rfl (by omega) ?_
  refine am_ev.step (pc' := 50) rfl rfl ?_
  refine ax_gf (p' := 53) rfl rfl (SK.ob rfl) (SK.rf rfl rfl) ?_
  refine am_ev.step (pc' := 54) rfl rfl ?_
  refine ax_iaload (p' := 55) rfl rfl rd ?_
  refine am_ev.step (pc' := 59) rfl rfl ?_
  exact fx_reti rfl rfl rfl
theorem tm_202f (S : fS g) (H196 : am_ev (d + 5) 196 0 (am_ent [.ref 78, iv P, iv e_] 3) [] g (some (iv 1), g)) (hP : P ≤ 39) (hz : z ≤ 119) (H194 : am_ev (d + 5) 194 0 (am_ent [iv P, iv e_] 2) [] g (some (iv z), g)) (SG : fS G) (H197 : am_ev (d + 5) 197 0 (am_ent [.ref 78, iv z] 3) [] g (some (iv p), G)) (bp : -2147483648 ≤ p ∧ p ≤ 2147483647) (hp : p ≠ -1) (SK : fS K) (H194G : am_ev (d + 5) 194 0 (am_ent [iv P, iv e_] 2) [] G (some (iv z), G)) (H203 : am_ev (d + 5) 203 0 (am_ent [.ref 78, iv z] 4) [] G (none, K)) (w8 : K.2.2.2 78 32 = iv r) (br : 0 ≤ r ∧ r ≤ 100) (bw : -2147483648 ≤ w ∧ w ≤ 2147483647) (hw : ¬ (0 ≤ w ∧ w < r)) : am_ev (d + 6) 202 0 (am_ent [.ref 78, iv P, iv e_, iv w] 4) [] g (some (iv (-1)), K) := by
  have q0 : ((Int32.ofInt w).toInt64).toInt = w := by rw [Int32.toInt_toInt64, fx_ti bw]
  have q1 : ((Int32.ofInt r).toInt64 - Int64.ofNat 1).toInt = r - 1 := by
    rw [Int64.toInt_sub, Int32.toInt_toInt64, fx_ti (by omega), show (Int64.ofNat 1).toInt = 1 by decide, Int.bmod_eq_of_le (by omega) (by omega)]
  have q2 : (Int64.ofNat 0).toInt = 0 := by decide
  have H165 := in_165f (h := K) (d := d + 5) (a := (Int32.ofInt w).toInt64) (b := Int64.ofNat 0) (c := (Int32.ofInt r).toInt64 - Int64.ofNat 1) (by rw [q0, q1, q2]; omega)
  show am_ev (d + 6) 202 0 [.ref 78, iv ((P : Int)), iv ((e_ : Int)), iv (w)] [] g _
  refine am_ev.step (pc' := 1) rfl rfl ?_
  refine am_ev.step (pc' := 2) rfl rfl ?_
  refine am_ev.step (pc' := 3) rfl rfl ?_
  refine ax_call (z := 196) (p' := 6) (as := [_, _, _]) rfl (Or.inr (Or.inl ⟨_, rfl⟩)) rfl rfl rfl rfl rfl rfl (S.ob rfl) rfl H196 rfl ?_
  refine fx_z_eq_F (pF := 9) rfl (by omega) rfl (by omega) ?_
  refine am_ev.step (pc' := 10) rfl rfl ?_
  refine am_ev.step (pc' := 11) rfl rfl ?_
  refine am_ev.step (pc' := 12) rfl rfl ?_
  refine ax_call (z := 194) (p' := 15) (as := [_, _]) rfl (Or.inl ⟨_, rfl⟩) rfl rfl rfl rfl rfl rfl rfl rfl H194 rfl ?_
  refine ax_call (z := 197) (p' := 18) (as := [_, _]) rfl (Or.inr (Or.inl ⟨_, rfl⟩)) rfl rfl rfl rfl rfl rfl (S.ob rfl) rfl H197 rfl ?_
  refine am_ev.step (pc' := 19) rfl rfl ?_
  refine fx_c_ne_T (pT := 24) rfl (by omega) (by omega) rfl (by omega) ?_
  refine am_ev.step (pc' := 25) rfl rfl ?_
  refine am_ev.step (pc' := 26) rfl rfl ?_
  refine am_ev.step (pc' := 27) rfl rfl ?_
  refine ax_call (z := 194) (p' := 30) (as := [_, _]) rfl (Or.inl ⟨_, rfl⟩) rfl rfl rfl rfl rfl rfl rfl rfl H194G rfl ?_
  refine ax_call (z := 203) (p' := 33) (as := [_, _]) rfl (Or.inr (Or.inl ⟨_, rfl⟩)) rfl rfl rfl rfl rfl rfl (SG.ob rfl) rfl H203 rfl ?_
  refine am_ev.step (pc' := 34) rfl rfl ?_
  refine am_ev.step (pc' := 35) rfl rfl ?_
  refine am_ev.step (pc' := 36) rfl rfl ?_
  refine am_ev.step (pc' := 37) rfl rfl ?_
  refine ax_gf (p' := 40) rfl rfl (SK.ob rfl) w8 ?_
  refine am_ev.step (pc' := 41) rfl rfl ?_
  refine am_ev.step (pc' := 42) rfl rfl ?_
  refine am_ev.step (pc' := 43) rfl rfl ?_
  refine ax_call (z := 165) (p' := 46) (as := [_, _, _]) rfl (Or.inl ⟨_, rfl⟩) rfl rfl rfl rfl rfl rfl rfl rfl H165 rfl ?_
  refine fx_z_eq_T (pT := 58) rfl (by omega) rfl (by omega) ?_
  refine am_ev.step (pc' := 59) rfl rfl ?_
  exact fx_reti rfl rfl rfl
end TXM
