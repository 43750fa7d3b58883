/-! LOOK AT A SET, AT THE ROW; the model's findAll -/
section LKL
variable {d k q c i n : Nat} {h H G G2 G3 : am_H} {A v p m : Int} {S0 : Int32}
theorem lo108_e (S : fS h) (v13 : h.2.2.2 40 13 = iv n) (hn : n ≤ 14) (hc : c = n) (bA : 0 ≤ A ∧ A ≤ 1) : am_ev (d + 1) 108 4 [.ref 40, .int S0, iv (A), iv ((c : Int))] [] h (some (iv A), h) := by
  refine am_ev.step (pc' := 5) rfl rfl ?_
  refine am_ev.step (pc' := 6) rfl rfl ?_
  refine ax_gf (p' := 9) rfl rfl (S.ob rfl) v13 ?_
  refine fx_c_ge_T (pT := 58) rfl (by omega) (by omega) rfl (by omega) ?_
  refine am_ev.step (pc' := 59) rfl rfl ?_
  exact fx_reti rfl (by
    rcases (show A = 0 ∨ A = 1 by omega) with e | e <;> subst e <;> rfl) rfl
theorem lo108_n (S : fS h) (v13 : h.2.2.2 40 13 = iv n) (hn : n ≤ 14) (hc : c < n) (qb : bt S0 c = false) {x : Option Value × am_H} (q9 : am_ev (d + 1) 108 4 [.ref 40, .int S0, iv A, iv ((c + 1 : Nat) : Int)] [] h x) : am_ev (d + 1) 108 4 [.ref 40, .int S0, iv (A), iv ((c : Int))] [] h x := by
  refine am_ev.step (pc' := 5) rfl rfl ?_
  refine am_ev.step (pc' := 6) rfl rfl ?_
  refine ax_gf (p' := 9) rfl rfl (S.ob rfl) v13 ?_
  refine fx_c_ge_F (pF := 12) rfl (by omega) (by omega) rfl (by omega) ?_
  refine am_ev.step (pc' := 13) rfl rfl ?_
  refine am_ev.step (pc' := 14) rfl rfl ?_
  refine ax_call (z := 31) (p' := 17) (as := [_, _]) rfl (Or.inl ⟨_, rfl⟩) rfl rfl rfl rfl rfl rfl rfl rfl ((tk_31 (c := c) (by omega)).2 qb) rfl ?_
  refine fx_z_eq_T (pT := 52) rfl (by omega) rfl (by omega) ?_
  refine fx_inc (p' := 55) (e := ((c : Int) + 1)) (ls' := [.ref 40, .int S0, iv (A), iv ((c : Int) + 1)]) rfl rfl rfl (by omega) rfl ?_
  refine am_ev.step (pc' := 4) rfl rfl ?_
  exact (rr_n ▸ q9)
theorem lo108_0 (S : fS h) (v13 : h.2.2.2 40 13 = iv n) (hn : n ≤ 14) (hc : c < n) (qb : bt S0 c = true) (v74 : h.2.2.2 74 c = .ref k) (Ok : am_isO h k 1 = true) (H104 : am_ev d 104 0 (am_ent [.ref 40, .ref k] (am_in 104).2.2.1) [] h (none, H)) (SH : fS H) {x : Option Value × am_H} (q9 : am_ev (d + 1) 108 4 [.ref 40, .int S0, iv 0, iv ((c + 1 : Nat) : Int)] [] H x) : am_ev (d + 1) 108 4 [.ref 40, .int S0, iv 0, iv ((c : Int))] [] h x := by
  refine am_ev.step (pc' := 5) rfl rfl ?_
  refine am_ev.step (pc' := 6) rfl rfl ?_
  refine ax_gf (p' := 9) rfl rfl (S.ob rfl) v13 ?_
  refine fx_c_ge_F (pF := 12) rfl (by omega) (by omega) rfl (by omega) ?_
  refine am_ev.step (pc' := 13) rfl rfl ?_
  refine am_ev.step (pc' := 14) rfl rfl ?_
  refine ax_call (z := 31) (p' := 17) (as := [_, _]) rfl (Or.inl ⟨_, rfl⟩) rfl rfl rfl rfl rfl rfl rfl rfl ((tk_31 (c := c) (by omega)).1 qb) rfl ?_
  refine fx_z_eq_F (pF := 20) rfl (by omega) rfl (by omega) ?_
  refine am_ev.step (pc' := 21) rfl rfl ?_
  refine am_ev.step (pc' := 22) rfl rfl ?_
  refine ax_gf (p' := 25) rfl rfl (S.ob rfl) (S.rf rfl rfl) ?_
  refine am_ev.step (pc' := 26) rfl rfl ?_
  refine ax_aaload (p' := 27) rfl rfl (S.rd (k := c) rfl rfl rfl rfl rfl (by omega) v74) ?_
  refine ax_call (z := 104) (p' := 30) (as := [_, _]) rfl (Or.inr (Or.inl ⟨_, rfl⟩)) rfl rfl rfl rfl rfl rfl (S.ob rfl) rfl H104 rfl ?_
  refine am_ev.step (pc' := 31) rfl rfl ?_
  refine fx_z_eq_T (pT := 50) rfl (by omega) rfl (by omega) ?_
  refine am_ev.step (pc' := 51) rfl rfl ?_
  refine am_ev.step (pc' := 52) (ls' := [.ref 40, .int S0, iv 0, iv ((c : Int))]) rfl rfl ?_
  refine fx_inc (p' := 55) (e := ((c : Int) + 1)) (ls' := [.ref 40, .int S0, iv 0, iv ((c : Int) + 1)]) rfl rfl rfl (by omega) rfl ?_
  refine am_ev.step (pc' := 4) rfl rfl ?_
  exact (rr_n ▸ q9)
theorem lo108_1 (S : fS h) (v13 : h.2.2.2 40 13 = iv n) (hn : n ≤ 14) (hc : c < n) (qb : bt S0 c = true) (v74 : h.2.2.2 74 c = .ref k) (Ok : am_isO h k 1 = true) (H104 : am_ev d 104 0 (am_ent [.ref 40, .ref k] (am_in 104).2.2.1) [] h (none, H)) (SH : fS H) (OkH : am_isO H k 1 = true) (v74H : H.2.2.2 74 c = .ref k) (x2 : H.2.2.2 k 2 = iv 1) {x : Option Value × am_H} (q9 : am_ev (d + 1) 108 4 [.ref 40, .int S0, iv 1, iv ((c + 1 : Nat) : Int)] [] H x) : am_ev (d + 1) 108 4 [.ref 40, .int S0, iv 1, iv ((c : Int))] [] h x := by
  refine am_ev.step (pc' := 5) rfl rfl ?_
  refine am_ev.step (pc' := 6) rfl rfl ?_
  refine ax_gf (p' := 9) rfl rfl (S.ob rfl) v13 ?_
  refine fx_c_ge_F (pF := 12) rfl (by omega) (by omega) rfl (by omega) ?_
  refine am_ev.step (pc' := 13) rfl rfl ?_
  refine am_ev.step (pc' := 14) rfl rfl ?_
  refine ax_call (z := 31) (p' := 17) (as := [_, _]) rfl (Or.inl ⟨_, rfl⟩) rfl rfl rfl rfl rfl rfl rfl rfl ((tk_31 (c := c) (by omega)).1 qb) rfl ?_
  refine fx_z_eq_F (pF := 20) rfl (by omega) rfl (by omega) ?_
  refine am_ev.step (pc' := 21) rfl rfl ?_
  refine am_ev.step (pc' := 22) rfl rfl ?_
  refine ax_gf (p' := 25) rfl rfl (S.ob rfl) (S.rf rfl rfl) ?_
  refine am_ev.step (pc' := 26) rfl rfl ?_
  refine ax_aaload (p' := 27) rfl rfl (S.rd (k := c) rfl rfl rfl rfl rfl (by omega) v74) ?_
  refine ax_call (z := 104) (p' := 30) (as := [_, _]) rfl (Or.inr (Or.inl ⟨_, rfl⟩)) rfl rfl rfl rfl rfl rfl (S.ob rfl) rfl H104 rfl ?_
  refine am_ev.step (pc' := 31) rfl rfl ?_
  refine fx_z_eq_F (pF := 34) rfl (by omega) rfl (by omega) ?_
  refine am_ev.step (pc' := 35) rfl rfl ?_
  refine ax_gf (p' := 38) rfl rfl (SH.ob rfl) (SH.rf rfl rfl) ?_
  refine am_ev.step (pc' := 39) rfl rfl ?_
  refine ax_aaload (p' := 40) rfl rfl (SH.rd (k := c) rfl rfl rfl rfl rfl (by omega) v74H) ?_
  refine ax_gf (p' := 43) rfl rfl OkH x2 ?_
  refine fx_z_eq_F (pF := 46) rfl (by omega) rfl (by omega) ?_
  refine am_ev.step (pc' := 47) rfl rfl ?_
  refine am_ev.step (pc' := 51) rfl rfl ?_
  refine am_ev.step (pc' := 52) (ls' := [.ref 40, .int S0, iv 1, iv ((c : Int))]) rfl rfl ?_
  refine fx_inc (p' := 55) (e := ((c : Int) + 1)) (ls' := [.ref 40, .int S0, iv 1, iv ((c : Int) + 1)]) rfl rfl rfl (by omega) rfl ?_
  refine am_ev.step (pc' := 4) rfl rfl ?_
  exact (rr_n ▸ q9)
theorem lo108_2 (S : fS h) (v13 : h.2.2.2 40 13 = iv n) (hn : n ≤ 14) (hc : c < n) (qb : bt S0 c = true) (v74 : h.2.2.2 74 c = .ref k) (Ok : am_isO h k 1 = true) (H104 : am_ev d 104 0 (am_ent [.ref 40, .ref k] (am_in 104).2.2.1) [] h (none, H)) (SH : fS H) (OkH : am_isO H k 1 = true) (v74H : H.2.2.2 74 c = .ref k) (x2 : H.2.2.2 k 2 = iv 0) {x : Option Value × am_H} (q9 : am_ev (d + 1) 108 4 [.ref 40, .int S0, iv 0, iv ((c + 1 : Nat) : Int)] [] H x) : am_ev (d + 1) 108 4 [.ref 40, .int S0, iv 1, iv ((c : Int))] [] h x := by
  refine am_ev.step (pc' := 5) rfl rfl ?_
  refine am_ev.step (pc' := 6) rfl rfl ?_
  refine ax_gf (p' := 9) rfl rfl (S.ob rfl) v13 ?_
  refine fx_c_ge_F (pF := 12) rfl (by omega) (by omega) rfl (by omega) ?_
  refine am_ev.step (pc' := 13) rfl rfl ?_
  refine am_ev.step (pc' := 14) rfl rfl ?_
  refine ax_call (z := 31) (p' := 17) (as := [_, _]) rfl (Or.inl ⟨_, rfl⟩) rfl rfl rfl rfl rfl rfl rfl rfl ((tk_31 (c := c) (by omega)).1 qb) rfl ?_
  refine fx_z_eq_F (pF := 20) rfl (by omega) rfl (by omega) ?_
  refine am_ev.step (pc' := 21) rfl rfl ?_
  refine am_ev.step (pc' := 22) rfl rfl ?_
  refine ax_gf (p' := 25) rfl rfl (S.ob rfl) (S.rf rfl rfl) ?_
  refine am_ev.step (pc' := 26) rfl rfl ?_
  refine ax_aaload (p' := 27) rfl rfl (S.rd (k := c) rfl rfl rfl rfl rfl (by omega) v74) ?_
  refine ax_call (z := 104) (p' := 30) (as := [_, _]) rfl (Or.inr (Or.inl ⟨_, rfl⟩)) rfl rfl rfl rfl rfl rfl (S.ob rfl) rfl H104 rfl ?_
  refine am_ev.step (pc' := 31) rfl rfl ?_
  refine fx_z_eq_F (pF := 34) rfl (by omega) rfl (by omega) ?_
  refine am_ev.step (pc' := 35) rfl rfl ?_
  refine ax_gf (p' := 38) rfl rfl (SH.ob rfl) (SH.rf rfl rfl) ?_
  refine am_ev.step (pc' := 39) rfl rfl ?_
  refine ax_aaload (p' := 40) rfl rfl (SH.rd (k := c) rfl rfl rfl rfl rfl (by omega) v74H) ?_
  refine ax_gf (p' := 43) rfl rfl OkH x2 ?_
  refine fx_z_eq_T (pT := 50) rfl (by omega) rfl (by omega) ?_
  refine am_ev.step (pc' := 51) rfl rfl ?_
  refine am_ev.step (pc' := 52) (ls' := [.ref 40, .int S0, iv 0, iv ((c : Int))]) rfl rfl ?_
  refine fx_inc (p' := 55) (e := ((c : Int) + 1)) (ls' := [.ref 40, .int S0, iv 0, iv ((c : Int) + 1)]) rfl rfl rfl (by omega) rfl ?_
  refine am_ev.step (pc' := 4) rfl rfl ?_
  exact (rr_n ▸ q9)
theorem lo108_s {x : Option Value × am_H} (q9 : am_ev (d + 1) 108 4 [.ref 40, .int S0, iv 1, iv 0] [] h x) : am_ev (d + 1) 108 0 (am_ent [.ref 40, .int S0] (am_in 108).2.2.1) [] h x := by
  show am_ev (d + 1) 108 0 [.ref 40, .int S0, am_ph, am_ph] [] h _
  refine am_ev.step (pc' := 1) rfl rfl ?_
  refine am_ev.step (pc' := 2) (ls' := [.ref 40, .int S0, iv 1, am_ph]) rfl rfl ?_
  refine am_ev.step (pc' := 3) rfl rfl ?_
  refine am_ev.step (pc' := 4) (ls' := [.ref 40, .int S0, iv 1, iv 0]) rfl rfl ?_
  exact q9
theorem lo133_e (S : fS h) (v15 : h.2.2.2 40 15 = iv n) (hn : n ≤ 14) (hi : i = n) (bA : 0 ≤ A ∧ A ≤ 1) : am_ev (d + 1) 133 4 [.ref 40, iv (A), iv ((i : Int))] [] h (some (iv A), h) := by
  refine am_ev.step (pc' := 5) rfl rfl ?_
  refine am_ev.step (pc' := 6) rfl rfl ?_
  refine ax_gf (p' := 9) rfl rfl (S.ob rfl) v15 ?_
  refine fx_c_ge_T (pT := 60) rfl (by omega) (by omega) rfl (by omega) ?_
  refine am_ev.step (pc' := 61) rfl rfl ?_
  exact fx_reti rfl (by
    rcases (show A = 0 ∨ A = 1 by omega) with e | e <;> subst e <;> rfl) rfl
theorem lo133_0 (S : fS h) (v15 : h.2.2.2 40 15 = iv n) (hn : n ≤ 14) (hi : i < n) (v75 : h.2.2.2 75 i = iv c) (hc : c < 14) (v74 : h.2.2.2 74 c = .ref k) (Ok : am_isO h k 1 = true) (H104 : am_ev d 104 0 (am_ent [.ref 40, .ref k] (am_in 104).2.2.1) [] h (none, H)) (SH : fS H) {x : Option Value × am_H} (q9 : am_ev (d + 1) 133 4 [.ref 40, iv 0, iv ((i + 1 : Nat) : Int)] [] H x) : am_ev (d + 1) 133 4 [.ref 40, iv 0, iv ((i : Int))] [] h x := by
  refine am_ev.step (pc' := 5) rfl rfl ?_
  refine am_ev.step (pc' := 6) rfl rfl ?_
  refine ax_gf (p' := 9) rfl rfl (S.ob rfl) v15 ?_
  refine fx_c_ge_F (pF := 12) rfl (by omega) (by omega) rfl (by omega) ?_
  refine am_ev.step (pc' := 13) rfl rfl ?_
  refine am_ev.step (pc' := 14) rfl rfl ?_
  refine ax_gf (p' := 17) rfl rfl (S.ob rfl) (S.rf rfl rfl) ?_
  refine am_ev.step (pc' := 18) rfl rfl ?_
  refine ax_gf (p' := 21) rfl rfl (S.ob rfl) (S.rf rfl rfl) ?_
  refine am_ev.step (pc' := 22) rfl rfl ?_
  refine ax_iaload (p' := 23) rfl rfl (S.rd (k := i) rfl rfl rfl rfl rfl (by omega) v75) ?_
  refine ax_aaload (p' := 24) rfl rfl (S.rd (k := c) rfl rfl rfl rfl rfl (by omega) v74) ?_
  refine ax_call (z := 104) (p' := 27) (as := [_, _]) rfl (Or.inr (Or.inl ⟨_, rfl⟩)) rfl rfl rfl rfl rfl rfl (S.ob rfl) rfl H104 rfl ?_
  refine am_ev.step (pc' := 28) rfl rfl ?_
  refine fx_z_eq_T (pT := 52) rfl (by omega) rfl (by omega) ?_
  refine am_ev.step (pc' := 53) rfl rfl ?_
  refine am_ev.step (pc' := 54) (ls' := [.ref 40, iv 0, iv ((i : Int))]) rfl rfl ?_
  refine fx_inc (p' := 57) (e := ((i : Int) + 1)) (ls' := [.ref 40, iv 0, iv ((i : Int) + 1)]) rfl rfl rfl (by omega) rfl ?_
  refine am_ev.step (pc' := 4) rfl rfl ?_
  exact (rr_n ▸ q9)
theorem lo133_1 (S : fS h) (v15 : h.2.2.2 40 15 = iv n) (hn : n ≤ 14) (hi : i < n) (v75 : h.2.2.2 75 i = iv c) (hc : c < 14) (v74 : h.2.2.2 74 c = .ref k) (Ok : am_isO h k 1 = true) (H104 : am_ev d 104 0 (am_ent [.ref 40, .ref k] (am_in 104).2.2.1) [] h (none, H)) (SH : fS H) (v75H : H.2.2.2 75 i = iv c) (OkH : am_isO H k 1 = true) (v74H : H.2.2.2 74 c = .ref k) (x2 : H.2.2.2 k 2 = iv 1) {x : Option Value × am_H} (q9 : am_ev (d + 1) 133 4 [.ref 40, iv 1, iv ((i + 1 : Nat) : Int)] [] H x) : am_ev (d + 1) 133 4 [.ref 40, iv 1, iv ((i : Int))] [] h x := by
  refine am_ev.step (pc' := 5) rfl rfl ?_
  refine am_ev.step (pc' := 6) rfl rfl ?_
  refine ax_gf (p' := 9) rfl rfl (S.ob rfl) v15 ?_
  refine fx_c_ge_F (pF := 12) rfl (by omega) (by omega) rfl (by omega) ?_
  refine am_ev.step (pc' := 13) rfl rfl ?_
  refine am_ev.step (pc' := 14) rfl rfl ?_
  refine ax_gf (p' := 17) rfl rfl (S.ob rfl) (S.rf rfl rfl) ?_
  refine am_ev.step (pc' := 18) rfl rfl ?_
  refine ax_gf (p' := 21) rfl rfl (S.ob rfl) (S.rf rfl rfl) ?_
  refine am_ev.step (pc' := 22) rfl rfl ?_
  refine ax_iaload (p' := 23) rfl rfl (S.rd (k := i) rfl rfl rfl rfl rfl (by omega) v75) ?_
  refine ax_aaload (p' := 24) rfl rfl (S.rd (k := c) rfl rfl rfl rfl rfl (by omega) v74) ?_
  refine ax_call (z := 104) (p' := 27) (as := [_, _]) rfl (Or.inr (Or.inl ⟨_, rfl⟩)) rfl rfl rfl rfl rfl rfl (S.ob rfl) rfl H104 rfl ?_
  refine am_ev.step (pc' := 28) rfl rfl ?_
  refine fx_z_eq_F (pF := 31) rfl (by omega) rfl (by omega) ?_
  refine am_ev.step (pc' := 32) rfl rfl ?_
  refine ax_gf (p' := 35) rfl rfl (SH.ob rfl) (SH.rf rfl rfl) ?_
  refine am_ev.step (pc' := 36) rfl rfl ?_
  refine ax_gf (p' := 39) rfl rfl (SH.ob rfl) (SH.rf rfl rfl) ?_
  refine am_ev.step (pc' := 40) rfl rfl ?_
  refine ax_iaload (p' := 41) rfl rfl (SH.rd (k := i) rfl rfl rfl rfl rfl (by omega) v75H) ?_
  refine ax_aaload (p' := 42) rfl rfl (SH.rd (k := c) rfl rfl rfl rfl rfl (by omega) v74H) ?_
  refine ax_gf (p' := 45) rfl rfl OkH x2 ?_
  refine fx_z_eq_F (pF := 48) rfl (by omega) rfl (by omega) ?_
  refine am_ev.step (pc' := 49) rfl rfl ?_
  refine am_ev.step (pc' := 53) rfl rfl ?_
  refine am_ev.step (pc' := 54) (ls' := [.ref 40, iv 1, iv ((i : Int))]) rfl rfl ?_
  refine fx_inc (p' := 57) (e := ((i : Int) + 1)) (ls' := [.ref 40, iv 1, iv ((i : Int) + 1)]) rfl rfl rfl (by omega) rfl ?_
  refine am_ev.step (pc' := 4) rfl rfl ?_
  exact (rr_n ▸ q9)
theorem lo133_2 (S : fS h) (v15 : h.2.2.2 40 15 = iv n) (hn : n ≤ 14) (hi : i < n) (v75 : h.2.2.2 75 i = iv c) (hc : c < 14) (v74 : h.2.2.2 74 c = .ref k) (Ok : am_isO h k 1 = true) (H104 : am_ev d 104 0 (am_ent [.ref 40, .ref k] (am_in 104).2.2.1) [] h (none, H)) (SH : fS H) (v75H : H.2.2.2 75 i = iv c) (OkH : am_isO H k 1 = true) (v74H : H.2.2.2 74 c = .ref k) (x2 : H.2.2.2 k 2 = iv 0) {x : Option Value × am_H} (q9 : am_ev (d + 1) 133 4 [.ref 40, iv 0, iv ((i + 1 : Nat) : Int)] [] H x) : am_ev (d + 1) 133 4 [.ref 40, iv 1, iv ((i : Int))] [] h x := by
  refine am_ev.step (pc' := 5) rfl rfl ?_
  refine am_ev.step (pc' := 6) rfl rfl ?_
  refine ax_gf (p' := 9) rfl rfl (S.ob rfl) v15 ?_
  refine fx_c_ge_F (pF := 12) rfl (by omega) (by omega) rfl (by omega) ?_
  refine am_ev.step (pc' := 13) rfl rfl ?_
  refine am_ev.step (pc' := 14) rfl rfl ?_
  refine ax_gf (p' := 17) rfl rfl (S.ob rfl) (S.rf rfl rfl) ?_
  refine am_ev.step (pc' := 18) rfl rfl ?_
  refine ax_gf (p' := 21) rfl rfl (S.ob rfl) (S.rf rfl rfl) ?_
  refine am_ev.step (pc' := 22) rfl rfl ?_
  refine ax_iaload (p' := 23) rfl rfl (S.rd (k := i) rfl rfl rfl rfl rfl (by omega) v75) ?_
  refine ax_aaload (p' := 24) rfl rfl (S.rd (k := c) rfl rfl rfl rfl rfl (by omega) v74) ?_
  refine ax_call (z := 104) (p' := 27) (as := [_, _]) rfl (Or.inr (Or.inl ⟨_, rfl⟩)) rfl rfl rfl rfl rfl rfl (S.ob rfl) rfl H104 rfl ?_
  refine am_ev.step (pc' := 28) rfl rfl ?_
  refine fx_z_eq_F (pF := 31) rfl (by omega) rfl (by omega) ?_
  refine am_ev.step (pc' := 32) rfl rfl ?_
  refine ax_gf (p' := 35) rfl rfl (SH.ob rfl) (SH.rf rfl rfl) ?_
  refine am_ev.step (pc' := 36) rfl rfl ?_
  refine ax_gf (p' := 39) rfl rfl (SH.ob rfl) (SH.rf rfl rfl) ?_
  refine am_ev.step (pc' := 40) rfl rfl ?_
  refine ax_iaload (p' := 41) rfl rfl (SH.rd (k := i) rfl rfl rfl rfl rfl (by omega) v75H) ?_
  refine ax_aaload (p' := 42) rfl rfl (SH.rd (k := c) rfl rfl rfl rfl rfl (by omega) v74H) ?_
  refine ax_gf (p' := 45) rfl rfl OkH x2 ?_
  refine fx_z_eq_T (pT := 52) rfl (by omega) rfl (by omega) ?_
  refine am_ev.step (pc' := 53) rfl rfl ?_
  refine am_ev.step (pc' := 54) (ls' := [.ref 40, iv 0, iv ((i : Int))]) rfl rfl ?_
  refine fx_inc (p' := 57) (e := ((i : Int) + 1)) (ls' := [.ref 40, iv 0, iv ((i : Int) + 1)]) rfl rfl rfl (by omega) rfl ?_
  refine am_ev.step (pc' := 4) rfl rfl ?_
  exact (rr_n ▸ q9)
theorem lo133_s {x : Option Value × am_H} (q9 : am_ev (d + 1) 133 4 [.ref 40, iv 1, iv 0] [] h x) : am_ev (d + 1) 133 0 (am_ent [.ref 40] (am_in 133).2.2.1) [] h x := by
  show am_ev (d + 1) 133 0 [.ref 40, am_ph, am_ph] [] h _
  refine am_ev.step (pc' := 1) rfl rfl ?_
  refine am_ev.step (pc' := 2) (ls' := [.ref 40, iv 1, am_ph]) rfl rfl ?_
  refine am_ev.step (pc' := 3) rfl rfl ?_
  refine am_ev.step (pc' := 4) (ls' := [.ref 40, iv 1, iv 0]) rfl rfl ?_
  exact q9
variable {x2 : Value}
theorem lo235_e (S : fS h) (v53 : h.2.2.2 78 53 = iv n) (hn : n ≤ 14) (hc : c = n) : am_ev (d + 8) 235 2 [.ref 78, iv ((c : Int)), x2] [] h (none, h) := by
  refine am_ev.step (pc' := 3) rfl rfl ?_
  refine am_ev.step (pc' := 4) rfl rfl ?_
  refine ax_gf (p' := 7) rfl rfl (S.ob rfl) v53 ?_
  refine fx_c_ge_T (pT := 82) rfl (by omega) (by omega) rfl (by omega) ?_
  exact am_ev.retv rfl rfl
theorem lo235_0 (S : fS h) (v53 : h.2.2.2 78 53 = iv n) (hn : n ≤ 14) (hc : c < n) (v117 : h.2.2.2 117 c = iv q) (H228 : am_ev (d + 7) 228 0 (am_ent [.ref 78, iv q] 3) [] h (some (iv 0), G)) (SG : fS G) {x : Option Value × am_H} (q9 : am_ev (d + 8) 235 2 [.ref 78, iv ((c + 1 : Nat) : Int), iv q] [] (am_put (am_put (am_put G 119 c (iv 0)) 120 c (iv 0)) 121 c (iv 0)) x) : am_ev (d + 8) 235 2 [.ref 78, iv ((c : Int)), x2] [] h x := by
  refine am_ev.step (pc' := 3) rfl rfl ?_
  refine am_ev.step (pc' := 4) rfl rfl ?_
  refine ax_gf (p' := 7) rfl rfl (S.ob rfl) v53 ?_
  refine fx_c_ge_F (pF := 10) rfl (by omega) (by omega) rfl (by omega) ?_
  refine am_ev.step (pc' := 11) rfl rfl ?_
  refine ax_gf (p' := 14) rfl rfl (S.ob rfl) (S.rf rfl rfl) ?_
  refine am_ev.step (pc' := 15) rfl rfl ?_
  refine ax_iaload (p' := 16) rfl rfl (S.rd (k := c) rfl rfl rfl rfl rfl (by omega) v117) ?_
  refine am_ev.step (pc' := 17) (ls' := [.ref 78, iv ((c : Int)), iv ((q : Int))]) rfl rfl ?_
  refine am_ev.step (pc' := 18) rfl rfl ?_
  refine ax_gf (p' := 21) rfl rfl (S.ob rfl) (S.rf rfl rfl) ?_
  refine am_ev.step (pc' := 22) rfl rfl ?_
  refine am_ev.step (pc' := 23) rfl rfl ?_
  refine am_ev.step (pc' := 24) rfl rfl ?_
  refine ax_call (z := 228) (p' := 27) (as := [_, _]) rfl (Or.inr (Or.inl ⟨_, rfl⟩)) rfl rfl rfl rfl rfl rfl (S.ob rfl) rfl H228 rfl ?_
  refine ax_bas2 (p' := 28) rfl rfl (SG.wr (k := c) rfl rfl rfl rfl (by omega)) (SG.sb rfl rfl) (by decide) ?_
  refine am_ev.step (pc' := 29) rfl rfl ?_
  refine ax_gf (p' := 32) rfl rfl (fO (SG.ob rfl)) (ax_put_o (Or.inl (by decide)) (SG.rf rfl rfl)) ?_
  refine am_ev.step (pc' := 33) rfl rfl ?_
  refine am_ev.step (pc' := 34) rfl rfl ?_
  refine ax_gf (p' := 37) rfl rfl (fO (SG.ob rfl)) (ax_put_o (Or.inl (by decide)) (SG.rf rfl rfl)) ?_
  refine am_ev.step (pc' := 38) rfl rfl ?_
  refine ax_baload (p' := 39) rfl rfl ((SG.pa rfl).rd (k := c) rfl rfl rfl rfl rfl (by omega) (ax_put_s _ _ _)) ?_
  refine fx_z_eq_T (pT := 50) rfl (by omega) rfl (by omega) ?_
  refine am_ev.step (pc' := 51) rfl rfl ?_
  refine ax_iastore (p' := 52) rfl rfl ((SG.pa rfl).wr (k := c) rfl rfl rfl rfl (by omega)) ?_
  refine am_ev.step (pc' := 53) rfl rfl ?_
  refine ax_gf (p' := 56) rfl rfl (fO (fO (SG.ob rfl))) (ax_put_o (Or.inl (by decide)) (ax_put_o (Or.inl (by decide)) (SG.rf rfl rfl))) ?_
  refine am_ev.step (pc' := 57) rfl rfl ?_
  refine am_ev.step (pc' := 58) rfl rfl ?_
  refine ax_gf (p' := 61) rfl rfl (fO (fO (SG.ob rfl))) (ax_put_o (Or.inl (by decide)) (ax_put_o (Or.inl (by decide)) (SG.rf rfl rfl))) ?_
  refine am_ev.step (pc' := 62) rfl rfl ?_
  refine ax_baload (p' := 63) rfl rfl (((SG.pa rfl).pa rfl).rd (k := c) rfl rfl rfl rfl rfl (by omega) (ax_put_o (Or.inl (by decide)) (ax_put_s _ _ _))) ?_
  refine fx_z_eq_T (pT := 74) rfl (by omega) rfl (by omega) ?_
  refine am_ev.step (pc' := 75) rfl rfl ?_
  refine ax_iastore (p' := 76) rfl rfl (((SG.pa rfl).pa rfl).wr (k := c) rfl rfl rfl rfl (by omega)) ?_
  refine fx_inc (p' := 79) (e := ((c : Int) + 1)) (ls' := [.ref 78, iv ((c : Int) + 1), iv ((q : Int))]) rfl rfl rfl (by omega) rfl ?_
  refine am_ev.step (pc' := 2) rfl rfl ?_
  exact (rr_n ▸ q9)
theorem lo235_1 (S : fS h) (v53 : h.2.2.2 78 53 = iv n) (hn : n ≤ 14) (hc : c < n) (v117 : h.2.2.2 117 c = iv q) (H228 : am_ev (d + 7) 228 0 (am_ent [.ref 78, iv q] 3) [] h (some (iv 1), G)) (SG : fS G) (H229 : am_ev (d + 7) 229 0 (am_ent [.ref 78, iv q] 3) [] (am_put G 119 c (iv 1)) (some (iv p), G2)) (SG2 : fS G2) (g2 : G2.2.2.2 119 c = iv 1) (H232 : am_ev (d + 7) 232 0 (am_ent [.ref 78, iv q] 3) [] (am_put G2 120 c (iv (p))) (some (iv m), G3)) (SG3 : fS G3) {x : Option Value × am_H} (q9 : am_ev (d + 8) 235 2 [.ref 78, iv ((c + 1 : Nat) : Int), iv q] [] (am_put G3 121 c (iv (m))) x) : am_ev (d + 8) 235 2 [.ref 78, iv ((c : Int)), x2] [] h x := by
  refine am_ev.step (pc' := 3) rfl rfl ?_
  refine am_ev.step (pc' := 4) rfl rfl ?_
  refine ax_gf (p' := 7) rfl rfl (S.ob rfl) v53 ?_
  refine fx_c_ge_F (pF := 10) rfl (by omega) (by omega) rfl (by omega) ?_
  refine am_ev.step (pc' := 11) rfl rfl ?_
  refine ax_gf (p' := 14) rfl rfl (S.ob rfl) (S.rf rfl rfl) ?_
  refine am_ev.step (pc' := 15) rfl rfl ?_
  refine ax_iaload (p' := 16) rfl rfl (S.rd (k := c) rfl rfl rfl rfl rfl (by omega) v117) ?_
  refine am_ev.step (pc' := 17) (ls' := [.ref 78, iv ((c : Int)), iv ((q : Int))]) rfl rfl ?_
  refine am_ev.step (pc' := 18) rfl rfl ?_
  refine ax_gf (p' := 21) rfl rfl (S.ob rfl) (S.rf rfl rfl) ?_
  refine am_ev.step (pc' := 22) rfl rfl ?_
  refine am_ev.step (pc' := 23) rfl rfl ?_
  refine am_ev.step (pc' := 24) rfl rfl ?_
  refine ax_call (z := 228) (p' := 27) (as := [_, _]) rfl (Or.inr (Or.inl ⟨_, rfl⟩)) rfl rfl rfl rfl rfl rfl (S.ob rfl) rfl H228 rfl ?_
  refine ax_bas2 (p' := 28) rfl rfl (SG.wr (k := c) rfl rfl rfl rfl (by omega)) (SG.sb rfl rfl) (by decide) ?_
  refine am_ev.step (pc' := 29) rfl rfl ?_
  refine ax_gf (p' := 32) rfl rfl (fO (SG.ob rfl)) (ax_put_o (Or.inl (by decide)) (SG.rf rfl rfl)) ?_
  refine am_ev.step (pc' := 33) rfl rfl ?_
  refine am_ev.step (pc' := 34) rfl rfl ?_
  refine ax_gf (p' := 37) rfl rfl (fO (SG.ob rfl)) (ax_put_o (Or.inl (by decide)) (SG.rf rfl rfl)) ?_
  refine am_ev.step (pc' := 38) rfl rfl ?_
  refine ax_baload (p' := 39) rfl rfl ((SG.pa rfl).rd (k := c) rfl rfl rfl rfl rfl (by omega) (ax_put_s _ _ _)) ?_
  refine fx_z_eq_F (pF := 42) rfl (by omega) rfl (by omega) ?_
  refine am_ev.step (pc' := 43) rfl rfl ?_
  refine am_ev.step (pc' := 44) rfl rfl ?_
  refine ax_call (z := 229) (p' := 47) (as := [_, _]) rfl (Or.inr (Or.inl ⟨_, rfl⟩)) rfl rfl rfl rfl rfl rfl (fO (SG.ob rfl)) rfl H229 rfl ?_
  refine am_ev.step (pc' := 51) rfl rfl ?_
  refine ax_iastore (p' := 52) rfl rfl (SG2.wr (k := c) rfl rfl rfl rfl (by omega)) ?_
  refine am_ev.step (pc' := 53) rfl rfl ?_
  refine ax_gf (p' := 56) rfl rfl (fO (SG2.ob rfl)) (ax_put_o (Or.inl (by decide)) (SG2.rf rfl rfl)) ?_
  refine am_ev.step (pc' := 57) rfl rfl ?_
  refine am_ev.step (pc' := 58) rfl rfl ?_
  refine ax_gf (p' := 61) rfl rfl (fO (SG2.ob rfl)) (ax_put_o (Or.inl (by decide)) (SG2.rf rfl rfl)) ?_
  refine am_ev.step (pc' := 62) rfl rfl ?_
  refine ax_baload (p' := 63) rfl rfl ((SG2.pa rfl).rd (k := c) rfl rfl rfl rfl rfl (by omega) (ax_put_o (Or.inl (by decide)) g2)) ?_
  refine fx_z_eq_F (pF := 66) rfl (by omega) rfl (by omega) ?_
  refine am_ev.step (pc' := 67) rfl rfl ?_
  refine am_ev.step (pc' := 68) rfl rfl ?_
  refine ax_call (z := 232) (p' := 71) (as := [_, _]) rfl (Or.inr (Or.inl ⟨_, rfl⟩)) rfl rfl rfl rfl rfl rfl (fO (SG2.ob rfl)) rfl H232 rfl ?_
  refine am_ev.step (pc' := 75) rfl rfl ?_
  refine ax_iastore (p' := 76) rfl rfl (SG3.wr (k := c) rfl rfl rfl rfl (by omega)) ?_
  refine fx_inc (p' := 79) (e := ((c : Int) + 1)) (ls' := [.ref 78, iv ((c : Int) + 1), iv ((q : Int))]) rfl rfl rfl (by omega) rfl ?_
  refine am_ev.step (pc' := 2) rfl rfl ?_
  exact (rr_n ▸ q9)
theorem lo235_s {x : Option Value × am_H} (q9 : am_ev (d + 8) 235 2 [.ref 78, iv 0, am_ph] [] h x) : am_ev (d + 8) 235 0 (am_ent [.ref 78] (am_in 235).2.2.1) [] h x := by
  show am_ev (d + 8) 235 0 [.ref 78, am_ph, am_ph] [] h _
  refine am_ev.step (pc' := 1) rfl rfl ?_
  refine am_ev.step (pc' := 2) (ls' := [.ref 78, iv 0, am_ph]) rfl rfl ?_
  exact q9
end LKL
section LKT
variable {h g : am_H} {d : Nat} {S0 : Int32}
/-- what holds while candidates are looked at -/
def lkI (h g : am_H) (b : Nat → Prop) : Prop := cq_Inv none g ∧ lkC g ∧ lkE h g ∧ ∀ c n : Nat, h.2.2.2 40 13 = iv n → n ≤ 14 → c < n → b c → lkF h g (kc h c) (qc h c)
theorem lkI_step (I : cq_Inv none h) (L : lkC h) {b : Nat → Prop} (X : lkI h g b) {c n : Nat} (hn : h.2.2.2 40 13 = iv n) (hn14 : n ≤ 14) (hc : c < n) : ∃ g', am_ev (d + 4) 104 0 (am_ent [.ref 40, .ref (kc h c)] (am_in 104).2.2.1) [] g (none, g') ∧ lkI h g' (fun j => b j ∨ j = c) ∧ g.2.2.2 74 c = .ref (kc h c) ∧ am_isO g (kc h c) 1 = true ∧ am_isO g' (kc h c) 1 = true ∧ g'.2.2.2 74 c = .ref (kc h c) ∧ g'.2.2.2 (kc h c) 2 = iv (b2 (mvAl h (qc h c))) ∧ cq_Fr ct_104.2.2.2.1 g g' := by
  obtain ⟨Ig, Lg, E, Y⟩ := X
  obtain ⟨n0, pm, b0, a1, a2, m1, K, D⟩ := lk_c I L
  have en : n0 = n := by
    rw [hn] at a1
    have z := congrArg (fun v => (gI v).toInt) a1
    have z : (Int32.ofInt (n : Int)).toInt = (Int32.ofInt (n0 : Int)).toInt := z
    rw [fx_ti (by omega), fx_ti (by omega)] at z
    omega
  subst en
  obtain ⟨k1, k2, k3, k4, k5, k6, k7⟩ := K c hc
  obtain ⟨n1, pm1, b1, c1, c2, d1, K1, D1⟩ := lk_c Ig Lg
  have epm : g.2.2.2 40 8 = .int pm := E.2.2.2.2.2.2.2.2.2.trans m1
  have ec : n1 = n0 := by
    rw [E.2.2.2.2.2.2.2.2.1, a1] at c1
    have z := congrArg (fun v => (gI v).toInt) c1
    have z : (Int32.ofInt (n0 : Int)).toInt = (Int32.ofInt (n1 : Int)).toInt := z
    rw [fx_ti (by omega), fx_ti (by omega)] at z
    omega
  subst ec
  obtain ⟨l1, l2, l3, l4, l5, l6, l7⟩ := K1 c hc
  rw [kc_eq E] at l1 l2 l3 l6
  rw [qc_eq E] at l3 l6
  obtain ⟨g', r1, r2, r3, I2, F2, L2, E2⟩ := lk_step (d := d) Ig Lg epm k5 l2 l3 l6
  have E3 := E.tr E2
  have F3 := lkF_eq I L.1 m1 k5 E r2
  refine ⟨g', r1, ⟨I2, L2, E3, fun j nn hnn hnn14 hj hb => ?_⟩, l1, ax_kO l2, ?_, (E2.2.2.2.2.2.2.2.1 c).trans l1, F3.1, F2⟩
  · have enn : nn = n1 := by
      rw [hn] at hnn
      have z := congrArg (fun v => (gI v).toInt) hnn
      have z : (Int32.ofInt (n1 : Int)).toInt = (Int32.ofInt (nn : Int)).toInt := z
      rw [fx_ti (by omega), fx_ti (by omega)] at z
      omega
    subst enn
    by_cases ej : j = c
    · rw [ej]
      exact F3
    · have hb : b j := hb.resolve_right ej
      have ne : kc h j ≠ kc h c := D j c hj hc ej
      obtain ⟨m2, m3, m4⟩ := (K1 j hj).2.1
      rw [kc_eq E] at m2 m3 m4
      have f := r3 (kc h j) m2 m3 m4 ne
      obtain ⟨x1, x2, x3, x4, x5, x6⟩ := Y j nn hnn hnn14 hj hb
      exact ⟨(f 2).trans x1, fun z => ⟨(f 3).trans (x2 z).1, (f 4).trans (x2 z).2⟩, fun z => (f 4).trans (x3 z), (f 5).trans x4, (f 6).trans x5, (f 7).trans x6⟩
  · unfold am_isO
    rw [E2.2.1 (kc h c) l2.2.1, l2.2.2, E2.1, show Nat.blt (kc h c) g.1 = true from Nat.ble_eq_true_of_le l2.2.1]
    rfl
theorem b2_b (t : Bool) : b2 t = 0 ∧ t = false ∨ b2 t = 1 ∧ t = true := by cases t <;> decide
theorem lk_108 (I : cq_Inv none h) (L : lkC h) {n : Nat} (hn : h.2.2.2 40 13 = iv n) (hn14 : n ≤ 14) : ∃ g, am_ev (d + 5) 108 0 (am_ent [.ref 40, .int S0] (am_in 108).2.2.1) [] h (some (iv (b2 (aL (fun c => !bt S0 c || mvAl h (qc h c)) 0 n))), g) ∧ lkI h g (fun c => bt S0 c = true) := by
  have go : ∀ (m c : Nat) (A : Bool) (g : am_H), c + m = n → lkI h g (fun j => j < c ∧ bt S0 j = true) → ∃ g', am_ev (d + 5) 108 4 [.ref 40, .int S0, iv (b2 A), iv (c : Int)] [] g (some (iv (b2 (A && aL (fun c => !bt S0 c || mvAl h (qc h c)) c m))), g') ∧ lkI h g' (fun j => j < n ∧ bt S0 j = true) := fun m => by
    induction m with
    | zero =>
      intro c A g hc X
      have ec : c = n := hc
      rw [ec] at X ⊢
      refine ⟨g, ?_, X⟩
      rw [show (A && aL (fun c => !bt S0 c || mvAl h (qc h c)) n 0) = A by show (A && true) = A; simp]
      have v13 := X.2.2.1.2.2.2.2.2.2.2.2.1.trans hn
      have bA := b2_01 A
      exact lo108_e (fS.of X.1) v13 hn14 rfl bA
    | succ m ih =>
      intro c A g hc X
      have v13 := X.2.2.1.2.2.2.2.2.2.2.2.1.trans hn
      have S := fS.of X.1
      show ∃ g', am_ev (d + 5) 108 4 [.ref 40, .int S0, iv (b2 A), iv (c : Int)] [] g (some (iv (b2 (A && ((!bt S0 c || mvAl h (qc h c)) && aL (fun c => !bt S0 c || mvAl h (qc h c)) (c + 1) m)))), g') ∧ _
      cases w : bt S0 c with
      | false =>
        have X2 : lkI h g (fun j => j < c + 1 ∧ bt S0 j = true) := ⟨X.1, X.2.1, X.2.2.1, fun j nn a b e f => X.2.2.2 j nn a b e ⟨by
          by_cases ej : j = c
          · rw [ej, w] at f
            exact absurd f.2 (by decide)
          · omega, f.2⟩⟩
        obtain ⟨g', r1, r2⟩ := ih (c + 1) A g (by omega) X2
        exact ⟨g', lo108_n S v13 hn14 (by omega) w r1, r2⟩
      | true =>
        obtain ⟨g1, r1, X1, e1, e2, e3, e4, e5, -⟩ := lkI_step (d := d) I L X hn hn14 (show c < n by omega)
        have S1 := fS.of X1.1
        have X2 : lkI h g1 (fun j => j < c + 1 ∧ bt S0 j = true) := ⟨X1.1, X1.2.1, X1.2.2.1, fun j nn a b e f => X1.2.2.2 j nn a b e (by
          by_cases ej : j = c
          · exact Or.inr ej
          · exact Or.inl ⟨by omega, f.2⟩)⟩
        cases A with
        | false =>
          obtain ⟨g', r2, r3⟩ := ih (c + 1) false g1 (by omega) X2
          exact ⟨g', lo108_0 S v13 hn14 (by omega) w e1 e2 r1 S1 r2, r3⟩
        | true =>
          cases z : mvAl h (qc h c) with
          | true =>
            rw [z] at e5
            obtain ⟨g', r2, r3⟩ := ih (c + 1) true g1 (by omega) X2
            exact ⟨g', lo108_1 S v13 hn14 (by omega) w e1 e2 r1 S1 e3 e4 e5 r2, r3⟩
          | false =>
            rw [z] at e5
            obtain ⟨g', r2, r3⟩ := ih (c + 1) false g1 (by omega) X2
            exact ⟨g', lo108_2 S v13 hn14 (by omega) w e1 e2 r1 S1 e3 e4 e5 r2, r3⟩
  obtain ⟨g', r1, r2⟩ := go n 0 true h (by omega) ⟨I, L, lkE.rf, fun j nn a b e f => absurd f.1 (Nat.not_lt_zero j)⟩
  rw [Bool.true_and] at r1
  refine ⟨g', lo108_s r1, r2.1, r2.2.1, r2.2.2.1, fun j nn a b e f => r2.2.2.2 j nn a b e ⟨?_, f⟩⟩
  rw [hn] at a
  have z := congrArg (fun v => (gI v).toInt) a
  have z : (Int32.ofInt (n : Int)).toInt = (Int32.ofInt (nn : Int)).toInt := z
  rw [fx_ti (by omega), fx_ti (by omega)] at z
  omega
/-- the row's candidates -/
def rc (h : am_H) (i : Nat) : Nat := (gI (h.2.2.2 75 i)).toInt.toNat
theorem lk_133 (I : cq_Inv none h) (L : lkC h) {n nr : Nat} (hn : h.2.2.2 40 13 = iv n) (hn14 : n ≤ 14) (hr : h.2.2.2 40 15 = iv nr) (hr14 : nr ≤ 14) (hrow : ∀ i, i < nr → h.2.2.2 75 i = iv (rc h i) ∧ rc h i < n) : ∃ g, am_ev (d + 5) 133 0 (am_ent [.ref 40] (am_in 133).2.2.1) [] h (some (iv (b2 (aL (fun i => mvAl h (qc h (rc h i))) 0 nr))), g) ∧ lkI h g (fun c => ∃ i, i < nr ∧ rc h i = c) := by
  have go : ∀ (m i : Nat) (A : Bool) (g : am_H), i + m = nr → (∀ j, g.2.2.2 75 j = h.2.2.2 75 j) → g.2.2.2 40 15 = iv nr → lkI h g (fun c => ∃ j, j < i ∧ rc h j = c) → ∃ g', am_ev (d + 5) 133 4 [.ref 40, iv (b2 A), iv (i : Int)] [] g (some (iv (b2 (A && aL (fun i => mvAl h (qc h (rc h i))) i m))), g') ∧ lkI h g' (fun c => ∃ j, j < nr ∧ rc h j = c) := fun m => by
    induction m with
    | zero =>
      intro i A g hi f75 f15 X
      have ei : i = nr := hi
      rw [ei] at X ⊢
      refine ⟨g, ?_, X⟩
      rw [show (A && aL (fun i => mvAl h (qc h (rc h i))) nr 0) = A by show (A && true) = A; simp]
      exact lo133_e (fS.of X.1) f15 hr14 rfl (b2_01 A)
    | succ m ih =>
      intro i A g hi f75 f15 X
      have S := fS.of X.1
      obtain ⟨y1, y2⟩ := hrow i (by omega)
      show ∃ g', am_ev (d + 5) 133 4 [.ref 40, iv (b2 A), iv (i : Int)] [] g (some (iv (b2 (A && (mvAl h (qc h (rc h i)) && aL (fun i => mvAl h (qc h (rc h i))) (i + 1) m)))), g') ∧ _
      obtain ⟨g1, r1, X1, e1, e2, e3, e4, e5, F1⟩ := lkI_step (d := d) I L X hn hn14 y2
      have S1 := fS.of X1.1
      have v75 := (f75 i).trans y1
      have f75' : ∀ j, g1.2.2.2 75 j = h.2.2.2 75 j := fun j => (lw_frA F1 X.1.lo (by decide) (by decide +kernel) j).trans (f75 j)
      have f15' : g1.2.2.2 40 15 = iv nr := (lw_frF F1 X.1.lo (by decide) (by decide +kernel)).trans f15
      have X2 : lkI h g1 (fun c => ∃ j, j < i + 1 ∧ rc h j = c) := ⟨X1.1, X1.2.1, X1.2.2.1, fun j nn a b e f => X1.2.2.2 j nn a b e (by
        obtain ⟨j', u1, u2⟩ := f
        by_cases ej : j' = i
        · rw [ej] at u2
          exact Or.inr u2.symm
        · exact Or.inl ⟨j', by omega, u2⟩)⟩
      cases A with
      | false =>
        obtain ⟨g', r2, r3⟩ := ih (i + 1) false g1 (by omega) f75' f15' X2
        exact ⟨g', lo133_0 S f15 hr14 (by omega) v75 (by omega) e1 e2 r1 S1 r2, r3⟩
      | true =>
        cases z : mvAl h (qc h (rc h i)) with
        | true =>
          rw [z] at e5
          obtain ⟨g', r2, r3⟩ := ih (i + 1) true g1 (by omega) f75' f15' X2
          exact ⟨g', lo133_1 S f15 hr14 (by omega) v75 (by omega) e1 e2 r1 S1 ((f75' i).trans y1) e3 e4 e5 r2, r3⟩
        | false =>
          rw [z] at e5
          obtain ⟨g', r2, r3⟩ := ih (i + 1) false g1 (by omega) f75' f15' X2
          exact ⟨g', lo133_2 S f15 hr14 (by omega) v75 (by omega) e1 e2 r1 S1 ((f75' i).trans y1) e3 e4 e5 r2, r3⟩
  obtain ⟨g', r1, r2⟩ := go nr 0 true h (by omega) (fun _ => rfl) hr ⟨I, L, lkE.rf, fun j nn a b e f => by
    obtain ⟨j', u, -⟩ := f
    exact absurd u (Nat.not_lt_zero j')⟩
  rw [Bool.true_and] at r1
  exact ⟨g', lo133_s r1, r2⟩
theorem ni_put {c j : Nat} {v : Value} (hx : ni_X c = true) : ni_R g (am_put g c j v) := ⟨rfl, fun _ _ => rfl, fun k _ n _ _ => (ax_put_o (Or.inl (fun e => by rw [e, hx] at n; cases n)) rfl).symm⟩
theorem gS.pu (k : gS h g) {c j : Nat} {v : Value} (hx : ni_X c = true) (S : fS (am_put g c j v)) : gS h (am_put g c j v) := ⟨S, ni_tr k.2 (ni_put hx)⟩
theorem lk_235 (I : cq_Inv none h) (L : lkC h) {n : Nat} (hn : h.2.2.2 78 53 = iv n) (hn14 : n ≤ 14) (k : gS h g) : ∃ G, am_ev (d + 8) 235 0 (am_ent [.ref 78] (am_in 235).2.2.1) [] g (none, G) ∧ gS h G ∧ (∀ c, c < n → G.2.2.2 119 c = iv (b2 (mvAl h (qc h c))) ∧ G.2.2.2 120 c = iv (if mvAl h (qc h c) = true then mvN h (qc h c) else 0) ∧ G.2.2.2 121 c = iv (mvFf h (qc h c))) ∧ ∀ a j, a ≠ 98 → a ≠ 99 → a ≠ 119 → a ≠ 120 → a ≠ 121 → G.2.2.2 a j = g.2.2.2 a j := by
  obtain ⟨n0, pm, b0, a1, a2, m1, K, D⟩ := lk_c I L
  have en : n0 = n := by
    rw [hn] at a2
    have z := congrArg (fun v => (gI v).toInt) a2
    have z : (Int32.ofInt (n : Int)).toInt = (Int32.ofInt (n0 : Int)).toInt := z
    rw [fx_ti (by omega), fx_ti (by omega)] at z
    omega
  subst en
  have go : ∀ (m c : Nat) (x2 : Value) (g : am_H), c + m = n0 → gS h g → (∀ j, j < c → g.2.2.2 119 j = iv (b2 (mvAl h (qc h j))) ∧ g.2.2.2 120 j = iv (if mvAl h (qc h j) = true then mvN h (qc h j) else 0) ∧ g.2.2.2 121 j = iv (mvFf h (qc h j))) → ∃ G, am_ev (d + 8) 235 2 [.ref 78, iv (c : Int), x2] [] g (none, G) ∧ gS h G ∧ (∀ c, c < n0 → G.2.2.2 119 c = iv (b2 (mvAl h (qc h c))) ∧ G.2.2.2 120 c = iv (if mvAl h (qc h c) = true then mvN h (qc h c) else 0) ∧ G.2.2.2 121 c = iv (mvFf h (qc h c))) ∧ ∀ a j, a ≠ 98 → a ≠ 99 → a ≠ 119 → a ≠ 120 → a ≠ 121 → G.2.2.2 a j = g.2.2.2 a j := fun m => by
    induction m with
    | zero =>
      intro c x2 g hc k X
      have ec : c = n0 := hc
      have v53 := (k.v I (c := 78) (j := 53) (by decide) rfl (Or.inr (by decide))).trans hn
      rw [ec] at X ⊢
      exact ⟨g, lo235_e k.1 v53 hn14 rfl, k, X, fun _ _ _ _ _ _ _ => rfl⟩
    | succ m ih =>
      intro c x2 g hc k X
      have v53 := (k.v I (c := 78) (j := 53) (by decide) rfl (Or.inr (by decide))).trans hn
      obtain ⟨-, -, -, k4, k5, -, k7⟩ := K c (by omega)
      have v117 := (k.v I (c := 117) (j := c) (by decide) rfl (Or.inl (by decide))).trans k4
      obtain ⟨G, H228, y⟩ := lk_228 (d := d) I L.1 m1 k5 k
      have kG := k.y y
      have c14 : c < 14 := by omega
      cases z : mvAl h (qc h c) with
      | false =>
        rw [z] at H228
        have k1 := kG.pu (c := 119) (j := c) (v := iv 0) rfl (kG.1.pa rfl)
        have k2 := k1.pu (c := 120) (j := c) (v := iv 0) rfl (k1.1.pa rfl)
        have k3 := k2.pu (c := 121) (j := c) (v := iv 0) rfl (k2.1.pa rfl)
        obtain ⟨G', r1, r2, r3, r4⟩ := ih (c + 1) (iv (qc h c : Int)) _ (by omega) k3 (fun j hj => by
          by_cases ej : j = c
          · subst ej
            have f0 : mvFf h (qc h j) = 0 := if_neg (by rw [z]; decide)
            rw [z, f0]
            exact ⟨ax_put_o (Or.inl (by decide)) (ax_put_o (Or.inl (by decide)) (ax_put_s _ _ _)), ax_put_o (Or.inl (by decide)) (ax_put_s _ _ _), ax_put_s _ _ _⟩
          · obtain ⟨u1, u2, u3⟩ := X j (by omega)
            exact ⟨ax_put_o (Or.inl (by decide)) (ax_put_o (Or.inl (by decide)) (ax_put_o (Or.inr ej) ((y.2.2.2 119 j (by decide) (by decide)).trans u1))), ax_put_o (Or.inl (by decide)) (ax_put_o (Or.inr ej) (ax_put_o (Or.inl (by decide)) ((y.2.2.2 120 j (by decide) (by decide)).trans u2))), ax_put_o (Or.inr ej) (ax_put_o (Or.inl (by decide)) (ax_put_o (Or.inl (by decide)) ((y.2.2.2 121 j (by decide) (by decide)).trans u3)))⟩)
        exact ⟨G', lo235_0 k.1 v53 hn14 (by omega) v117 H228 kG.1 r1, r2, r3, fun a j n1 n2 n3 n4 n5 => (r4 a j n1 n2 n3 n4 n5).trans (ax_put_o (Or.inl n5) (ax_put_o (Or.inl n4) (ax_put_o (Or.inl n3) (y.2.2.2 a j n1 n2))))⟩
      | true =>
        rw [z] at H228
        have k1 := kG.pu (c := 119) (j := c) (v := iv 1) rfl (kG.1.pa rfl)
        obtain ⟨G2, H229, y2⟩ := lk_229 (d := d + 1) I L.1 m1 k5 k1
        have kG2 := k1.y y2
        have k2 := kG2.pu (c := 120) (j := c) (v := iv (mvN h (qc h c))) rfl (kG2.1.pa rfl)
        obtain ⟨G3, H232, y3, -⟩ := lk_232 (d := d) I L.1 m1 k5 k2 z
        have kG3 := k2.y y3
        have k3 := kG3.pu (c := 121) (j := c) (v := iv (mvFe h (qc h c))) rfl (kG3.1.pa rfl)
        have g2 : G2.2.2.2 119 c = iv 1 := (y2.2.2.2 119 c (by decide) (by decide)).trans (ax_put_s _ _ _)
        obtain ⟨G', r1, r2, r3, r4⟩ := ih (c + 1) (iv (qc h c : Int)) _ (by omega) k3 (fun j hj => by
          have t1 : ∀ a, a ≠ 98 → a ≠ 99 → a ≠ 120 → a ≠ 121 → a ≠ 119 ∨ j ≠ c → (am_put G3 121 c (iv (mvFe h (qc h c)))).2.2.2 a j = g.2.2.2 a j := fun a n1 n2 n4 n5 n3 => ax_put_o (Or.inl n5) ((y3.2.2.2 a j n1 n2).trans (ax_put_o (Or.inl n4) ((y2.2.2.2 a j n1 n2).trans (ax_put_o n3 (y.2.2.2 a j n1 n2)))))
          by_cases ej : j = c
          · subst ej
            have f1 : mvFf h (qc h j) = mvFe h (qc h j) := if_pos z
            rw [z, f1]
            exact ⟨ax_put_o (Or.inl (by decide)) ((y3.2.2.2 119 j (by decide) (by decide)).trans (ax_put_o (Or.inl (by decide)) g2)), ax_put_o (Or.inl (by decide)) ((y3.2.2.2 120 j (by decide) (by decide)).trans (ax_put_s _ _ _)), ax_put_s _ _ _⟩
          · obtain ⟨u1, u2, u3⟩ := X j (by omega)
            exact ⟨(t1 119 (by decide) (by decide) (by decide) (by decide) (Or.inr ej)).trans u1, ax_put_o (Or.inl (by decide)) ((y3.2.2.2 120 j (by decide) (by decide)).trans (ax_put_o (Or.inr ej) ((y2.2.2.2 120 j (by decide) (by decide)).trans (ax_put_o (Or.inl (by decide)) ((y.2.2.2 120 j (by decide) (by decide)).trans u2))))), ax_put_o (Or.inr ej) ((y3.2.2.2 121 j (by decide) (by decide)).trans (ax_put_o (Or.inl (by decide)) ((y2.2.2.2 121 j (by decide) (by decide)).trans (ax_put_o (Or.inl (by decide)) ((y.2.2.2 121 j (by decide) (by decide)).trans u3)))))⟩)
        exact ⟨G', lo235_1 k.1 v53 hn14 (by omega) v117 H228 kG.1 H229 kG2.1 g2 H232 kG3.1 r1, r2, r3, fun a j n1 n2 n3 n4 n5 => (r4 a j n1 n2 n3 n4 n5).trans (ax_put_o (Or.inl n5) ((y3.2.2.2 a j n1 n2).trans (ax_put_o (Or.inl n4) ((y2.2.2.2 a j n1 n2).trans (ax_put_o (Or.inl n3) (y.2.2.2 a j n1 n2))))))⟩
  obtain ⟨G, r1, r2, r3, r4⟩ := go n0 0 am_ph g (by omega) k (fun j hj => absurd hj (Nat.not_lt_zero j))
  exact ⟨G, lo235_s r1, r2, r3, r4⟩
end LKT
