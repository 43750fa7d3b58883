/-! PRINTED, methods -/
section PRM
variable {d n j nr r q : Nat} {h g G : am_H} {y v p s f u : Int}
def prS (p u : Int) : Int32 := (Int32.ofInt (p + u - 1)) / (Int32.ofInt u)
theorem pr_135a (S : fS h) (v15 : h.2.2.2 40 15 = iv nr) (hnr : nr ≤ 14) (by_ : -2147483648 ≤ y ∧ y ≤ 2147483647) (hy : y = 0) : am_ev (d + 6) 135 0 (am_ent [.ref 40, iv y] 5) [] h (some (iv nr), h) := by
  show am_ev (d + 6) 135 0 [.ref 40, iv (y), am_ph, am_ph, am_ph] [] h _
  refine am_ev.step (pc' := 1) rfl rfl ?_
  refine fx_z_ne_F (pF := 4) rfl (by omega) rfl (by omega) ?_
  refine am_ev.step (pc' := 5) rfl rfl ?_
  refine ax_gf (p' := 8) rfl rfl (S.ob rfl) v15 ?_
  exact fx_reti rfl rfl rfl
theorem pr_135b (S : fS h) (v15 : h.2.2.2 40 15 = iv nr) (hnr : nr ≤ 14) (by_ : -2147483648 ≤ y ∧ y ≤ 2147483647) (hy : y < 0) : am_ev (d + 6) 135 0 (am_ent [.ref 40, iv y] 5) [] h (some (iv (-1)), h) := by
  show am_ev (d + 6) 135 0 [.ref 40, iv (y), am_ph, am_ph, am_ph] [] h _
  refine am_ev.step (pc' := 1) rfl rfl ?_
  refine fx_z_ne_T (pT := 9) rfl (by omega) rfl (by omega) ?_
  refine am_ev.step (pc' := 10) rfl rfl ?_
  refine fx_z_lt_T (pT := 25) rfl (by omega) rfl (by omega) ?_
  refine am_ev.step (pc' := 26) rfl rfl ?_
  exact fx_reti rfl rfl rfl
theorem pr_135c (S : fS h) (v15 : h.2.2.2 40 15 = iv nr) (hnr : nr ≤ 14) (by_ : -2147483648 ≤ y ∧ y ≤ 2147483647) (hy : 3 < y) : am_ev (d + 6) 135 0 (am_ent [.ref 40, iv y] 5) [] h (some (iv (-1)), h) := by
  show am_ev (d + 6) 135 0 [.ref 40, iv (y), am_ph, am_ph, am_ph] [] h _
  refine am_ev.step (pc' := 1) rfl rfl ?_
  refine fx_z_ne_T (pT := 9) rfl (by omega) rfl (by omega) ?_
  refine am_ev.step (pc' := 10) rfl rfl ?_
  refine fx_z_lt_F (pF := 13) rfl (by omega) rfl (by omega) ?_
  refine am_ev.step (pc' := 14) rfl rfl ?_
  refine am_ev.step (pc' := 15) rfl rfl ?_
  refine fx_c_gt_T (pT := 25) rfl (by omega) (by omega) rfl (by omega) ?_
  refine am_ev.step (pc' := 26) rfl rfl ?_
  exact fx_reti rfl rfl rfl
theorem pr_135d (S : fS h) (v15 : h.2.2.2 40 15 = iv nr) (hnr : nr ≤ 14) (by_ : -2147483648 ≤ y ∧ y ≤ 2147483647) (hy : 1 ≤ y ∧ y ≤ 3) (H133 : am_ev (d + 5) 133 0 (am_ent [.ref 40] 3) [] h (some (iv 0), g)) (Sg : fS g) : am_ev (d + 6) 135 0 (am_ent [.ref 40, iv y] 5) [] h (some (iv (-1)), g) := by
  show am_ev (d + 6) 135 0 [.ref 40, iv (y), am_ph, am_ph, am_ph] [] h _
  refine am_ev.step (pc' := 1) rfl rfl ?_
  refine fx_z_ne_T (pT := 9) rfl (by omega) rfl (by omega) ?_
  refine am_ev.step (pc' := 10) rfl rfl ?_
  refine fx_z_lt_F (pF := 13) rfl (by omega) rfl (by omega) ?_
  refine am_ev.step (pc' := 14) rfl rfl ?_
  refine am_ev.step (pc' := 15) rfl rfl ?_
  refine fx_c_gt_F (pF := 18) rfl (by omega) (by omega) rfl (by omega) ?_
  refine am_ev.step (pc' := 19) rfl rfl ?_
  refine ax_call (z := 133) (p' := 22) (as := [_]) rfl (Or.inr (Or.inl ⟨_, rfl⟩)) rfl rfl rfl rfl rfl rfl (S.ob rfl) rfl H133 rfl ?_
  refine fx_z_ne_F (pF := 25) rfl (by omega) rfl (by omega) ?_
  refine am_ev.step (pc' := 26) rfl rfl ?_
  exact fx_reti rfl rfl rfl
theorem pr_135_1 (S : fS h) (v15 : h.2.2.2 40 15 = iv nr) (hnr : nr ≤ 14) (by_ : -2147483648 ≤ y ∧ y ≤ 2147483647) (hy : 1 ≤ y ∧ y ≤ 3) (H133 : am_ev (d + 5) 133 0 (am_ent [.ref 40] 3) [] h (some (iv 1), g)) (Sg : fS g) (g15 : g.2.2.2 40 15 = iv nr) (H134 : am_ev (d + 5) 134 0 (am_ent [.ref 40, iv nr] 4) [] g (some (iv p), g)) (bp : 0 ≤ p ∧ p ≤ 1000) (v441 : g.2.2.2 44 1 = iv u) (bu : 2 ≤ u ∧ u ≤ 32) (hu : ¬ (Int32.ofInt u = 0)) (hyk : y = 1) : am_ev (d + 6) 135 0 (am_ent [.ref 40, iv y] 5) [] h (some (iv p), g) := by
  show am_ev (d + 6) 135 0 [.ref 40, iv (y), am_ph, am_ph, am_ph] [] h _
  refine am_ev.step (pc' := 1) rfl rfl ?_
  refine fx_z_ne_T (pT := 9) rfl (by omega) rfl (by omega) ?_
  refine am_ev.step (pc' := 10) rfl rfl ?_
  refine fx_z_lt_F (pF := 13) rfl (by omega) rfl (by omega) ?_
  refine am_ev.step (pc' := 14) rfl rfl ?_
  refine am_ev.step (pc' := 15) rfl rfl ?_
  refine fx_c_gt_F (pF := 18) rfl (by omega) (by omega) rfl (by omega) ?_
  refine am_ev.step (pc' := 19) rfl rfl ?_
  refine ax_call (z := 133) (p' := 22) (as := [_]) rfl (Or.inr (Or.inl ⟨_, rfl⟩)) rfl rfl rfl rfl rfl rfl (S.ob rfl) rfl H133 rfl ?_
  refine fx_z_ne_T (pT := 27) rfl (by omega) rfl (by omega) ?_
  refine am_ev.step (pc' := 28) rfl rfl ?_
  refine am_ev.step (pc' := 29) rfl rfl ?_
  refine ax_gf (p' := 32) rfl rfl (Sg.ob rfl) g15 ?_
  refine ax_call (z := 134) (p' := 35) (as := [_, _]) rfl (Or.inr (Or.inl ⟨_, rfl⟩)) rfl rfl rfl rfl rfl rfl (Sg.ob rfl) rfl H134 rfl ?_
  refine am_ev.step (pc' := 36) (ls' := [.ref 40, iv (y), iv (p), am_ph, am_ph]) rfl rfl ?_
  refine am_ev.step (pc' := 37) rfl rfl ?_
  refine am_ev.step (pc' := 38) rfl rfl ?_
  refine ax_gf (p' := 41) rfl rfl (Sg.ob rfl) (Sg.rf rfl rfl) ?_
  refine am_ev.step (pc' := 42) rfl rfl ?_
  refine ax_call (z := 37) (p' := 45) (as := [_, _]) rfl (Or.inr (Or.inl ⟨_, rfl⟩)) rfl rfl rfl rfl rfl rfl (Sg.ob rfl) rfl (ru_37a (i := 1) Sg (by omega) v441) rfl ?_
  refine fx_mx (p' := 48) (x1 := 1) (x2 := u) (e := u) rfl (Or.inl ⟨_, rfl⟩) rfl rfl rfl rfl (by omega) (by omega) (by omega) (by omega) ?_
  refine am_ev.step (pc' := 49) (ls' := [.ref 40, iv (y), iv (p), iv (u), am_ph]) rfl rfl ?_
  refine am_ev.step (pc' := 50) rfl rfl ?_
  refine am_ev.step (pc' := 51) rfl rfl ?_
  refine fx_add (p' := 52) (e := (p + u)) rfl rfl (by omega) ?_
  refine am_ev.step (pc' := 53) rfl rfl ?_
  refine fx_sub (p' := 54) (e := (p + u - 1)) rfl rfl (by omega) ?_
  refine am_ev.step (pc' := 55) rfl rfl ?_
  refine am_ev.step (pc' := 56) rfl (if_neg hu) ?_
  refine am_ev.step (pc' := 58) (ls' := [.ref 40, iv (y), iv (p), iv (u), .int (prS p u)]) rfl rfl ?_
  refine am_ev.step (pc' := 59) rfl rfl ?_
  refine am_ev.step (pc' := 60) rfl rfl ?_
  refine fx_c_ne_F (pF := 63) rfl (by omega) (by omega) rfl (by omega) ?_
  refine am_ev.step (pc' := 64) rfl rfl ?_
  exact fx_reti rfl rfl rfl
theorem pr_135_2 (S : fS h) (v15 : h.2.2.2 40 15 = iv nr) (hnr : nr ≤ 14) (by_ : -2147483648 ≤ y ∧ y ≤ 2147483647) (hy : 1 ≤ y ∧ y ≤ 3) (H133 : am_ev (d + 5) 133 0 (am_ent [.ref 40] 3) [] h (some (iv 1), g)) (Sg : fS g) (g15 : g.2.2.2 40 15 = iv nr) (H134 : am_ev (d + 5) 134 0 (am_ent [.ref 40, iv nr] 4) [] g (some (iv p), g)) (bp : 0 ≤ p ∧ p ≤ 1000) (v441 : g.2.2.2 44 1 = iv u) (bu : 2 ≤ u ∧ u ≤ 32) (hu : ¬ (Int32.ofInt u = 0)) (hyk : y = 2) : am_ev (d + 6) 135 0 (am_ent [.ref 40, iv y] 5) [] h (some (.int (prS p u)), g) := by
  show am_ev (d + 6) 135 0 [.ref 40, iv (y), am_ph, am_ph, am_ph] [] h _
  refine am_ev.step (pc' := 1) rfl rfl ?_
  refine fx_z_ne_T (pT := 9) rfl (by omega) rfl (by omega) ?_
  refine am_ev.step (pc' := 10) rfl rfl ?_
  refine fx_z_lt_F (pF := 13) rfl (by omega) rfl (by omega) ?_
  refine am_ev.step (pc' := 14) rfl rfl ?_
  refine am_ev.step (pc' := 15) rfl rfl ?_
  refine fx_c_gt_F (pF := 18) rfl (by omega) (by omega) rfl (by omega) ?_
  refine am_ev.step (pc' := 19) rfl rfl ?_
  refine ax_call (z := 133) (p' := 22) (as := [_]) rfl (Or.inr (Or.inl ⟨_, rfl⟩)) rfl rfl rfl rfl rfl rfl (S.ob rfl) rfl H133 rfl ?_
  refine fx_z_ne_T (pT := 27) rfl (by omega) rfl (by omega) ?_
  refine am_ev.step (pc' := 28) rfl rfl ?_
  refine am_ev.step (pc' := 29) rfl rfl ?_
  refine ax_gf (p' := 32) rfl rfl (Sg.ob rfl) g15 ?_
  refine ax_call (z := 134) (p' := 35) (as := [_, _]) rfl (Or.inr (Or.inl ⟨_, rfl⟩)) rfl rfl rfl rfl rfl rfl (Sg.ob rfl) rfl H134 rfl ?_
  refine am_ev.step (pc' := 36) (ls' := [.ref 40, iv (y), iv (p), am_ph, am_ph]) rfl rfl ?_
  refine am_ev.step (pc' := 37) rfl rfl ?_
  refine am_ev.step (pc' := 38) rfl rfl ?_
  refine ax_gf (p' := 41) rfl rfl (Sg.ob rfl) (Sg.rf rfl rfl) ?_
  refine am_ev.step (pc' := 42) rfl rfl ?_
  refine ax_call (z := 37) (p' := 45) (as := [_, _]) rfl (Or.inr (Or.inl ⟨_, rfl⟩)) rfl rfl rfl rfl rfl rfl (Sg.ob rfl) rfl (ru_37a (i := 1) Sg (by omega) v441) rfl ?_
  refine fx_mx (p' := 48) (x1 := 1) (x2 := u) (e := u) rfl (Or.inl ⟨_, rfl⟩) rfl rfl rfl rfl (by omega) (by omega) (by omega) (by omega) ?_
  refine am_ev.step (pc' := 49) (ls' := [.ref 40, iv (y), iv (p), iv (u), am_ph]) rfl rfl ?_
  refine am_ev.step (pc' := 50) rfl rfl ?_
  refine am_ev.step (pc' := 51) rfl rfl ?_
  refine fx_add (p' := 52) (e := (p + u)) rfl rfl (by omega) ?_
  refine am_ev.step (pc' := 53) rfl rfl ?_
  refine fx_sub (p' := 54) (e := (p + u - 1)) rfl rfl (by omega) ?_
  refine am_ev.step (pc' := 55) rfl rfl ?_
  refine am_ev.step (pc' := 56) rfl (if_neg hu) ?_
  refine am_ev.step (pc' := 58) (ls' := [.ref 40, iv (y), iv (p), iv (u), .int (prS p u)]) rfl rfl ?_
  refine am_ev.step (pc' := 59) rfl rfl ?_
  refine am_ev.step (pc' := 60) rfl rfl ?_
  refine fx_c_ne_T (pT := 65) rfl (by omega) (by omega) rfl (by omega) ?_
  refine am_ev.step (pc' := 66) rfl rfl ?_
  refine am_ev.step (pc' := 67) rfl rfl ?_
  refine fx_c_ne_F (pF := 70) rfl (by omega) (by omega) rfl (by omega) ?_
  refine am_ev.step (pc' := 72) rfl rfl ?_
  refine am_ev.step (pc' := 81) rfl rfl ?_
  exact am_ev.reti rfl rfl rfl
theorem pr_135_3 (S : fS h) (v15 : h.2.2.2 40 15 = iv nr) (hnr : nr ≤ 14) (by_ : -2147483648 ≤ y ∧ y ≤ 2147483647) (hy : 1 ≤ y ∧ y ≤ 3) (H133 : am_ev (d + 5) 133 0 (am_ent [.ref 40] 3) [] h (some (iv 1), g)) (Sg : fS g) (g15 : g.2.2.2 40 15 = iv nr) (H134 : am_ev (d + 5) 134 0 (am_ent [.ref 40, iv nr] 4) [] g (some (iv p), g)) (bp : 0 ≤ p ∧ p ≤ 1000) (v441 : g.2.2.2 44 1 = iv u) (bu : 2 ≤ u ∧ u ≤ 32) (hu : ¬ (Int32.ofInt u = 0)) (hyk : y = 3) : am_ev (d + 6) 135 0 (am_ent [.ref 40, iv y] 5) [] h (some (.int ((prS p u) * (Int32.ofInt u) - (Int32.ofInt p))), g) := by
  show am_ev (d + 6) 135 0 [.ref 40, iv (y), am_ph, am_ph, am_ph] [] h _
  refine am_ev.step (pc' := 1) rfl rfl ?_
  refine fx_z_ne_T (pT := 9) rfl (by omega) rfl (by omega) ?_
  refine am_ev.step (pc' := 10) rfl rfl ?_
  refine fx_z_lt_F (pF := 13) rfl (by omega) rfl (by omega) ?_
  refine am_ev.step (pc' := 14) rfl rfl ?_
  refine am_ev.step (pc' := 15) rfl rfl ?_
  refine fx_c_gt_F (pF := 18) rfl (by omega) (by omega) rfl (by omega) ?_
  refine am_ev.step (pc' := 19) rfl rfl ?_
  refine ax_call (z := 133) (p' := 22) (as := [_]) rfl (Or.inr (Or.inl ⟨_, rfl⟩)) rfl rfl rfl rfl rfl rfl (S.ob rfl) rfl H133 rfl ?_
  refine fx_z_ne_T (pT := 27) rfl (by omega) rfl (by omega) ?_
  refine am_ev.step (pc' := 28) rfl rfl ?_
  refine am_ev.step (pc' := 29) rfl rfl ?_
  refine ax_gf (p' := 32) rfl rfl (Sg.ob rfl) g15 ?_
  refine ax_call (z := 134) (p' := 35) (as := [_, _]) rfl (Or.inr (Or.inl ⟨_, rfl⟩)) rfl rfl rfl rfl rfl rfl (Sg.ob rfl) rfl H134 rfl ?_
  refine am_ev.step (pc' := 36) (ls' := [.ref 40, iv (y), iv (p), am_ph, am_ph]) rfl rfl ?_
  refine am_ev.step (pc' := 37) rfl rfl ?_
  refine am_ev.step (pc' := 38) rfl rfl ?_
  refine ax_gf (p' := 41) rfl rfl (Sg.ob rfl) (Sg.rf rfl rfl) ?_
  refine am_ev.step (pc' := 42) rfl rfl ?_
  refine ax_call (z := 37) (p' := 45) (as := [_, _]) rfl (Or.inr (Or.inl ⟨_, rfl⟩)) rfl rfl rfl rfl rfl rfl (Sg.ob rfl) rfl (ru_37a (i := 1) Sg (by omega) v441) rfl ?_
  refine fx_mx (p' := 48) (x1 := 1) (x2 := u) (e := u) rfl (Or.inl ⟨_, rfl⟩) rfl rfl rfl rfl (by omega) (by omega) (by omega) (by omega) ?_
  refine am_ev.step (pc' := 49) (ls' := [.ref 40, iv (y), iv (p), iv (u), am_ph]) rfl rfl ?_
  refine am_ev.step (pc' := 50) rfl rfl ?_
  refine am_ev.step (pc' := 51) rfl rfl ?_
  refine fx_add (p' := 52) (e := (p + u)) rfl rfl (by omega) ?_
  refine am_ev.step (pc' := 53) rfl rfl ?_
  refine fx_sub (p' := 54) (e := (p + u - 1)) rfl rfl (by omega) ?_
  refine am_ev.step (pc' := 55) rfl rfl ?_
  refine am_ev.step (pc' := 56) rfl (if_neg hu) ?_
  refine am_ev.step (pc' := 58) (ls' := [.ref 40, iv (y), iv (p), iv (u), .int (prS p u)]) rfl rfl ?_
  refine am_ev.step (pc' := 59) rfl rfl ?_
  refine am_ev.step (pc' := 60) rfl rfl ?_
  refine fx_c_ne_T (pT := 65) rfl (by omega) (by omega) rfl (by omega) ?_
  refine am_ev.step (pc' := 66) rfl rfl ?_
  refine am_ev.step (pc' := 67) rfl rfl ?_
  refine fx_c_ne_T (pT := 75) rfl (by omega) (by omega) rfl (by omega) ?_
  refine am_ev.step (pc' := 77) rfl rfl ?_
  refine am_ev.step (pc' := 78) rfl rfl ?_
  refine am_ev.step (pc' := 79) rfl rfl ?_
  refine am_ev.step (pc' := 80) rfl rfl ?_
  refine am_ev.step (pc' := 81) rfl rfl ?_
  exact am_ev.reti rfl rfl rfl
theorem pr_250a (S : fS g) (v55 : g.2.2.2 78 55 = iv nr) (hnr : nr ≤ 14) (by_ : -2147483648 ≤ y ∧ y ≤ 2147483647) (hy : y = 0) : am_ev (d + 9) 250 0 (am_ent [.ref 78, iv y] 4) [] g (some (iv nr), g) := by
  show am_ev (d + 9) 250 0 [.ref 78, iv (y), am_ph, am_ph] [] g _
  refine am_ev.step (pc' := 1) rfl rfl ?_
  refine fx_z_ne_F (pF := 4) rfl (by omega) rfl (by omega) ?_
  refine am_ev.step (pc' := 5) rfl rfl ?_
  refine ax_gf (p' := 8) rfl rfl (S.ob rfl) v55 ?_
  exact fx_reti rfl rfl rfl
theorem pr_250b (S : fS g) (v55 : g.2.2.2 78 55 = iv nr) (hnr : nr ≤ 14) (by_ : -2147483648 ≤ y ∧ y ≤ 2147483647) (hy : y ≠ 0) (H165 : am_ev (d + 8) 165 0 (am_ent [.long (Int32.ofInt y).toInt64, .long (Int64.ofNat 1), .long (Int64.ofNat 3)] 6) [] g (some (iv 0), g)) : am_ev (d + 9) 250 0 (am_ent [.ref 78, iv y] 4) [] g (some (iv (-1)), g) := by
  show am_ev (d + 9) 250 0 [.ref 78, iv (y), am_ph, am_ph] [] g _
  refine am_ev.step (pc' := 1) rfl rfl ?_
  refine fx_z_ne_T (pT := 9) rfl (by omega) rfl (by omega) ?_
  refine am_ev.step (pc' := 10) rfl rfl ?_
  refine am_ev.step (pc' := 11) rfl rfl ?_
  refine am_ev.step (pc' := 12) rfl rfl ?_
  refine am_ev.step (pc' := 15) rfl rfl ?_
  refine ax_call (z := 165) (p' := 18) (as := [_, _, _]) rfl (Or.inl ⟨_, rfl⟩) rfl rfl rfl rfl rfl rfl rfl rfl H165 rfl ?_
  refine fx_z_eq_T (pT := 29) rfl (by omega) rfl (by omega) ?_
  refine am_ev.step (pc' := 30) rfl rfl ?_
  exact fx_reti rfl rfl rfl
theorem pr_250d (S : fS g) (v55 : g.2.2.2 78 55 = iv nr) (hnr : nr ≤ 14) (by_ : -2147483648 ≤ y ∧ y ≤ 2147483647) (hy : y ≠ 0) (H165 : am_ev (d + 8) 165 0 (am_ent [.long (Int32.ofInt y).toInt64, .long (Int64.ofNat 1), .long (Int64.ofNat 3)] 6) [] g (some (iv 1), g)) (H249 : am_ev (d + 8) 249 0 (am_ent [.ref 78, iv (-1)] 3) [] g (some (iv 0), G)) (SG : fS G) : am_ev (d + 9) 250 0 (am_ent [.ref 78, iv y] 4) [] g (some (iv (-1)), G) := by
  show am_ev (d + 9) 250 0 [.ref 78, iv (y), am_ph, am_ph] [] g _
  refine am_ev.step (pc' := 1) rfl rfl ?_
  refine fx_z_ne_T (pT := 9) rfl (by omega) rfl (by omega) ?_
  refine am_ev.step (pc' := 10) rfl rfl ?_
  refine am_ev.step (pc' := 11) rfl rfl ?_
  refine am_ev.step (pc' := 12) rfl rfl ?_
  refine am_ev.step (pc' := 15) rfl rfl ?_
  refine ax_call (z := 165) (p' := 18) (as := [_, _, _]) rfl (Or.inl ⟨_, rfl⟩) rfl rfl rfl rfl rfl rfl rfl rfl H165 rfl ?_
  refine fx_z_eq_F (pF := 21) rfl (by omega) rfl (by omega) ?_
  refine am_ev.step (pc' := 22) rfl rfl ?_
  refine am_ev.step (pc' := 23) rfl rfl ?_
  refine ax_call (z := 249) (p' := 26) (as := [_, _]) rfl (Or.inr (Or.inl ⟨_, rfl⟩)) rfl rfl rfl rfl rfl rfl (S.ob rfl) rfl H249 rfl ?_
  refine fx_z_ne_F (pF := 29) rfl (by omega) rfl (by omega) ?_
  refine am_ev.step (pc' := 30) rfl rfl ?_
  exact fx_reti rfl rfl rfl
theorem pr_250g (S : fS g) (v55 : g.2.2.2 78 55 = iv nr) (hnr : nr ≤ 14) (by_ : -2147483648 ≤ y ∧ y ≤ 2147483647) (hy : y ≠ 0) (H165 : am_ev (d + 8) 165 0 (am_ent [.long (Int32.ofInt y).toInt64, .long (Int64.ofNat 1), .long (Int64.ofNat 3)] 6) [] g (some (iv 1), g)) (H249 : am_ev (d + 8) 249 0 (am_ent [.ref 78, iv (-1)] 3) [] g (some (iv 1), G)) (SG : fS G) (v813 : G.2.2.2 81 3 = iv f) {x : Option Value × am_H} (q9 : am_ev (d + 9) 250 40 [.ref 78, iv (y), iv (f), iv 0] [] G x) : am_ev (d + 9) 250 0 (am_ent [.ref 78, iv y] 4) [] g x := by
  show am_ev (d + 9) 250 0 [.ref 78, iv (y), am_ph, am_ph] [] g _
  refine am_ev.step (pc' := 1) rfl rfl ?_
  refine fx_z_ne_T (pT := 9) rfl (by omega) rfl (by omega) ?_
  refine am_ev.step (pc' := 10) rfl rfl ?_
  refine am_ev.step (pc' := 11) rfl rfl ?_
  refine am_ev.step (pc' := 12) rfl rfl ?_
  refine am_ev.step (pc' := 15) rfl rfl ?_
  refine ax_call (z := 165) (p' := 18) (as := [_, _, _]) rfl (Or.inl ⟨_, rfl⟩) rfl rfl rfl rfl rfl rfl rfl rfl H165 rfl ?_
  refine fx_z_eq_F (pF := 21) rfl (by omega) rfl (by omega) ?_
  refine am_ev.step (pc' := 22) rfl rfl ?_
  refine am_ev.step (pc' := 23) rfl rfl ?_
  refine ax_call (z := 249) (p' := 26) (as := [_, _]) rfl (Or.inr (Or.inl ⟨_, rfl⟩)) rfl rfl rfl rfl rfl rfl (S.ob rfl) rfl H249 rfl ?_
  refine fx_z_ne_T (pT := 31) rfl (by omega) rfl (by omega) ?_
  refine am_ev.step (pc' := 32) rfl rfl ?_
  refine ax_gf (p' := 35) rfl rfl (SG.ob rfl) (SG.rf rfl rfl) ?_
  refine am_ev.step (pc' := 36) rfl rfl ?_
  refine ax_iaload (p' := 37) rfl rfl (SG.rd (k := 3) rfl rfl rfl rfl rfl (by decide) v813) ?_
  refine am_ev.step (pc' := 38) (ls' := [.ref 78, iv (y), iv (f), am_ph]) rfl rfl ?_
  refine am_ev.step (pc' := 39) rfl rfl ?_
  refine am_ev.step (pc' := 40) (ls' := [.ref 78, iv (y), iv (f), iv 0]) rfl rfl ?_
  exact q9
theorem pr_250i (S : fS g) (v55 : g.2.2.2 78 55 = iv nr) (hnr : nr ≤ 14) (bs : 0 ≤ s ∧ s ≤ 1000) (hj : j < nr) (v118 : g.2.2.2 118 j = iv r) (hr : r < 14) (v117 : g.2.2.2 117 r = iv q) (hq : q < 40) (H229 : am_ev (d + 8) 229 0 (am_ent [.ref 78, iv q] 3) [] g (some (iv v), G)) (SG : fS G) (bv : -1 ≤ v ∧ v ≤ 30) {x : Option Value × am_H} (q9 : am_ev (d + 9) 250 40 [.ref 78, iv (y), iv ((s + v)), iv ((j + 1 : Nat) : Int)] [] G x) : am_ev (d + 9) 250 40 [.ref 78, iv (y), iv (s), iv ((j : Int))] [] g x := by
  refine am_ev.step (pc' := 41) rfl rfl ?_
  refine am_ev.step (pc' := 42) rfl rfl ?_
  refine ax_gf (p' := 45) rfl rfl (S.ob rfl) v55 ?_
  refine fx_c_ge_F (pF := 48) rfl (by omega) (by omega) rfl (by omega) ?_
  refine am_ev.step (pc' := 49) rfl rfl ?_
  refine am_ev.step (pc' := 50) rfl rfl ?_
  refine am_ev.step (pc' := 51) rfl rfl ?_
  refine ax_gf (p' := 54) rfl rfl (S.ob rfl) (S.rf rfl rfl) ?_
  refine am_ev.step (pc' := 55) rfl rfl ?_
  refine ax_gf (p' := 58) rfl rfl (S.ob rfl) (S.rf rfl rfl) ?_
  refine am_ev.step (pc' := 59) rfl rfl ?_
  refine ax_iaload (p' := 60) rfl rfl (S.rd (k := j) rfl rfl rfl rfl rfl (by omega) v118) ?_
  refine ax_iaload (p' := 61) rfl rfl (S.rd (k := r) rfl rfl rfl rfl rfl (by omega) v117) ?_
  refine ax_call (z := 229) (p' := 64) (as := [_, _]) rfl (Or.inr (Or.inl ⟨_, rfl⟩)) rfl rfl rfl rfl rfl rfl (S.ob rfl) rfl H229 rfl ?_
  refine fx_add (p' := 65) (e := (s + v)) rfl rfl (by omega) ?_
  refine am_ev.step (pc' := 66) (ls' := [.ref 78, iv (y), iv (s + v), iv ((j : Int))]) rfl rfl ?_
  refine fx_inc (p' := 69) (e := ((j : Int) + 1)) (ls' := [.ref 78, iv (y), iv (s + v), iv ((j : Int) + 1)]) rfl rfl rfl (by omega) rfl ?_
  refine am_ev.step (pc' := 40) rfl rfl ?_
  exact (rr_n ▸ q9)
theorem pr_250_1 (S : fS g) (v55 : g.2.2.2 78 55 = iv nr) (hnr : nr ≤ 14) (bp : 0 ≤ p ∧ p ≤ 1000) (by_ : 1 ≤ y ∧ y ≤ 3) (hj : j = nr) (v811 : g.2.2.2 81 1 = iv u) (bu : 2 ≤ u ∧ u ≤ 32) (hu : ¬ (Int32.ofInt u = 0)) (hyk : y = 1) : am_ev (d + 9) 250 40 [.ref 78, iv (y), iv (p), iv ((j : Int))] [] g (some (iv p), g) := by
  refine am_ev.step (pc' := 41) rfl rfl ?_
  refine am_ev.step (pc' := 42) rfl rfl ?_
  refine ax_gf (p' := 45) rfl rfl (S.ob rfl) v55 ?_
  refine fx_c_ge_T (pT := 72) rfl (by omega) (by omega) rfl (by omega) ?_
  refine am_ev.step (pc' := 73) rfl rfl ?_
  refine am_ev.step (pc' := 74) rfl rfl ?_
  refine ax_gf (p' := 77) rfl rfl (S.ob rfl) (S.rf rfl rfl) ?_
  refine am_ev.step (pc' := 78) rfl rfl ?_
  refine ax_iaload (p' := 79) rfl rfl (S.rd (k := 1) rfl rfl rfl rfl rfl (by decide) v811) ?_
  refine fx_add (p' := 80) (e := (p + u)) rfl rfl (by omega) ?_
  refine am_ev.step (pc' := 81) rfl rfl ?_
  refine fx_sub (p' := 82) (e := (p + u - 1)) rfl rfl (by omega) ?_
  refine am_ev.step (pc' := 83) rfl rfl ?_
  refine ax_gf (p' := 86) rfl rfl (S.ob rfl) (S.rf rfl rfl) ?_
  refine am_ev.step (pc' := 87) rfl rfl ?_
  refine ax_iaload (p' := 88) rfl rfl (S.rd (k := 1) rfl rfl rfl rfl rfl (by decide) v811) ?_
  refine am_ev.step (pc' := 89) rfl (if_neg hu) ?_
  refine am_ev.step (pc' := 90) (ls' := [.ref 78, iv (y), iv (p), .int (prS p u)]) rfl rfl ?_
  refine am_ev.step (pc' := 91) rfl rfl ?_
  refine am_ev.step (pc' := 92) rfl rfl ?_
  refine fx_c_ne_F (pF := 95) rfl (by omega) (by omega) rfl (by omega) ?_
  refine am_ev.step (pc' := 96) rfl rfl ?_
  refine am_ev.step (pc' := 118) rfl rfl ?_
  exact fx_reti rfl rfl rfl
theorem pr_250_2 (S : fS g) (v55 : g.2.2.2 78 55 = iv nr) (hnr : nr ≤ 14) (bp : 0 ≤ p ∧ p ≤ 1000) (by_ : 1 ≤ y ∧ y ≤ 3) (hj : j = nr) (v811 : g.2.2.2 81 1 = iv u) (bu : 2 ≤ u ∧ u ≤ 32) (hu : ¬ (Int32.ofInt u = 0)) (hyk : y = 2) : am_ev (d + 9) 250 40 [.ref 78, iv (y), iv (p), iv ((j : Int))] [] g (some (.int (prS p u)), g) := by
  refine am_ev.step (pc' := 41) rfl rfl ?_
  refine am_ev.step (pc' := 42) rfl rfl ?_
  refine ax_gf (p' := 45) rfl rfl (S.ob rfl) v55 ?_
  refine fx_c_ge_T (pT := 72) rfl (by omega) (by omega) rfl (by omega) ?_
  refine am_ev.step (pc' := 73) rfl rfl ?_
  refine am_ev.step (pc' := 74) rfl rfl ?_
  refine ax_gf (p' := 77) rfl rfl (S.ob rfl) (S.rf rfl rfl) ?_
  refine am_ev.step (pc' := 78) rfl rfl ?_
  refine ax_iaload (p' := 79) rfl rfl (S.rd (k := 1) rfl rfl rfl rfl rfl (by decide) v811) ?_
  refine fx_add (p' := 80) (e := (p + u)) rfl rfl (by omega) ?_
  refine am_ev.step (pc' := 81) rfl rfl ?_
  refine fx_sub (p' := 82) (e := (p + u - 1)) rfl rfl (by omega) ?_
  refine am_ev.step (pc' := 83) rfl rfl ?_
  refine ax_gf (p' := 86) rfl rfl (S.ob rfl) (S.rf rfl rfl) ?_
  refine am_ev.step (pc' := 87) rfl rfl ?_
  refine ax_iaload (p' := 88) rfl rfl (S.rd (k := 1) rfl rfl rfl rfl rfl (by decide) v811) ?_
  refine am_ev.step (pc' := 89) rfl (if_neg hu) ?_
  refine am_ev.step (pc' := 90) (ls' := [.ref 78, iv (y), iv (p), .int (prS p u)]) rfl rfl ?_
  refine am_ev.step (pc' := 91) rfl rfl ?_
  refine am_ev.step (pc' := 92) rfl rfl ?_
  refine fx_c_ne_T (pT := 99) rfl (by omega) (by omega) rfl (by omega) ?_
  refine am_ev.step (pc' := 100) rfl rfl ?_
  refine am_ev.step (pc' := 101) rfl rfl ?_
  refine fx_c_ne_F (pF := 104) rfl (by omega) (by omega) rfl (by omega) ?_
  refine am_ev.step (pc' := 105) rfl rfl ?_
  refine am_ev.step (pc' := 118) rfl rfl ?_
  exact am_ev.reti rfl rfl rfl
theorem pr_250_3 (S : fS g) (v55 : g.2.2.2 78 55 = iv nr) (hnr : nr ≤ 14) (bp : 0 ≤ p ∧ p ≤ 1000) (by_ : 1 ≤ y ∧ y ≤ 3) (hj : j = nr) (v811 : g.2.2.2 81 1 = iv u) (bu : 2 ≤ u ∧ u ≤ 32) (hu : ¬ (Int32.ofInt u = 0)) (hyk : y = 3) : am_ev (d + 9) 250 40 [.ref 78, iv (y), iv (p), iv ((j : Int))] [] g (some (.int ((prS p u) * (Int32.ofInt u) - (Int32.ofInt p))), g) := by
  refine am_ev.step (pc' := 41) rfl rfl ?_
  refine am_ev.step (pc' := 42) rfl rfl ?_
  refine ax_gf (p' := 45) rfl rfl (S.ob rfl) v55 ?_
  refine fx_c_ge_T (pT := 72) rfl (by omega) (by omega) rfl (by omega) ?_
  refine am_ev.step (pc' := 73) rfl rfl ?_
  refine am_ev.step (pc' := 74) rfl rfl ?_
  refine ax_gf (p' := 77) rfl rfl (S.ob rfl) (S.rf rfl rfl) ?_
  refine am_ev.step (pc' := 78) rfl rfl ?_
  refine ax_iaload (p' := 79) rfl rfl (S.rd (k := 1) rfl rfl rfl rfl rfl (by decide) v811) ?_
  refine fx_add (p' := 80) (e := (p + u)) rfl rfl (by omega) ?_
  refine am_ev.step (pc' := 81) rfl rfl ?_
  refine fx_sub (p' := 82) (e := (p + u - 1)) rfl rfl (by omega) ?_
  refine am_ev.step (pc' := 83) rfl rfl ?_
  refine ax_gf (p' := 86) rfl rfl (S.ob rfl) (S.rf rfl rfl) ?_
  refine am_ev.step (pc' := 87) rfl rfl ?_
  refine ax_iaload (p' := 88) rfl rfl (S.rd (k := 1) rfl rfl rfl rfl rfl (by decide) v811) ?_
  refine am_ev.step (pc' := 89) rfl (if_neg hu) ?_
  refine am_ev.step (pc' := 90) (ls' := [.ref 78, iv (y), iv (p), .int (prS p u)]) rfl rfl ?_
  refine am_ev.step (pc' := 91) rfl rfl ?_
  refine am_ev.step (pc' := 92) rfl rfl ?_
  refine fx_c_ne_T (pT := 99) rfl (by omega) (by omega) rfl (by omega) ?_
  refine am_ev.step (pc' := 100) rfl rfl ?_
  refine am_ev.step (pc' := 101) rfl rfl ?_
  refine fx_c_ne_T (pT := 108) rfl (by omega) (by omega) rfl (by omega) ?_
  refine am_ev.step (pc' := 109) rfl rfl ?_
  refine am_ev.step (pc' := 110) rfl rfl ?_
  refine ax_gf (p' := 113) rfl rfl (S.ob rfl) (S.rf rfl rfl) ?_
  refine am_ev.step (pc' := 114) rfl rfl ?_
  refine ax_iaload (p' := 115) rfl rfl (S.rd (k := 1) rfl rfl rfl rfl rfl (by decide) v811) ?_
  refine am_ev.step (pc' := 116) rfl rfl ?_
  refine am_ev.step (pc' := 117) rfl rfl ?_
  refine am_ev.step (pc' := 118) rfl rfl ?_
  exact am_ev.reti rfl rfl rfl
end PRM
