/-! THE ROW: over the law; PLACE, methods -/
def rR_m2 (m : cq_W) : Bool := lw_nF m 40 15 && lw_nF m 78 55 && lw_nA m 75 && lw_nA m 118
theorem rR_f2 {h h' : am_H} {m : cq_W} (I : cq_Inv none h) (I' : cq_Inv none h') (F : cq_Fr m h h') (q : rR_m2 m = true) (X : rR h) : rR h' := by
  have b1 := (Bool.and_eq_true _ _ ▸ q)
  have b2 := (Bool.and_eq_true _ _ ▸ b1.1)
  have b3 := (Bool.and_eq_true _ _ ▸ b2.1)
  obtain ⟨nr, a1, a2, a3, a4⟩ := X
  have k15 := (lw_frF F I.lo (by decide) b3.1).trans a2
  refine ⟨nr, a1, k15, (lw_frF F I.lo (by decide) b3.2).trans a3, fun i hi => ?_⟩
  obtain ⟨r, r1, r2, r3⟩ := a4 i hi
  have k75 := (lw_frA F I.lo (by decide) b2.2 i).trans r1
  refine ⟨r, k75, (lw_frA F I.lo (by decide) b1.2 i).trans r2, fun n e => ?_⟩
  have e13 : cq_n h' 40 13 = n.toInt := by
    unfold cq_n
    rw [e]
  obtain ⟨x, ex, -, -, x3⟩ : ∃ x : Int32, h'.2.2.2 40 15 = .int x ∧ 0 ≤ x.toInt ∧ x.toInt ≤ 14 ∧ x.toInt ≤ (14 : Int) * cq_n h' 40 13 := ax_ty I' (c := 40) (j := 15) (t := (8, 0, 14, 14, 0, 0)) (by decide +kernel) (by decide +kernel)
  obtain ⟨y, ey, -, -, y3⟩ : ∃ y : Int32, h'.2.2.2 75 i = .int y ∧ 0 ≤ y.toInt ∧ y.toInt ≤ 13 ∧ (y.toInt < cq_n h' 40 13 ∨ y.toInt = 0) := ax_ty I' (c := 75) (j := i) (t := (9, 0, 13, 0, 0, 0)) (by
    rw [show Nat.blt i (cq_fix 75).2.2 = true from Nat.ble_eq_true_of_le (show i + 1 ≤ (cq_fix 75).2.2 from by
      rw [show (cq_fix 75).2.2 = 14 by decide +kernel]
      omega)]
    decide +kernel) (by
    unfold cq_ty
    rw [show cq_isA 75 = true by decide +kernel, show ((Nat.beq 75 81 || Nat.beq 75 83) && Nat.beq i 1) = false from rfl]
    show cq_ar 75 = _
    decide +kernel)
  rw [k15] at ex
  have ex := Value.int.inj ex
  rw [← ex, fx_ti (by omega), e13] at x3
  rw [k75] at ey
  have ey := Value.int.inj ey
  rw [e13] at y3
  by_cases hr : r < 100000
  · rw [← ey, fx_ti (by omega)] at y3
    omega
  · have r4 := r3
    obtain ⟨m13, e13', -, y4⟩ := ax_in I (c := 40) (j := 13) (l := 0) (u := 14) (by decide +kernel) (by decide +kernel)
    have := r4 m13 e13'
    omega
section PLM
variable {d n i j nr r q k : Nat} {h g G : am_H} {x y v p s f : Int}
theorem pl_132a (S : fS h) (v15 : h.2.2.2 40 15 = iv nr) (hnr : nr ≤ 14) (bx : -2147483648 ≤ x ∧ x ≤ 2147483647) (by_ : -2147483648 ≤ y ∧ y ≤ 2147483647) (hx : x < 0) : am_ev (d + 6) 132 0 (am_ent [.ref 40, iv x, iv y] 3) [] h (some (iv (-1)), h) := by
  show am_ev (d + 6) 132 0 [.ref 40, iv (x), iv (y)] [] h _
  refine am_ev.step (pc' := 1) rfl rfl ?_
  refine fx_z_lt_T (pT := 21) rfl (by omega) rfl (by omega) ?_
  refine am_ev.step (pc' := 22) rfl rfl ?_
  exact fx_reti rfl rfl rfl
theorem pl_132b (S : fS h) (v15 : h.2.2.2 40 15 = iv nr) (hnr : nr ≤ 14) (bx : -2147483648 ≤ x ∧ x ≤ 2147483647) (by_ : -2147483648 ≤ y ∧ y ≤ 2147483647) (hx : (nr : Int) ≤ x) : am_ev (d + 6) 132 0 (am_ent [.ref 40, iv x, iv y] 3) [] h (some (iv (-1)), h) := by
  show am_ev (d + 6) 132 0 [.ref 40, iv (x), iv (y)] [] h _
  refine am_ev.step (pc' := 1) rfl rfl ?_
  refine fx_z_lt_F (pF := 4) rfl (by omega) rfl (by omega) ?_
  refine am_ev.step (pc' := 5) rfl rfl ?_
  refine am_ev.step (pc' := 6) rfl rfl ?_
  refine ax_gf (p' := 9) rfl rfl (S.ob rfl) v15 ?_
  refine fx_c_ge_T (pT := 21) rfl (by omega) (by omega) rfl (by omega) ?_
  refine am_ev.step (pc' := 22) rfl rfl ?_
  exact fx_reti rfl rfl rfl
theorem pl_132c (S : fS h) (v15 : h.2.2.2 40 15 = iv nr) (hnr : nr ≤ 14) (bx : -2147483648 ≤ x ∧ x ≤ 2147483647) (by_ : -2147483648 ≤ y ∧ y ≤ 2147483647) (hx : 0 ≤ x ∧ x < nr) (hy : y < 0) : am_ev (d + 6) 132 0 (am_ent [.ref 40, iv x, iv y] 3) [] h (some (iv (-1)), h) := by
  show am_ev (d + 6) 132 0 [.ref 40, iv (x), iv (y)] [] h _
  refine am_ev.step (pc' := 1) rfl rfl ?_
  refine fx_z_lt_F (pF := 4) rfl (by omega) rfl (by omega) ?_
  refine am_ev.step (pc' := 5) rfl rfl ?_
  refine am_ev.step (pc' := 6) rfl rfl ?_
  refine ax_gf (p' := 9) rfl rfl (S.ob rfl) v15 ?_
  refine fx_c_ge_F (pF := 12) rfl (by omega) (by omega) rfl (by omega) ?_
  refine am_ev.step (pc' := 13) rfl rfl ?_
  refine fx_z_lt_T (pT := 21) rfl (by omega) rfl (by omega) ?_
  refine am_ev.step (pc' := 22) rfl rfl ?_
  exact fx_reti rfl rfl rfl
theorem pl_132d (S : fS h) (v15 : h.2.2.2 40 15 = iv nr) (hnr : nr ≤ 14) (bx : -2147483648 ≤ x ∧ x ≤ 2147483647) (by_ : -2147483648 ≤ y ∧ y ≤ 2147483647) (hx : 0 ≤ x ∧ x < nr) (hy : 3 < y) : am_ev (d + 6) 132 0 (am_ent [.ref 40, iv x, iv y] 3) [] h (some (iv (-1)), h) := by
  show am_ev (d + 6) 132 0 [.ref 40, iv (x), iv (y)] [] h _
  refine am_ev.step (pc' := 1) rfl rfl ?_
  refine fx_z_lt_F (pF := 4) rfl (by omega) rfl (by omega) ?_
  refine am_ev.step (pc' := 5) rfl rfl ?_
  refine am_ev.step (pc' := 6) rfl rfl ?_
  refine ax_gf (p' := 9) rfl rfl (S.ob rfl) v15 ?_
  refine fx_c_ge_F (pF := 12) rfl (by omega) (by omega) rfl (by omega) ?_
  refine am_ev.step (pc' := 13) rfl rfl ?_
  refine fx_z_lt_F (pF := 16) rfl (by omega) rfl (by omega) ?_
  refine am_ev.step (pc' := 17) rfl rfl ?_
  refine am_ev.step (pc' := 18) rfl rfl ?_
  refine fx_c_le_F (pF := 21) rfl (by omega) (by omega) rfl (by omega) ?_
  refine am_ev.step (pc' := 22) rfl rfl ?_
  exact fx_reti rfl rfl rfl
theorem pl_132e (S : fS h) (v15 : h.2.2.2 40 15 = iv nr) (hnr : nr ≤ 14) (hi : i < nr) (v75 : h.2.2.2 75 i = iv r) (hr : r < 14) (hy : y = 0) : am_ev (d + 6) 132 0 (am_ent [.ref 40, iv i, iv y] 3) [] h (some (iv r), h) := by
  show am_ev (d + 6) 132 0 [.ref 40, iv ((i : Int)), iv (y)] [] h _
  refine am_ev.step (pc' := 1) rfl rfl ?_
  refine fx_z_lt_F (pF := 4) rfl (by omega) rfl (by omega) ?_
  refine am_ev.step (pc' := 5) rfl rfl ?_
  refine am_ev.step (pc' := 6) rfl rfl ?_
  refine ax_gf (p' := 9) rfl rfl (S.ob rfl) v15 ?_
  refine fx_c_ge_F (pF := 12) rfl (by omega) (by omega) rfl (by omega) ?_
  refine am_ev.step (pc' := 13) rfl rfl ?_
  refine fx_z_lt_F (pF := 16) rfl (by omega) rfl (by omega) ?_
  refine am_ev.step (pc' := 17) rfl rfl ?_
  refine am_ev.step (pc' := 18) rfl rfl ?_
  refine fx_c_le_T (pT := 23) rfl (by omega) (by omega) rfl (by omega) ?_
  refine am_ev.step (pc' := 24) rfl rfl ?_
  refine fx_z_ne_F (pF := 27) rfl (by omega) rfl (by omega) ?_
  refine am_ev.step (pc' := 28) rfl rfl ?_
  refine ax_gf (p' := 31) rfl rfl (S.ob rfl) (S.rf rfl rfl) ?_
  refine am_ev.step (pc' := 32) rfl rfl ?_
  refine ax_iaload (p' := 33) rfl rfl (S.rd (k := i) rfl rfl rfl rfl rfl (by omega) v75) ?_
  exact fx_reti rfl rfl rfl
theorem pl_132f (S : fS h) (v15 : h.2.2.2 40 15 = iv nr) (hnr : nr ≤ 14) (hi : i < nr) (hy : 1 ≤ y ∧ y ≤ 3) (H133 : am_ev (d + 5) 133 0 (am_ent [.ref 40] 3) [] h (some (iv 0), g)) (Sg : fS g) : am_ev (d + 6) 132 0 (am_ent [.ref 40, iv i, iv y] 3) [] h (some (iv (-1)), g) := by
  show am_ev (d + 6) 132 0 [.ref 40, iv ((i : Int)), iv (y)] [] h _
  refine am_ev.step (pc' := 1) rfl rfl ?_
  refine fx_z_lt_F (pF := 4) rfl (by omega) rfl (by omega) ?_
  refine am_ev.step (pc' := 5) rfl rfl ?_
  refine am_ev.step (pc' := 6) rfl rfl ?_
  refine ax_gf (p' := 9) rfl rfl (S.ob rfl) v15 ?_
  refine fx_c_ge_F (pF := 12) rfl (by omega) (by omega) rfl (by omega) ?_
  refine am_ev.step (pc' := 13) rfl rfl ?_
  refine fx_z_lt_F (pF := 16) rfl (by omega) rfl (by omega) ?_
  refine am_ev.step (pc' := 17) rfl rfl ?_
  refine am_ev.step (pc' := 18) rfl rfl ?_
  refine fx_c_le_T (pT := 23) rfl (by omega) (by omega) rfl (by omega) ?_
  refine am_ev.step (pc' := 24) rfl rfl ?_
  refine fx_z_ne_T (pT := 34) rfl (by omega) rfl (by omega) ?_
  refine am_ev.step (pc' := 35) rfl rfl ?_
  refine ax_call (z := 133) (p' := 38) (as := [_]) rfl (Or.inr (Or.inl ⟨_, rfl⟩)) rfl rfl rfl rfl rfl rfl (S.ob rfl) rfl H133 rfl ?_
  refine fx_z_ne_F (pF := 41) rfl (by omega) rfl (by omega) ?_
  refine am_ev.step (pc' := 42) rfl rfl ?_
  exact fx_reti rfl rfl rfl
theorem pl_132g (S : fS h) (v15 : h.2.2.2 40 15 = iv nr) (hnr : nr ≤ 14) (hi : i < nr) (hy : 1 ≤ y ∧ y ≤ 3) (H133 : am_ev (d + 5) 133 0 (am_ent [.ref 40] 3) [] h (some (iv 1), g)) (Sg : fS g) (hy1 : y = 1) (H134 : am_ev (d + 5) 134 0 (am_ent [.ref 40, iv i] 4) [] g (some (iv p), g)) (bp : 0 ≤ p ∧ p ≤ 1000) : am_ev (d + 6) 132 0 (am_ent [.ref 40, iv i, iv y] 3) [] h (some (iv (p + 1)), g) := by
  show am_ev (d + 6) 132 0 [.ref 40, iv ((i : Int)), iv (y)] [] h _
  refine am_ev.step (pc' := 1) rfl rfl ?_
  refine fx_z_lt_F (pF := 4) rfl (by omega) rfl (by omega) ?_
  refine am_ev.step (pc' := 5) rfl rfl ?_
  refine am_ev.step (pc' := 6) rfl rfl ?_
  refine ax_gf (p' := 9) rfl rfl (S.ob rfl) v15 ?_
  refine fx_c_ge_F (pF := 12) rfl (by omega) (by omega) rfl (by omega) ?_
  refine am_ev.step (pc' := 13) rfl rfl ?_
  refine fx_z_lt_F (pF := 16) rfl (by omega) rfl (by omega) ?_
  refine am_ev.step (pc' := 17) rfl rfl ?_
  refine am_ev.step (pc' := 18) rfl rfl ?_
  refine fx_c_le_T (pT := 23) rfl (by omega) (by omega) rfl (by omega) ?_
  refine am_ev.step (pc' := 24) rfl rfl ?_
  refine fx_z_ne_T (pT := 34) rfl (by omega) rfl (by omega) ?_
  refine am_ev.step (pc' := 35) rfl rfl ?_
  refine ax_call (z := 133) (p' := 38) (as := [_]) rfl (Or.inr (Or.inl ⟨_, rfl⟩)) rfl rfl rfl rfl rfl rfl (S.ob rfl) rfl H133 rfl ?_
  refine fx_z_ne_T (pT := 43) rfl (by omega) rfl (by omega) ?_
  refine am_ev.step (pc' := 44) rfl rfl ?_
  refine am_ev.step (pc' := 45) rfl rfl ?_
  refine fx_c_ne_F (pF := 48) rfl (by omega) (by omega) rfl (by omega) ?_
  refine am_ev.step (pc' := 49) rfl rfl ?_
  refine am_ev.step (pc' := 50) rfl rfl ?_
  refine ax_call (z := 134) (p' := 53) (as := [_, _]) rfl (Or.inr (Or.inl ⟨_, rfl⟩)) rfl rfl rfl rfl rfl rfl (Sg.ob rfl) rfl H134 rfl ?_
  refine am_ev.step (pc' := 54) rfl rfl ?_
  refine fx_add (p' := 55) (e := (p + 1)) rfl rfl (by omega) ?_
  exact fx_reti rfl rfl rfl
theorem pl_132h (S : fS h) (v15 : h.2.2.2 40 15 = iv nr) (hnr : nr ≤ 14) (hi : i < nr) (hy : 1 ≤ y ∧ y ≤ 3) (H133 : am_ev (d + 5) 133 0 (am_ent [.ref 40] 3) [] h (some (iv 1), g)) (Sg : fS g) (hy2 : y = 2) (v75 : g.2.2.2 75 i = iv r) (hr : r < 14) (v74 : g.2.2.2 74 r = .ref k) (Ok : am_isO g k 1 = true) (x5 : g.2.2.2 k 5 = iv v) : am_ev (d + 6) 132 0 (am_ent [.ref 40, iv i, iv y] 3) [] h (some (iv v), g) := by
  show am_ev (d + 6) 132 0 [.ref 40, iv ((i : Int)), iv (y)] [] h _
  refine am_ev.step (pc' := 1) rfl rfl ?_
  refine fx_z_lt_F (pF := 4) rfl (by omega) rfl (by omega) ?_
  refine am_ev.step (pc' := 5) rfl rfl ?_
  refine am_ev.step (pc' := 6) rfl rfl ?_
  refine ax_gf (p' := 9) rfl rfl (S.ob rfl) v15 ?_
  refine fx_c_ge_F (pF := 12) rfl (by omega) (by omega) rfl (by omega) ?_
  refine am_ev.step (pc' := 13) rfl rfl ?_
  refine fx_z_lt_F (pF := 16) rfl (by omega) rfl (by omega) ?_
  refine am_ev.step (pc' := 17) rfl rfl ?_
  refine am_ev.step (pc' := 18) rfl rfl ?_
  refine fx_c_le_T (pT := 23) rfl (by omega) (by omega) rfl (by omega) ?_
  refine am_ev.step (pc' := 24) rfl rfl ?_
  refine fx_z_ne_T (pT := 34) rfl (by omega) rfl (by omega) ?_
  refine am_ev.step (pc' := 35) rfl rfl ?_
  refine ax_call (z := 133) (p' := 38) (as := [_]) rfl (Or.inr (Or.inl ⟨_, rfl⟩)) rfl rfl rfl rfl rfl rfl (S.ob rfl) rfl H133 rfl ?_
  refine fx_z_ne_T (pT := 43) rfl (by omega) rfl (by omega) ?_
  refine am_ev.step (pc' := 44) rfl rfl ?_
  refine am_ev.step (pc' := 45) rfl rfl ?_
  refine fx_c_ne_T (pT := 56) rfl (by omega) (by omega) rfl (by omega) ?_
  refine am_ev.step (pc' := 57) rfl rfl ?_
  refine am_ev.step (pc' := 58) rfl rfl ?_
  refine fx_c_ne_F (pF := 61) rfl (by omega) (by omega) rfl (by omega) ?_
  refine am_ev.step (pc' := 62) rfl rfl ?_
  refine ax_gf (p' := 65) rfl rfl (Sg.ob rfl) (Sg.rf rfl rfl) ?_
  refine am_ev.step (pc' := 66) rfl rfl ?_
  refine ax_gf (p' := 69) rfl rfl (Sg.ob rfl) (Sg.rf rfl rfl) ?_
  refine am_ev.step (pc' := 70) rfl rfl ?_
  refine ax_iaload (p' := 71) rfl rfl (Sg.rd (k := i) rfl rfl rfl rfl rfl (by omega) v75) ?_
  refine ax_aaload (p' := 72) rfl rfl (Sg.rd (k := r) rfl rfl rfl rfl rfl (by omega) v74) ?_
  refine ax_gf (p' := 75) rfl rfl Ok x5 ?_
  refine am_ev.step (pc' := 92) rfl rfl ?_
  exact fx_reti rfl rfl rfl
theorem pl_132i (S : fS h) (v15 : h.2.2.2 40 15 = iv nr) (hnr : nr ≤ 14) (hi : i < nr) (hy : 1 ≤ y ∧ y ≤ 3) (H133 : am_ev (d + 5) 133 0 (am_ent [.ref 40] 3) [] h (some (iv 1), g)) (Sg : fS g) (hy3 : y = 3) (v75 : g.2.2.2 75 i = iv r) (hr : r < 14) (v74 : g.2.2.2 74 r = .ref k) (Ok : am_isO g k 1 = true) (x3 : g.2.2.2 k 3 = iv v) : am_ev (d + 6) 132 0 (am_ent [.ref 40, iv i, iv y] 3) [] h (some (iv v), g) := by
  show am_ev (d + 6) 132 0 [.ref 40, iv ((i : Int)), iv (y)] [] h _
  refine am_ev.step (pc' := 1) rfl rfl ?_
  refine fx_z_lt_F (pF := 4) rfl (by omega) rfl (by omega) ?_
  refine am_ev.step (pc' := 5) rfl rfl ?_
  refine am_ev.step (pc' := 6) rfl rfl ?_
  refine ax_gf (p' := 9) rfl rfl (S.ob rfl) v15 ?_
  refine fx_c_ge_F (pF := 12) rfl (by omega) (by omega) rfl (by omega) ?_
  refine am_ev.step (pc' := 13) rfl rfl ?_
  refine fx_z_lt_F (pF := 16) rfl (by omega) rfl (by omega) ?_
  refine am_ev.step (pc' := 17) rfl rfl ?_
  refine am_ev.step (pc' := 18) rfl rfl ?_
  refine fx_c_le_T (pT := 23) rfl (by omega) (by omega) rfl (by omega) ?_
  refine am_ev.step (pc' := 24) rfl rfl ?_
  refine fx_z_ne_T (pT := 34) rfl (by omega) rfl (by omega) ?_
  refine am_ev.step (pc' := 35) rfl rfl ?_
  refine ax_call (z := 133) (p' := 38) (as := [_]) rfl (Or.inr (Or.inl ⟨_, rfl⟩)) rfl rfl rfl rfl rfl rfl (S.ob rfl) rfl H133 rfl ?_
  refine fx_z_ne_T (pT := 43) rfl (by omega) rfl (by omega) ?_
  refine am_ev.step (pc' := 44) rfl rfl ?_
  refine am_ev.step (pc' := 45) rfl rfl ?_
  refine fx_c_ne_T (pT := 56) rfl (by omega) (by omega) rfl (by omega) ?_
  refine am_ev.step (pc' := 57) rfl rfl ?_
  refine am_ev.step (pc' := 58) rfl rfl ?_
  refine fx_c_ne_T (pT := 78) rfl (by omega) (by omega) rfl (by omega) ?_
  refine am_ev.step (pc' := 79) rfl rfl ?_
  refine ax_gf (p' := 82) rfl rfl (Sg.ob rfl) (Sg.rf rfl rfl) ?_
  refine am_ev.step (pc' := 83) rfl rfl ?_
  refine ax_gf (p' := 86) rfl rfl (Sg.ob rfl) (Sg.rf rfl rfl) ?_
  refine am_ev.step (pc' := 87) rfl rfl ?_
  refine ax_iaload (p' := 88) rfl rfl (Sg.rd (k := i) rfl rfl rfl rfl rfl (by omega) v75) ?_
  refine ax_aaload (p' := 89) rfl rfl (Sg.rd (k := r) rfl rfl rfl rfl rfl (by omega) v74) ?_
  refine ax_gf (p' := 92) rfl rfl Ok x3 ?_
  exact fx_reti rfl rfl rfl
theorem pl_134s (S : fS h) (v443 : h.2.2.2 44 3 = iv f) {x : Option Value × am_H} (q9 : am_ev (d + 1) 134 11 [.ref 40, iv ((i : Int)), iv (f), iv 0] [] h x) : am_ev (d + 1) 134 0 (am_ent [.ref 40, iv i] 4) [] h x := by
  show am_ev (d + 1) 134 0 [.ref 40, iv i, am_ph, am_ph] [] h _
  refine am_ev.step (pc' := 1) rfl rfl ?_
  refine ax_gf (p' := 4) rfl rfl (S.ob rfl) (S.rf rfl rfl) ?_
  refine am_ev.step (pc' := 5) rfl rfl ?_
  refine ax_call (z := 37) (p' := 8) (as := [_, _]) rfl (Or.inr (Or.inl ⟨_, rfl⟩)) rfl rfl rfl rfl rfl rfl (S.ob rfl) rfl (ru_37a (i := 3) S (by omega) v443) rfl ?_
  refine am_ev.step (pc' := 9) (ls' := [.ref 40, iv ((i : Int)), iv (f), am_ph]) rfl rfl ?_
  refine am_ev.step (pc' := 10) rfl rfl ?_
  refine am_ev.step (pc' := 11) (ls' := [.ref 40, iv ((i : Int)), iv (f), iv 0]) rfl rfl ?_
  exact q9
theorem pl_134e (S : fS h) (v15 : h.2.2.2 40 15 = iv nr) (hnr : nr ≤ 14) (hi : i ≤ nr) (bs : 0 ≤ s ∧ s ≤ 1000) (hj : j = i) : am_ev (d + 1) 134 11 [.ref 40, iv ((i : Int)), iv (s), iv ((j : Int))] [] h (some (iv s), h) := by
  refine am_ev.step (pc' := 12) rfl rfl ?_
  refine am_ev.step (pc' := 13) rfl rfl ?_
  refine fx_c_ge_T (pT := 47) rfl (by omega) (by omega) rfl (by omega) ?_
  refine am_ev.step (pc' := 48) rfl rfl ?_
  exact fx_reti rfl rfl rfl
theorem pl_134y (S : fS h) (v15 : h.2.2.2 40 15 = iv nr) (hnr : nr ≤ 14) (hi : i ≤ nr) (bs : 0 ≤ s ∧ s ≤ 1000) (hj : j < i) (v75 : h.2.2.2 75 j = iv r) (hr : r < 14) (v74 : h.2.2.2 74 r = .ref k) (Ok : am_isO h k 1 = true) (x5 : h.2.2.2 k 5 = iv v) (bv : -1 ≤ v ∧ v ≤ 30) {x : Option Value × am_H} (q9 : am_ev (d + 1) 134 11 [.ref 40, iv ((i : Int)), iv ((s + v)), iv ((j + 1 : Nat) : Int)] [] h x) : am_ev (d + 1) 134 11 [.ref 40, iv ((i : Int)), iv (s), iv ((j : Int))] [] h x := by
  refine am_ev.step (pc' := 12) rfl rfl ?_
  refine am_ev.step (pc' := 13) rfl rfl ?_
  refine fx_c_ge_F (pF := 16) rfl (by omega) (by omega) rfl (by omega) ?_
  refine am_ev.step (pc' := 17) rfl rfl ?_
  refine am_ev.step (pc' := 18) rfl rfl ?_
  refine ax_gf (p' := 21) rfl rfl (S.ob rfl) v15 ?_
  refine fx_c_ge_F (pF := 24) rfl (by omega) (by omega) rfl (by omega) ?_
  refine am_ev.step (pc' := 25) rfl rfl ?_
  refine am_ev.step (pc' := 26) rfl rfl ?_
  refine ax_gf (p' := 29) rfl rfl (S.ob rfl) (S.rf rfl rfl) ?_
  refine am_ev.step (pc' := 30) rfl rfl ?_
  refine ax_gf (p' := 33) rfl rfl (S.ob rfl) (S.rf rfl rfl) ?_
  refine am_ev.step (pc' := 34) rfl rfl ?_
  refine ax_iaload (p' := 35) rfl rfl (S.rd (k := j) rfl rfl rfl rfl rfl (by omega) v75) ?_
  refine ax_aaload (p' := 36) rfl rfl (S.rd (k := r) rfl rfl rfl rfl rfl (by omega) v74) ?_
  refine ax_gf (p' := 39) rfl rfl Ok x5 ?_
  refine fx_add (p' := 40) (e := (s + v)) rfl rfl (by omega) ?_
  refine am_ev.step (pc' := 41) (ls' := [.ref 40, iv ((i : Int)), iv (s + v), iv ((j : Int))]) rfl rfl ?_
  refine fx_inc (p' := 44) (e := ((j : Int) + 1)) (ls' := [.ref 40, iv ((i : Int)), iv (s + v), iv ((j : Int) + 1)]) rfl rfl rfl (by omega) rfl ?_
  refine am_ev.step (pc' := 11) rfl rfl ?_
  exact (rr_n ▸ q9)
theorem pl_249s {x : Option Value × am_H} (q9 : am_ev (d + 8) 249 2 [.ref 78, iv (-1), iv 0] [] g x) : am_ev (d + 8) 249 0 (am_ent [.ref 78, iv (-1)] 3) [] g x := by
  show am_ev (d + 8) 249 0 [.ref 78, iv (-1), am_ph] [] g _
  refine am_ev.step (pc' := 1) rfl rfl ?_
  refine am_ev.step (pc' := 2) (ls' := [.ref 78, iv (-1), iv 0]) rfl rfl ?_
  exact q9
theorem pl_249e (S : fS g) (v55 : g.2.2.2 78 55 = iv nr) (hnr : nr ≤ 14) (hj : j = nr) : am_ev (d + 8) 249 2 [.ref 78, iv (-1), iv ((j : Int))] [] g (some (iv 1), g) := by
  refine am_ev.step (pc' := 3) rfl rfl ?_
  refine am_ev.step (pc' := 4) rfl rfl ?_
  refine ax_gf (p' := 7) rfl rfl (S.ob rfl) v55 ?_
  refine fx_c_ge_T (pT := 41) rfl (by omega) (by omega) rfl (by omega) ?_
  refine am_ev.step (pc' := 42) rfl rfl ?_
  exact fx_reti rfl rfl rfl
theorem pl_249n (S : fS g) (v55 : g.2.2.2 78 55 = iv nr) (hnr : nr ≤ 14) (hj : j < nr) (v118 : g.2.2.2 118 j = iv r) (hr : r < 14) (v117 : g.2.2.2 117 r = iv q) (hq : q < 40) (H228 : am_ev (d + 7) 228 0 (am_ent [.ref 78, iv q] 3) [] g (some (iv 0), G)) (SG : fS G) : am_ev (d + 8) 249 2 [.ref 78, iv (-1), iv ((j : Int))] [] g (some (iv 0), G) := by
  refine am_ev.step (pc' := 3) rfl rfl ?_
  refine am_ev.step (pc' := 4) rfl rfl ?_
  refine ax_gf (p' := 7) rfl rfl (S.ob rfl) v55 ?_
  refine fx_c_ge_F (pF := 10) rfl (by omega) (by omega) rfl (by omega) ?_
  refine am_ev.step (pc' := 11) rfl rfl ?_
  refine am_ev.step (pc' := 12) rfl rfl ?_
  refine fx_c_eq_F (pF := 15) rfl (by omega) (by omega) rfl (by omega) ?_
  refine am_ev.step (pc' := 16) rfl rfl ?_
  refine am_ev.step (pc' := 17) rfl rfl ?_
  refine ax_gf (p' := 20) rfl rfl (S.ob rfl) (S.rf rfl rfl) ?_
  refine am_ev.step (pc' := 21) rfl rfl ?_
  refine ax_gf (p' := 24) rfl rfl (S.ob rfl) (S.rf rfl rfl) ?_
  refine am_ev.step (pc' := 25) rfl rfl ?_
  refine ax_iaload (p' := 26) rfl rfl (S.rd (k := j) rfl rfl rfl rfl rfl (by omega) v118) ?_
  refine ax_iaload (p' := 27) rfl rfl (S.rd (k := r) rfl rfl rfl rfl rfl (by omega) v117) ?_
  refine ax_call (z := 228) (p' := 30) (as := [_, _]) rfl (Or.inr (Or.inl ⟨_, rfl⟩)) rfl rfl rfl rfl rfl rfl (S.ob rfl) rfl H228 rfl ?_
  refine fx_z_ne_F (pF := 33) rfl (by omega) rfl (by omega) ?_
  refine am_ev.step (pc' := 34) rfl rfl ?_
  exact fx_reti rfl rfl rfl
theorem pl_249y (S : fS g) (v55 : g.2.2.2 78 55 = iv nr) (hnr : nr ≤ 14) (hj : j < nr) (v118 : g.2.2.2 118 j = iv r) (hr : r < 14) (v117 : g.2.2.2 117 r = iv q) (hq : q < 40) (H228 : am_ev (d + 7) 228 0 (am_ent [.ref 78, iv q] 3) [] g (some (iv 1), G)) (SG : fS G) {x : Option Value × am_H} (q9 : am_ev (d + 8) 249 2 [.ref 78, iv (-1), iv ((j + 1 : Nat) : Int)] [] G x) : am_ev (d + 8) 249 2 [.ref 78, iv (-1), iv ((j : Int))] [] g x := by
  refine am_ev.step (pc' := 3) rfl rfl ?_
  refine am_ev.step (pc' := 4) rfl rfl ?_
  refine ax_gf (p' := 7) rfl rfl (S.ob rfl) v55 ?_
  refine fx_c_ge_F (pF := 10) rfl (by omega) (by omega) rfl (by omega) ?_
  refine am_ev.step (pc' := 11) rfl rfl ?_
  refine am_ev.step (pc' := 12) rfl rfl ?_
  refine fx_c_eq_F (pF := 15) rfl (by omega) (by omega) rfl (by omega) ?_
  refine am_ev.step (pc' := 16) rfl rfl ?_
  refine am_ev.step (pc' := 17) rfl rfl ?_
  refine ax_gf (p' := 20) rfl rfl (S.ob rfl) (S.rf rfl rfl) ?_
  refine am_ev.step (pc' := 21) rfl rfl ?_
  refine ax_gf (p' := 24) rfl rfl (S.ob rfl) (S.rf rfl rfl) ?_
  refine am_ev.step (pc' := 25) rfl rfl ?_
  refine ax_iaload (p' := 26) rfl rfl (S.rd (k := j) rfl rfl rfl rfl rfl (by omega) v118) ?_
  refine ax_iaload (p' := 27) rfl rfl (S.rd (k := r) rfl rfl rfl rfl rfl (by omega) v117) ?_
  refine ax_call (z := 228) (p' := 30) (as := [_, _]) rfl (Or.inr (Or.inl ⟨_, rfl⟩)) rfl rfl rfl rfl rfl rfl (S.ob rfl) rfl H228 rfl ?_
  refine fx_z_ne_T (pT := 35) rfl (by omega) rfl (by omega) ?_
  refine fx_inc (p' := 38) (e := ((j : Int) + 1)) (ls' := [.ref 78, iv (-1), iv ((j : Int) + 1)]) rfl rfl rfl (by omega) rfl ?_
  refine am_ev.step (pc' := 2) rfl rfl ?_
  exact (rr_n ▸ q9)
theorem pl_248a (S : fS g) (v55 : g.2.2.2 78 55 = iv nr) (hnr : nr ≤ 14) (bx : -2147483648 ≤ x ∧ x ≤ 2147483647) (by_ : -2147483648 ≤ y ∧ y ≤ 2147483647) (H165 : am_ev (d + 8) 165 0 (am_ent [.long (Int32.ofInt x).toInt64, .long (Int64.ofNat 0), .long ((Int32.ofInt (nr : Int)).toInt64 - (Int64.ofNat 1))] 6) [] g (some (iv 0), g)) : am_ev (d + 9) 248 0 (am_ent [.ref 78, iv x, iv y] 5) [] g (some (iv (-1)), g) := by
  show am_ev (d + 9) 248 0 [.ref 78, iv (x), iv (y), am_ph, am_ph] [] g _
  refine am_ev.step (pc' := 1) rfl rfl ?_
  refine am_ev.step (pc' := 2) rfl rfl ?_
  refine am_ev.step (pc' := 3) rfl rfl ?_
  refine am_ev.step (pc' := 4) rfl rfl ?_
  refine ax_gf (p' := 7) rfl rfl (S.ob rfl) v55 ?_
  refine am_ev.step (pc' := 8) rfl rfl ?_
  refine am_ev.step (pc' := 9) rfl rfl ?_
  refine am_ev.step (pc' := 10) rfl rfl ?_
  refine ax_call (z := 165) (p' := 13) (as := [_, _, _]) rfl (Or.inl ⟨_, rfl⟩) rfl rfl rfl rfl rfl rfl rfl rfl H165 rfl ?_
  refine fx_z_ne_F (pF := 16) rfl (by omega) rfl (by omega) ?_
  refine am_ev.step (pc' := 17) rfl rfl ?_
  exact fx_reti rfl rfl rfl
theorem pl_248b (S : fS g) (v55 : g.2.2.2 78 55 = iv nr) (hnr : nr ≤ 14) (hi : i < nr) (by_ : -2147483648 ≤ y ∧ y ≤ 2147483647) (H165 : am_ev (d + 8) 165 0 (am_ent [.long (Int32.ofInt (i : Int)).toInt64, .long (Int64.ofNat 0), .long ((Int32.ofInt (nr : Int)).toInt64 - (Int64.ofNat 1))] 6) [] g (some (iv 1), g)) (hy : y = 0) (v118 : g.2.2.2 118 i = iv r) (hr : r < 14) : am_ev (d + 9) 248 0 (am_ent [.ref 78, iv i, iv y] 5) [] g (some (iv r), g) := by
  show am_ev (d + 9) 248 0 [.ref 78, iv ((i : Int)), iv (y), am_ph, am_ph] [] g _
  refine am_ev.step (pc' := 1) rfl rfl ?_
  refine am_ev.step (pc' := 2) rfl rfl ?_
  refine am_ev.step (pc' := 3) rfl rfl ?_
  refine am_ev.step (pc' := 4) rfl rfl ?_
  refine ax_gf (p' := 7) rfl rfl (S.ob rfl) v55 ?_
  refine am_ev.step (pc' := 8) rfl rfl ?_
  refine am_ev.step (pc' := 9) rfl rfl ?_
  refine am_ev.step (pc' := 10) rfl rfl ?_
  refine ax_call (z := 165) (p' := 13) (as := [_, _, _]) rfl (Or.inl ⟨_, rfl⟩) rfl rfl rfl rfl rfl rfl rfl rfl H165 rfl ?_
  refine fx_z_ne_T (pT := 18) rfl (by omega) rfl (by omega) ?_
  refine am_ev.step (pc' := 19) rfl rfl ?_
  refine fx_z_ne_F (pF := 22) rfl (by omega) rfl (by omega) ?_
  refine am_ev.step (pc' := 23) rfl rfl ?_
  refine ax_gf (p' := 26) rfl rfl (S.ob rfl) (S.rf rfl rfl) ?_
  refine am_ev.step (pc' := 27) rfl rfl ?_
  refine ax_iaload (p' := 28) rfl rfl (S.rd (k := i) rfl rfl rfl rfl rfl (by omega) v118) ?_
  exact fx_reti rfl rfl rfl
theorem pl_248c (S : fS g) (v55 : g.2.2.2 78 55 = iv nr) (hnr : nr ≤ 14) (hi : i < nr) (by_ : -2147483648 ≤ y ∧ y ≤ 2147483647) (H165 : am_ev (d + 8) 165 0 (am_ent [.long (Int32.ofInt (i : Int)).toInt64, .long (Int64.ofNat 0), .long ((Int32.ofInt (nr : Int)).toInt64 - (Int64.ofNat 1))] 6) [] g (some (iv 1), g)) (hy : y ≠ 0) (H165b : am_ev (d + 8) 165 0 (am_ent [.long (Int32.ofInt y).toInt64, .long (Int64.ofNat 1), .long (Int64.ofNat 3)] 6) [] g (some (iv 0), g)) : am_ev (d + 9) 248 0 (am_ent [.ref 78, iv i, iv y] 5) [] g (some (iv (-1)), g) := by
  show am_ev (d + 9) 248 0 [.ref 78, iv ((i : Int)), iv (y), am_ph, am_ph] [] g _
  refine am_ev.step (pc' := 1) rfl rfl ?_
  refine am_ev.step (pc' := 2) rfl rfl ?_
  refine am_ev.step (pc' := 3) rfl rfl ?_
  refine am_ev.step (pc' := 4) rfl rfl ?_
  refine ax_gf (p' := 7) rfl rfl (S.ob rfl) v55 ?_
  refine am_ev.step (pc' := 8) rfl rfl ?_
  refine am_ev.step (pc' := 9) rfl rfl ?_
  refine am_ev.step (pc' := 10) rfl rfl ?_
  refine ax_call (z := 165) (p' := 13) (as := [_, _, _]) rfl (Or.inl ⟨_, rfl⟩) rfl rfl rfl rfl rfl rfl rfl rfl H165 rfl ?_
  refine fx_z_ne_T (pT := 18) rfl (by omega) rfl (by omega) ?_
  refine am_ev.step (pc' := 19) rfl rfl ?_
  refine fx_z_ne_T (pT := 29) rfl (by omega) rfl (by omega) ?_
  refine am_ev.step (pc' := 30) rfl rfl ?_
  refine am_ev.step (pc' := 31) rfl rfl ?_
  refine am_ev.step (pc' := 32) rfl rfl ?_
  refine am_ev.step (pc' := 35) rfl rfl ?_
  refine ax_call (z := 165) (p' := 38) (as := [_, _, _]) rfl (Or.inl ⟨_, rfl⟩) rfl rfl rfl rfl rfl rfl rfl rfl H165b rfl ?_
  refine fx_z_eq_T (pT := 49) rfl (by omega) rfl (by omega) ?_
  refine am_ev.step (pc' := 50) rfl rfl ?_
  exact fx_reti rfl rfl rfl
theorem pl_248d (S : fS g) (v55 : g.2.2.2 78 55 = iv nr) (hnr : nr ≤ 14) (hi : i < nr) (by_ : -2147483648 ≤ y ∧ y ≤ 2147483647) (H165 : am_ev (d + 8) 165 0 (am_ent [.long (Int32.ofInt (i : Int)).toInt64, .long (Int64.ofNat 0), .long ((Int32.ofInt (nr : Int)).toInt64 - (Int64.ofNat 1))] 6) [] g (some (iv 1), g)) (hy : y ≠ 0) (H165b : am_ev (d + 8) 165 0 (am_ent [.long (Int32.ofInt y).toInt64, .long (Int64.ofNat 1), .long (Int64.ofNat 3)] 6) [] g (some (iv 1), g)) (H249 : am_ev (d + 8) 249 0 (am_ent [.ref 78, iv (-1)] 3) [] g (some (iv 0), G)) (SG : fS G) : am_ev (d + 9) 248 0 (am_ent [.ref 78, iv i, iv y] 5) [] g (some (iv (-1)), G) := by
  show am_ev (d + 9) 248 0 [.ref 78, iv ((i : Int)), iv (y), am_ph, am_ph] [] g _
  refine am_ev.step (pc' := 1) rfl rfl ?_
  refine am_ev.step (pc' := 2) rfl rfl ?_
  refine am_ev.step (pc' := 3) rfl rfl ?_
  refine am_ev.step (pc' := 4) rfl rfl ?_
  refine ax_gf (p' := 7) rfl rfl (S.ob rfl) v55 ?_
  refine am_ev.step (pc' := 8) rfl rfl ?_
  refine am_ev.step (pc' := 9) rfl rfl ?_
  refine am_ev.step (pc' := 10) rfl rfl ?_
  refine ax_call (z := 165) (p' := 13) (as := [_, _, _]) rfl (Or.inl ⟨_, rfl⟩) rfl rfl rfl rfl rfl rfl rfl rfl H165 rfl ?_
  refine fx_z_ne_T (pT := 18) rfl (by omega) rfl (by omega) ?_
  refine am_ev.step (pc' := 19) rfl rfl ?_
  refine fx_z_ne_T (pT := 29) rfl (by omega) rfl (by omega) ?_
  refine am_ev.step (pc' := 30) rfl rfl ?_
  refine am_ev.step (pc' := 31) rfl rfl ?_
  refine am_ev.step (pc' := 32) rfl rfl ?_
  refine am_ev.step (pc' := 35) rfl rfl ?_
  refine ax_call (z := 165) (p' := 38) (as := [_, _, _]) rfl (Or.inl ⟨_, rfl⟩) rfl rfl rfl rfl rfl rfl rfl rfl H165b rfl ?_
  refine fx_z_eq_F (pF := 41) rfl (by omega) rfl (by omega) ?_
  refine am_ev.step (pc' := 42) rfl rfl ?_
  refine am_ev.step (pc' := 43) rfl rfl ?_
  refine ax_call (z := 249) (p' := 46) (as := [_, _]) rfl (Or.inr (Or.inl ⟨_, rfl⟩)) rfl rfl rfl rfl rfl rfl (S.ob rfl) rfl H249 rfl ?_
  refine fx_z_ne_F (pF := 49) rfl (by omega) rfl (by omega) ?_
  refine am_ev.step (pc' := 50) rfl rfl ?_
  exact fx_reti rfl rfl rfl
variable {G2 : am_H}
theorem pl_248e (S : fS g) (v55 : g.2.2.2 78 55 = iv nr) (hnr : nr ≤ 14) (hi : i < nr) (by_ : -2147483648 ≤ y ∧ y ≤ 2147483647) (H165 : am_ev (d + 8) 165 0 (am_ent [.long (Int32.ofInt (i : Int)).toInt64, .long (Int64.ofNat 0), .long ((Int32.ofInt (nr : Int)).toInt64 - (Int64.ofNat 1))] 6) [] g (some (iv 1), g)) (hy : y ≠ 0) (H165b : am_ev (d + 8) 165 0 (am_ent [.long (Int32.ofInt y).toInt64, .long (Int64.ofNat 1), .long (Int64.ofNat 3)] 6) [] g (some (iv 1), g)) (H249 : am_ev (d + 8) 249 0 (am_ent [.ref 78, iv (-1)] 3) [] g (some (iv 1), G)) (SG : fS G) (v118 : G.2.2.2 118 i = iv r) (hr : r < 14) (v117 : G.2.2.2 117 r = iv q) (hq : q < 40) (hy2 : y = 2) (HC : am_ev (d + 8) 229 0 (am_ent [.ref 78, iv q] 3) [] G (some (iv v), G2)) (SG2 : fS G2) : am_ev (d + 9) 248 0 (am_ent [.ref 78, iv i, iv y] 5) [] g (some (iv v), G2) := by
  show am_ev (d + 9) 248 0 [.ref 78, iv ((i : Int)), iv (y), am_ph, am_ph] [] g _
  refine am_ev.step (pc' := 1) rfl rfl ?_
  refine am_ev.step (pc' := 2) rfl rfl ?_
  refine am_ev.step (pc' := 3) rfl rfl ?_
  refine am_ev.step (pc' := 4) rfl rfl ?_
  refine ax_gf (p' := 7) rfl rfl (S.ob rfl) v55 ?_
  refine am_ev.step (pc' := 8) rfl rfl ?_
  refine am_ev.step (pc' := 9) rfl rfl ?_
  refine am_ev.step (pc' := 10) rfl rfl ?_
  refine ax_call (z := 165) (p' := 13) (as := [_, _, _]) rfl (Or.inl ⟨_, rfl⟩) rfl rfl rfl rfl rfl rfl rfl rfl H165 rfl ?_
  refine fx_z_ne_T (pT := 18) rfl (by omega) rfl (by omega) ?_
  refine am_ev.step (pc' := 19) rfl rfl ?_
  refine fx_z_ne_T (pT := 29) rfl (by omega) rfl (by omega) ?_
  refine am_ev.step (pc' := 30) rfl rfl ?_
  refine am_ev.step (pc' := 31) rfl rfl ?_
  refine am_ev.step (pc' := 32) rfl rfl ?_
  refine am_ev.step (pc' := 35) rfl rfl ?_
  refine ax_call (z := 165) (p' := 38) (as := [_, _, _]) rfl (Or.inl ⟨_, rfl⟩) rfl rfl rfl rfl rfl rfl rfl rfl H165b rfl ?_
  refine fx_z_eq_F (pF := 41) rfl (by omega) rfl (by omega) ?_
  refine am_ev.step (pc' := 42) rfl rfl ?_
  refine am_ev.step (pc' := 43) rfl rfl ?_
  refine ax_call (z := 249) (p' := 46) (as := [_, _]) rfl (Or.inr (Or.inl ⟨_, rfl⟩)) rfl rfl rfl rfl rfl rfl (S.ob rfl) rfl H249 rfl ?_
  refine fx_z_ne_T (pT := 51) rfl (by omega) rfl (by omega) ?_
  refine am_ev.step (pc' := 52) rfl rfl ?_
  refine am_ev.step (pc' := 53) rfl rfl ?_
  refine fx_c_ne_F (pF := 56) rfl (by omega) (by omega) rfl (by omega) ?_
  refine am_ev.step (pc' := 57) rfl rfl ?_
  refine am_ev.step (pc' := 58) rfl rfl ?_
  refine ax_gf (p' := 61) rfl rfl (SG.ob rfl) (SG.rf rfl rfl) ?_
  refine am_ev.step (pc' := 62) rfl rfl ?_
  refine ax_gf (p' := 65) rfl rfl (SG.ob rfl) (SG.rf rfl rfl) ?_
  refine am_ev.step (pc' := 66) rfl rfl ?_
  refine ax_iaload (p' := 67) rfl rfl (SG.rd (k := i) rfl rfl rfl rfl rfl (by omega) v118) ?_
  refine ax_iaload (p' := 68) rfl rfl (SG.rd (k := r) rfl rfl rfl rfl rfl (by omega) v117) ?_
  refine ax_call (z := 229) (p' := 71) (as := [_, _]) rfl (Or.inr (Or.inl ⟨_, rfl⟩)) rfl rfl rfl rfl rfl rfl (SG.ob rfl) rfl HC rfl ?_
  exact fx_reti rfl rfl rfl
theorem pl_248f (S : fS g) (v55 : g.2.2.2 78 55 = iv nr) (hnr : nr ≤ 14) (hi : i < nr) (by_ : -2147483648 ≤ y ∧ y ≤ 2147483647) (H165 : am_ev (d + 8) 165 0 (am_ent [.long (Int32.ofInt (i : Int)).toInt64, .long (Int64.ofNat 0), .long ((Int32.ofInt (nr : Int)).toInt64 - (Int64.ofNat 1))] 6) [] g (some (iv 1), g)) (hy : y ≠ 0) (H165b : am_ev (d + 8) 165 0 (am_ent [.long (Int32.ofInt y).toInt64, .long (Int64.ofNat 1), .long (Int64.ofNat 3)] 6) [] g (some (iv 1), g)) (H249 : am_ev (d + 8) 249 0 (am_ent [.ref 78, iv (-1)] 3) [] g (some (iv 1), G)) (SG : fS G) (v118 : G.2.2.2 118 i = iv r) (hr : r < 14) (v117 : G.2.2.2 117 r = iv q) (hq : q < 40) (hy2 : y = 3) (HC : am_ev (d + 8) 230 0 (am_ent [.ref 78, iv q] 4) [] G (some (iv v), G2)) (SG2 : fS G2) : am_ev (d + 9) 248 0 (am_ent [.ref 78, iv i, iv y] 5) [] g (some (iv v), G2) := by
  show am_ev (d + 9) 248 0 [.ref 78, iv ((i : Int)), iv (y), am_ph, am_ph] [] g _
  refine am_ev.step (pc' := 1) rfl rfl ?_
  refine am_ev.step (pc' := 2) rfl rfl ?_
  refine am_ev.step (pc' := 3) rfl rfl ?_
  refine am_ev.step (pc' := 4) rfl rfl ?_
  refine ax_gf (p' := 7) rfl rfl (S.ob rfl) v55 ?_
  refine am_ev.step (pc' := 8) rfl rfl ?_
  refine am_ev.step (pc' := 9) rfl rfl ?_
  refine am_ev.step (pc' := 10) rfl rfl ?_
  refine ax_call (z := 165) (p' := 13) (as := [_, _, _]) rfl (Or.inl ⟨_, rfl⟩) rfl rfl rfl rfl rfl rfl rfl rfl H165 rfl ?_
  refine fx_z_ne_T (pT := 18) rfl (by omega) rfl (by omega) ?_
  refine am_ev.step (pc' := 19) rfl rfl ?_
  refine fx_z_ne_T (pT := 29) rfl (by omega) rfl (by omega) ?_
  refine am_ev.step (pc' := 30) rfl rfl ?_
  refine am_ev.step (pc' := 31) rfl rfl ?_
  refine am_ev.step (pc' := 32) rfl rfl ?_
  refine am_ev.step (pc' := 35) rfl rfl ?_
  refine ax_call (z := 165) (p' := 38) (as := [_, _, _]) rfl (Or.inl ⟨_, rfl⟩) rfl rfl rfl rfl rfl rfl rfl rfl H165b rfl ?_
  refine fx_z_eq_F (pF := 41) rfl (by omega) rfl (by omega) ?_
  refine am_ev.step (pc' := 42) rfl rfl ?_
  refine am_ev.step (pc' := 43) rfl rfl ?_
  refine ax_call (z := 249) (p' := 46) (as := [_, _]) rfl (Or.inr (Or.inl ⟨_, rfl⟩)) rfl rfl rfl rfl rfl rfl (S.ob rfl) rfl H249 rfl ?_
  refine fx_z_ne_T (pT := 51) rfl (by omega) rfl (by omega) ?_
  refine am_ev.step (pc' := 52) rfl rfl ?_
  refine am_ev.step (pc' := 53) rfl rfl ?_
  refine fx_c_ne_T (pT := 72) rfl (by omega) (by omega) rfl (by omega) ?_
  refine am_ev.step (pc' := 73) rfl rfl ?_
  refine am_ev.step (pc' := 74) rfl rfl ?_
  refine fx_c_ne_F (pF := 77) rfl (by omega) (by omega) rfl (by omega) ?_
  refine am_ev.step (pc' := 78) rfl rfl ?_
  refine am_ev.step (pc' := 79) rfl rfl ?_
  refine ax_gf (p' := 82) rfl rfl (SG.ob rfl) (SG.rf rfl rfl) ?_
  refine am_ev.step (pc' := 83) rfl rfl ?_
  refine ax_gf (p' := 86) rfl rfl (SG.ob rfl) (SG.rf rfl rfl) ?_
  refine am_ev.step (pc' := 87) rfl rfl ?_
  refine ax_iaload (p' := 88) rfl rfl (SG.rd (k := i) rfl rfl rfl rfl rfl (by omega) v118) ?_
  refine ax_iaload (p' := 89) rfl rfl (SG.rd (k := r) rfl rfl rfl rfl rfl (by omega) v117) ?_
  refine ax_call (z := 230) (p' := 92) (as := [_, _]) rfl (Or.inr (Or.inl ⟨_, rfl⟩)) rfl rfl rfl rfl rfl rfl (SG.ob rfl) rfl HC rfl ?_
  exact fx_reti rfl rfl rfl
theorem pl_248g (S : fS g) (v55 : g.2.2.2 78 55 = iv nr) (hnr : nr ≤ 14) (hi : i < nr) (by_ : -2147483648 ≤ y ∧ y ≤ 2147483647) (H165 : am_ev (d + 8) 165 0 (am_ent [.long (Int32.ofInt (i : Int)).toInt64, .long (Int64.ofNat 0), .long ((Int32.ofInt (nr : Int)).toInt64 - (Int64.ofNat 1))] 6) [] g (some (iv 1), g)) (hy : y ≠ 0) (H165b : am_ev (d + 8) 165 0 (am_ent [.long (Int32.ofInt y).toInt64, .long (Int64.ofNat 1), .long (Int64.ofNat 3)] 6) [] g (some (iv 1), g)) (H249 : am_ev (d + 8) 249 0 (am_ent [.ref 78, iv (-1)] 3) [] g (some (iv 1), G)) (SG : fS G) (hy2 : y = 1) (v813 : G.2.2.2 81 3 = iv f) (bf : 0 ≤ f ∧ f ≤ 30) {x : Option Value × am_H} (q9 : am_ev (d + 9) 248 105 [.ref 78, iv ((i : Int)), iv (y), iv (f + 1), iv 0] [] G x) : am_ev (d + 9) 248 0 (am_ent [.ref 78, iv i, iv y] 5) [] g x := by
  show am_ev (d + 9) 248 0 [.ref 78, iv ((i : Int)), iv (y), am_ph, am_ph] [] g _
  refine am_ev.step (pc' := 1) rfl rfl ?_
  refine am_ev.step (pc' := 2) rfl rfl ?_
  refine am_ev.step (pc' := 3) rfl rfl ?_
  refine am_ev.step (pc' := 4) rfl rfl ?_
  refine ax_gf (p' := 7) rfl rfl (S.ob rfl) v55 ?_
  refine am_ev.step (pc' := 8) rfl rfl ?_
  refine am_ev.step (pc' := 9) rfl rfl ?_
  refine am_ev.step (pc' := 10) rfl rfl ?_
  refine ax_call (z := 165) (p' := 13) (as := [_, _, _]) rfl (Or.inl ⟨_, rfl⟩) rfl rfl rfl rfl rfl rfl rfl rfl H165 rfl ?_
  refine fx_z_ne_T (pT := 18) rfl (by omega) rfl (by omega) ?_
  refine am_ev.step (pc' := 19) rfl rfl ?_
  refine fx_z_ne_T (pT := 29) rfl (by omega) rfl (by omega) ?_
  refine am_ev.step (pc' := 30) rfl rfl ?_
  refine am_ev.step (pc' := 31) rfl rfl ?_
  refine am_ev.step (pc' := 32) rfl rfl ?_
  refine am_ev.step (pc' := 35) rfl rfl ?_
  refine ax_call (z := 165) (p' := 38) (as := [_, _, _]) rfl (Or.inl ⟨_, rfl⟩) rfl rfl rfl rfl rfl rfl rfl rfl H165b rfl ?_
  refine fx_z_eq_F (pF := 41) rfl (by omega) rfl (by omega) ?_
  refine am_ev.step (pc' := 42) rfl rfl ?_
  refine am_ev.step (pc' := 43) rfl rfl ?_
  refine ax_call (z := 249) (p' := 46) (as := [_, _]) rfl (Or.inr (Or.inl ⟨_, rfl⟩)) rfl rfl rfl rfl rfl rfl (S.ob rfl) rfl H249 rfl ?_
  refine fx_z_ne_T (pT := 51) rfl (by omega) rfl (by omega) ?_
  refine am_ev.step (pc' := 52) rfl rfl ?_
  refine am_ev.step (pc' := 53) rfl rfl ?_
  refine fx_c_ne_T (pT := 72) rfl (by omega) (by omega) rfl (by omega) ?_
  refine am_ev.step (pc' := 73) rfl rfl ?_
  refine am_ev.step (pc' := 74) rfl rfl ?_
  refine fx_c_ne_T (pT := 93) rfl (by omega) (by omega) rfl (by omega) ?_
  refine am_ev.step (pc' := 94) rfl rfl ?_
  refine ax_gf (p' := 97) rfl rfl (SG.ob rfl) (SG.rf rfl rfl) ?_
  refine am_ev.step (pc' := 98) rfl rfl ?_
  refine ax_iaload (p' := 99) rfl rfl (SG.rd (k := 3) rfl rfl rfl rfl rfl (by decide) v813) ?_
  refine am_ev.step (pc' := 100) rfl rfl ?_
  refine fx_add (p' := 101) (e := (f + 1)) rfl rfl (by omega) ?_
  refine am_ev.step (pc' := 102) (ls' := [.ref 78, iv ((i : Int)), iv (y), iv (f + 1), am_ph]) rfl rfl ?_
  refine am_ev.step (pc' := 103) rfl rfl ?_
  refine am_ev.step (pc' := 105) (ls' := [.ref 78, iv ((i : Int)), iv (y), iv (f + 1), iv 0]) rfl rfl ?_
  exact q9
theorem pl_248h (S : fS g) (hi : i ≤ 14) (bs : 0 ≤ s ∧ s ≤ 1000) (hj : j = i) : am_ev (d + 9) 248 105 [.ref 78, iv ((i : Int)), iv (y), iv (s), iv ((j : Int))] [] g (some (iv s), g) := by
  refine am_ev.step (pc' := 107) rfl rfl ?_
  refine am_ev.step (pc' := 108) rfl rfl ?_
  refine fx_c_ge_T (pT := 136) rfl (by omega) (by omega) rfl (by omega) ?_
  refine am_ev.step (pc' := 137) rfl rfl ?_
  exact fx_reti rfl rfl rfl
theorem pl_248i (S : fS g) (hi : i ≤ 14) (bs : 0 ≤ s ∧ s ≤ 1000) (hj : j < i) (v118 : g.2.2.2 118 j = iv r) (hr : r < 14) (v117 : g.2.2.2 117 r = iv q) (hq : q < 40) (H229 : am_ev (d + 8) 229 0 (am_ent [.ref 78, iv q] 3) [] g (some (iv v), G)) (SG : fS G) (bv : -1 ≤ v ∧ v ≤ 30) {x : Option Value × am_H} (q9 : am_ev (d + 9) 248 105 [.ref 78, iv ((i : Int)), iv (y), iv ((s + v)), iv ((j + 1 : Nat) : Int)] [] G x) : am_ev (d + 9) 248 105 [.ref 78, iv ((i : Int)), iv (y), iv (s), iv ((j : Int))] [] g x := by
  refine am_ev.step (pc' := 107) rfl rfl ?_
  refine am_ev.step (pc' := 108) rfl rfl ?_
  refine fx_c_ge_F (pF := 111) rfl (by omega) (by omega) rfl (by omega) ?_
  refine am_ev.step (pc' := 112) rfl rfl ?_
  refine am_ev.step (pc' := 113) rfl rfl ?_
  refine am_ev.step (pc' := 114) rfl rfl ?_
  refine ax_gf (p' := 117) rfl rfl (S.ob rfl) (S.rf rfl rfl) ?_
  refine am_ev.step (pc' := 118) rfl rfl ?_
  refine ax_gf (p' := 121) rfl rfl (S.ob rfl) (S.rf rfl rfl) ?_
  refine am_ev.step (pc' := 123) rfl rfl ?_
  refine ax_iaload (p' := 124) rfl rfl (S.rd (k := j) rfl rfl rfl rfl rfl (by omega) v118) ?_
  refine ax_iaload (p' := 125) rfl rfl (S.rd (k := r) rfl rfl rfl rfl rfl (by omega) v117) ?_
  refine ax_call (z := 229) (p' := 128) (as := [_, _]) rfl (Or.inr (Or.inl ⟨_, rfl⟩)) rfl rfl rfl rfl rfl rfl (S.ob rfl) rfl H229 rfl ?_
  refine fx_add (p' := 129) (e := (s + v)) rfl rfl (by omega) ?_
  refine am_ev.step (pc' := 130) (ls' := [.ref 78, iv ((i : Int)), iv (y), iv (s + v), iv ((j : Int))]) rfl rfl ?_
  refine fx_inc (p' := 133) (e := ((j : Int) + 1)) (ls' := [.ref 78, iv ((i : Int)), iv (y), iv (s + v), iv ((j : Int) + 1)]) rfl rfl rfl (by omega) rfl ?_
  refine am_ev.step (pc' := 105) rfl rfl ?_
  exact (rr_n ▸ q9)
end PLM
