/-! WHAT A POEM MAY, by the heap's rows -/
def mvD (h : am_H) (P e : Int) : Int := dl (fun i => (gI (h.2.2.2 114 i)).toInt) (fun i => (gI (h.2.2.2 115 i)).toInt) (fun i => (gI (h.2.2.2 116 i)).toInt) P e (gI (h.2.2.2 78 36)).toInt.toNat
/-- the lands in which it is free -/
def mvF (h : am_H) (q : Nat) (b e : Int) : Int32 := fls (dt (mvD h (gI (h.2.2.2 86 q)).toInt e) (mvD h (gI (h.2.2.2 90 q)).toInt e) (gI (h.2.2.2 90 q)).toInt) b (fun j => (gI (h.2.2.2 82 j)).toInt)
/-- its leave -/
def mvK (h : am_H) (q : Nat) (e : Int) : Int := la (fun i => gI (h.2.2.2 103 i)) (fun i => gI (h.2.2.2 111 i)) (Int32.ofInt (q : Int)) (Int32.ofInt e) (gI (h.2.2.2 78 35)).toInt.toNat
/-- what a leave grants -/
def mvG (h : am_H) (κ : Nat) (b e : Int) : Int32 := if ((gI (h.2.2.2 113 κ)).toInt ≠ -1 ∧ (gI (h.2.2.2 113 κ)).toInt ≤ e ∧ (gI (h.2.2.2 112 κ)).toInt ≤ b) ∨ (gI (h.2.2.2 105 κ)).toInt < b then Int32.ofInt 0 else gI (h.2.2.2 104 κ)
/-- what is granted -/
def mvO (h : am_H) (q : Nat) (b e : Int) : Int32 := if mvK h q e = -1 then Int32.ofInt 0 else mvG h (mvK h q e).toNat b e
def mvM (h : am_H) (q : Nat) (b e : Int) (l : Nat) : Int := if bt (mvF h q b e) l = true then 2 else if bt (mvO h q b e) l = true then 1 else 0
def mvX (h : am_H) (q s : Nat) (b e : Int) (d : Nat) : Prop := am_ev (d + 1) 93 0 (am_ent [.ref 48, .ref s, .ref 43, iv b, iv e] 8) [] h (some (.int (mvF h q b e)), h) ∧ am_ev d 96 0 (am_ent [.ref 48, iv q, iv e] 4) [] h (some (iv (mvK h q e)), h) ∧ (-1 ≤ mvK h q e ∧ mvK h q e < 80) ∧ (mvK h q e = -1 → am_ev d 87 0 (am_ent [.ref 48, iv (mvK h q e)] 2) [] h (some .null, h)) ∧ (∀ κ : Nat, mvK h q e = (κ : Int) → ∃ s' : Nat, h.2.2.2 49 κ = .ref s' ∧ cq_kOk h s' (0, 4, 0) ∧ (∀ j, 2 ≤ j → j ≤ 8 → h.2.2.2 s' j = h.2.2.2 (102 + j) κ) ∧ am_ev d 87 0 (am_ent [.ref 48, iv (mvK h q e)] 2) [] h (some (.ref s'), h) ∧ am_ev d 97 0 (am_ent [.ref s', iv b, iv e] 4) [] h (some (.int (mvO h q b e)), h)) ∧ am_ev d 222 0 (am_ent [.ref 78, iv q, iv e] 5) [] h (some (iv (mvK h q e)), h) ∧ ∀ l : Nat, l < 6 → am_ev (d + 1) 220 0 (am_ent [.ref 78, iv q, iv l, iv b, iv e] 6) [] h (some (iv (mvM h q b e l)), h)
theorem gI_iv {v : Value} {x : Int} (e : v = iv x) (b : -2147483648 ≤ x ∧ x ≤ 2147483647) : (gI v).toInt = x := by
  rw [e]
  exact fx_ti b
theorem gI_of {v : Value} {x : Int32} (e : v = .int x) : gI v = x := by
  rw [e]
  rfl
section MVX
variable {h : am_H} {d : Nat}
theorem mvx (I : cq_Inv none h) (X : rT h) (P : rp_P h) (R : rL h) (XB : rbV h) (Dr : rD h) {q s : Nat} {b e : Int} (qb : 0 ≤ b ∧ b ≤ 29999) (qe : 0 ≤ e ∧ e ≤ 29999) {pm : Int32} (m1 : h.2.2.2 40 8 = .int pm) (hq : (q : Int) < pm.toInt) (s1 : h.2.2.2 73 q = .ref s) : mvX h q s b e d := by
  have S := fS.of I
  have O48 := ax_o I (c := 48) (k := 7) (by decide +kernel)
  have v0 := ax_rf I (c := 48) (j := 0) (k := 49) (by decide +kernel) (by decide +kernel)
  have A49 := ax_ar I (c := 49) (tc := 8) (n := 80) (by decide) (by decide +kernel)
  have rb : -2147483648 ≤ b ∧ b ≤ 2147483647 := by omega
  have re : -2147483648 ≤ e ∧ e ≤ 2147483647 := by omega
  have bp := rp_bm I m1
  obtain ⟨pm', m1', m2, PP, PD⟩ := P
  rw [m1] at m1'
  cases m1'
  obtain ⟨s', t, w, s1', v0', g86, v4, g90⟩ := PP q (by omega)
  rw [s1] at s1'
  cases s1'
  have Os := ax_kO (rp_obj I (p := q) (by omega) s1)
  have rt := i_rng t
  have rw_ := i_rng w
  have eT : gI (h.2.2.2 86 q) = t := gI_of g86
  have eW : gI (h.2.2.2 90 q) = w := gI_of g90
  have v0' := v0'.trans (fx_of t)
  have g86 := g86.trans (fx_of t)
  have v4 := v4.trans (fx_of w)
  have g90 := g90.trans (fx_of w)
  obtain ⟨V, Yr0, BV, -, gr0⟩ := XB
  obtain ⟨Yr, eY⟩ : ∃ Yr : Nat → Int, Yr = fun j => (gI (h.2.2.2 82 j)).toInt := ⟨_, rfl⟩
  have yq : ∀ j, j < 6 → Yr j = Yr0 j := fun j hj => by
    have y := BV.2 j hj
    rw [eY]
    exact gI_iv ((X.2.2 j hj).symm.trans (gr0 j hj)) (by omega)
  have gr : ∀ j, j < 6 → h.2.2.2 45 j = iv (Yr j) := fun j hj => by rw [yq j hj]; exact gr0 j hj
  have gr2 : ∀ j, j < 6 → h.2.2.2 82 j = iv (Yr j) := fun j hj => (X.2.2 j hj).symm.trans (gr j hj)
  have bY : ∀ j, j < 6 → 0 ≤ Yr j ∧ Yr j ≤ 99 := fun j hj => by rw [yq j hj]; exact BV.2 j hj
  obtain ⟨n, X0, Z0, Y0, hn, w5, w36, B0, K0⟩ := Dr
  obtain ⟨X1, eX⟩ : ∃ X1 : Nat → Int, X1 = fun i => (gI (h.2.2.2 114 i)).toInt := ⟨_, rfl⟩
  obtain ⟨Z1, eZ⟩ : ∃ Z1 : Nat → Int, Z1 = fun i => (gI (h.2.2.2 115 i)).toInt := ⟨_, rfl⟩
  obtain ⟨Y1, eY1⟩ : ∃ Y1 : Nat → Int, Y1 = fun i => (gI (h.2.2.2 116 i)).toInt := ⟨_, rfl⟩
  have qX : ∀ i, i < n → X1 i = X0 i ∧ Z1 i = Z0 i ∧ Y1 i = Y0 i := fun i hi => by
    have y := B0 i hi
    have k := K0 i hi
    rw [eX, eZ, eY1]
    exact ⟨gI_iv k.2.2.2.1 (by omega), gI_iv k.2.2.2.2.1 (by omega), gI_iv k.2.2.2.2.2 (by omega)⟩
  have B : dB X1 Z1 Y1 n := fun i hi => by
    obtain ⟨a1, a2, a3⟩ := qX i hi
    rw [a1, a2, a3]
    exact B0 i hi
  have K : ∀ i, i < n → rD1 h X1 Z1 Y1 i := fun i hi => by
    obtain ⟨a1, a2, a3⟩ := qX i hi
    unfold rD1
    rw [a1, a2, a3]
    exact K0 i hi
  have eN : (gI (h.2.2.2 78 36)).toInt.toNat = n := by
    rw [gI_iv w36 (by omega)]
    omega
  have eD : ∀ P : Int, mvD h P e = dl X1 Z1 Y1 P e n := fun P => by
    unfold mvD
    rw [eN, eX, eZ, eY1]
  have e94 := fun P rP => dt_94 (d := d) (P := P) S rP re w5 hn B (fun i hi => (K i hi).1) (fun i hi => (K i hi).2.1) (fun i hi => (K i hi).2.2.1)
  have bf := dl_b (P := t.toInt) (D := e) n B
  have bg := dl_b (P := w.toInt) (D := e) n B
  have e93 := dt_93 (d := d) S Os rt rw_ rb gr bY v0' v4 bf bg (e94 t.toInt rt) (e94 w.toInt rw_)
  have eF : mvF h q b e = fls (dt (dl X1 Z1 Y1 t.toInt e n) (dl X1 Z1 Y1 w.toInt e n) w.toInt) b Yr := by
    unfold mvF
    rw [eT, eW, eD, eD, eY]
  have e221t := fun (l : Nat) (hl6 : l < 6) P rP q => dt_221t (d := d) (P := P) S rP re rb w36 hn B (fun i hi => (K i hi).2.2.2.1) (fun i hi => (K i hi).2.2.2.2.1) (fun i hi => (K i hi).2.2.2.2.2) hl6 gr2 bY q
  have e221f := fun (l : Nat) (hl6 : l < 6) P rP q => dt_221f (d := d) (P := P) S rP re rb w36 hn B (fun i hi => (K i hi).2.2.2.1) (fun i hi => (K i hi).2.2.2.2.1) (fun i hi => (K i hi).2.2.2.2.2) hl6 gr2 bY q
  obtain ⟨m, n1, n2, RP, RD⟩ := R
  have bm := rL_bm I n1
  obtain ⟨k, hk⟩ : ∃ k : Nat, m.toInt.toNat = k := ⟨_, rfl⟩
  have G : ∀ i, i < k → ∃ s, h.2.2.2 49 i = .ref s ∧ am_isO h s 4 = true ∧ h.2.2.2 s 0 = .int (gI (h.2.2.2 103 i)) ∧ h.2.2.2 s 1 = .int (gI (h.2.2.2 111 i)) := fun i hi => by
    obtain ⟨s, z1, z2, z3, -⟩ := RP i (by omega)
    have ko := rL_ob I (k := i) (by omega) z1
    obtain ⟨x, ex⟩ := lf_i0 I ko
    obtain ⟨y, ey⟩ := lf_i1 I ko
    refine ⟨s, z1, ax_kO ko, ?_, ?_⟩
    · rw [← z2, ex]
      rfl
    · rw [← z3, ey]
      rfl
  have G1 : ∀ i, i < k → h.2.2.2 103 i = .int (gI (h.2.2.2 103 i)) ∧ h.2.2.2 111 i = .int (gI (h.2.2.2 111 i)) := fun i hi => by
    obtain ⟨s, z1, z2, z3, -⟩ := RP i (by omega)
    obtain ⟨s', y1, -, y2, y3⟩ := G i hi
    rw [z1] at y1
    cases y1
    exact ⟨by rw [← y2, z2], by rw [← y3, z3]⟩
  have e96 := go_96 (X := fun i => gI (h.2.2.2 103 i)) (Y := fun i => gI (h.2.2.2 111 i)) (P := Int32.ofInt (q : Int)) (D := Int32.ofInt e) (n := k) (d := d) S (iv_nat n1 bm.1 hk) (by omega) G
  have e222 := go_222 (X := fun i => gI (h.2.2.2 103 i)) (Y := fun i => gI (h.2.2.2 111 i)) (P := Int32.ofInt (q : Int)) (D := Int32.ofInt e) (m := k) (d := d) S (iv_nat n2 bm.1 hk) (by omega) G1
  have bK := la_b (fun i => gI (h.2.2.2 103 i)) (fun i => gI (h.2.2.2 111 i)) (Int32.ofInt (q : Int)) (Int32.ofInt e) k
  have eK : mvK h q e = la (fun i => gI (h.2.2.2 103 i)) (fun i => gI (h.2.2.2 111 i)) (Int32.ofInt (q : Int)) (Int32.ofInt e) k := by
    unfold mvK
    rw [gI_of n2, hk]
  rw [← eK] at e96 e222 bK
  have hq40 : q < 40 := by omega
  have LV : ∀ κ : Nat, mvK h q e = (κ : Int) → ∃ s' : Nat, ∃ x2 x12 x13 x3 : Int32, h.2.2.2 49 κ = .ref s' ∧ cq_kOk h s' (0, 4, 0) ∧ (∀ j, 2 ≤ j → j ≤ 8 → h.2.2.2 s' j = h.2.2.2 (102 + j) κ) ∧ am_ev d 87 0 (am_ent [.ref 48, iv (mvK h q e)] 2) [] h (some (.ref s'), h) ∧ am_ev d 97 0 (am_ent [.ref s', iv b, iv e] 4) [] h (some (.int (mvO h q b e)), h) ∧ h.2.2.2 104 κ = .int x2 ∧ h.2.2.2 105 κ = iv x3.toInt ∧ h.2.2.2 113 κ = iv x13.toInt ∧ h.2.2.2 112 κ = iv x12.toInt ∧ mvO h q b e = (if (x13.toInt ≠ -1 ∧ x13.toInt ≤ e ∧ x12.toInt ≤ b) ∨ x3.toInt < b then Int32.ofInt 0 else x2) := fun κ hK => by
    obtain ⟨s', y1, y2, y3, yj, y9⟩ := RP κ (by omega)
    have ko := rL_ob I (k := κ) (by omega) y1
    have Os' := ax_kO ko
    obtain ⟨x2, ex2⟩ := lf_i2 I ko
    obtain ⟨x3, ex3⟩ := lf_i3 I ko
    obtain ⟨x9, ex9⟩ := lf_i9 I ko
    obtain ⟨x10, ex10⟩ := lf_i10 I ko
    obtain ⟨x12, ex12⟩ := ru_int I (c := 112) (n := 81) (j := κ) (by decide +kernel) (by decide +kernel) (by decide +kernel) (by omega)
    obtain ⟨x13, ex13⟩ := ru_int I (c := 113) (n := 81) (j := κ) (by decide +kernel) (by decide +kernel) (by decide +kernel) (by omega)
    have gL := (yj 2 (by decide) (by decide)).symm.trans ex2
    have gu := ((yj 3 (by decide) (by decide)).symm.trans ex3)
    have rel : (x9.toInt = -1 ∧ x13.toInt = -1) ∨ (0 ≤ x9.toInt ∧ 0 ≤ x10.toInt ∧ x12.toInt = x9.toInt ∧ x13.toInt = x10.toInt) := by
      have m1 : (Int32.ofInt (-1)).toInt = -1 := by decide
      rcases y9 with ⟨u1, u2⟩ | ⟨u, v, ub, vb, u1, u2, u3, u4⟩
      · rw [ex9] at u1
        rw [ex13] at u2
        cases u1
        cases u2
        exact Or.inl ⟨m1, m1⟩
      · rw [ex9] at u1
        rw [ex12] at u2
        rw [ex10] at u3
        rw [ex13] at u4
        cases u1
        cases u2
        cases u3
        cases u4
        exact Or.inr ⟨ub, vb, rfl, rfl⟩
    have rd : am_rd h 49 (Int32.ofInt (κ : Int)) (fun c => Nat.ble 4 c && am_isA c) = some (.ref s') := by
      have z := fx_ti (e := (κ : Int)) (by omega)
      rw [ax_rdv A49.1 A49.2 (by decide) (by decide +kernel) (by omega) (by omega), z, Int.toNat_natCast, y1]
    have e87 := go_87t (d := d) (p := Int32.ofInt (κ : Int)) O48 n1 v0 (by rw [fx_ti (by omega)]; omega) rd
    have e97 := dt_97 (d := d) S Os' (i_rng x9) (i_rng x10) (i_rng x3) rb re (ex9.trans (fx_of x9)) (ex10.trans (fx_of x10)) (ex3.trans (fx_of x3)) ex2
    have eO : mvO h q b e = (if (x13.toInt ≠ -1 ∧ x13.toInt ≤ e ∧ x12.toInt ≤ b) ∨ x3.toInt < b then Int32.ofInt 0 else x2) := by
      unfold mvO
      rw [if_neg (by omega), hK, Int.toNat_natCast]
      unfold mvG
      rw [gI_of ex13, gI_of ex12, gI_of gu, gI_of gL]
    have eG : gls x9.toInt x10.toInt x3.toInt b e x2 = mvO h q b e := by
      rw [eO]
      unfold gls
      by_cases c1 : (x9.toInt ≠ -1 ∧ x10.toInt ≤ e ∧ x9.toInt ≤ b) ∨ x3.toInt < b
      · rw [if_pos c1, if_pos (by omega)]
      · rw [if_neg c1, if_neg (by omega)]
    rw [eG] at e97
    rw [← hK] at e87
    exact ⟨s', x2, x12, x13, x3, y1, ko, yj, e87, e97, gL, gu.trans (fx_of x3), ex13.trans (fx_of x13), ex12.trans (fx_of x12), eO⟩
  refine ⟨by rw [eF]; exact e93, e96, by omega, fun hK => ?_, fun κ hK => ?_, e222, fun l hl6 => ?_⟩
  · rw [hK]
    exact go_87f (d := d) (p := Int32.ofInt (-1)) O48 n1 (by rw [fx_ti (by omega)]; omega)
  · obtain ⟨s', x2, x12, x13, x3, z1, z2, z3, z4, z5, -⟩ := LV κ hK
    exact ⟨s', z1, z2, z3, z4, z5⟩
  · have FB := fls_bt (dy := b) (Yr := Yr) (w := w.toInt) (l := l) bf bg hl6
    rw [← eF] at FB
    by_cases hF : (dl X1 Z1 Y1 t.toInt e n ≠ -1 ∧ dl X1 Z1 Y1 t.toInt e n + 365 * Yr l ≤ b) ∧ (w.toInt = -1 ∨ (dl X1 Z1 Y1 w.toInt e n ≠ -1 ∧ dl X1 Z1 Y1 w.toInt e n + 365 * Yr l ≤ b))
    · rw [show mvM h q b e l = 2 from if_pos (FB.2 hF)]
      by_cases qw : w.toInt = -1
      · exact mm_220a S hq40 g86 g90 rw_ (e221t l hl6 t.toInt rt hF.1) qw
      · exact mm_220b S hq40 g86 g90 rw_ (e221t l hl6 t.toInt rt hF.1) (e221t l hl6 w.toInt rw_ (hF.2.resolve_left qw)) qw
    · have NF : ¬ (dl X1 Z1 Y1 t.toInt e n ≠ -1 ∧ dl X1 Z1 Y1 t.toInt e n + 365 * Yr l ≤ b) ∨ ((dl X1 Z1 Y1 t.toInt e n ≠ -1 ∧ dl X1 Z1 Y1 t.toInt e n + 365 * Yr l ≤ b) ∧ w.toInt ≠ -1 ∧ ¬ (dl X1 Z1 Y1 w.toInt e n ≠ -1 ∧ dl X1 Z1 Y1 w.toInt e n + 365 * Yr l ≤ b)) := by
        by_cases c1 : (dl X1 Z1 Y1 t.toInt e n ≠ -1 ∧ dl X1 Z1 Y1 t.toInt e n + 365 * Yr l ≤ b)
        · by_cases c2 : w.toInt = -1
          · exact absurd ⟨c1, Or.inl c2⟩ hF
          · exact Or.inr ⟨c1, c2, fun c3 => hF ⟨c1, Or.inr c3⟩⟩
        · exact Or.inl c1
      have nF : ¬ bt (mvF h q b e) l = true := fun z => hF (FB.1 z)
      by_cases hK : mvK h q e = -1
      · have eM : mvM h q b e l = 0 := by
          unfold mvM
          rw [if_neg nF, if_neg (by unfold mvO; rw [if_pos hK, bt_z]; decide)]
        rw [eM]
        rw [hK] at e222
        rcases NF with nf | ⟨nf1, nf2, nf3⟩
        · exact mm_220x0 S hq40 g86 g90 rw_ (e221f l hl6 t.toInt rt nf) e222
        · exact mm_220y0 S hq40 g86 g90 rw_ (e221t l hl6 t.toInt rt nf1) (e221f l hl6 w.toInt rw_ nf3) nf2 e222
      · obtain ⟨κ, hκ⟩ : ∃ κ : Nat, mvK h q e = (κ : Int) := ⟨(mvK h q e).toNat, by omega⟩
        obtain ⟨s', x2, x12, x13, x3, z1, z2, z3, z4, z5, gL, gu, gk, gg, eO⟩ := LV κ hκ
        have hκ80 : κ < 80 := by omega
        rw [hκ] at e222
        by_cases qB : bt x2 l = true
        · by_cases qu : b ≤ x3.toInt
          · by_cases qg : x13.toInt ≠ -1 ∧ x13.toInt ≤ e ∧ x12.toInt ≤ b
            · have eM : mvM h q b e l = 0 := by
                unfold mvM
                rw [if_neg nF, if_neg (by rw [eO, if_pos (Or.inl qg), bt_z]; decide)]
              rw [eM]
              rcases NF with nf | ⟨nf1, nf2, nf3⟩
              · exact mm_220x3 S hq40 g86 g90 rw_ (e221f l hl6 t.toInt rt nf) hκ80 e222 gL gu gk gg (i_rng x3) (i_rng x13) (i_rng x12) rb re (by omega) qB qu qg
              · exact mm_220y3 S hq40 g86 g90 rw_ (e221t l hl6 t.toInt rt nf1) (e221f l hl6 w.toInt rw_ nf3) nf2 hκ80 e222 gL gu gk gg (i_rng x3) (i_rng x13) (i_rng x12) rb re (by omega) qB qu qg
            · have eM : mvM h q b e l = 1 := by
                unfold mvM
                rw [if_neg nF, if_pos (by rw [eO, if_neg (by omega)]; exact qB)]
              rw [eM]
              by_cases g1 : x13.toInt = -1
              · rcases NF with nf | ⟨nf1, nf2, nf3⟩
                · exact mm_220x4 S hq40 g86 g90 rw_ (e221f l hl6 t.toInt rt nf) hκ80 e222 gL gu gk gg (i_rng x3) (i_rng x13) (i_rng x12) rb re (by omega) qB qu g1
                · exact mm_220y4 S hq40 g86 g90 rw_ (e221t l hl6 t.toInt rt nf1) (e221f l hl6 w.toInt rw_ nf3) nf2 hκ80 e222 gL gu gk gg (i_rng x3) (i_rng x13) (i_rng x12) rb re (by omega) qB qu g1
              · by_cases g2 : e < x13.toInt
                · rcases NF with nf | ⟨nf1, nf2, nf3⟩
                  · exact mm_220x5 S hq40 g86 g90 rw_ (e221f l hl6 t.toInt rt nf) hκ80 e222 gL gu gk gg (i_rng x3) (i_rng x13) (i_rng x12) rb re (by omega) qB qu ⟨g1, g2⟩
                  · exact mm_220y5 S hq40 g86 g90 rw_ (e221t l hl6 t.toInt rt nf1) (e221f l hl6 w.toInt rw_ nf3) nf2 hκ80 e222 gL gu gk gg (i_rng x3) (i_rng x13) (i_rng x12) rb re (by omega) qB qu ⟨g1, g2⟩
                · rcases NF with nf | ⟨nf1, nf2, nf3⟩
                  · exact mm_220x6 S hq40 g86 g90 rw_ (e221f l hl6 t.toInt rt nf) hκ80 e222 gL gu gk gg (i_rng x3) (i_rng x13) (i_rng x12) rb re (by omega) qB qu ⟨g1, by omega, by omega⟩
                  · exact mm_220y6 S hq40 g86 g90 rw_ (e221t l hl6 t.toInt rt nf1) (e221f l hl6 w.toInt rw_ nf3) nf2 hκ80 e222 gL gu gk gg (i_rng x3) (i_rng x13) (i_rng x12) rb re (by omega) qB qu ⟨g1, by omega, by omega⟩
          · have eM : mvM h q b e l = 0 := by
              unfold mvM
              rw [if_neg nF, if_neg (by rw [eO, if_pos (Or.inr (by omega)), bt_z]; decide)]
            rw [eM]
            rcases NF with nf | ⟨nf1, nf2, nf3⟩
            · exact mm_220x2 S hq40 g86 g90 rw_ (e221f l hl6 t.toInt rt nf) hκ80 e222 gL gu gk gg (i_rng x3) (i_rng x13) (i_rng x12) rb re (by omega) qB (by omega)
            · exact mm_220y2 S hq40 g86 g90 rw_ (e221t l hl6 t.toInt rt nf1) (e221f l hl6 w.toInt rw_ nf3) nf2 hκ80 e222 gL gu gk gg (i_rng x3) (i_rng x13) (i_rng x12) rb re (by omega) qB (by omega)
        · have qB : bt x2 l = false := by
            cases z : bt x2 l with
            | false => rfl
            | true => exact absurd z qB
          have eM : mvM h q b e l = 0 := by
            unfold mvM
            rw [if_neg nF, if_neg (by
              rw [eO]
              split
              · rw [bt_z]
                decide
              · rw [qB]
                decide)]
          rw [eM]
          rcases NF with nf | ⟨nf1, nf2, nf3⟩
          · exact mm_220x1 S hq40 g86 g90 rw_ (e221f l hl6 t.toInt rt nf) hκ80 e222 gL gu gk gg (i_rng x3) (i_rng x13) (i_rng x12) rb re (by omega) qB
          · exact mm_220y1 S hq40 g86 g90 rw_ (e221t l hl6 t.toInt rt nf1) (e221f l hl6 w.toInt rw_ nf3) nf2 hκ80 e222 gL gu gk gg (i_rng x3) (i_rng x13) (i_rng x12) rb re (by omega) qB
/-- the same rows, the same answers -/
theorem mv_cg {g : am_H} (e : ∀ c j, 78 ≤ c → c < 118 → c ≠ 98 → c ≠ 99 → c ≠ 100 → c ≠ 101 → c ≠ 102 → (c ≠ 78 ∨ j = 15 ∨ j = 35 ∨ j = 36) → g.2.2.2 c j = h.2.2.2 c j) : (∀ P x, mvD g P x = mvD h P x) ∧ (∀ q b x, mvF g q b x = mvF h q b x) ∧ (∀ q x, mvK g q x = mvK h q x) ∧ (∀ κ b x, mvG g κ b x = mvG h κ b x) ∧ (∀ q b x, mvO g q b x = mvO h q b x) ∧ ∀ q b x l, mvM g q b x l = mvM h q b x l := by
  have f : ∀ c, 79 ≤ c → c < 118 → c ≠ 98 → c ≠ 99 → c ≠ 100 → c ≠ 101 → c ≠ 102 → ∀ j, g.2.2.2 c j = h.2.2.2 c j := fun c a1 a2 a3 a4 a5 a6 a7 j => e c j (by omega) a2 a3 a4 a5 a6 a7 (Or.inl (by omega))
  have f35 := e 78 35 (by decide) (by decide) (by decide) (by decide) (by decide) (by decide) (by decide) (Or.inr (Or.inr (Or.inl rfl)))
  have f36 := e 78 36 (by decide) (by decide) (by decide) (by decide) (by decide) (by decide) (by decide) (Or.inr (Or.inr (Or.inr rfl)))
  have hD : ∀ P x, mvD g P x = mvD h P x := fun P x => by
    unfold mvD
    rw [f36]
    simp only [f 114 (by decide) (by decide) (by decide) (by decide) (by decide) (by decide) (by decide), f 115 (by decide) (by decide) (by decide) (by decide) (by decide) (by decide) (by decide), f 116 (by decide) (by decide) (by decide) (by decide) (by decide) (by decide) (by decide)]
  have hF : ∀ q b x, mvF g q b x = mvF h q b x := fun q b x => by
    unfold mvF
    simp only [hD, f 86 (by decide) (by decide) (by decide) (by decide) (by decide) (by decide) (by decide), f 90 (by decide) (by decide) (by decide) (by decide) (by decide) (by decide) (by decide), f 82 (by decide) (by decide) (by decide) (by decide) (by decide) (by decide) (by decide)]
  have hK : ∀ q x, mvK g q x = mvK h q x := fun q x => by
    unfold mvK
    rw [f35]
    simp only [f 103 (by decide) (by decide) (by decide) (by decide) (by decide) (by decide) (by decide), f 111 (by decide) (by decide) (by decide) (by decide) (by decide) (by decide) (by decide)]
  have hG : ∀ κ b x, mvG g κ b x = mvG h κ b x := fun κ b x => by
    unfold mvG
    rw [f 113 (by decide) (by decide) (by decide) (by decide) (by decide) (by decide) (by decide), f 112 (by decide) (by decide) (by decide) (by decide) (by decide) (by decide) (by decide), f 105 (by decide) (by decide) (by decide) (by decide) (by decide) (by decide) (by decide), f 104 (by decide) (by decide) (by decide) (by decide) (by decide) (by decide) (by decide)]
  have hO : ∀ q b x, mvO g q b x = mvO h q b x := fun q b x => by
    unfold mvO
    rw [hK, hG]
  exact ⟨hD, hF, hK, hG, hO, fun q b x l => by
    unfold mvM
    rw [hF, hO]⟩
end MVX
