/-! THE CALLS text AND breakAt, both sides -/
section TXO
variable {h : am_H} {d : Nat}
theorem op_txt (I : cq_Inv none h) (X : rT h) (Q : rQ h) (V : rY h) (pp ee ww : Int32) : ∃ (x : Int32) (h1 h2 : am_H), am_ev (d + 20) 51 0 (am_ent [.ref 40, .int pp, .int ee, .int ww] (am_in 51).2.2.1) [] h (some (.int x), h1) ∧ am_ev (d + 20) 195 0 (am_ent [.ref 78, .int pp, .int ee, .int ww] (am_in 195).2.2.1) [] h1 (some (.int x), h2) ∧ cq_Inv none h1 ∧ cq_Inv none h2 ∧ cq_Fr ct_51.2.2.2.1 h h1 ∧ cq_Fr ct_195.2.2.2.1 h1 h2 ∧ (∀ q ∈ ([] : List (Nat × Nat × Nat × Nat)), tT h2 q) ∧ h2.1 ≤ h.1 + 12 ∧ h2.2.1 ≤ h.2.1 + 624 := by
  obtain ⟨a, h1, ev1, I1, F1, A1, B1⟩ := sz_ap3 (A := 0) (B := 0) ok_51 rfl rfl (by decide +kernel) I (d := d + 20) (Nat.le_trans (by decide +kernel) (Nat.le_add_left 20 d)) pp ee ww
  obtain ⟨b, h2, ev2, I2, F2, A2, B2⟩ := sz_ap3 (A := 0) (B := 0) ok_195 rfl rfl (by decide +kernel) I1 (d := d + 20) (Nat.le_trans (by decide +kernel) (Nat.le_add_left 20 d)) pp ee ww
  have q : a = b := by
    obtain ⟨z56, pm, m1, m2, QP, QN⟩ := Q
    have bp := rp_bm I m1
    have lo := I.lo
    have S := fS.of I
    have S1 := fS.of I1
    have k16 : h1.2.2.2 78 16 = .int pm := by rw [lw_frF F1 lo (by decide) (by decide +kernel), m2]
    have O78 : am_isO h1 78 13 = true := S1.ob rfl
    have be : -2147483648 ≤ ee.toInt ∧ ee.toInt ≤ 2147483647 := ⟨ee.le_toInt, by have := ee.toInt_lt; omega⟩
    have bw : -2147483648 ≤ ww.toInt ∧ ww.toInt ≤ 2147483647 := ⟨ww.le_toInt, by have := ww.toInt_lt; omega⟩
    have fin : ∀ (y : Int) (K G : am_H), am_ev (d + 20) 51 0 (am_ent [.ref 40, .int pp, .int ee, .int ww] 5) [] h (some (iv y), K) → am_ev (d + 20) 195 0 (am_ent [.ref 78, .int pp, .int ee, .int ww] 7) [] h1 (some (iv y), G) → a = b := fun y K G e1 e2 => by
      have z1 := (Prod.mk.inj (ax_det ev1 e1)).1
      have z2 := (Prod.mk.inj (ax_det ev2 e2)).1
      exact (Value.int.inj (Option.some.inj z1)).trans (Value.int.inj (Option.some.inj z2)).symm
    by_cases hp : 0 ≤ pp.toInt ∧ pp.toInt < pm.toInt
    · obtain ⟨P, hP⟩ : ∃ P : Nat, pp.toInt = (P : Int) := ⟨pp.toInt.toNat, by omega⟩
      have hP' : pp.toInt.toNat = P := by omega
      have hP39 : P ≤ 39 := by omega
      have wP : Value.int pp = iv P := by rw [fx_of pp, hP]
      obtain ⟨s, s1, sf⟩ := QP P (by omega)
      have ko := rp_obj I (p := P) (by omega) s1
      have Os := ax_kO ko
      obtain ⟨x6, ex6, c0, c3⟩ : ∃ x : Int32, h.2.2.2 s 6 = .int x ∧ (0 : Int) ≤ x.toInt ∧ x.toInt ≤ 3 := ax_fd I ko (j := 6) (t := (1, 0, 3, 0, 0, 0)) (by decide +kernel) (by decide +kernel)
      obtain ⟨c, hc⟩ : ∃ c : Nat, x6.toInt = (c : Int) := ⟨x6.toInt.toNat, by omega⟩
      have v6 : h.2.2.2 s 6 = iv c := by rw [ex6, fx_of x6, hc]
      have g92 : h1.2.2.2 92 P = iv c := by rw [lw_frA F1 lo (c := 92) (by decide) (by decide +kernel), ← sf 6 (by decide), v6]
      have H42 := (po_42 (d := d + 18) I m1 bp).1 hp
      rw [hP', s1] at H42
      have H188 := (po_188 (p := pp) (d := d + 17) O78 k16 bp).1 hp
      rw [wP] at H188
      by_cases he : 0 ≤ ee.toInt ∧ ee.toInt < c
      · obtain ⟨e, hee⟩ : ∃ e : Nat, ee.toInt = (e : Int) := ⟨ee.toInt.toNat, by omega⟩
        have wE : Value.int ee = iv e := by rw [fx_of ee, hee]
        obtain ⟨q, k7, q1, q2, q3⟩ := po_q I (p := P) (by omega) s1
        obtain ⟨E, l, t, u, st, x1, x2⟩ := V.2.1.2 pm P s q m1 (by omega) s1 k7 e c v6 (by omega) (by omega)
        obtain ⟨⟨y1, y2, y3⟩, y4, y5, y6, y7, y8, y9, y10, y11, y12, y13⟩ := x2
        have W := V.2.1.1
        obtain ⟨H, Pg, T, vP, vT, bP, bT, e54, lv, lk, eH⟩ := hx_lay (d := d + 16) W W.1 (hx_Q0 S) y1 y2 y3 y4
        obtain ⟨w1, w2, w3, w4, f0, f1, f2, f3, f4, f5, hl, -⟩ := eH
        have SH := lv.1
        have rd53 : am_rd h q (Int32.ofInt (e : Int)) (fun c => Nat.ble 4 c && am_isA c) = some (.ref E) := by
          have z := fx_ti (e := (e : Int)) (by omega)
          rw [ax_rdv q2 q3 (by decide) (by decide +kernel) (by omega) (by omega), z, Int.toNat_natCast, x1]
        have H53 := tx_53t (d := d + 18) (e := (e : Int)) Os v6 (by omega) (by omega) k7 rd53 (by omega)
        rw [← wE] at H53
        have H52 := tx_52t (d := d + 18) S Os H42 H53
        have OH : am_isO H E 3 = true := by
          unfold am_isO
          rw [lv.2.2.1, lv.2.1, y3.1, y3.2, show Nat.blt E h.1 = true from Nat.ble_eq_true_of_le y2]
          rfl
        have b0 := lyD_b (t := t) (u := u) (l := l) (P := Pg) (T := T) (by omega) bT.1 l (Nat.le_refl _) 0
        have M : lyF h1 (3 * P + e) l t u Pg T := ⟨by omega, hl, y13.2, (lw_frA F1 lo (c := 93) (by decide) (by decide +kernel) _).trans y8, fun i hi => (lw_frA F1 lo (c := 96) (by decide) (by decide +kernel) _).trans (y12 i hi), fun i hi => (lw_frA F1 lo (c := 97) (by decide) (by decide +kernel) _).trans (y11 i hi), (lw_frA F1 lo (c := 81) (by decide) (by decide +kernel) 0).trans ((X.2.1 0 (by decide)).symm.trans vP), (lw_frA F1 lo (c := 81) (by decide) (by decide +kernel) 2).trans ((X.2.1 2 (by decide)).symm.trans vT), bP, bT⟩
        have g93 := M.2.2.2.1
        have g96 := M.2.2.2.2.1
        obtain ⟨G, e197, mT⟩ := ml_197 (d := d + 14) S1 M
        have SG := mT.1.1
        have z119 := M.1
        have H194 : am_ev (d + 19) 194 0 (am_ent [iv P, iv e] 2) [] h1 (some (iv ((3 * P + e : Nat) : Int)), h1) := by
          rw [show ((3 * P + e : Nat) : Int) = 3 * (P : Int) + (e : Int) by omega]
          exact ed_194
        have H196 := tm_196t (d := d + 17) (e := (e : Int)) S1 H188 hP39 g92 (by omega) (by omega) (by omega)
        have lJ : lyJ (lyD t u l Pg T l 0) = -1 ∧ (lyD t u l Pg T l 0).1 = 0 ∨ lyJ (lyD t u l Pg T l 0) = (lyD t u l Pg T l 0).1 ∧ 0 < (lyD t u l Pg T l 0).1 := by
          unfold lyJ
          by_cases z : (lyD t u l Pg T l 0).1 = 0
          · exact Or.inl ⟨if_pos z, z⟩
          · exact Or.inr ⟨if_neg z, by omega⟩
        have f8 : H.2.2.2 E 8 = iv (lyJ (lyD t u l Pg T l 0)) := by
          rcases lk.2.2 with ⟨z1, z2, -⟩ | ⟨z1, z2, -⟩
          · rcases lJ with ⟨j1, j2⟩ | ⟨j1, j2⟩
            · rw [z2, j1]
            · omega
          · rcases lJ with ⟨j1, j2⟩ | ⟨j1, j2⟩
            · omega
            · rw [z2, j1]
        have fin' : ∀ (y : Int) (K G : am_H), am_ev (d + 20) 51 0 (am_ent [.ref 40, .int pp, .int ee, .int ww] 5) [] h (some (iv y), K) → am_ev (d + 20) 195 0 (am_ent [.ref 78, iv P, iv e, .int ww] 7) [] h1 (some (iv y), G) → a = b := fun y K G e1 e2 => fin y K G e1 (by rw [wP, wE]; exact e2)
        have sE2 : H.2.2.1 (E + 2) = (1, 0, l + 1) := by rw [lv.2.2.1, y6.2]
        have hal2 : am_len H (E + 2) = some (l + 1) := by
          unfold am_len
          rw [sE2, show Nat.blt (E + 2) H.1 = true from Nat.ble_eq_true_of_le (by omega)]
          rfl
        have vS : H.2.2.2 (E + 2) l = iv (st l : Int) := (lv.2.2.2.1 (E + 2) l (by omega) (by omega) (by omega) (by omega) (by omega)).trans (y7 l (Nat.le_refl _))
        have sb : ∀ i : Nat, i ≤ l → st i ≤ 8 * i := fun i => by
          induction i with
          | zero => intro _; rw [y5.1]; omega
          | succ i ih =>
            intro hi
            have := ih (by omega)
            have := (y5.2 i (by omega)).2
            omega
        have rd49 : am_rd H (E + 2) (Int32.ofInt (l : Int)) (fun c => Nat.beq c 0) = some (iv (st l : Int)) := by
          have z := fx_ti (e := (l : Int)) (by omega)
          rw [ax_rdv (show E + 2 < H.1 by omega) sE2 (by decide) (by decide +kernel) (by omega) (by omega), z, Int.toNat_natCast, vS]
        by_cases hw : 0 ≤ ww.toInt ∧ ww.toInt ≤ 4
        · have hw5 : ww.toInt = 0 ∨ ww.toInt = 1 ∨ ww.toInt = 2 ∨ ww.toInt = 3 ∨ ww.toInt = 4 := by omega
          rcases hw5 with z | z | z | z | z
          · have z := i_of z (by decide)
            subst z
            exact fin' l _ _ (tx_51_0 (d := d + 16) S H52 e54 SH OH f3) (tm_195_0 (d := d + 14) S1 H196 hP39 z119 H194 g93)
          · have z := i_of z (by decide)
            subst z
            have n := cS_z (f := bt u) (l := l) (fun i a b => y13.1 i b a) (32 - l) (by omega)
            rw [show l + (32 - l) = 32 by omega] at n
            have q2 := tm_195s1 (d := d + 14) S1 H196 hP39 z119 H194 (tm_195A (u := u) (d := d + 14) (P := P) (e_ := e) S1 z119 hl.2 g93 g96 l 0 (by omega))
            rw [← n] at q2
            exact fin' (cS (bt u) 32) _ _ (tx_51_1 (d := d + 16) S H52 e54 SH OH (tx_63 (d := d + 18) OH f5)) q2
          · have z := i_of z (by decide)
            subst z
            have q2 := tm_195B (st := st) (d := d + 14) (P := P) (e_ := e) S1 z119 hl.2 g93 (fun i hi => ⟨Nat.le_of_lt (y5.2 i hi).1, (y5.2 i hi).2, sb i (by omega)⟩) (fun i hi => (lw_frA F1 lo (c := 94) (by decide) (by decide +kernel) _).trans (y9 i hi)) l 0 (by omega)
            rw [y5.1] at q2
            exact fin' (st l : Int) _ _ (tx_51_2 (d := d + 16) S H52 e54 SH OH (tx_48 (d := d + 18) OH f3 (tx_49 (d := d + 18) OH f1 hl.2 hal2 rd49))) (tm_195s2 (d := d + 14) S1 H196 hP39 z119 H194 q2)
          · have z := i_of z (by decide)
            subst z
            exact fin' (lyJ (lyD t u l Pg T l 0)) _ _ (tx_51_3 (d := d + 16) S H52 e54 SH OH f8) (tm_195_3 (d := d + 14) S1 H196 hP39 z119 H194 e197)
          · have z := i_of z (by decide)
            subst z
            rcases lJ with ⟨j1, j2⟩ | ⟨j1, j2⟩
            · have f9 : H.2.2.2 E 9 = iv (-1) := by
                rcases lk.2.2 with ⟨z1, z2, z3⟩ | ⟨z1, -⟩
                · exact z3
                · omega
              exact fin' (-1) _ _ (tx_51_4 (d := d + 16) S H52 e54 SH OH f9) (tm_195_4n (d := d + 14) S1 H196 hP39 z119 H194 SG e197 (by omega) j1)
            · have f9 : H.2.2.2 E 9 = iv (lyD t u l Pg T l 0).2.1 := by
                rcases lk.2.2 with ⟨z1, -⟩ | ⟨z1, z2, z3, -⟩
                · omega
                · exact z3
              exact fin' (lyD t u l Pg T l 0).2.1 _ _ (tx_51_4 (d := d + 16) S H52 e54 SH OH f9) (tm_195_4 (d := d + 14) S1 H196 hP39 z119 H194 SG e197 (by omega) (by omega) (mT.2.1 0 (by omega)).2)
        · have wW : Value.int ww = iv ww.toInt := fx_of ww
          refine fin' (-9) H h1 ?_ ?_
          · rw [wW]
            exact tx_51_d (d := d + 16) S H52 e54 SH OH bw (by omega)
          · rw [wW]
            exact tm_195_d (d := d + 14) S1 H196 hP39 z119 H194 bw (by omega)
      · have H53 := tx_53f (d := d + 18) Os v6 (by omega) be he
        rw [← fx_of ee] at H53
        have H52 := tx_52f (d := d + 18) S Os H42 H53
        have H196 := tm_196f (d := d + 17) (e := ee.toInt) S1 H188 hP39 g92 (by omega) be he
        rw [← fx_of ee, ← wP] at H196
        exact fin (-9) _ _ (tx_51n (d := d + 19) S H52) (tm_195n (d := d + 14) S1 H196)
    · have H42 := (po_42 (d := d + 18) I m1 bp).2 hp
      have H188 := (po_188 (p := pp) (d := d + 17) O78 k16 bp).2 hp
      exact fin (-9) _ _ (tx_51n (d := d + 19) S (tx_52n (d := d + 18) S H42)) (tm_195n (d := d + 14) S1 (tm_196n (d := d + 17) S1 H188))
  rw [q] at ev1
  exact ⟨b, h1, h2, ev1, ev2, I1, I2, F1, F2, fun q hq => (by cases hq), by omega, by omega⟩
theorem op_bre (I : cq_Inv none h) (X : rT h) (Q : rQ h) (V : rY h) (pp ee ww : Int32) : ∃ (x : Int32) (h1 h2 : am_H), am_ev (d + 20) 65 0 (am_ent [.ref 40, .int pp, .int ee, .int ww] (am_in 65).2.2.1) [] h (some (.int x), h1) ∧ am_ev (d + 20) 202 0 (am_ent [.ref 78, .int pp, .int ee, .int ww] (am_in 202).2.2.1) [] h1 (some (.int x), h2) ∧ cq_Inv none h1 ∧ cq_Inv none h2 ∧ cq_Fr ct_65.2.2.2.1 h h1 ∧ cq_Fr ct_202.2.2.2.1 h1 h2 ∧ (∀ q ∈ ([] : List (Nat × Nat × Nat × Nat)), tT h2 q) ∧ h2.1 ≤ h.1 + 12 ∧ h2.2.1 ≤ h.2.1 + 624 := by
  obtain ⟨a, h1, ev1, I1, F1, A1, B1⟩ := sz_ap3 (A := 0) (B := 0) ok_65 rfl rfl (by decide +kernel) I (d := d + 20) (Nat.le_trans (by decide +kernel) (Nat.le_add_left 20 d)) pp ee ww
  obtain ⟨b, h2, ev2, I2, F2, A2, B2⟩ := sz_ap3 (A := 0) (B := 0) ok_202 rfl rfl (by decide +kernel) I1 (d := d + 20) (Nat.le_trans (by decide +kernel) (Nat.le_add_left 20 d)) pp ee ww
  have q : a = b := by
    obtain ⟨z56, pm, m1, m2, QP, QN⟩ := Q
    have bp := rp_bm I m1
    have lo := I.lo
    have S := fS.of I
    have S1 := fS.of I1
    have k16 : h1.2.2.2 78 16 = .int pm := by rw [lw_frF F1 lo (by decide) (by decide +kernel), m2]
    have O78 : am_isO h1 78 13 = true := S1.ob rfl
    have be : -2147483648 ≤ ee.toInt ∧ ee.toInt ≤ 2147483647 := ⟨ee.le_toInt, by have := ee.toInt_lt; omega⟩
    have bw : -2147483648 ≤ ww.toInt ∧ ww.toInt ≤ 2147483647 := ⟨ww.le_toInt, by have := ww.toInt_lt; omega⟩
    have fin : ∀ (y : Int) (K G : am_H), am_ev (d + 20) 65 0 (am_ent [.ref 40, .int pp, .int ee, .int ww] 5) [] h (some (iv y), K) → am_ev (d + 20) 202 0 (am_ent [.ref 78, .int pp, .int ee, .int ww] 4) [] h1 (some (iv y), G) → a = b := fun y K G e1 e2 => by
      have z1 := (Prod.mk.inj (ax_det ev1 e1)).1
      have z2 := (Prod.mk.inj (ax_det ev2 e2)).1
      exact (Value.int.inj (Option.some.inj z1)).trans (Value.int.inj (Option.some.inj z2)).symm
    by_cases hp : 0 ≤ pp.toInt ∧ pp.toInt < pm.toInt
    · obtain ⟨P, hP⟩ : ∃ P : Nat, pp.toInt = (P : Int) := ⟨pp.toInt.toNat, by omega⟩
      have hP' : pp.toInt.toNat = P := by omega
      have hP39 : P ≤ 39 := by omega
      have wP : Value.int pp = iv P := by rw [fx_of pp, hP]
      obtain ⟨s, s1, sf⟩ := QP P (by omega)
      have ko := rp_obj I (p := P) (by omega) s1
      have Os := ax_kO ko
      obtain ⟨x6, ex6, c0, c3⟩ : ∃ x : Int32, h.2.2.2 s 6 = .int x ∧ (0 : Int) ≤ x.toInt ∧ x.toInt ≤ 3 := ax_fd I ko (j := 6) (t := (1, 0, 3, 0, 0, 0)) (by decide +kernel) (by decide +kernel)
      obtain ⟨c, hc⟩ : ∃ c : Nat, x6.toInt = (c : Int) := ⟨x6.toInt.toNat, by omega⟩
      have v6 : h.2.2.2 s 6 = iv c := by rw [ex6, fx_of x6, hc]
      have g92 : h1.2.2.2 92 P = iv c := by rw [lw_frA F1 lo (c := 92) (by decide) (by decide +kernel), ← sf 6 (by decide), v6]
      have H42 := (po_42 (d := d + 18) I m1 bp).1 hp
      rw [hP', s1] at H42
      have H188 := (po_188 (p := pp) (d := d + 17) O78 k16 bp).1 hp
      rw [wP] at H188
      by_cases he : 0 ≤ ee.toInt ∧ ee.toInt < c
      · obtain ⟨e, hee⟩ : ∃ e : Nat, ee.toInt = (e : Int) := ⟨ee.toInt.toNat, by omega⟩
        have wE : Value.int ee = iv e := by rw [fx_of ee, hee]
        obtain ⟨q, k7, q1, q2, q3⟩ := po_q I (p := P) (by omega) s1
        obtain ⟨E, l, t, u, st, x1, x2⟩ := V.2.1.2 pm P s q m1 (by omega) s1 k7 e c v6 (by omega) (by omega)
        obtain ⟨⟨y1, y2, y3⟩, y4, y5, y6, y7, y8, y9, y10, y11, y12, y13⟩ := x2
        have W := V.2.1.1
        obtain ⟨H, Pg, T, vP, vT, bP, bT, e54, lv, lk, eH⟩ := hx_lay (d := d + 16) W W.1 (hx_Q0 S) y1 y2 y3 y4
        obtain ⟨w1, w2, w3, w4, f0, f1, f2, f3, f4, f5, hl, -⟩ := eH
        have SH := lv.1
        have rd53 : am_rd h q (Int32.ofInt (e : Int)) (fun c => Nat.ble 4 c && am_isA c) = some (.ref E) := by
          have z := fx_ti (e := (e : Int)) (by omega)
          rw [ax_rdv q2 q3 (by decide) (by decide +kernel) (by omega) (by omega), z, Int.toNat_natCast, x1]
        have H53 := tx_53t (d := d + 18) (e := (e : Int)) Os v6 (by omega) (by omega) k7 rd53 (by omega)
        rw [← wE] at H53
        have H52 := tx_52t (d := d + 18) S Os H42 H53
        have OH : am_isO H E 3 = true := by
          unfold am_isO
          rw [lv.2.2.1, lv.2.1, y3.1, y3.2, show Nat.blt E h.1 = true from Nat.ble_eq_true_of_le y2]
          rfl
        have b0 := lyD_b (t := t) (u := u) (l := l) (P := Pg) (T := T) (by omega) bT.1 l (Nat.le_refl _) 0
        have M : lyF h1 (3 * P + e) l t u Pg T := ⟨by omega, hl, y13.2, (lw_frA F1 lo (c := 93) (by decide) (by decide +kernel) _).trans y8, fun i hi => (lw_frA F1 lo (c := 96) (by decide) (by decide +kernel) _).trans (y12 i hi), fun i hi => (lw_frA F1 lo (c := 97) (by decide) (by decide +kernel) _).trans (y11 i hi), (lw_frA F1 lo (c := 81) (by decide) (by decide +kernel) 0).trans ((X.2.1 0 (by decide)).symm.trans vP), (lw_frA F1 lo (c := 81) (by decide) (by decide +kernel) 2).trans ((X.2.1 2 (by decide)).symm.trans vT), bP, bT⟩
        have g93 := M.2.2.2.1
        have g96 := M.2.2.2.2.1
        obtain ⟨G, e197, mT⟩ := ml_197 (d := d + 14) S1 M
        have SG := mT.1.1
        have z119 := M.1
        have H194 : am_ev (d + 19) 194 0 (am_ent [iv P, iv e] 2) [] h1 (some (iv ((3 * P + e : Nat) : Int)), h1) := by
          rw [show ((3 * P + e : Nat) : Int) = 3 * (P : Int) + (e : Int) by omega]
          exact ed_194
        have H196 := tm_196t (d := d + 17) (e := (e : Int)) S1 H188 hP39 g92 (by omega) (by omega) (by omega)
        have lJ : lyJ (lyD t u l Pg T l 0) = -1 ∧ (lyD t u l Pg T l 0).1 = 0 ∨ lyJ (lyD t u l Pg T l 0) = (lyD t u l Pg T l 0).1 ∧ 0 < (lyD t u l Pg T l 0).1 := by
          unfold lyJ
          by_cases z : (lyD t u l Pg T l 0).1 = 0
          · exact Or.inl ⟨if_pos z, z⟩
          · exact Or.inr ⟨if_neg z, by omega⟩
        have f8 : H.2.2.2 E 8 = iv (lyJ (lyD t u l Pg T l 0)) := by
          rcases lk.2.2 with ⟨z1, z2, -⟩ | ⟨z1, z2, -⟩
          · rcases lJ with ⟨j1, j2⟩ | ⟨j1, j2⟩
            · rw [z2, j1]
            · omega
          · rcases lJ with ⟨j1, j2⟩ | ⟨j1, j2⟩
            · omega
            · rw [z2, j1]
        have fin' : ∀ (y : Int) (K G : am_H), am_ev (d + 20) 65 0 (am_ent [.ref 40, .int pp, .int ee, .int ww] 5) [] h (some (iv y), K) → am_ev (d + 20) 202 0 (am_ent [.ref 78, iv P, iv e, .int ww] 4) [] h1 (some (iv y), G) → a = b := fun y K G e1 e2 => fin y K G e1 (by rw [wP, wE]; exact e2)
        have hal3 : am_len H (E + 3) = some l := by
          unfold am_len
          rw [w4, show Nat.blt (E + 3) H.1 = true from Nat.ble_eq_true_of_le w1]
          rfl
        have wW : Value.int ww = iv ww.toInt := fx_of ww
        have fb : (¬ (0 ≤ ww.toInt ∧ ww.toInt + 1 < lyJ (lyD t u l Pg T l 0) ∧ ww.toInt < l)) → am_ev (d + 20) 65 0 (am_ent [.ref 40, .int pp, .int ee, .int ww] 5) [] h (some (iv (-1)), H) := fun n => by
          have H66 := tx_66f (d := d + 19) OH f8 f2 hal3 hl.2 (by omega) bw n
          rw [← wW] at H66
          exact tx_65 (d := d + 16) S H52 e54 SH OH H66
        rcases lJ with ⟨j1, j2⟩ | ⟨j1, j2⟩
        · exact fin' (-1) _ _ (fb (by omega)) (tm_202z (d := d + 14) S1 H196 hP39 z119 H194 SG e197 (by omega) j1)
        · have MG : lyF G (3 * P + e) l t u Pg T := M.gn (fun c k hc => mT.1.2.2.2 c k (by omega) (by omega))
          obtain ⟨K, e203, mV, k32, k100⟩ := ml_203 (d := d + 15) SG MG mT.2.1 (by omega)
          have SK := mV.1
          have H194G : am_ev (d + 19) 194 0 (am_ent [iv P, iv e] 2) [] G (some (iv ((3 * P + e : Nat) : Int)), G) := by
            rw [show ((3 * P + e : Nat) : Int) = 3 * (P : Int) + (e : Int) by omega]
            exact ed_194
          by_cases hw : 0 ≤ ww.toInt ∧ ww.toInt < (lyD t u l Pg T l 0).1 - 1
          · obtain ⟨k, hk⟩ : ∃ k : Nat, ww.toInt = (k : Int) := ⟨ww.toInt.toNat, by omega⟩
            have vB : H.2.2.2 (E + 3) k = iv ((lyN (lyD t u l Pg T l) (k + 1) : Int) - 1) := by
              rcases lk.2.2 with ⟨z1, -⟩ | ⟨z1, z2, z3, z4⟩
              · omega
              · exact z4 k (by omega)
            have rd66 : am_rd H (E + 3) (Int32.ofInt ww.toInt) (fun c => Nat.beq c 0) = some (iv ((lyN (lyD t u l Pg T l) (k + 1) : Int) - 1)) := by
              have z := fx_ti (e := (k : Int)) (by omega)
              rw [hk, ax_rdv w1 w4 (by decide) (by decide +kernel) (by omega) (by omega), z, Int.toNat_natCast, vB]
            have H66 := tx_66t (d := d + 19) OH f8 f2 hal3 hl.2 (by omega) bw (by omega) rd66
            rw [← wW] at H66
            have rdK : am_rd K 100 (Int32.ofInt ww.toInt) (fun c => Nat.beq c 0) = some (iv ((lyN (lyD t u l Pg T l) (k + 1) : Int) - 1)) := SK.rd (k := k) rfl rfl rfl rfl hk (by omega) (k100 k (by omega))
            refine fin' ((lyN (lyD t u l Pg T l) (k + 1) : Int) - 1) H K (tx_65 (d := d + 16) S H52 e54 SH OH H66) ?_
            rw [wW]
            exact tm_202t (d := d + 14) S1 H196 hP39 z119 H194 SG e197 (by omega) (by omega) SK H194G e203 k32 (by omega) bw hw rdK
          · refine fin' (-1) H K (fb (by omega)) ?_
            rw [wW]
            exact tm_202f (d := d + 14) S1 H196 hP39 z119 H194 SG e197 (by omega) (by omega) SK H194G e203 k32 (by omega) bw hw
      · have H53 := tx_53f (d := d + 18) Os v6 (by omega) be he
        rw [← fx_of ee] at H53
        have H52 := tx_52f (d := d + 18) S Os H42 H53
        have H196 := tm_196f (d := d + 17) (e := ee.toInt) S1 H188 hP39 g92 (by omega) be he
        rw [← fx_of ee, ← wP] at H196
        exact fin (-1) _ _ (tx_65n (d := d + 19) S H52) (tm_202n (d := d + 14) S1 H196)
    · have H42 := (po_42 (d := d + 18) I m1 bp).2 hp
      have H188 := (po_188 (p := pp) (d := d + 17) O78 k16 bp).2 hp
      exact fin (-1) _ _ (tx_65n (d := d + 19) S (tx_52n (d := d + 18) S H42)) (tm_202n (d := d + 14) S1 (tm_196n (d := d + 17) S1 H188))
  rw [q] at ev1
  exact ⟨b, h1, h2, ev1, ev2, I1, I2, F1, F2, fun q hq => (by cases hq), by omega, by omega⟩
end TXO
