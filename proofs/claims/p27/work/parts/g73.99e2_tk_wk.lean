/-! THE CALL worth, both sides -/
section WKO
variable {h g h' G : am_H} {d n : Nat} {S0 : Int32}
theorem wkV_eq (E : lkE h g) (j : Nat) : wkV g j = wkV h j := by
  unfold wkV
  rw [E.2.2.1 81 j (by decide) (by decide) (by decide) (by decide) (by decide) (by decide) (by decide) (Or.inl (by decide))]
theorem nat_iv {a b : Nat} (e : (iv (a : Int) : Value) = iv b) (ha : a < 100000) (hb : b < 100000) : a = b := by
  have z := congrArg (fun v => (gI v).toInt) e
  have z : (Int32.ofInt (a : Int)).toInt = (Int32.ofInt (b : Int)).toInt := z
  rw [fx_ti (by omega), fx_ti (by omega)] at z
  omega
/-- looked at candidates, as worth and choose see them -/
theorem wk_D (I : cq_Inv none h) (L : lkC h) (hn : h.2.2.2 40 13 = iv n) (hn14 : n ≤ 14) {b : Nat → Prop} (X : lkI h g b) (c : Nat) (hc : c < n) (hb : b c) : ∃ s : Nat, h.2.2.2 73 (qc h c) = .ref s ∧ wkD g (wkal h) (wkpo h) (wkwo h) (wkfe h) (wkpg h) (kc h) (fun _ => s) c := by
  obtain ⟨s, s1, ko, f0, lp, f3, bw, -, -, hq, bn, ba, g117, k1, kk, k6⟩ := wk_c I L hn hn14 hc
  obtain ⟨Ig, Lg, E, Y⟩ := X
  obtain ⟨x1, -, -, x4, x5, -⟩ := Y c n hn hn14 hc hb
  obtain ⟨n1, pm1, b1, c1, c2, d1, K1, -⟩ := lk_c Ig Lg
  have en : n1 = n := nat_iv (c1.symm.trans (E.2.2.2.2.2.2.2.2.1.trans hn)) (by omega) (by omega)
  subst en
  obtain ⟨l1, l2, -, -, -, l6, -⟩ := K1 c hc
  rw [kc_eq E] at l1 l2 l6
  rw [qc_eq E, E.2.2.2.1, s1] at l6
  have ks : cq_kOk g s (0, 6, 0) := ⟨ko.1, by rw [E.1]; exact ko.2.1, (E.2.1 s ko.2.1).trans ko.2.2⟩
  have e6 := E.2.2.2.2.1 s ko.1 ko.2.1 ko.2.2
  exact ⟨s, s1, l1, ax_kO l2, l2.1, x1, l6, ax_kO ks, ko.1, (e6 0).trans f0, lp, (e6 3).trans f3, bw, x4, bn, x5, ba⟩
/-- findAll's rows, as isChoice sees them, at a heap behind a looking call -/
theorem wk_G (I : cq_Inv none h) (L : lkC h) (hn : h.2.2.2 40 13 = iv n) (hn14 : n ≤ 14) (E : lkE h g) (r2 : ∀ c, c < n → G.2.2.2 119 c = iv (b2 (mvAl g (qc g c))) ∧ G.2.2.2 120 c = iv (if mvAl g (qc g c) = true then mvN g (qc g c) else 0) ∧ G.2.2.2 121 c = iv (mvFf g (qc g c))) (r3 : ∀ a j, a ≠ 98 → a ≠ 99 → a ≠ 119 → a ≠ 120 → a ≠ 121 → G.2.2.2 a j = g.2.2.2 a j) (c : Nat) (hc : c < n) : wkG G (wkal h) (wkpo h) (wkwo h) (wkfe h) (wkpg h) (qc h) c := by
  obtain ⟨s, s1, ko, f0, lp, f3, bw, g86, g89, hq, bn, ba, g117, -⟩ := wk_c I L hn hn14 hc
  obtain ⟨n1, pm, b1, c1, c2, m1, K1, -⟩ := lk_c I L
  have en : n1 = n := nat_iv (c1.symm.trans hn) (by omega) (by omega)
  subst en
  obtain ⟨-, -, -, -, k5, -⟩ := K1 c hc
  obtain ⟨-, -, -, -, -, a6, a7, a8, -⟩ := mv_eq I L.1 m1 k5 E
  obtain ⟨y1, y2, y3⟩ := r2 c hc
  rw [qc_eq E, a7] at y1 y2
  rw [a6] at y2
  rw [qc_eq E, a8] at y3
  have e : ∀ a j, 78 < a → a < 98 ∨ (102 < a ∧ a < 118) → G.2.2.2 a j = h.2.2.2 a j := fun a j z1 z2 => (r3 a j (by omega) (by omega) (by omega) (by omega) (by omega)).trans (E.2.2.1 a j (by omega) (by omega) (by omega) (by omega) (by omega) (by omega) (by omega) (Or.inl (by omega)))
  exact ⟨(e 117 c (by decide) (Or.inr (by decide))).trans g117, hq, (e 86 _ (by decide) (Or.inl (by decide))).trans g86, lp, y2, y3, (e 89 _ (by decide) (Or.inl (by decide))).trans g89, bw, y1, fun al => ⟨⟨(ba al).1, bn.2⟩, (ba al).2⟩⟩
theorem op_wor (I : cq_Inv none h) (X : rT h) (P0 : rp_P h) (C0 : rp_C h) (R0 : rL h) (XB : rbV h) (Dr : rD h) (Bk : rB h) (Q : rQ h) (V : rY h) (Gg : rG h) (Tc : tT h (40, 9, 78, 15)) (ww : Int32) : ∃ (x : Int32) (h1 h2 : am_H), am_ev (d + 20) 115 0 (am_ent [.ref 40, .int ww] (am_in 115).2.2.1) [] h (some (.int x), h1) ∧ am_ev (d + 20) 238 0 (am_ent [.ref 78, .int ww] (am_in 238).2.2.1) [] h1 (some (.int x), h2) ∧ cq_Inv none h1 ∧ cq_Inv none h2 ∧ cq_Fr ct_115.2.2.2.1 h h1 ∧ cq_Fr ct_238.2.2.2.1 h1 h2 ∧ (∀ q ∈ ([] : List (Nat × Nat × Nat × Nat)), tT h2 q) ∧ h2.1 ≤ h.1 + 12 ∧ h2.2.1 ≤ h.2.1 + 624 := by
  obtain ⟨a, h1, ev1, I1, F1, A1, B1⟩ := sz_ap1 (A := 0) (B := 0) ok_115 rfl rfl (by decide +kernel) I (d := d + 20) (Nat.le_trans (by decide +kernel) (Nat.le_add_left 20 d)) ww
  obtain ⟨b, h2, ev2, I2, F2, A2, B2⟩ := sz_ap1 (A := 0) (B := 0) ok_238 rfl rfl (by decide +kernel) I1 (d := d + 20) (Nat.le_trans (by decide +kernel) (Nat.le_add_left 20 d)) ww
  have q : a = b := by
    have fin : ∀ (y : Int) (K G : am_H), am_ev (d + 20) 115 0 (am_ent [.ref 40, .int ww] 2) [] h (some (iv y), K) → am_ev (d + 20) 238 0 (am_ent [.ref 78, .int ww] 2) [] h1 (some (iv y), G) → a = b := fun y K G e1 e2 => by
      have z1 := (Prod.mk.inj (ax_det ev1 e1)).1
      have z2 := (Prod.mk.inj (ax_det ev2 e2)).1
      exact (Value.int.inj (Option.some.inj z1)).trans (Value.int.inj (Option.some.inj z2)).symm
    have L : lkC h := ⟨⟨X, P0, R0, XB, Dr, Q, V⟩, Bk, Tc, C0, Gg⟩
    obtain ⟨L1, E1⟩ := lk_go (y := 115) I L F1 (by decide +kernel) (Nat.le_trans (by decide +kernel) (Nat.le_add_left 20 d)) rfl ev1 (Nat.le_antisymm A1 F1.nx) (by decide +kernel)
    obtain ⟨n, pm, hn14, hn, hn5, m1, -, -⟩ := lk_c I L
    have S := fS.of I
    have S1 := fS.of I1
    have h53 : h1.2.2.2 78 53 = iv n := (lw_frF F1 I.lo (by decide) (by decide +kernel)).trans hn5
    have h13 : h1.2.2.2 40 13 = iv n := (lw_frF F1 I.lo (by decide) (by decide +kernel)).trans hn
    obtain ⟨gV, b1, b3, b4, b5, b6, -, -⟩ := wk_V I L
    by_cases q : 0 ≤ ww.toInt ∧ ww.toInt ≤ ((2 ^ n : Nat) : Int) - 1
    · have H116 := wo_116t (d := d + 18) S hn ((wk_mask (S0 := ww) hn14).2 q)
      obtain ⟨g, r108, XX⟩ := lk_108 (d := d + 14) I L (S0 := ww) hn hn14
      have Ig := XX.1
      have Lg := XX.2.1
      have E := XX.2.2.1
      have Sg := fS.of Ig
      have g13 := E.2.2.2.2.2.2.2.2.1.trans hn
      obtain ⟨gW, -⟩ := wk_V Ig Lg
      have w1 := (gW 1 (by decide)).1
      have w3 := (gW 3 (by decide)).1
      have w4 := (gW 4 (by decide)).1
      have w5 := (gW 5 (by decide)).1
      have w6 := (gW 6 (by decide)).1
      rw [wkV_eq E] at w1 w3 w4 w5 w6
      obtain ⟨M, hM⟩ : ∃ M : Int, wkV h 4 * wkV h 1 = M := ⟨_, rfl⟩
      have bM := wk_mul b4 b1
      rw [hM] at bM
      have hSS : fS (am_put (am_put (am_put (am_put (am_put g 63 3 (.ref 74)) 63 4 (iv ((n : Int)))) 63 5 (iv (wkV h 6))) 63 6 (iv (M - wkV h 3))) 63 7 (iv (wkV h 5))) := Sg.po rfl rfl |>.po rfl rfl |>.po rfl rfl |>.po rfl rfl |>.po rfl rfl
      obtain ⟨G, e5, SG, g1, g2, gf, g0⟩ := wf_5 (d := d + 17) hSS
      have H110 := wo_110 (d := d + 17) Sg w1 w3 w4 w5 w6 hM (by omega) bM hn14 e5 SG
      have gf' : ∀ a j, a ≠ 63 → a ≠ 64 → G.2.2.2 a j = g.2.2.2 a j := fun a j n1 n2 => (gf a j n2).trans (ax_put_o (Or.inl n1) (ax_put_o (Or.inl n1) (ax_put_o (Or.inl n1) (ax_put_o (Or.inl n1) (ax_put_o (Or.inl n1) rfl)))))
      have p3 : G.2.2.2 63 3 = .ref 74 := (gf 63 3 (by decide)).trans (ax_put_o (Or.inr (by decide)) (ax_put_o (Or.inr (by decide)) (ax_put_o (Or.inr (by decide)) (ax_put_o (Or.inr (by decide)) (ax_put_s _ _ _)))))
      have p4 : G.2.2.2 63 4 = iv n := (gf 63 4 (by decide)).trans (ax_put_o (Or.inr (by decide)) (ax_put_o (Or.inr (by decide)) (ax_put_o (Or.inr (by decide)) (ax_put_s _ _ _))))
      have p5 : G.2.2.2 63 5 = iv (wkV h 6) := (gf 63 5 (by decide)).trans (ax_put_o (Or.inr (by decide)) (ax_put_o (Or.inr (by decide)) (ax_put_s _ _ _)))
      have p6 : G.2.2.2 63 6 = iv (M - wkV h 3) := (gf 63 6 (by decide)).trans (ax_put_o (Or.inr (by decide)) (ax_put_s _ _ _))
      have p7 : G.2.2.2 63 7 = iv (wkV h 5) := (gf 63 7 (by decide)).trans (ax_put_s _ _ _)
      have HH : ∀ c, c < n → wkal h c = true → 0 ≤ wkfe h c ∧ 0 ≤ wkpg h c := fun c hc al => by
        obtain ⟨s, -, -, -, -, -, -, -, -, -, -, ba, -⟩ := wk_c I L hn hn14 hc
        exact ⟨(ba al).2.1, (ba al).1⟩
      obtain ⟨Z, hZ⟩ : ∃ Z : Int, wkZ (M - wkV h 3) (wkV h 5) (wkR (wkal h) (wkpo h) (wkwo h) (wkfe h) (wkpg h) (wkV h 6) ww n 0 (fun _ => 0) 0 0 0) = Z := ⟨_, rfl⟩
      have H117 : ∃ G', am_ev (d + 19) 117 0 (am_ent [.ref 63, .int ww, .ref 74, iv n, .ref 43] 10) [] g (some (iv Z), G') := by
        by_cases hP : M - wkV h 3 < 0
        · rw [← hZ, wkZ_out (n := n) HH (by omega) (by omega)]
          exact ⟨G, wo_117z (d := d + 17) Sg H110 SG p6 (by omega) hP⟩
        · have DD : ∀ c, c < n → bt ww c = true → ∃ s : Nat, h.2.2.2 73 (qc h c) = .ref s ∧ wkD g (wkal h) (wkpo h) (wkwo h) (wkfe h) (wkpg h) (kc h) (fun _ => s) c := fun c hc hb => wk_D I L hn hn14 XX c hc hb
          have DG : ∀ c, c < n → bt ww c = true → wkD G (wkal h) (wkpo h) (wkwo h) (wkfe h) (wkpg h) (kc h) (fun c => gR (h.2.2.2 73 (qc h c))) c := fun c hc hb => by
            obtain ⟨s, s1, k1, k2, k3, k4, k5, k6, k7, k8, k9, k10, k11, k12, k13, k14, k15⟩ := DD c hc hb
            have es : gR (h.2.2.2 73 (qc h c)) = s := by
              rw [s1]
              rfl
            have k7 : 130 ≤ s := k7
            show G.2.2.2 74 c = .ref (kc h c) ∧ am_isO G (kc h c) 1 = true ∧ 130 ≤ kc h c ∧ G.2.2.2 (kc h c) 2 = iv (b2 (wkal h c)) ∧ G.2.2.2 (kc h c) 1 = .ref (gR (h.2.2.2 73 (qc h c))) ∧ am_isO G (gR (h.2.2.2 73 (qc h c))) 6 = true ∧ 130 ≤ gR (h.2.2.2 73 (qc h c)) ∧ G.2.2.2 (gR (h.2.2.2 73 (qc h c))) 0 = iv (wkpo h c) ∧ wkpo h c < 20 ∧ G.2.2.2 (gR (h.2.2.2 73 (qc h c))) 3 = iv (wkwo h c) ∧ _
            rw [es]
            exact ⟨(gf' 74 c (by decide) (by decide)).trans k1, isO_eq g1 g2 k2, k3, (gf' _ 2 (by omega) (by omega)).trans k4, (gf' _ 1 (by omega) (by omega)).trans k5, isO_eq g1 g2 k6, k7, (gf' s 0 (by omega) (by omega)).trans k8, k9, (gf' s 3 (by omega) (by omega)).trans k10, k11, (gf' _ 5 (by omega) (by omega)).trans k12, k13, (gf' _ 6 (by omega) (by omega)).trans k14, k15⟩
          obtain ⟨G', r⟩ := wk_117 (d := d + 17) (S0 := ww) hn14 b6 ⟨Int.not_lt.1 hP, by omega⟩ b5 DG HH p4 p3 p5 p6 p7 n 0 (fun _ => 0) 0 0 0 G am_ph (by omega) SG rfl rfl (fun _ _ _ => rfl) g0 (fun j => ⟨Int.le_refl _, Int.le_refl _⟩) (by omega) (by omega) (by omega) (by omega)
          rw [hZ] at r
          exact ⟨G', wo_117s (d := d + 17) Sg H110 SG p6 (by omega) (Int.not_lt.1 hP) r⟩
      obtain ⟨G', H117⟩ := H117
      have P1 := wo_115y (d := d + 14) S H116 r108 Sg g13 H117
      have H165 : am_ev (d + 19) 165 0 (am_ent [.long ww.toInt64, .long (Int64.ofNat 0), .long (wkL n)] 6) [] h1 (some (iv 1), h1) := md_165t (by
        rw [Int32.toInt_toInt64, wkL_b n (by omega), show (Int64.ofNat 0).toInt = 0 by decide]
        exact q)
      obtain ⟨G1, H235, k1, k2, k3⟩ := lk_235 (d := d + 11) I1 L1 h53 hn14 (gS.rf I1)
      have x81 : ∀ j, G1.2.2.2 81 j = h.2.2.2 81 j := fun j => (k3 81 j (by decide) (by decide) (by decide) (by decide) (by decide)).trans (E1.2.2.1 81 j (by decide) (by decide) (by decide) (by decide) (by decide) (by decide) (by decide) (Or.inl (by decide)))
      obtain ⟨G2, b_, e236, S2, z1, z2⟩ := wk_236 (d := d + 19) (S0 := ww) k1.1 hn14 b6 b3 b5 hM (by omega) bM (fun c hc => wk_G I L hn hn14 E1 k2 k3 c hc) ((k3 78 53 (by decide) (by decide) (by decide) (by decide) (by decide)).trans h53) ((x81 6).trans (gV 6 (by decide)).2) ((x81 4).trans (gV 4 (by decide)).2) ((x81 1).trans (gV 1 (by decide)).2) ((x81 5).trans (gV 5 (by decide)).2) ((x81 3).trans (gV 3 (by decide)).2)
      rw [hZ] at z1 z2
      cases b_ with
      | true => exact fin Z _ _ P1 (wm_2381 (d := d + 11) S1 h53 H165 H235 k1.1 e236 S2 (z1 rfl))
      | false =>
        have P2 := wm_2380 (d := d + 11) S1 h53 H165 H235 k1.1 e236 S2
        rw [← z2 rfl] at P2
        exact fin Z _ _ P1 P2
    · have H116 := wo_116f (d := d + 18) S hn (fun z => q ((wk_mask (S0 := ww) hn14).1 z))
      have H165 : am_ev (d + 19) 165 0 (am_ent [.long ww.toInt64, .long (Int64.ofNat 0), .long (wkL n)] 6) [] h1 (some (iv 0), h1) := md_165f (by
        rw [Int32.toInt_toInt64, wkL_b n (by omega), show (Int64.ofNat 0).toInt = 0 by decide]
        exact q)
      exact fin (-2) _ _ (wo_115n (d := d + 14) S H116) (wm_238n (d := d + 11) S1 h53 H165)
  rw [q] at ev1
  exact ⟨b, h1, h2, ev1, ev2, I1, I2, F1, F2, fun q hq => (by cases hq), by omega, by omega⟩
end WKO
