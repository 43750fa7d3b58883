section
/-! POEM AND TRANSLATED: what they leave -/
section OPP
variable {h : am_H} {d : Nat} {p a b c e u : Int32}
theorem op_poe (I : cq_Inv none h) (P : rp_P h) (C : rp_C h) : ∃ (x : Int32) (h1 h2 : am_H), am_ev (d + 2) 38 0 (am_ent [.ref 40, .int a, .int b, .int c, .int e] (am_in 38).2.2.1) [] h (some (.int x), h1) ∧ am_ev (d + 2) 185 0 (am_ent [.ref 78, .int a, .int b, .int c, .int e] (am_in 185).2.2.1) [] h1 (some (.int x), h2) ∧ rp_O h h1 h2 ct_38.2.2.2.1 ct_185.2.2.2.1 ∧ (rQ h → rQ h2) := by
  have P0 := P
  obtain ⟨m, m1, m2, PP, PD⟩ := P
  have bm := rp_bm I m1
  have lo := I.lo
  obtain ⟨r, h1, ev1, T1, I1, F1, A1, B1⟩ := sp_ap4 (A := 3) (B := 15) ok_38 rfl rfl (by decide +kernel) I (d := d + 2) (by show 2 ≤ d + 2; omega) a b c e
  obtain ⟨r', h2, ev2, T2, I2, F2, A2, B2⟩ := sp_ap4 (A := 0) (B := 0) ok_185 rfl rfl (by decide +kernel) I1 (d := d + 2) (by show 2 ≤ d + 2; omega) a b c e
  have k16 : h1.2.2.2 78 16 = .int m := by rw [lw_frF F1 lo (by decide) (by decide +kernel), m2]
  have k86 : ∀ j, h1.2.2.2 86 j = h.2.2.2 86 j := lw_frA F1 lo (by decide) (by decide +kernel)
  have k90 : ∀ j, h1.2.2.2 90 j = h.2.2.2 90 j := lw_frA F1 lo (by decide) (by decide +kernel)
  have C2 : rp_C h2 := rp_Cfr I1 F2 (by decide +kernel) (rp_Cfr I F1 (by decide +kernel) C)
  have fin : ∀ x : Int32, r = some (.int x) → r' = some (.int x) → rp_P h2 → (rQ h → rQ h2) → ∃ (x : Int32) (h1 h2 : am_H), am_ev (d + 2) 38 0 (am_ent [.ref 40, .int a, .int b, .int c, .int e] (am_in 38).2.2.1) [] h (some (.int x), h1) ∧ am_ev (d + 2) 185 0 (am_ent [.ref 78, .int a, .int b, .int c, .int e] (am_in 185).2.2.1) [] h1 (some (.int x), h2) ∧ rp_O h h1 h2 ct_38.2.2.2.1 ct_185.2.2.2.1 ∧ (rQ h → rQ h2) := fun x e1 e2 P2 Q2 => ⟨x, h1, h2, by rw [← e1]; exact ev1, by rw [← e2]; exact ev2, ⟨I1, I2, F1, F2, P2, C2, by omega, by omega⟩, Q2⟩
  by_cases q : po_ok a b c e
  · by_cases hm : m.toInt < 40
    · obtain ⟨g, w1, w2, w3, w4, w5, w6, w7, w8⟩ := pc_38d (d := d) I q m1 ⟨bm.1, hm⟩
      obtain ⟨g', u1, u2, u3, u4, u5, u6, u7⟩ := pm_185d (d := d) I1 q k16 ⟨bm.1, hm⟩
      have q1 := ax_det ev1 (w1)
      have q2 := ax_det ev2 (u1)
      have e1 := (Prod.mk.inj q1).1
      have e2 := (Prod.mk.inj q2).1
      have e3 := (Prod.mk.inj q1).2
      have e4 := (Prod.mk.inj q2).2
      have mp0 := ax_p1 (m := m) ⟨bm.1, by omega⟩
      have QQ : rQ h → rQ h2 := fun Q => by
        obtain ⟨z, m', n1, n2, QP, QN⟩ := Q
        rw [m1] at n1
        cases n1
        have f73 := lw_frA F2 I1.lo (c := 73) (by decide) (by decide +kernel)
        have nw : h1.2.2.2 73 m.toInt.toNat = .ref h.1 := by
          rw [e3]
          exact w3
        have kA : ∀ c, 86 ≤ c → c ≤ 92 → ∀ j, h1.2.2.2 c j = h.2.2.2 c j := fun c a1 a2 => by
          have hc : c = 86 ∨ c = 87 ∨ c = 88 ∨ c = 89 ∨ c = 90 ∨ c = 91 ∨ c = 92 := by omega
          rcases hc with rfl | rfl | rfl | rfl | rfl | rfl | rfl <;> exact lw_frA F1 lo (by decide) (by decide +kernel)
        obtain ⟨o1, o2, o3⟩ := rp_obj I1 (p := m.toInt.toNat) (by omega) nw
        obtain ⟨y1, y2, y3, y5, y6, -⟩ := w8
        have xs : ∀ j, h2.2.2.2 h.1 j = g.2.2.2 h.1 j := fun j => (F2.vl h.1 o2 j (by
          unfold cq_inW
          rw [List.any_eq_false]
          intro w hw
          have z : (ct_185.2.2.2.1.all fun w => !w.1 && Nat.blt w.2.1 130) = true := by decide +kernel
          have y := (Bool.and_eq_true _ _ ▸ List.all_eq_true.1 z w hw)
          have y1 : w.1 = false := by simpa using y.1
          have y2 : w.2.1 < 130 := Nat.le_of_ble_eq_true y.2
          rw [y1, dh_bne (show w.2.1 ≠ h.1 by omega)]
          simp)).trans (by rw [e3])
        obtain ⟨N1, N2⟩ := QN m.toInt.toNat (by omega) (by omega)
        refine ⟨?_, m + Int32.ofInt 1, ?_, ?_, fun p hp => ?_, fun p a1 a2 => ?_⟩
        · rw [lw_frA F2 I1.lo (c := 56) (by decide) (by decide +kernel), lw_frA F1 lo (c := 56) (by decide) (by decide +kernel)]
          exact z
        · rw [lw_frF F2 I1.lo (by decide) (by decide +kernel), e3]
          exact w2
        · rw [e4]
          exact u2
        · by_cases ep : p = m.toInt.toNat
          · subst ep
            refine ⟨h.1, by rw [f73, nw], fun j hj => ?_⟩
            rw [xs, e4]
            have hj : j = 0 ∨ j = 1 ∨ j = 2 ∨ j = 3 ∨ j = 4 ∨ j = 5 ∨ j = 6 := by omega
            rcases hj with rfl | rfl | rfl | rfl | rfl | rfl | rfl
            · exact w4.trans u3.symm
            · exact y1.trans u6.1.symm
            · exact y2.trans u6.2.1.symm
            · exact y3.trans u6.2.2.symm
            · exact w5.trans u4.symm
            · exact y5.trans ((u7 91 _ (by decide) (by omega)).trans ((kA 91 (by decide) (by decide) _).trans N1)).symm
            · exact y6.trans ((u7 92 _ (by decide) (by omega)).trans ((kA 92 (by decide) (by decide) _).trans N2)).symm
          · obtain ⟨s, k1, k2⟩ := QP p (by omega)
            obtain ⟨p1, p2, p3⟩ := rp_obj I (p := p) (by omega) k1
            refine ⟨s, by rw [f73, e3, w6 p ep, k1], fun j hj => ?_⟩
            have x1 : h2.2.2.2 s j = h1.2.2.2 s j := F2.vl s (by omega) j (by
              unfold cq_inW
              rw [List.any_eq_false]
              intro w hw
              have z : (ct_185.2.2.2.1.all fun w => !w.1 && Nat.blt w.2.1 130) = true := by decide +kernel
              have y := (Bool.and_eq_true _ _ ▸ List.all_eq_true.1 z w hw)
              have y1 : w.1 = false := by simpa using y.1
              have y2 : w.2.1 < 130 := Nat.le_of_ble_eq_true y.2
              rw [y1, dh_bne (show w.2.1 ≠ s by omega)]
              simp)
            rw [x1, e3, w7 s j p1 p2, e4, u7 (86 + j) p (by omega) (by omega), kA (86 + j) (by omega) (by omega)]
            exact k2 j hj
        · rw [e4, u7 91 p (by decide) (by omega), u7 92 p (by decide) (by omega), kA 91 (by decide) (by decide), kA 92 (by decide) (by decide)]
          exact QN p (by omega) a2
      refine fin _ e1 e2 ?_ QQ
      have mp := ax_p1 (m := m) ⟨bm.1, by omega⟩
      have f73 := lw_frA F2 I1.lo (c := 73) (by decide) (by decide +kernel)
      have x73 : ∀ j, h2.2.2.2 73 j = g.2.2.2 73 j := fun j => by rw [f73, e3]
      have nw : h1.2.2.2 73 m.toInt.toNat = .ref h.1 := by
        rw [e3]
        exact w3
      refine ⟨m + Int32.ofInt 1, ?_, ?_, fun p hp => ?_, fun p q h1 h2 => ?_⟩
      · rw [lw_frF F2 I1.lo (by decide) (by decide +kernel), e3]
        exact w2
      · rw [e4]
        exact u2
      · by_cases ep : p = m.toInt.toNat
        · subst ep
          obtain ⟨o1, o2, o3⟩ := rp_obj I1 (p := m.toInt.toNat) (by omega) nw
          refine ⟨h.1, a, Int32.ofInt (-1), by rw [f73, nw], ?_, by rw [e4]; exact u3, ?_, by rw [e4]; exact u4⟩
          · rw [lw_frO F2 o1 o2 o3 (by decide +kernel), e3]
            exact w4
          · rw [lw_frO F2 o1 o2 o3 (by decide +kernel), e3]
            exact w5
        · obtain ⟨s, t, w, k1, k2, k3, k4, k5⟩ := PP p (by omega)
          obtain ⟨o1, o2, o3⟩ := rp_obj I (p := p) (by omega) k1
          have y1 : h1.2.2.2 73 p = .ref s := by rw [e3, w6 p ep, k1]
          obtain ⟨p1, p2, p3⟩ := rp_obj I1 (p := p) (by omega) y1
          obtain ⟨v1, v2⟩ := u5 p ep
          refine ⟨s, t, w, by rw [f73, y1], ?_, by rw [e4, v1, k86, k3], ?_, by rw [e4, v2, k90, k5]⟩
          · rw [lw_frO F2 p1 p2 p3 (by decide +kernel), e3, w7 s 0 o1 o2, k2]
          · rw [lw_frO F2 p1 p2 p3 (by decide +kernel), e3, w7 s 4 o1 o2, k4]
      · rw [x73, x73]
        by_cases eq : q = m.toInt.toNat
        · subst eq
          obtain ⟨s, t, w, k1, -⟩ := PP p (by omega)
          obtain ⟨o1, o2, o3⟩ := rp_obj I (p := p) (by omega) k1
          rw [w6 p (by omega), k1, w3]
          intro z
          cases z
          omega
        · rw [w6 p (by omega), w6 q eq]
          exact PD p q h1 (by omega)
    · have w1 := pc_38u (d := d + 1) I q m1 (by omega)
      have u1 := pm_185u (d := d) I1 q k16 (by omega)
      have q1 := ax_det ev1 (w1)
      have q2 := ax_det ev2 (u1)
      have e1 := (Prod.mk.inj q1).1
      have e2 := (Prod.mk.inj q2).1
      have e3 := (Prod.mk.inj q1).2
      have e4 := (Prod.mk.inj q2).2
      exact fin _ e1 e2 (by rw [e4, e3]; exact P0) (fun Q => by rw [e4, e3]; exact Q)
  · have w1 := pc_38f (h := h) (d := d + 1) q
    have u1 := pm_185f (h := h1) (d := d) q
    have q1 := ax_det ev1 (w1)
    have q2 := ax_det ev2 (u1)
    have e1 := (Prod.mk.inj q1).1
    have e2 := (Prod.mk.inj q2).1
    have e3 := (Prod.mk.inj q1).2
    have e4 := (Prod.mk.inj q2).2
    exact fin _ e1 e2 (by rw [e4, e3]; exact P0) (fun Q => by rw [e4, e3]; exact Q)
theorem op_tra (I : cq_Inv none h) (P : rp_P h) (C : rp_C h) : ∃ (x : Int32) (h1 h2 : am_H), am_ev (d + 2) 41 0 (am_ent [.ref 40, .int p, .int a, .int u] (am_in 41).2.2.1) [] h (some (.int x), h1) ∧ am_ev (d + 2) 187 0 (am_ent [.ref 78, .int p, .int a, .int u] (am_in 187).2.2.1) [] h1 (some (.int x), h2) ∧ rp_O h h1 h2 ct_41.2.2.2.1 ct_187.2.2.2.1 ∧ (rQ h → rQ h2) := by
  have P0 := P
  obtain ⟨m, m1, m2, PP, PD⟩ := P
  have bm := rp_bm I m1
  have lo := I.lo
  obtain ⟨r, h1, ev1, T1, I1, F1, A1, B1⟩ := sp_ap3 (A := 0) (B := 0) ok_41 rfl rfl (by decide +kernel) I (d := d + 2) (by show 1 ≤ d + 2; omega) p a u
  obtain ⟨r', h2, ev2, T2, I2, F2, A2, B2⟩ := sp_ap3 (A := 0) (B := 0) ok_187 rfl rfl (by decide +kernel) I1 (d := d + 2) (by show 2 ≤ d + 2; omega) p a u
  have O40 := ax_o I (c := 40) (k := 11) (by decide +kernel)
  have O78 := ax_o I1 (c := 78) (k := 13) (by decide +kernel)
  have k16 : h1.2.2.2 78 16 = .int m := by rw [lw_frF F1 lo (by decide) (by decide +kernel), m2]
  have k86 : ∀ j, h1.2.2.2 86 j = h.2.2.2 86 j := lw_frA F1 lo (by decide) (by decide +kernel)
  have k90 : ∀ j, h1.2.2.2 90 j = h.2.2.2 90 j := lw_frA F1 lo (by decide) (by decide +kernel)
  have C2 : rp_C h2 := rp_Cfr I1 F2 (by decide +kernel) (rp_Cfr I F1 (by decide +kernel) C)
  have fin : ∀ x : Int32, r = some (.int x) → r' = some (.int x) → rp_P h2 → (rQ h → rQ h2) → ∃ (x : Int32) (h1 h2 : am_H), am_ev (d + 2) 41 0 (am_ent [.ref 40, .int p, .int a, .int u] (am_in 41).2.2.1) [] h (some (.int x), h1) ∧ am_ev (d + 2) 187 0 (am_ent [.ref 78, .int p, .int a, .int u] (am_in 187).2.2.1) [] h1 (some (.int x), h2) ∧ rp_O h h1 h2 ct_41.2.2.2.1 ct_187.2.2.2.1 ∧ (rQ h → rQ h2) := fun x e1 e2 P2 Q2 => ⟨x, h1, h2, by rw [← e1]; exact ev1, by rw [← e2]; exact ev2, ⟨I1, I2, F1, F2, P2, C2, by omega, by omega⟩, Q2⟩
  by_cases hp : 0 ≤ p.toInt ∧ p.toInt < m.toInt
  · obtain ⟨s, t, w, s1, s2, s3, s4, s5⟩ := PP p.toInt.toNat (by omega)
    have H42 := (po_42 (d := d + 1) I m1 bm).1 hp
    rw [s1] at H42
    have H188 := (po_188 (d := d) O78 k16 bm).1 hp
    have ko := rp_obj I (p := p.toInt.toNat) (by omega) s1
    have Os := ax_kO ko
    obtain ⟨o1, o2, o3⟩ := ko
    have v17 := ax_rf I1 (c := 78) (j := 17) (k := 86) (by decide +kernel) (by decide +kernel)
    have v21 := ax_rf I1 (c := 78) (j := 21) (k := 90) (by decide +kernel) (by decide +kernel)
    have v22 := ax_rf I1 (c := 78) (j := 22) (k := 91) (by decide +kernel) (by decide +kernel)
    have A86 := ax_ar I1 (c := 86) (tc := 0) (n := 40) (by decide) (by decide +kernel)
    have A90 := ax_ar I1 (c := 90) (tc := 0) (n := 40) (by decide) (by decide +kernel)
    have A91 := ax_ar I1 (c := 91) (tc := 0) (n := 40) (by decide) (by decide +kernel)
    have rd1 : am_rd h1 86 p (fun c => Nat.beq c 0) = some (.int t) := by
      rw [ax_rdv A86.1 A86.2 (by decide) (by decide) hp.1 (by omega), k86, s3]
    have rd2 : am_rd h1 90 p (fun c => Nat.beq c 0) = some (.int w) := by
      rw [ax_rdv A90.1 A90.2 (by decide) (by decide) hp.1 (by omega), k90, s5]
    by_cases q : tr_ok a u t
    · by_cases qw : w = Int32.ofInt (-1)
      · have w1 := tr_41d (d := d + 1) O40 H42 Os s2 s4 q qw
        have u1 := tr_187d (d := d) O78 H188 v17 v21 v22 rd1 rd2 q qw (ax_wrv A90.1 A90.2 hp.1 (by omega)) (ax_wrv A91.1 A91.2 hp.1 (by omega))
        have q1 := ax_det ev1 (w1)
        have q2 := ax_det ev2 (u1)
        have e1 := (Prod.mk.inj q1).1
        have e2 := (Prod.mk.inj q2).1
        have e3 := (Prod.mk.inj q1).2
        have e4 := (Prod.mk.inj q2).2
        have QQ : rQ h → rQ h2 := fun Q => by
          obtain ⟨z, m', n1, n2, QP, QN⟩ := Q
          rw [m1] at n1
          cases n1
          have j1 : ∀ c j, (c ≠ s ∨ (j ≠ 4 ∧ j ≠ 5)) → h1.2.2.2 c j = h.2.2.2 c j := fun c j hc => by
            rw [e3]
            exact ax_put_o (by omega) (ax_put_o (by omega) rfl)
          have j2 : ∀ c j, (c < 90 ∨ 91 < c ∨ j ≠ p.toInt.toNat) → h2.2.2.2 c j = h1.2.2.2 c j := fun c j hc => by
            rw [e4]
            exact ax_put_o (by omega) (ax_put_o (by omega) rfl)
          refine ⟨by rw [j2 56 0 (by omega), j1 56 0 (by omega), z], m, by rw [j2 40 8 (by omega), j1 40 8 (by omega), m1], by rw [j2 78 16 (by omega), k16], fun p' hp' => ?_, fun p' a1 a2 => ?_⟩
          · by_cases ep : p' = p.toInt.toNat
            · subst ep
              obtain ⟨s', l1, l2⟩ := QP p.toInt.toNat hp'
              rw [s1] at l1
              cases l1
              refine ⟨s, by rw [j2 73 _ (by omega), j1 73 _ (by omega), s1], fun j hj => ?_⟩
              have hj' : j = 4 ∨ j = 5 ∨ (j ≠ 4 ∧ j ≠ 5) := by omega
              rcases hj' with rfl | rfl | hj'
              · rw [j2 s 4 (by omega), e4, e3]
                exact Eq.trans (ax_put_o (Or.inr (by decide)) (ax_put_s _ _ _)) (Eq.symm (ax_put_o (Or.inl (by decide)) (ax_put_s _ _ _)))
              · rw [j2 s 5 (by omega), e4, e3]
                exact Eq.trans (ax_put_s _ _ _) (Eq.symm (ax_put_s _ _ _))
              · rw [j2 s j (by omega), j1 s j (Or.inr hj'), j2 (86 + j) _ (by omega), j1 (86 + j) _ (by omega)]
                exact l2 j hj
            · obtain ⟨s', l1, l2⟩ := QP p' hp'
              obtain ⟨b1, b2, b3⟩ := rp_obj I (p := p') (by omega) l1
              have l0 := l1
              have ne : s' ≠ s := fun z => by
                rw [z, ← s1] at l1
                rcases Nat.lt_or_gt_of_ne ep with y | y
                · exact PD p' _ y (by omega) l1
                · exact PD _ p' y hp' l1.symm
              refine ⟨s', by rw [j2 73 _ (by omega), j1 73 _ (by omega), l0], fun j hj => ?_⟩
              rw [j2 s' j (by omega), j1 s' j (Or.inl ne), j2 (86 + j) _ (Or.inr (Or.inr ep)), j1 (86 + j) _ (by omega)]
              exact l2 j hj
          · rw [j2 91 p' (by omega), j2 92 p' (by omega), j1 91 p' (by omega), j1 92 p' (by omega)]
            exact QN p' a1 a2
        refine fin _ e1 e2 ?_ QQ
        have j1 : ∀ c j, c ≠ s → h1.2.2.2 c j = h.2.2.2 c j := fun c j hc => by
          rw [e3]
          exact ax_put_o (Or.inl hc) (ax_put_o (Or.inl hc) rfl)
        have j2 : ∀ c j, c ≠ 90 → c ≠ 91 → h2.2.2.2 c j = h1.2.2.2 c j := fun c j hc hd => by
          rw [e4]
          exact ax_put_o (Or.inl hd) (ax_put_o (Or.inl hc) rfl)
        have x0 : h1.2.2.2 s 0 = .int t := by
          rw [e3]
          exact ax_put_o (Or.inr (by decide)) (ax_put_o (Or.inr (by decide)) s2)
        have x4 : h1.2.2.2 s 4 = .int a := by
          rw [e3]
          exact ax_put_o (Or.inr (by decide)) (ax_put_s _ _ _)
        have x90 : h2.2.2.2 90 p.toInt.toNat = .int a := by
          rw [e4]
          exact ax_put_o (Or.inl (by decide)) (ax_put_s _ _ _)
        have x91 : ∀ j, j ≠ p.toInt.toNat → h2.2.2.2 90 j = h1.2.2.2 90 j := fun j hj => by
          rw [e4]
          exact ax_put_o (Or.inl (by decide)) (ax_put_o (Or.inr hj) rfl)
        have y73 : ∀ j, h2.2.2.2 73 j = h.2.2.2 73 j := fun j => by rw [j2 73 j (by decide) (by decide), j1 73 j (by omega)]
        refine ⟨m, by rw [j2 40 8 (by decide) (by decide), j1 40 8 (by omega), m1], by rw [j2 78 16 (by decide) (by decide), k16], fun p' hp' => ?_, fun p' q' z1 z2 => by rw [y73, y73]; exact PD p' q' z1 z2⟩
        by_cases ep : p' = p.toInt.toNat
        · rw [ep]
          exact ⟨s, t, a, by rw [y73, s1], by rw [j2 s 0 (by omega) (by omega), x0], by rw [j2 86 _ (by decide) (by decide), k86, s3], by rw [j2 s 4 (by omega) (by omega), x4], x90⟩
        · obtain ⟨s', t', w', l1, l2, l3, l4, l5⟩ := PP p' hp'
          obtain ⟨b1, b2, b3⟩ := rp_obj I (p := p') (by omega) l1
          have ne : s' ≠ s := fun z => by
            rw [z, ← s1] at l1
            rcases Nat.lt_or_gt_of_ne ep with y | y
            · exact PD p' _ y (by omega) l1
            · exact PD _ p' y hp' l1.symm
          exact ⟨s', t', w', by rw [y73, l1], by rw [j2 s' 0 (by omega) (by omega), j1 s' 0 ne, l2], by rw [j2 86 _ (by decide) (by decide), k86, l3], by rw [j2 s' 4 (by omega) (by omega), j1 s' 4 ne, l4], by rw [x91 p' ep, k90, l5]⟩
      · have w1 := tr_41s (d := d + 1) O40 H42 Os s2 s4 q qw
        have u1 := tr_187s (d := d) O78 H188 v17 v21 rd1 rd2 q qw
        have q1 := ax_det ev1 (w1)
        have q2 := ax_det ev2 (u1)
        have e1 := (Prod.mk.inj q1).1
        have e2 := (Prod.mk.inj q2).1
        have e3 := (Prod.mk.inj q1).2
        have e4 := (Prod.mk.inj q2).2
        exact fin _ e1 e2 (by rw [e4, e3]; exact P0) (fun Q => by rw [e4, e3]; exact Q)
    · have w1 := tr_41f (d := d + 1) O40 H42 Os s2 q
      have u1 := tr_187f (d := d) O78 H188 v17 rd1 q
      have q1 := ax_det ev1 (w1)
      have q2 := ax_det ev2 (u1)
      have e1 := (Prod.mk.inj q1).1
      have e2 := (Prod.mk.inj q2).1
      have e3 := (Prod.mk.inj q1).2
      have e4 := (Prod.mk.inj q2).2
      exact fin _ e1 e2 (by rw [e4, e3]; exact P0) (fun Q => by rw [e4, e3]; exact Q)
  · have H42 := (po_42 (d := d + 1) I m1 bm).2 hp
    have H188 := (po_188 (d := d) O78 k16 bm).2 hp
    have w1 := tr_41n (a := a) (u := u) (d := d + 1) O40 H42
    have u1 := tr_187n (a := a) (u := u) (d := d) O78 H188
    have q1 := ax_det ev1 (w1)
    have q2 := ax_det ev2 (u1)
    have e1 := (Prod.mk.inj q1).1
    have e2 := (Prod.mk.inj q2).1
    have e3 := (Prod.mk.inj q1).2
    have e4 := (Prod.mk.inj q2).2
    exact fin _ e1 e2 (by rw [e4, e3]; exact P0) (fun Q => by rw [e4, e3]; exact Q)
end OPP
section OPQ
variable {h : am_H} {d : Nat}
theorem oq_poe (I : cq_Inv none h) (P : rp_P h) (C : rp_C h) (w1 w2 w3 w4 : Int32) : ∃ (x : Int32) (h1 h2 : am_H), am_ev (d + 8) 38 0 (am_ent [.ref 40, .int w1, .int w2, .int w3, .int w4] (am_in 38).2.2.1) [] h (some (.int x), h1) ∧ am_ev (d + 8) 185 0 (am_ent [.ref 78, .int w1, .int w2, .int w3, .int w4] (am_in 185).2.2.1) [] h1 (some (.int x), h2) ∧ cq_Inv none h1 ∧ cq_Inv none h2 ∧ cq_Fr ct_38.2.2.2.1 h h1 ∧ cq_Fr ct_185.2.2.2.1 h1 h2 ∧ (∀ q ∈ [((40 : Nat), (8 : Nat), (78 : Nat), (16 : Nat))], tT h2 q) ∧ rp_P h2 ∧ rp_C h2 ∧ (rQ h → rQ h2) ∧ h2.1 ≤ h.1 + 12 ∧ h2.2.1 ≤ h.2.1 + 624 := by
  obtain ⟨x, h1, h2, a1, a2, ⟨I1, I2, F1, F2, P2, C2, b1, b2⟩, Q2⟩ := op_poe (d := d + 6) (a := w1) (b := w2) (c := w3) (e := w4) I P C
  refine ⟨x, h1, h2, a1, a2, I1, I2, F1, F2, fun q hq => ?_, P2, C2, Q2, b1, b2⟩
  rw [List.mem_singleton.1 hq]
  obtain ⟨m, m1, m2, -⟩ := P2
  exact ⟨m, m1, m2⟩
theorem oq_tra (I : cq_Inv none h) (P : rp_P h) (C : rp_C h) (w1 w2 w3 : Int32) : ∃ (x : Int32) (h1 h2 : am_H), am_ev (d + 8) 41 0 (am_ent [.ref 40, .int w1, .int w2, .int w3] (am_in 41).2.2.1) [] h (some (.int x), h1) ∧ am_ev (d + 8) 187 0 (am_ent [.ref 78, .int w1, .int w2, .int w3] (am_in 187).2.2.1) [] h1 (some (.int x), h2) ∧ cq_Inv none h1 ∧ cq_Inv none h2 ∧ cq_Fr ct_41.2.2.2.1 h h1 ∧ cq_Fr ct_187.2.2.2.1 h1 h2 ∧ (∀ q ∈ [((40 : Nat), (8 : Nat), (78 : Nat), (16 : Nat))], tT h2 q) ∧ rp_P h2 ∧ rp_C h2 ∧ (rQ h → rQ h2) ∧ h2.1 ≤ h.1 + 12 ∧ h2.2.1 ≤ h.2.1 + 624 := by
  obtain ⟨x, h1, h2, a1, a2, ⟨I1, I2, F1, F2, P2, C2, b1, b2⟩, Q2⟩ := op_tra (d := d + 6) (p := w1) (a := w2) (u := w3) I P C
  refine ⟨x, h1, h2, a1, a2, I1, I2, F1, F2, fun q hq => ?_, P2, C2, Q2, b1, b2⟩
  rw [List.mem_singleton.1 hq]
  obtain ⟨m, m1, m2, -⟩ := P2
  exact ⟨m, m1, m2⟩
theorem oq_can (I : cq_Inv none h) (P : rp_P h) (C : rp_C h) (w1 : Int32) : ∃ (x : Int32) (h1 h2 : am_H), am_ev (d + 8) 101 0 (am_ent [.ref 40, .int w1] (am_in 101).2.2.1) [] h (some (.int x), h1) ∧ am_ev (d + 8) 225 0 (am_ent [.ref 78, .int w1] (am_in 225).2.2.1) [] h1 (some (.int x), h2) ∧ cq_Inv none h1 ∧ cq_Inv none h2 ∧ cq_Fr ct_101.2.2.2.1 h h1 ∧ cq_Fr ct_225.2.2.2.1 h1 h2 ∧ (∀ q ∈ [((40 : Nat), (8 : Nat), (78 : Nat), (16 : Nat))], tT h2 q) ∧ rp_P h2 ∧ rp_C h2 ∧ h2.1 ≤ h.1 + 12 ∧ h2.2.1 ≤ h.2.1 + 624 := by
  obtain ⟨x, h1, h2, a1, a2, I1, I2, F1, F2, P2, C2, b1, b2⟩ := op_can (d := d + 6) (p := w1) I P C
  refine ⟨x, h1, h2, a1, a2, I1, I2, F1, F2, fun q hq => ?_, P2, C2, b1, b2⟩
  rw [List.mem_singleton.1 hq]
  obtain ⟨m, m1, m2, -⟩ := P2
  exact ⟨m, m1, m2⟩
end OPQ
end
section
/-! LEAVES, the program's side -/
def tx_l (c : Nat) : Nat := match c with
  | 0 => 7
  | 1 => 15
  | 2 => 4
  | 3 => 1
  | 4 => 3
  | _ => 2
theorem tx_l_lt (c : Nat) : tx_l c < 16 := by
  unfold tx_l
  split <;> decide
/-- which clause of a leave a token begins: 0 to 5, -1 none -/
def cl_l (b : Nat → Int) (s e : Nat) (k c : Int) : Prop := (∃ n : Nat, n < 6 ∧ c = n ∧ tz_w b s e k (tx_l n)) ∨ (c = -1 ∧ ∀ n, n < 6 → ¬ tz_w b s e k (tx_l n))
theorem cl_l_ex (b : Nat → Int) (s e : Nat) (k : Int) : ∃ c, cl_l b s e k c := by
  by_cases q : ∃ n : Nat, n < 6 ∧ tz_w b s e k (tx_l n)
  · obtain ⟨n, a, c⟩ := q
    exact ⟨n, Or.inl ⟨n, a, rfl, c⟩⟩
  · exact ⟨-1, Or.inr ⟨rfl, fun n a c => q ⟨n, a, c⟩⟩⟩
theorem cl_l_w {b : Nat → Int} {s e : Nat} {k c : Int} (q : cl_l b s e k c) {n : Nat} (hn : n < 6) : (c = n → tz_w b s e k (tx_l n)) ∧ (c ≠ n → ¬ tz_w b s e k (tx_l n)) := by
  have inj : ∀ n, n < 6 → ∀ m, m < 6 → tx_l n = tx_l m → n = m := by decide +kernel
  rcases q with ⟨m, a, e1, w⟩ | ⟨e1, w⟩
  · refine ⟨fun z => ?_, fun z y => ?_⟩
    · have : n = m := by omega
      rw [this]
      exact w
    · have := inj n hn m a (tz_wx (tx_l_lt n) (tx_l_lt m) y w)
      omega
  · exact ⟨fun z => by omega, fun z => w n hn⟩
/-- which way of a fee a token tells: 0 line, 1 page, 2 all, -1 none -/
def tx_f (c : Nat) : Nat := match c with
  | 0 => 8
  | 1 => 10
  | _ => 0
theorem tx_f_lt (c : Nat) : tx_f c < 16 := by
  unfold tx_f
  split <;> decide
def cl_f (b : Nat → Int) (s e : Nat) (k c : Int) : Prop := (∃ n : Nat, n < 3 ∧ c = n ∧ tz_w b s e k (tx_f n)) ∨ (c = -1 ∧ ∀ n, n < 3 → ¬ tz_w b s e k (tx_f n))
theorem cl_f_ex (b : Nat → Int) (s e : Nat) (k : Int) : ∃ c, cl_f b s e k c := by
  by_cases q : ∃ n : Nat, n < 3 ∧ tz_w b s e k (tx_f n)
  · obtain ⟨n, a, c⟩ := q
    exact ⟨n, Or.inl ⟨n, a, rfl, c⟩⟩
  · exact ⟨-1, Or.inr ⟨rfl, fun n a c => q ⟨n, a, c⟩⟩⟩
theorem cl_f_w {b : Nat → Int} {s e : Nat} {k c : Int} (q : cl_f b s e k c) {n : Nat} (hn : n < 3) : (c = n → tz_w b s e k (tx_f n)) ∧ (c ≠ n → ¬ tz_w b s e k (tx_f n)) := by
  have inj : ∀ n, n < 3 → ∀ m, m < 3 → tx_f n = tx_f m → n = m := by decide +kernel
  rcases q with ⟨m, a, e1, w⟩ | ⟨e1, w⟩
  · refine ⟨fun z => ?_, fun z y => ?_⟩
    · have : n = m := by omega
      rw [this]
      exact w
    · have := inj n hn m a (tz_wx (tx_f_lt n) (tx_f_lt m) y w)
      omega
  · exact ⟨fun z => by omega, fun z => w n hn⟩
/-- a switch -/
theorem fx_ts {d y pc p' : Nat} {ls r : List Value} {h : am_H} {x : Option Value × am_H} {l a b w : Nat} {t x1 dd lo hi oo : Int} {offs : Array Int} (hc : am_at y pc (.tableswitch dd lo hi offs, l, t, a, b, w)) (b1 : -2147483648 ≤ x1 ∧ x1 ≤ 2147483647) (hr : lo ≤ x1 ∧ x1 ≤ hi) (ho : offs[(x1 - lo).toNat]? = some oo) (hp : ((pc : Int) + oo).toNat = p') (q : am_ev d y p' ls r h x) : am_ev d y pc ls (iv x1 :: r) h x := by
  subst hp
  refine am_ev.step hc ?_ q
  dsimp only [am_st]
  rw [fx_ti b1, if_neg (by omega), ho]
theorem fx_td {d y pc p' : Nat} {ls r : List Value} {h : am_H} {x : Option Value × am_H} {l a b w : Nat} {t x1 dd lo hi : Int} {offs : Array Int} (hc : am_at y pc (.tableswitch dd lo hi offs, l, t, a, b, w)) (b1 : -2147483648 ≤ x1 ∧ x1 ≤ 2147483647) (hr : x1 < lo ∨ hi < x1) (hp : ((pc : Int) + dd).toNat = p') (q : am_ev d y p' ls r h x) : am_ev d y pc ls (iv x1 :: r) h x := by
  subst hp
  refine am_ev.step hc ?_ q
  dsimp only [am_st]
  rw [fx_ti b1, if_pos hr]
section LEA
variable {d : Nat} {h : am_H} {b : Nat → Int} {L p s e s1 e1 s2 e2 s3 e3 l q : Nat} {k k1 k2 k3 v v1 v2 v3 c : Int} {t : Int32}
theorem le_81a (S : fS h) (B : tb h 42 b L) (hb : tz_r b) (hL : L ≤ 1600) (w1 : h.2.2.2 41 1 = iv L) (v6 : h.2.2.2 41 6 = iv e) (O : am_isO h q 4 = true) (hq : 130 ≤ q) (t1 : tz_t b L e s1 e1 k1 v1) (q1 : k1 ≠ 2) : am_ev (d + 3) 81 0 (am_ent [.ref q, .ref 41] 2) [] h (some (iv 0), (am_put (am_put (am_put (am_put (am_put h 41 5 (iv ((s1 : Int)))) 41 6 (iv ((e1 : Int)))) 41 2 (iv (k1))) 41 3 (iv 1)) 41 4 (iv ((s1 : Int))))) := by
  show am_ev (d + 3) 81 0 [.ref q, .ref 41] [] h _
  refine am_ev.step (pc' := 1) rfl rfl ?_
  refine am_ev.step (pc' := 2) rfl rfl ?_
  refine fx_sip (p' := 5) rfl rfl rfl ?_
  refine ax_call (z := 28) (p' := 8) (as := [_, _, _]) rfl (Or.inr (Or.inl ⟨_, rfl⟩)) rfl rfl rfl rfl rfl rfl (S.ob rfl) rfl (tk_28a (lo := 0) (hi := 29999) (by omega) S B hb hL w1 v6 t1 q1) rfl ?_
  refine fx_z_ne_F (pF := 11) rfl (by omega) rfl (by omega) ?_
  refine am_ev.step (pc' := 12) rfl rfl ?_
  exact fx_reti rfl rfl rfl
theorem le_81b (S : fS h) (B : tb h 42 b L) (hb : tz_r b) (hL : L ≤ 1600) (w1 : h.2.2.2 41 1 = iv L) (v6 : h.2.2.2 41 6 = iv e) (O : am_isO h q 4 = true) (hq : 130 ≤ q) (t1 : tz_t b L e s1 e1 k1 v1) (q1 : k1 = 2 ∧ ¬ (0 ≤ v1 ∧ v1 ≤ 29999)) : am_ev (d + 3) 81 0 (am_ent [.ref q, .ref 41] 2) [] h (some (iv 0), (am_put (am_put (am_put (am_put (am_put h 41 5 (iv ((s1 : Int)))) 41 6 (iv ((e1 : Int)))) 41 2 (iv (k1))) 41 3 (iv 2)) 41 4 (iv ((s1 : Int))))) := by
  show am_ev (d + 3) 81 0 [.ref q, .ref 41] [] h _
  refine am_ev.step (pc' := 1) rfl rfl ?_
  refine am_ev.step (pc' := 2) rfl rfl ?_
  refine fx_sip (p' := 5) rfl rfl rfl ?_
  refine ax_call (z := 28) (p' := 8) (as := [_, _, _]) rfl (Or.inr (Or.inl ⟨_, rfl⟩)) rfl rfl rfl rfl rfl rfl (S.ob rfl) rfl (tk_28b (lo := 0) (hi := 29999) (by omega) S B hb hL w1 v6 t1 q1) rfl ?_
  refine fx_z_ne_F (pF := 11) rfl (by omega) rfl (by omega) ?_
  refine am_ev.step (pc' := 12) rfl rfl ?_
  exact fx_reti rfl rfl rfl
theorem le_81d (S : fS h) (B : tb h 42 b L) (hb : tz_r b) (hL : L ≤ 1600) (w1 : h.2.2.2 41 1 = iv L) (v6 : h.2.2.2 41 6 = iv e) (O : am_isO h q 4 = true) (hq : 130 ≤ q) (t1 : tz_t b L e s1 e1 k1 v1) (q1 : k1 = 2 ∧ 0 ≤ v1 ∧ v1 ≤ 29999) (t2 : tz_t b L e1 s2 e2 k2 v2) (q2 : k2 ≠ 59) : am_ev (d + 3) 81 0 (am_ent [.ref q, .ref 41] 2) [] h (some (iv 0), (am_put (am_put (am_put (am_put (am_put (am_put (am_put (am_put (am_put h 41 5 (iv ((s1 : Int)))) 41 6 (iv ((e1 : Int)))) 41 2 (iv (k1))) q 3 (iv (v1))) 41 5 (iv ((s2 : Int)))) 41 6 (iv ((e2 : Int)))) 41 2 (iv (k2))) 41 3 (iv 1)) 41 4 (iv ((s2 : Int))))) := by
  show am_ev (d + 3) 81 0 [.ref q, .ref 41] [] h _
  refine am_ev.step (pc' := 1) rfl rfl ?_
  refine am_ev.step (pc' := 2) rfl rfl ?_
  refine fx_sip (p' := 5) rfl rfl rfl ?_
  refine ax_call (z := 28) (p' := 8) (as := [_, _, _]) rfl (Or.inr (Or.inl ⟨_, rfl⟩)) rfl rfl rfl rfl rfl rfl (S.ob rfl) rfl (tk_28c (lo := 0) (hi := 29999) (by omega) S B hb hL w1 v6 t1 q1) rfl ?_
  refine fx_z_ne_T (pT := 13) rfl (by omega) rfl (by omega) ?_
  refine am_ev.step (pc' := 14) rfl rfl ?_
  refine am_ev.step (pc' := 15) rfl rfl ?_
  refine ax_call (z := 30) (p' := 18) (as := [_]) rfl (Or.inr (Or.inl ⟨_, rfl⟩)) rfl rfl rfl rfl rfl rfl (fO (fO (fO (S.ob rfl)))) rfl (tk_30w (((S.po rfl rfl).po rfl rfl).po rfl rfl) (((B.put (by decide)).put (by decide)).put (by decide)) hb hL (ax_put_o (Or.inr (by decide)) (ax_put_o (Or.inr (by decide)) (ax_put_o (Or.inr (by decide)) w1))) (ax_put_o (Or.inr (by decide)) (ax_put_o (Or.inr (by decide)) (ax_put_s _ _ _))) (ax_put_o (Or.inr (by decide)) (ax_put_s _ _ _)) t1) rfl ?_
  refine ax_pf (p' := 21) rfl rfl (fO (fO (fO O))) rfl ?_
  refine am_ev.step (pc' := 22) rfl rfl ?_
  refine ax_call (z := 32) (p' := 25) (as := [_]) rfl (Or.inr (Or.inl ⟨_, rfl⟩)) rfl rfl rfl rfl rfl rfl (fO (fO (fO (fO (S.ob rfl))))) rfl (tk_32a ((((S.po rfl rfl).po rfl rfl).po rfl rfl).pd (by omega)) ((((B.put (by decide)).put (by decide)).put (by decide)).put (by omega)) hb hL (ax_put_o (Or.inl (by omega)) (ax_put_o (Or.inr (by decide)) (ax_put_o (Or.inr (by decide)) (ax_put_o (Or.inr (by decide)) w1)))) (ax_put_o (Or.inl (by omega)) (ax_put_o (Or.inr (by decide)) (ax_put_s _ _ _))) t2 q2) rfl ?_
  exact fx_reti rfl rfl rfl
theorem le_81e (S : fS h) (B : tb h 42 b L) (hb : tz_r b) (hL : L ≤ 1600) (w1 : h.2.2.2 41 1 = iv L) (v6 : h.2.2.2 41 6 = iv e) (O : am_isO h q 4 = true) (hq : 130 ≤ q) (t1 : tz_t b L e s1 e1 k1 v1) (q1 : k1 = 2 ∧ 0 ≤ v1 ∧ v1 ≤ 29999) (t2 : tz_t b L e1 s2 e2 k2 v2) (q2 : k2 = 59) : am_ev (d + 3) 81 0 (am_ent [.ref q, .ref 41] 2) [] h (some (iv 1), (am_put (am_put (am_put (am_put (am_put (am_put (am_put h 41 5 (iv ((s1 : Int)))) 41 6 (iv ((e1 : Int)))) 41 2 (iv (k1))) q 3 (iv (v1))) 41 5 (iv ((s2 : Int)))) 41 6 (iv ((e2 : Int)))) 41 2 (iv (k2)))) := by
  show am_ev (d + 3) 81 0 [.ref q, .ref 41] [] h _
  refine am_ev.step (pc' := 1) rfl rfl ?_
  refine am_ev.step (pc' := 2) rfl rfl ?_
  refine fx_sip (p' := 5) rfl rfl rfl ?_
  refine ax_call (z := 28) (p' := 8) (as := [_, _, _]) rfl (Or.inr (Or.inl ⟨_, rfl⟩)) rfl rfl rfl rfl rfl rfl (S.ob rfl) rfl (tk_28c (lo := 0) (hi := 29999) (by omega) S B hb hL w1 v6 t1 q1) rfl ?_
  refine fx_z_ne_T (pT := 13) rfl (by omega) rfl (by omega) ?_
  refine am_ev.step (pc' := 14) rfl rfl ?_
  refine am_ev.step (pc' := 15) rfl rfl ?_
  refine ax_call (z := 30) (p' := 18) (as := [_]) rfl (Or.inr (Or.inl ⟨_, rfl⟩)) rfl rfl rfl rfl rfl rfl (fO (fO (fO (S.ob rfl)))) rfl (tk_30w (((S.po rfl rfl).po rfl rfl).po rfl rfl) (((B.put (by decide)).put (by decide)).put (by decide)) hb hL (ax_put_o (Or.inr (by decide)) (ax_put_o (Or.inr (by decide)) (ax_put_o (Or.inr (by decide)) w1))) (ax_put_o (Or.inr (by decide)) (ax_put_o (Or.inr (by decide)) (ax_put_s _ _ _))) (ax_put_o (Or.inr (by decide)) (ax_put_s _ _ _)) t1) rfl ?_
  refine ax_pf (p' := 21) rfl rfl (fO (fO (fO O))) rfl ?_
  refine am_ev.step (pc' := 22) rfl rfl ?_
  refine ax_call (z := 32) (p' := 25) (as := [_]) rfl (Or.inr (Or.inl ⟨_, rfl⟩)) rfl rfl rfl rfl rfl rfl (fO (fO (fO (fO (S.ob rfl))))) rfl (tk_32b ((((S.po rfl rfl).po rfl rfl).po rfl rfl).pd (by omega)) ((((B.put (by decide)).put (by decide)).put (by decide)).put (by omega)) hb hL (ax_put_o (Or.inl (by omega)) (ax_put_o (Or.inr (by decide)) (ax_put_o (Or.inr (by decide)) (ax_put_o (Or.inr (by decide)) w1)))) (ax_put_o (Or.inl (by omega)) (ax_put_o (Or.inr (by decide)) (ax_put_s _ _ _))) t2 q2) rfl ?_
  exact fx_reti rfl rfl rfl
theorem le_83a (S : fS h) (B : tb h 42 b L) (hb : tz_r b) (hL : L ≤ 1600) (w1 : h.2.2.2 41 1 = iv L) (v6 : h.2.2.2 41 6 = iv e) (O : am_isO h q 4 = true) (hq : 130 ≤ q) (t1 : tz_t b L e s1 e1 k1 v1) (q1 : k1 ≠ 2) : am_ev (d + 3) 83 0 (am_ent [.ref q, .ref 41] 2) [] h (some (iv 0), (am_put (am_put (am_put (am_put (am_put h 41 5 (iv ((s1 : Int)))) 41 6 (iv ((e1 : Int)))) 41 2 (iv (k1))) 41 3 (iv 1)) 41 4 (iv ((s1 : Int))))) := by
  show am_ev (d + 3) 83 0 [.ref q, .ref 41] [] h _
  refine am_ev.step (pc' := 1) rfl rfl ?_
  refine am_ev.step (pc' := 2) rfl rfl ?_
  refine am_ev.step (pc' := 3) rfl rfl ?_
  refine ax_call (z := 28) (p' := 6) (as := [_, _, _]) rfl (Or.inr (Or.inl ⟨_, rfl⟩)) rfl rfl rfl rfl rfl rfl (S.ob rfl) rfl (tk_28a (lo := 0) (hi := 2) (by omega) S B hb hL w1 v6 t1 q1) rfl ?_
  refine fx_z_ne_F (pF := 9) rfl (by omega) rfl (by omega) ?_
  refine am_ev.step (pc' := 10) rfl rfl ?_
  exact fx_reti rfl rfl rfl
theorem le_83b (S : fS h) (B : tb h 42 b L) (hb : tz_r b) (hL : L ≤ 1600) (w1 : h.2.2.2 41 1 = iv L) (v6 : h.2.2.2 41 6 = iv e) (O : am_isO h q 4 = true) (hq : 130 ≤ q) (t1 : tz_t b L e s1 e1 k1 v1) (q1 : k1 = 2 ∧ ¬ (0 ≤ v1 ∧ v1 ≤ 2)) : am_ev (d + 3) 83 0 (am_ent [.ref q, .ref 41] 2) [] h (some (iv 0), (am_put (am_put (am_put (am_put (am_put h 41 5 (iv ((s1 : Int)))) 41 6 (iv ((e1 : Int)))) 41 2 (iv (k1))) 41 3 (iv 2)) 41 4 (iv ((s1 : Int))))) := by
  show am_ev (d + 3) 83 0 [.ref q, .ref 41] [] h _
  refine am_ev.step (pc' := 1) rfl rfl ?_
  refine am_ev.step (pc' := 2) rfl rfl ?_
  refine am_ev.step (pc' := 3) rfl rfl ?_
  refine ax_call (z := 28) (p' := 6) (as := [_, _, _]) rfl (Or.inr (Or.inl ⟨_, rfl⟩)) rfl rfl rfl rfl rfl rfl (S.ob rfl) rfl (tk_28b (lo := 0) (hi := 2) (by omega) S B hb hL w1 v6 t1 q1) rfl ?_
  refine fx_z_ne_F (pF := 9) rfl (by omega) rfl (by omega) ?_
  refine am_ev.step (pc' := 10) rfl rfl ?_
  exact fx_reti rfl rfl rfl
theorem le_83d (S : fS h) (B : tb h 42 b L) (hb : tz_r b) (hL : L ≤ 1600) (w1 : h.2.2.2 41 1 = iv L) (v6 : h.2.2.2 41 6 = iv e) (O : am_isO h q 4 = true) (hq : 130 ≤ q) (t1 : tz_t b L e s1 e1 k1 v1) (q1 : k1 = 2 ∧ 0 ≤ v1 ∧ v1 ≤ 2) (t2 : tz_t b L e1 s2 e2 k2 v2) (q2 : k2 ≠ 59) : am_ev (d + 3) 83 0 (am_ent [.ref q, .ref 41] 2) [] h (some (iv 0), (am_put (am_put (am_put (am_put (am_put (am_put (am_put (am_put (am_put h 41 5 (iv ((s1 : Int)))) 41 6 (iv ((e1 : Int)))) 41 2 (iv (k1))) q 7 (iv (v1))) 41 5 (iv ((s2 : Int)))) 41 6 (iv ((e2 : Int)))) 41 2 (iv (k2))) 41 3 (iv 1)) 41 4 (iv ((s2 : Int))))) := by
  show am_ev (d + 3) 83 0 [.ref q, .ref 41] [] h _
  refine am_ev.step (pc' := 1) rfl rfl ?_
  refine am_ev.step (pc' := 2) rfl rfl ?_
  refine am_ev.step (pc' := 3) rfl rfl ?_
  refine ax_call (z := 28) (p' := 6) (as := [_, _, _]) rfl (Or.inr (Or.inl ⟨_, rfl⟩)) rfl rfl rfl rfl rfl rfl (S.ob rfl) rfl (tk_28c (lo := 0) (hi := 2) (by omega) S B hb hL w1 v6 t1 q1) rfl ?_
  refine fx_z_ne_T (pT := 11) rfl (by omega) rfl (by omega) ?_
  refine am_ev.step (pc' := 12) rfl rfl ?_
  refine am_ev.step (pc' := 13) rfl rfl ?_
  refine ax_call (z := 30) (p' := 16) (as := [_]) rfl (Or.inr (Or.inl ⟨_, rfl⟩)) rfl rfl rfl rfl rfl rfl (fO (fO (fO (S.ob rfl)))) rfl (tk_30w (((S.po rfl rfl).po rfl rfl).po rfl rfl) (((B.put (by decide)).put (by decide)).put (by decide)) hb hL (ax_put_o (Or.inr (by decide)) (ax_put_o (Or.inr (by decide)) (ax_put_o (Or.inr (by decide)) w1))) (ax_put_o (Or.inr (by decide)) (ax_put_o (Or.inr (by decide)) (ax_put_s _ _ _))) (ax_put_o (Or.inr (by decide)) (ax_put_s _ _ _)) t1) rfl ?_
  refine ax_pf (p' := 19) rfl rfl (fO (fO (fO O))) rfl ?_
  refine am_ev.step (pc' := 20) rfl rfl ?_
  refine ax_call (z := 32) (p' := 23) (as := [_]) rfl (Or.inr (Or.inl ⟨_, rfl⟩)) rfl rfl rfl rfl rfl rfl (fO (fO (fO (fO (S.ob rfl))))) rfl (tk_32a ((((S.po rfl rfl).po rfl rfl).po rfl rfl).pd (by omega)) ((((B.put (by decide)).put (by decide)).put (by decide)).put (by omega)) hb hL (ax_put_o (Or.inl (by omega)) (ax_put_o (Or.inr (by decide)) (ax_put_o (Or.inr (by decide)) (ax_put_o (Or.inr (by decide)) w1)))) (ax_put_o (Or.inl (by omega)) (ax_put_o (Or.inr (by decide)) (ax_put_s _ _ _))) t2 q2) rfl ?_
  exact fx_reti rfl rfl rfl
theorem le_83e (S : fS h) (B : tb h 42 b L) (hb : tz_r b) (hL : L ≤ 1600) (w1 : h.2.2.2 41 1 = iv L) (v6 : h.2.2.2 41 6 = iv e) (O : am_isO h q 4 = true) (hq : 130 ≤ q) (t1 : tz_t b L e s1 e1 k1 v1) (q1 : k1 = 2 ∧ 0 ≤ v1 ∧ v1 ≤ 2) (t2 : tz_t b L e1 s2 e2 k2 v2) (q2 : k2 = 59) : am_ev (d + 3) 83 0 (am_ent [.ref q, .ref 41] 2) [] h (some (iv 1), (am_put (am_put (am_put (am_put (am_put (am_put (am_put h 41 5 (iv ((s1 : Int)))) 41 6 (iv ((e1 : Int)))) 41 2 (iv (k1))) q 7 (iv (v1))) 41 5 (iv ((s2 : Int)))) 41 6 (iv ((e2 : Int)))) 41 2 (iv (k2)))) := by
  show am_ev (d + 3) 83 0 [.ref q, .ref 41] [] h _
  refine am_ev.step (pc' := 1) rfl rfl ?_
  refine am_ev.step (pc' := 2) rfl rfl ?_
  refine am_ev.step (pc' := 3) rfl rfl ?_
  refine ax_call (z := 28) (p' := 6) (as := [_, _, _]) rfl (Or.inr (Or.inl ⟨_, rfl⟩)) rfl rfl rfl rfl rfl rfl (S.ob rfl) rfl (tk_28c (lo := 0) (hi := 2) (by omega) S B hb hL w1 v6 t1 q1) rfl ?_
  refine fx_z_ne_T (pT := 11) rfl (by omega) rfl (by omega) ?_
  refine am_ev.step (pc' := 12) rfl rfl ?_
  refine am_ev.step (pc' := 13) rfl rfl ?_
  refine ax_call (z := 30) (p' := 16) (as := [_]) rfl (Or.inr (Or.inl ⟨_, rfl⟩)) rfl rfl rfl rfl rfl rfl (fO (fO (fO (S.ob rfl)))) rfl (tk_30w (((S.po rfl rfl).po rfl rfl).po rfl rfl) (((B.put (by decide)).put (by decide)).put (by decide)) hb hL (ax_put_o (Or.inr (by decide)) (ax_put_o (Or.inr (by decide)) (ax_put_o (Or.inr (by decide)) w1))) (ax_put_o (Or.inr (by decide)) (ax_put_o (Or.inr (by decide)) (ax_put_s _ _ _))) (ax_put_o (Or.inr (by decide)) (ax_put_s _ _ _)) t1) rfl ?_
  refine ax_pf (p' := 19) rfl rfl (fO (fO (fO O))) rfl ?_
  refine am_ev.step (pc' := 20) rfl rfl ?_
  refine ax_call (z := 32) (p' := 23) (as := [_]) rfl (Or.inr (Or.inl ⟨_, rfl⟩)) rfl rfl rfl rfl rfl rfl (fO (fO (fO (fO (S.ob rfl))))) rfl (tk_32b ((((S.po rfl rfl).po rfl rfl).po rfl rfl).pd (by omega)) ((((B.put (by decide)).put (by decide)).put (by decide)).put (by omega)) hb hL (ax_put_o (Or.inl (by omega)) (ax_put_o (Or.inr (by decide)) (ax_put_o (Or.inr (by decide)) (ax_put_o (Or.inr (by decide)) w1)))) (ax_put_o (Or.inl (by omega)) (ax_put_o (Or.inr (by decide)) (ax_put_s _ _ _))) t2 q2) rfl ?_
  exact fx_reti rfl rfl rfl
theorem le_82a (S : fS h) (B : tb h 42 b L) (hb : tz_r b) (hL : L ≤ 1600) (w1 : h.2.2.2 41 1 = iv L) (v6 : h.2.2.2 41 6 = iv e) (O : am_isO h q 4 = true) (hq : 130 ≤ q) (t1 : tz_t b L e s1 e1 k1 v1) (q1 : k1 ≠ 2) : am_ev (d + 6) 82 0 (am_ent [.ref q, .ref 41] 2) [] h (some (iv 0), (am_put (am_put (am_put (am_put (am_put h 41 5 (iv ((s1 : Int)))) 41 6 (iv ((e1 : Int)))) 41 2 (iv (k1))) 41 3 (iv 1)) 41 4 (iv ((s1 : Int))))) := by
  show am_ev (d + 6) 82 0 [.ref q, .ref 41] [] h _
  refine am_ev.step (pc' := 1) rfl rfl ?_
  refine am_ev.step (pc' := 2) rfl rfl ?_
  refine fx_sip (p' := 5) rfl rfl rfl ?_
  refine ax_call (z := 28) (p' := 8) (as := [_, _, _]) rfl (Or.inr (Or.inl ⟨_, rfl⟩)) rfl rfl rfl rfl rfl rfl (S.ob rfl) rfl (tk_28a (lo := 0) (hi := 9999) (by omega) S B hb hL w1 v6 t1 q1) rfl ?_
  refine fx_z_ne_F (pF := 11) rfl (by omega) rfl (by omega) ?_
  refine am_ev.step (pc' := 12) rfl rfl ?_
  exact fx_reti rfl rfl rfl
theorem le_82b (S : fS h) (B : tb h 42 b L) (hb : tz_r b) (hL : L ≤ 1600) (w1 : h.2.2.2 41 1 = iv L) (v6 : h.2.2.2 41 6 = iv e) (O : am_isO h q 4 = true) (hq : 130 ≤ q) (t1 : tz_t b L e s1 e1 k1 v1) (q1 : k1 = 2 ∧ ¬ (0 ≤ v1 ∧ v1 ≤ 9999)) : am_ev (d + 6) 82 0 (am_ent [.ref q, .ref 41] 2) [] h (some (iv 0), (am_put (am_put (am_put (am_put (am_put h 41 5 (iv ((s1 : Int)))) 41 6 (iv ((e1 : Int)))) 41 2 (iv (k1))) 41 3 (iv 2)) 41 4 (iv ((s1 : Int))))) := by
  show am_ev (d + 6) 82 0 [.ref q, .ref 41] [] h _
  refine am_ev.step (pc' := 1) rfl rfl ?_
  refine am_ev.step (pc' := 2) rfl rfl ?_
  refine fx_sip (p' := 5) rfl rfl rfl ?_
  refine ax_call (z := 28) (p' := 8) (as := [_, _, _]) rfl (Or.inr (Or.inl ⟨_, rfl⟩)) rfl rfl rfl rfl rfl rfl (S.ob rfl) rfl (tk_28b (lo := 0) (hi := 9999) (by omega) S B hb hL w1 v6 t1 q1) rfl ?_
  refine fx_z_ne_F (pF := 11) rfl (by omega) rfl (by omega) ?_
  refine am_ev.step (pc' := 12) rfl rfl ?_
  exact fx_reti rfl rfl rfl
theorem le_82x (S : fS h) (B : tb h 42 b L) (hb : tz_r b) (hL : L ≤ 1600) (w1 : h.2.2.2 41 1 = iv L) (v6 : h.2.2.2 41 6 = iv e) (O : am_isO h q 4 = true) (hq : 130 ≤ q) (t1 : tz_t b L e s1 e1 k1 v1) (q1 : k1 = 2 ∧ 0 ≤ v1 ∧ v1 ≤ 9999) (t2 : tz_t b L e1 s2 e2 k2 v2) (q2 : cl_f b s2 e2 k2 (-1)) : am_ev (d + 6) 82 0 (am_ent [.ref q, .ref 41] 2) [] h (some (iv 0), (am_put (am_put (am_put (am_put (am_put (am_put (am_put (am_put (am_put h 41 5 (iv ((s1 : Int)))) 41 6 (iv ((e1 : Int)))) 41 2 (iv (k1))) q 4 (iv (v1))) 41 5 (iv ((s2 : Int)))) 41 6 (iv ((e2 : Int)))) 41 2 (iv (k2))) 41 3 (iv 1)) 41 4 (iv ((s2 : Int))))) := by
  show am_ev (d + 6) 82 0 [.ref q, .ref 41] [] h _
  refine am_ev.step (pc' := 1) rfl rfl ?_
  refine am_ev.step (pc' := 2) rfl rfl ?_
  refine fx_sip (p' := 5) rfl rfl rfl ?_
  refine ax_call (z := 28) (p' := 8) (as := [_, _, _]) rfl (Or.inr (Or.inl ⟨_, rfl⟩)) rfl rfl rfl rfl rfl rfl (S.ob rfl) rfl (tk_28c (lo := 0) (hi := 9999) (by omega) S B hb hL w1 v6 t1 q1) rfl ?_
  refine fx_z_ne_T (pT := 13) rfl (by omega) rfl (by omega) ?_
  refine am_ev.step (pc' := 14) rfl rfl ?_
  refine am_ev.step (pc' := 15) rfl rfl ?_
  refine ax_call (z := 30) (p' := 18) (as := [_]) rfl (Or.inr (Or.inl ⟨_, rfl⟩)) rfl rfl rfl rfl rfl rfl (fO (fO (fO (S.ob rfl)))) rfl (tk_30w (((S.po rfl rfl).po rfl rfl).po rfl rfl) (((B.put (by decide)).put (by decide)).put (by decide)) hb hL (ax_put_o (Or.inr (by decide)) (ax_put_o (Or.inr (by decide)) (ax_put_o (Or.inr (by decide)) w1))) (ax_put_o (Or.inr (by decide)) (ax_put_o (Or.inr (by decide)) (ax_put_s _ _ _))) (ax_put_o (Or.inr (by decide)) (ax_put_s _ _ _)) t1) rfl ?_
  refine ax_pf (p' := 21) rfl rfl (fO (fO (fO O))) rfl ?_
  refine am_ev.step (pc' := 22) rfl rfl ?_
  refine ax_call (z := 21) (p' := 25) (as := [_]) rfl (Or.inr (Or.inl ⟨_, rfl⟩)) rfl rfl rfl rfl rfl rfl (fO (fO (fO (fO (S.ob rfl))))) rfl (tk_21w ((((S.po rfl rfl).po rfl rfl).po rfl rfl).pd (by omega)) ((((B.put (by decide)).put (by decide)).put (by decide)).put (by omega)) hb hL (ax_put_o (Or.inl (by omega)) (ax_put_o (Or.inr (by decide)) (ax_put_o (Or.inr (by decide)) (ax_put_o (Or.inr (by decide)) w1)))) (ax_put_o (Or.inl (by omega)) (ax_put_o (Or.inr (by decide)) (ax_put_s _ _ _))) t2) rfl ?_
  refine am_ev.step (pc' := 26) rfl rfl ?_
  refine am_ev.ldc rfl rfl rfl rfl ?_
  refine ax_call (z := 26) (p' := 31) (as := [_, _]) rfl (Or.inr (Or.inl ⟨_, rfl⟩)) rfl rfl rfl rfl rfl rfl (fO (fO (fO (fO (fO (fO (fO (S.ob rfl)))))))) rfl ((tk_26 (i := 8) (k := k2) (s := s2) (e := e2) (by decide) (((((((S.po rfl rfl).po rfl rfl).po rfl rfl).pd (by omega)).po rfl rfl).po rfl rfl).po rfl rfl) (((((((B.put (by decide)).put (by decide)).put (by decide)).put (by omega)).put (by decide)).put (by decide)).put (by decide)) hb hL (ax_put_o (Or.inr (by decide)) (ax_put_o (Or.inr (by decide)) (ax_put_o (Or.inr (by decide)) (ax_put_o (Or.inl (by omega)) (ax_put_o (Or.inr (by decide)) (ax_put_o (Or.inr (by decide)) (ax_put_o (Or.inr (by decide)) w1))))))) (ax_put_s _ _ _) (ax_put_o (Or.inr (by decide)) (ax_put_o (Or.inr (by decide)) (ax_put_s _ _ _))) (ax_put_o (Or.inr (by decide)) (ax_put_s _ _ _)) ⟨(t2.f hb).2.1, (t2.f hb).2.2.1⟩ ⟨(t2.f hb).2.2.2.1, Int.le_trans (t2.f hb).2.2.2.2.1 (by decide)⟩).2 ((cl_f_w q2 (n := 0) (by decide)).2 (by decide))) rfl ?_
  refine fx_z_eq_T (pT := 42) rfl (by omega) rfl (by omega) ?_
  refine am_ev.step (pc' := 43) rfl rfl ?_
  refine am_ev.ldc rfl rfl rfl rfl ?_
  refine ax_call (z := 26) (p' := 48) (as := [_, _]) rfl (Or.inr (Or.inl ⟨_, rfl⟩)) rfl rfl rfl rfl rfl rfl (fO (fO (fO (fO (fO (fO (fO (S.ob rfl)))))))) rfl ((tk_26 (i := 10) (k := k2) (s := s2) (e := e2) (by decide) (((((((S.po rfl rfl).po rfl rfl).po rfl rfl).pd (by omega)).po rfl rfl).po rfl rfl).po rfl rfl) (((((((B.put (by decide)).put (by decide)).put (by decide)).put (by omega)).put (by decide)).put (by decide)).put (by decide)) hb hL (ax_put_o (Or.inr (by decide)) (ax_put_o (Or.inr (by decide)) (ax_put_o (Or.inr (by decide)) (ax_put_o (Or.inl (by omega)) (ax_put_o (Or.inr (by decide)) (ax_put_o (Or.inr (by decide)) (ax_put_o (Or.inr (by decide)) w1))))))) (ax_put_s _ _ _) (ax_put_o (Or.inr (by decide)) (ax_put_o (Or.inr (by decide)) (ax_put_s _ _ _))) (ax_put_o (Or.inr (by decide)) (ax_put_s _ _ _)) ⟨(t2.f hb).2.1, (t2.f hb).2.2.1⟩ ⟨(t2.f hb).2.2.2.1, Int.le_trans (t2.f hb).2.2.2.2.1 (by decide)⟩).2 ((cl_f_w q2 (n := 1) (by decide)).2 (by decide))) rfl ?_
  refine fx_z_eq_T (pT := 59) rfl (by omega) rfl (by omega) ?_
  refine am_ev.step (pc' := 60) rfl rfl ?_
  refine am_ev.ldc rfl rfl rfl rfl ?_
  refine ax_call (z := 26) (p' := 65) (as := [_, _]) rfl (Or.inr (Or.inl ⟨_, rfl⟩)) rfl rfl rfl rfl rfl rfl (fO (fO (fO (fO (fO (fO (fO (S.ob rfl)))))))) rfl ((tk_26 (i := 0) (k := k2) (s := s2) (e := e2) (by decide) (((((((S.po rfl rfl).po rfl rfl).po rfl rfl).pd (by omega)).po rfl rfl).po rfl rfl).po rfl rfl) (((((((B.put (by decide)).put (by decide)).put (by decide)).put (by omega)).put (by decide)).put (by decide)).put (by decide)) hb hL (ax_put_o (Or.inr (by decide)) (ax_put_o (Or.inr (by decide)) (ax_put_o (Or.inr (by decide)) (ax_put_o (Or.inl (by omega)) (ax_put_o (Or.inr (by decide)) (ax_put_o (Or.inr (by decide)) (ax_put_o (Or.inr (by decide)) w1))))))) (ax_put_s _ _ _) (ax_put_o (Or.inr (by decide)) (ax_put_o (Or.inr (by decide)) (ax_put_s _ _ _))) (ax_put_o (Or.inr (by decide)) (ax_put_s _ _ _)) ⟨(t2.f hb).2.1, (t2.f hb).2.2.1⟩ ⟨(t2.f hb).2.2.2.1, Int.le_trans (t2.f hb).2.2.2.2.1 (by decide)⟩).2 ((cl_f_w q2 (n := 2) (by decide)).2 (by decide))) rfl ?_
  refine fx_z_eq_T (pT := 76) rfl (by omega) rfl (by omega) ?_
  refine am_ev.step (pc' := 77) rfl rfl ?_
  refine am_ev.step (pc' := 78) rfl rfl ?_
  refine ax_call (z := 29) (p' := 81) (as := [_, _]) rfl (Or.inr (Or.inl ⟨_, rfl⟩)) rfl rfl rfl rfl rfl rfl (fO (fO (fO (fO (fO (fO (fO (S.ob rfl)))))))) rfl (tk_29 (s := s2) (((((((S.po rfl rfl).po rfl rfl).po rfl rfl).pd (by omega)).po rfl rfl).po rfl rfl).po rfl rfl) (ax_put_o (Or.inr (by decide)) (ax_put_o (Or.inr (by decide)) (ax_put_s _ _ _)))) rfl ?_
  exact fx_reti rfl rfl rfl
theorem le_82d0 (S : fS h) (B : tb h 42 b L) (hb : tz_r b) (hL : L ≤ 1600) (w1 : h.2.2.2 41 1 = iv L) (v6 : h.2.2.2 41 6 = iv e) (O : am_isO h q 4 = true) (hq : 130 ≤ q) (t1 : tz_t b L e s1 e1 k1 v1) (q1 : k1 = 2 ∧ 0 ≤ v1 ∧ v1 ≤ 9999) (t2 : tz_t b L e1 s2 e2 k2 v2) (q2 : cl_f b s2 e2 k2 ((0 : Nat) : Int)) (t3 : tz_t b L e2 s3 e3 k3 v3) (q3 : k3 ≠ 59) : am_ev (d + 6) 82 0 (am_ent [.ref q, .ref 41] 2) [] h (some (iv 0), (am_put (am_put (am_put (am_put (am_put (am_put (am_put (am_put (am_put (am_put (am_put (am_put (am_put h 41 5 (iv ((s1 : Int)))) 41 6 (iv ((e1 : Int)))) 41 2 (iv (k1))) q 4 (iv (v1))) 41 5 (iv ((s2 : Int)))) 41 6 (iv ((e2 : Int)))) 41 2 (iv (k2))) q 5 (iv 0)) 41 5 (iv ((s3 : Int)))) 41 6 (iv ((e3 : Int)))) 41 2 (iv (k3))) 41 3 (iv 1)) 41 4 (iv ((s3 : Int))))) := by
  show am_ev (d + 6) 82 0 [.ref q, .ref 41] [] h _
  refine am_ev.step (pc' := 1) rfl rfl ?_
  refine am_ev.step (pc' := 2) rfl rfl ?_
  refine fx_sip (p' := 5) rfl rfl rfl ?_
  refine ax_call (z := 28) (p' := 8) (as := [_, _, _]) rfl (Or.inr (Or.inl ⟨_, rfl⟩)) rfl rfl rfl rfl rfl rfl (S.ob rfl) rfl (tk_28c (lo := 0) (hi := 9999) (by omega) S B hb hL w1 v6 t1 q1) rfl ?_
  refine fx_z_ne_T (pT := 13) rfl (by omega) rfl (by omega) ?_
  refine am_ev.step (pc' := 14) rfl rfl ?_
  refine am_ev.step (pc' := 15) rfl rfl ?_
  refine ax_call (z := 30) (p' := 18) (as := [_]) rfl (Or.inr (Or.inl ⟨_, rfl⟩)) rfl rfl rfl rfl rfl rfl (fO (fO (fO (S.ob rfl)))) rfl (tk_30w (((S.po rfl rfl).po rfl rfl).po rfl rfl) (((B.put (by decide)).put (by decide)).put (by decide)) hb hL (ax_put_o (Or.inr (by decide)) (ax_put_o (Or.inr (by decide)) (ax_put_o (Or.inr (by decide)) w1))) (ax_put_o (Or.inr (by decide)) (ax_put_o (Or.inr (by decide)) (ax_put_s _ _ _))) (ax_put_o (Or.inr (by decide)) (ax_put_s _ _ _)) t1) rfl ?_
  refine ax_pf (p' := 21) rfl rfl (fO (fO (fO O))) rfl ?_
  refine am_ev.step (pc' := 22) rfl rfl ?_
  refine ax_call (z := 21) (p' := 25) (as := [_]) rfl (Or.inr (Or.inl ⟨_, rfl⟩)) rfl rfl rfl rfl rfl rfl (fO (fO (fO (fO (S.ob rfl))))) rfl (tk_21w ((((S.po rfl rfl).po rfl rfl).po rfl rfl).pd (by omega)) ((((B.put (by decide)).put (by decide)).put (by decide)).put (by omega)) hb hL (ax_put_o (Or.inl (by omega)) (ax_put_o (Or.inr (by decide)) (ax_put_o (Or.inr (by decide)) (ax_put_o (Or.inr (by decide)) w1)))) (ax_put_o (Or.inl (by omega)) (ax_put_o (Or.inr (by decide)) (ax_put_s _ _ _))) t2) rfl ?_
  refine am_ev.step (pc' := 26) rfl rfl ?_
  refine am_ev.ldc rfl rfl rfl rfl ?_
  refine ax_call (z := 26) (p' := 31) (as := [_, _]) rfl (Or.inr (Or.inl ⟨_, rfl⟩)) rfl rfl rfl rfl rfl rfl (fO (fO (fO (fO (fO (fO (fO (S.ob rfl)))))))) rfl ((tk_26 (i := 8) (k := k2) (s := s2) (e := e2) (by decide) (((((((S.po rfl rfl).po rfl rfl).po rfl rfl).pd (by omega)).po rfl rfl).po rfl rfl).po rfl rfl) (((((((B.put (by decide)).put (by decide)).put (by decide)).put (by omega)).put (by decide)).put (by decide)).put (by decide)) hb hL (ax_put_o (Or.inr (by decide)) (ax_put_o (Or.inr (by decide)) (ax_put_o (Or.inr (by decide)) (ax_put_o (Or.inl (by omega)) (ax_put_o (Or.inr (by decide)) (ax_put_o (Or.inr (by decide)) (ax_put_o (Or.inr (by decide)) w1))))))) (ax_put_s _ _ _) (ax_put_o (Or.inr (by decide)) (ax_put_o (Or.inr (by decide)) (ax_put_s _ _ _))) (ax_put_o (Or.inr (by decide)) (ax_put_s _ _ _)) ⟨(t2.f hb).2.1, (t2.f hb).2.2.1⟩ ⟨(t2.f hb).2.2.2.1, Int.le_trans (t2.f hb).2.2.2.2.1 (by decide)⟩).1 ((cl_f_w q2 (n := 0) (by decide)).1 rfl)) rfl ?_
  refine fx_z_eq_F (pF := 34) rfl (by omega) rfl (by omega) ?_
  refine am_ev.step (pc' := 35) rfl rfl ?_
  refine am_ev.step (pc' := 36) rfl rfl ?_
  refine ax_pf (p' := 39) rfl rfl (fO (fO (fO (fO (fO (fO (fO O))))))) rfl ?_
  refine am_ev.step (pc' := 82) rfl rfl ?_
  refine am_ev.step (pc' := 83) rfl rfl ?_
  refine ax_call (z := 32) (p' := 86) (as := [_]) rfl (Or.inr (Or.inl ⟨_, rfl⟩)) rfl rfl rfl rfl rfl rfl (fO (fO (fO (fO (fO (fO (fO (fO (S.ob rfl))))))))) rfl (tk_32a ((((((((S.po rfl rfl).po rfl rfl).po rfl rfl).pd (by omega)).po rfl rfl).po rfl rfl).po rfl rfl).pd (by omega)) ((((((((B.put (by decide)).put (by decide)).put (by decide)).put (by omega)).put (by decide)).put (by decide)).put (by decide)).put (by omega)) hb hL (ax_put_o (Or.inl (by omega)) (ax_put_o (Or.inr (by decide)) (ax_put_o (Or.inr (by decide)) (ax_put_o (Or.inr (by decide)) (ax_put_o (Or.inl (by omega)) (ax_put_o (Or.inr (by decide)) (ax_put_o (Or.inr (by decide)) (ax_put_o (Or.inr (by decide)) w1)))))))) (ax_put_o (Or.inl (by omega)) (ax_put_o (Or.inr (by decide)) (ax_put_s _ _ _))) t3 q3) rfl ?_
  exact fx_reti rfl rfl rfl
theorem le_82e0 (S : fS h) (B : tb h 42 b L) (hb : tz_r b) (hL : L ≤ 1600) (w1 : h.2.2.2 41 1 = iv L) (v6 : h.2.2.2 41 6 = iv e) (O : am_isO h q 4 = true) (hq : 130 ≤ q) (t1 : tz_t b L e s1 e1 k1 v1) (q1 : k1 = 2 ∧ 0 ≤ v1 ∧ v1 ≤ 9999) (t2 : tz_t b L e1 s2 e2 k2 v2) (q2 : cl_f b s2 e2 k2 ((0 : Nat) : Int)) (t3 : tz_t b L e2 s3 e3 k3 v3) (q3 : k3 = 59) : am_ev (d + 6) 82 0 (am_ent [.ref q, .ref 41] 2) [] h (some (iv 1), (am_put (am_put (am_put (am_put (am_put (am_put (am_put (am_put (am_put (am_put (am_put h 41 5 (iv ((s1 : Int)))) 41 6 (iv ((e1 : Int)))) 41 2 (iv (k1))) q 4 (iv (v1))) 41 5 (iv ((s2 : Int)))) 41 6 (iv ((e2 : Int)))) 41 2 (iv (k2))) q 5 (iv 0)) 41 5 (iv ((s3 : Int)))) 41 6 (iv ((e3 : Int)))) 41 2 (iv (k3)))) := by
  show am_ev (d + 6) 82 0 [.ref q, .ref 41] [] h _
  refine am_ev.step (pc' := 1) rfl rfl ?_
  refine am_ev.step (pc' := 2) rfl rfl ?_
  refine fx_sip (p' := 5) rfl rfl rfl ?_
  refine ax_call (z := 28) (p' := 8) (as := [_, _, _]) rfl (Or.inr (Or.inl ⟨_, rfl⟩)) rfl rfl rfl rfl rfl rfl (S.ob rfl) rfl (tk_28c (lo := 0) (hi := 9999) (by omega) S B hb hL w1 v6 t1 q1) rfl ?_
  refine fx_z_ne_T (pT := 13) rfl (by omega) rfl (by omega) ?_
  refine am_ev.step (pc' := 14) rfl rfl ?_
  refine am_ev.step (pc' := 15) rfl rfl ?_
  refine ax_call (z := 30) (p' := 18) (as := [_]) rfl (Or.inr (Or.inl ⟨_, rfl⟩)) rfl rfl rfl rfl rfl rfl (fO (fO (fO (S.ob rfl)))) rfl (tk_30w (((S.po rfl rfl).po rfl rfl).po rfl rfl) (((B.put (by decide)).put (by decide)).put (by decide)) hb hL (ax_put_o (Or.inr (by decide)) (ax_put_o (Or.inr (by decide)) (ax_put_o (Or.inr (by decide)) w1))) (ax_put_o (Or.inr (by decide)) (ax_put_o (Or.inr (by decide)) (ax_put_s _ _ _))) (ax_put_o (Or.inr (by decide)) (ax_put_s _ _ _)) t1) rfl ?_
  refine ax_pf (p' := 21) rfl rfl (fO (fO (fO O))) rfl ?_
  refine am_ev.step (pc' := 22) rfl rfl ?_
  refine ax_call (z := 21) (p' := 25) (as := [_]) rfl (Or.inr (Or.inl ⟨_, rfl⟩)) rfl rfl rfl rfl rfl rfl (fO (fO (fO (fO (S.ob rfl))))) rfl (tk_21w ((((S.po rfl rfl).po rfl rfl).po rfl rfl).pd (by omega)) ((((B.put (by decide)).put (by decide)).put (by decide)).put (by omega)) hb hL (ax_put_o (Or.inl (by omega)) (ax_put_o (Or.inr (by decide)) (ax_put_o (Or.inr (by decide)) (ax_put_o (Or.inr (by decide)) w1)))) (ax_put_o (Or.inl (by omega)) (ax_put_o (Or.inr (by decide)) (ax_put_s _ _ _))) t2) rfl ?_
  refine am_ev.step (pc' := 26) rfl rfl ?_
  refine am_ev.ldc rfl rfl rfl rfl ?_
  refine ax_call (z := 26) (p' := 31) (as := [_, _]) rfl (Or.inr (Or.inl ⟨_, rfl⟩)) rfl rfl rfl rfl rfl rfl (fO (fO (fO (fO (fO (fO (fO (S.ob rfl)))))))) rfl ((tk_26 (i := 8) (k := k2) (s := s2) (e := e2) (by decide) (((((((S.po rfl rfl).po rfl rfl).po rfl rfl).pd (by omega)).po rfl rfl).po rfl rfl).po rfl rfl) (((((((B.put (by decide)).put (by decide)).put (by decide)).put (by omega)).put (by decide)).put (by decide)).put (by decide)) hb hL (ax_put_o (Or.inr (by decide)) (ax_put_o (Or.inr (by decide)) (ax_put_o (Or.inr (by decide)) (ax_put_o (Or.inl (by omega)) (ax_put_o (Or.inr (by decide)) (ax_put_o (Or.inr (by decide)) (ax_put_o (Or.inr (by decide)) w1))))))) (ax_put_s _ _ _) (ax_put_o (Or.inr (by decide)) (ax_put_o (Or.inr (by decide)) (ax_put_s _ _ _))) (ax_put_o (Or.inr (by decide)) (ax_put_s _ _ _)) ⟨(t2.f hb).2.1, (t2.f hb).2.2.1⟩ ⟨(t2.f hb).2.2.2.1, Int.le_trans (t2.f hb).2.2.2.2.1 (by decide)⟩).1 ((cl_f_w q2 (n := 0) (by decide)).1 rfl)) rfl ?_
  refine fx_z_eq_F (pF := 34) rfl (by omega) rfl (by omega) ?_
  refine am_ev.step (pc' := 35) rfl rfl ?_
  refine am_ev.step (pc' := 36) rfl rfl ?_
  refine ax_pf (p' := 39) rfl rfl (fO (fO (fO (fO (fO (fO (fO O))))))) rfl ?_
  refine am_ev.step (pc' := 82) rfl rfl ?_
  refine am_ev.step (pc' := 83) rfl rfl ?_
  refine ax_call (z := 32) (p' := 86) (as := [_]) rfl (Or.inr (Or.inl ⟨_, rfl⟩)) rfl rfl rfl rfl rfl rfl (fO (fO (fO (fO (fO (fO (fO (fO (S.ob rfl))))))))) rfl (tk_32b ((((((((S.po rfl rfl).po rfl rfl).po rfl rfl).pd (by omega)).po rfl rfl).po rfl rfl).po rfl rfl).pd (by omega)) ((((((((B.put (by decide)).put (by decide)).put (by decide)).put (by omega)).put (by decide)).put (by decide)).put (by decide)).put (by omega)) hb hL (ax_put_o (Or.inl (by omega)) (ax_put_o (Or.inr (by decide)) (ax_put_o (Or.inr (by decide)) (ax_put_o (Or.inr (by decide)) (ax_put_o (Or.inl (by omega)) (ax_put_o (Or.inr (by decide)) (ax_put_o (Or.inr (by decide)) (ax_put_o (Or.inr (by decide)) w1)))))))) (ax_put_o (Or.inl (by omega)) (ax_put_o (Or.inr (by decide)) (ax_put_s _ _ _))) t3 q3) rfl ?_
  exact fx_reti rfl rfl rfl
theorem le_82d1 (S : fS h) (B : tb h 42 b L) (hb : tz_r b) (hL : L ≤ 1600) (w1 : h.2.2.2 41 1 = iv L) (v6 : h.2.2.2 41 6 = iv e) (O : am_isO h q 4 = true) (hq : 130 ≤ q) (t1 : tz_t b L e s1 e1 k1 v1) (q1 : k1 = 2 ∧ 0 ≤ v1 ∧ v1 ≤ 9999) (t2 : tz_t b L e1 s2 e2 k2 v2) (q2 : cl_f b s2 e2 k2 ((1 : Nat) : Int)) (t3 : tz_t b L e2 s3 e3 k3 v3) (q3 : k3 ≠ 59) : am_ev (d + 6) 82 0 (am_ent [.ref q, .ref 41] 2) [] h (some (iv 0), (am_put (am_put (am_put (am_put (am_put (am_put (am_put (am_put (am_put (am_put (am_put (am_put (am_put h 41 5 (iv ((s1 : Int)))) 41 6 (iv ((e1 : Int)))) 41 2 (iv (k1))) q 4 (iv (v1))) 41 5 (iv ((s2 : Int)))) 41 6 (iv ((e2 : Int)))) 41 2 (iv (k2))) q 5 (iv 1)) 41 5 (iv ((s3 : Int)))) 41 6 (iv ((e3 : Int)))) 41 2 (iv (k3))) 41 3 (iv 1)) 41 4 (iv ((s3 : Int))))) := by
  show am_ev (d + 6) 82 0 [.ref q, .ref 41] [] h _
  refine am_ev.step (pc' := 1) rfl rfl ?_
  refine am_ev.step (pc' := 2) rfl rfl ?_
  refine fx_sip (p' := 5) rfl rfl rfl ?_
  refine ax_call (z := 28) (p' := 8) (as := [_, _, _]) rfl (Or.inr (Or.inl ⟨_, rfl⟩)) rfl rfl rfl rfl rfl rfl (S.ob rfl) rfl (tk_28c (lo := 0) (hi := 9999) (by omega) S B hb hL w1 v6 t1 q1) rfl ?_
  refine fx_z_ne_T (pT := 13) rfl (by omega) rfl (by omega) ?_
  refine am_ev.step (pc' := 14) rfl rfl ?_
  refine am_ev.step (pc' := 15) rfl rfl ?_
  refine ax_call (z := 30) (p' := 18) (as := [_]) rfl (Or.inr (Or.inl ⟨_, rfl⟩)) rfl rfl rfl rfl rfl rfl (fO (fO (fO (S.ob rfl)))) rfl (tk_30w (((S.po rfl rfl).po rfl rfl).po rfl rfl) (((B.put (by decide)).put (by decide)).put (by decide)) hb hL (ax_put_o (Or.inr (by decide)) (ax_put_o (Or.inr (by decide)) (ax_put_o (Or.inr (by decide)) w1))) (ax_put_o (Or.inr (by decide)) (ax_put_o (Or.inr (by decide)) (ax_put_s _ _ _))) (ax_put_o (Or.inr (by decide)) (ax_put_s _ _ _)) t1) rfl ?_
  refine ax_pf (p' := 21) rfl rfl (fO (fO (fO O))) rfl ?_
  refine am_ev.step (pc' := 22) rfl rfl ?_
  refine ax_call (z := 21) (p' := 25) (as := [_]) rfl (Or.inr (Or.inl ⟨_, rfl⟩)) rfl rfl rfl rfl rfl rfl (fO (fO (fO (fO (S.ob rfl))))) rfl (tk_21w ((((S.po rfl rfl).po rfl rfl).po rfl rfl).pd (by omega)) ((((B.put (by decide)).put (by decide)).put (by decide)).put (by omega)) hb hL (ax_put_o (Or.inl (by omega)) (ax_put_o (Or.inr (by decide)) (ax_put_o (Or.inr (by decide)) (ax_put_o (Or.inr (by decide)) w1)))) (ax_put_o (Or.inl (by omega)) (ax_put_o (Or.inr (by decide)) (ax_put_s _ _ _))) t2) rfl ?_
  refine am_ev.step (pc' := 26) rfl rfl ?_
  refine am_ev.ldc rfl rfl rfl rfl ?_
  refine ax_call (z := 26) (p' := 31) (as := [_, _]) rfl (Or.inr (Or.inl ⟨_, rfl⟩)) rfl rfl rfl rfl rfl rfl (fO (fO (fO (fO (fO (fO (fO (S.ob rfl)))))))) rfl ((tk_26 (i := 8) (k := k2) (s := s2) (e := e2) (by decide) (((((((S.po rfl rfl).po rfl rfl).po rfl rfl).pd (by omega)).po rfl rfl).po rfl rfl).po rfl rfl) (((((((B.put (by decide)).put (by decide)).put (by decide)).put (by omega)).put (by decide)).put (by decide)).put (by decide)) hb hL (ax_put_o (Or.inr (by decide)) (ax_put_o (Or.inr (by decide)) (ax_put_o (Or.inr (by decide)) (ax_put_o (Or.inl (by omega)) (ax_put_o (Or.inr (by decide)) (ax_put_o (Or.inr (by decide)) (ax_put_o (Or.inr (by decide)) w1))))))) (ax_put_s _ _ _) (ax_put_o (Or.inr (by decide)) (ax_put_o (Or.inr (by decide)) (ax_put_s _ _ _))) (ax_put_o (Or.inr (by decide)) (ax_put_s _ _ _)) ⟨(t2.f hb).2.1, (t2.f hb).2.2.1⟩ ⟨(t2.f hb).2.2.2.1, Int.le_trans (t2.f hb).2.2.2.2.1 (by decide)⟩).2 ((cl_f_w q2 (n := 0) (by decide)).2 (by decide))) rfl ?_
  refine fx_z_eq_T (pT := 42) rfl (by omega) rfl (by omega) ?_
  refine am_ev.step (pc' := 43) rfl rfl ?_
  refine am_ev.ldc rfl rfl rfl rfl ?_
  refine ax_call (z := 26) (p' := 48) (as := [_, _]) rfl (Or.inr (Or.inl ⟨_, rfl⟩)) rfl rfl rfl rfl rfl rfl (fO (fO (fO (fO (fO (fO (fO (S.ob rfl)))))))) rfl ((tk_26 (i := 10) (k := k2) (s := s2) (e := e2) (by decide) (((((((S.po rfl rfl).po rfl rfl).po rfl rfl).pd (by omega)).po rfl rfl).po rfl rfl).po rfl rfl) (((((((B.put (by decide)).put (by decide)).put (by decide)).put (by omega)).put (by decide)).put (by decide)).put (by decide)) hb hL (ax_put_o (Or.inr (by decide)) (ax_put_o (Or.inr (by decide)) (ax_put_o (Or.inr (by decide)) (ax_put_o (Or.inl (by omega)) (ax_put_o (Or.inr (by decide)) (ax_put_o (Or.inr (by decide)) (ax_put_o (Or.inr (by decide)) w1))))))) (ax_put_s _ _ _) (ax_put_o (Or.inr (by decide)) (ax_put_o (Or.inr (by decide)) (ax_put_s _ _ _))) (ax_put_o (Or.inr (by decide)) (ax_put_s _ _ _)) ⟨(t2.f hb).2.1, (t2.f hb).2.2.1⟩ ⟨(t2.f hb).2.2.2.1, Int.le_trans (t2.f hb).2.2.2.2.1 (by decide)⟩).1 ((cl_f_w q2 (n := 1) (by decide)).1 rfl)) rfl ?_
  refine fx_z_eq_F (pF := 51) rfl (by omega) rfl (by omega) ?_
  refine am_ev.step (pc' := 52) rfl rfl ?_
  refine am_ev.step (pc' := 53) rfl rfl ?_
  refine ax_pf (p' := 56) rfl rfl (fO (fO (fO (fO (fO (fO (fO O))))))) rfl ?_
  refine am_ev.step (pc' := 82) rfl rfl ?_
  refine am_ev.step (pc' := 83) rfl rfl ?_
  refine ax_call (z := 32) (p' := 86) (as := [_]) rfl (Or.inr (Or.inl ⟨_, rfl⟩)) rfl rfl rfl rfl rfl rfl (fO (fO (fO (fO (fO (fO (fO (fO (S.ob rfl))))))))) rfl (tk_32a ((((((((S.po rfl rfl).po rfl rfl).po rfl rfl).pd (by omega)).po rfl rfl).po rfl rfl).po rfl rfl).pd (by omega)) ((((((((B.put (by decide)).put (by decide)).put (by decide)).put (by omega)).put (by decide)).put (by decide)).put (by decide)).put (by omega)) hb hL (ax_put_o (Or.inl (by omega)) (ax_put_o (Or.inr (by decide)) (ax_put_o (Or.inr (by decide)) (ax_put_o (Or.inr (by decide)) (ax_put_o (Or.inl (by omega)) (ax_put_o (Or.inr (by decide)) (ax_put_o (Or.inr (by decide)) (ax_put_o (Or.inr (by decide)) w1)))))))) (ax_put_o (Or.inl (by omega)) (ax_put_o (Or.inr (by decide)) (ax_put_s _ _ _))) t3 q3) rfl ?_
  exact fx_reti rfl rfl rfl
theorem le_82e1 (S : fS h) (B : tb h 42 b L) (hb : tz_r b) (hL : L ≤ 1600) (w1 : h.2.2.2 41 1 = iv L) (v6 : h.2.2.2 41 6 = iv e) (O : am_isO h q 4 = true) (hq : 130 ≤ q) (t1 : tz_t b L e s1 e1 k1 v1) (q1 : k1 = 2 ∧ 0 ≤ v1 ∧ v1 ≤ 9999) (t2 : tz_t b L e1 s2 e2 k2 v2) (q2 : cl_f b s2 e2 k2 ((1 : Nat) : Int)) (t3 : tz_t b L e2 s3 e3 k3 v3) (q3 : k3 = 59) : am_ev (d + 6) 82 0 (am_ent [.ref q, .ref 41] 2) [] h (some (iv 1), (am_put (am_put (am_put (am_put (am_put (am_put (am_put (am_put (am_put (am_put (am_put h 41 5 (iv ((s1 : Int)))) 41 6 (iv ((e1 : Int)))) 41 2 (iv (k1))) q 4 (iv (v1))) 41 5 (iv ((s2 : Int)))) 41 6 (iv ((e2 : Int)))) 41 2 (iv (k2))) q 5 (iv 1)) 41 5 (iv ((s3 : Int)))) 41 6 (iv ((e3 : Int)))) 41 2 (iv (k3)))) := by
  show am_ev (d + 6) 82 0 [.ref q, .ref 41] [] h _
  refine am_ev.step (pc' := 1) rfl rfl ?_
  refine am_ev.step (pc' := 2) rfl rfl ?_
  refine fx_sip (p' := 5) rfl rfl rfl ?_
  refine ax_call (z := 28) (p' := 8) (as := [_, _, _]) rfl (Or.inr (Or.inl ⟨_, rfl⟩)) rfl rfl rfl rfl rfl rfl (S.ob rfl) rfl (tk_28c (lo := 0) (hi := 9999) (by omega) S B hb hL w1 v6 t1 q1) rfl ?_
  refine fx_z_ne_T (pT := 13) rfl (by omega) rfl (by omega) ?_
  refine am_ev.step (pc' := 14) rfl rfl ?_
  refine am_ev.step (pc' := 15) rfl rfl ?_
  refine ax_call (z := 30) (p' := 18) (as := [_]) rfl (Or.inr (Or.inl ⟨_, rfl⟩)) rfl rfl rfl rfl rfl rfl (fO (fO (fO (S.ob rfl)))) rfl (tk_30w (((S.po rfl rfl).po rfl rfl).po rfl rfl) (((B.put (by decide)).put (by decide)).put (by decide)) hb hL (ax_put_o (Or.inr (by decide)) (ax_put_o (Or.inr (by decide)) (ax_put_o (Or.inr (by decide)) w1))) (ax_put_o (Or.inr (by decide)) (ax_put_o (Or.inr (by decide)) (ax_put_s _ _ _))) (ax_put_o (Or.inr (by decide)) (ax_put_s _ _ _)) t1) rfl ?_
  refine ax_pf (p' := 21) rfl rfl (fO (fO (fO O))) rfl ?_
  refine am_ev.step (pc' := 22) rfl rfl ?_
  refine ax_call (z := 21) (p' := 25) (as := [_]) rfl (Or.inr (Or.inl ⟨_, rfl⟩)) rfl rfl rfl rfl rfl rfl (fO (fO (fO (fO (S.ob rfl))))) rfl (tk_21w ((((S.po rfl rfl).po rfl rfl).po rfl rfl).pd (by omega)) ((((B.put (by decide)).put (by decide)).put (by decide)).put (by omega)) hb hL (ax_put_o (Or.inl (by omega)) (ax_put_o (Or.inr (by decide)) (ax_put_o (Or.inr (by decide)) (ax_put_o (Or.inr (by decide)) w1)))) (ax_put_o (Or.inl (by omega)) (ax_put_o (Or.inr (by decide)) (ax_put_s _ _ _))) t2) rfl ?_
  refine am_ev.step (pc' := 26) rfl rfl ?_
  refine am_ev.ldc rfl rfl rfl rfl ?_
  refine ax_call (z := 26) (p' := 31) (as := [_, _]) rfl (Or.inr (Or.inl ⟨_, rfl⟩)) rfl rfl rfl rfl rfl rfl (fO (fO (fO (fO (fO (fO (fO (S.ob rfl)))))))) rfl ((tk_26 (i := 8) (k := k2) (s := s2) (e := e2) (by decide) (((((((S.po rfl rfl).po rfl rfl).po rfl rfl).pd (by omega)).po rfl rfl).po rfl rfl).po rfl rfl) (((((((B.put (by decide)).put (by decide)).put (by decide)).put (by omega)).put (by decide)).put (by decide)).put (by decide)) hb hL (ax_put_o (Or.inr (by decide)) (ax_put_o (Or.inr (by decide)) (ax_put_o (Or.inr (by decide)) (ax_put_o (Or.inl (by omega)) (ax_put_o (Or.inr (by decide)) (ax_put_o (Or.inr (by decide)) (ax_put_o (Or.inr (by decide)) w1))))))) (ax_put_s _ _ _) (ax_put_o (Or.inr (by decide)) (ax_put_o (Or.inr (by decide)) (ax_put_s _ _ _))) (ax_put_o (Or.inr (by decide)) (ax_put_s _ _ _)) ⟨(t2.f hb).2.1, (t2.f hb).2.2.1⟩ ⟨(t2.f hb).2.2.2.1, Int.le_trans (t2.f hb).2.2.2.2.1 (by decide)⟩).2 ((cl_f_w q2 (n := 0) (by decide)).2 (by decide))) rfl ?_
  refine fx_z_eq_T (pT := 42) rfl (by omega) rfl (by omega) ?_
  refine am_ev.step (pc' := 43) rfl rfl ?_
  refine am_ev.ldc rfl rfl rfl rfl ?_
  refine ax_call (z := 26) (p' := 48) (as := [_, _]) rfl (Or.inr (Or.inl ⟨_, rfl⟩)) rfl rfl rfl rfl rfl rfl (fO (fO (fO (fO (fO (fO (fO (S.ob rfl)))))))) rfl ((tk_26 (i := 10) (k := k2) (s := s2) (e := e2) (by decide) (((((((S.po rfl rfl).po rfl rfl).po rfl rfl).pd (by omega)).po rfl rfl).po rfl rfl).po rfl rfl) (((((((B.put (by decide)).put (by decide)).put (by decide)).put (by omega)).put (by decide)).put (by decide)).put (by decide)) hb hL (ax_put_o (Or.inr (by decide)) (ax_put_o (Or.inr (by decide)) (ax_put_o (Or.inr (by decide)) (ax_put_o (Or.inl (by omega)) (ax_put_o (Or.inr (by decide)) (ax_put_o (Or.inr (by decide)) (ax_put_o (Or.inr (by decide)) w1))))))) (ax_put_s _ _ _) (ax_put_o (Or.inr (by decide)) (ax_put_o (Or.inr (by decide)) (ax_put_s _ _ _))) (ax_put_o (Or.inr (by decide)) (ax_put_s _ _ _)) ⟨(t2.f hb).2.1, (t2.f hb).2.2.1⟩ ⟨(t2.f hb).2.2.2.1, Int.le_trans (t2.f hb).2.2.2.2.1 (by decide)⟩).1 ((cl_f_w q2 (n := 1) (by decide)).1 rfl)) rfl ?_
  refine fx_z_eq_F (pF := 51) rfl (by omega) rfl (by omega) ?_
  refine am_ev.step (pc' := 52) rfl rfl ?_
  refine am_ev.step (pc' := 53) rfl rfl ?_
  refine ax_pf (p' := 56) rfl rfl (fO (fO (fO (fO (fO (fO (fO O))))))) rfl ?_
  refine am_ev.step (pc' := 82) rfl rfl ?_
  refine am_ev.step (pc' := 83) rfl rfl ?_
  refine ax_call (z := 32) (p' := 86) (as := [_]) rfl (Or.inr (Or.inl ⟨_, rfl⟩)) rfl rfl rfl rfl rfl rfl (fO (fO (fO (fO (fO (fO (fO (fO (S.ob rfl))))))))) rfl (tk_32b ((((((((S.po rfl rfl).po rfl rfl).po rfl rfl).pd (by omega)).po rfl rfl).po rfl rfl).po rfl rfl).pd (by omega)) ((((((((B.put (by decide)).put (by decide)).put (by decide)).put (by omega)).put (by decide)).put (by decide)).put (by decide)).put (by omega)) hb hL (ax_put_o (Or.inl (by omega)) (ax_put_o (Or.inr (by decide)) (ax_put_o (Or.inr (by decide)) (ax_put_o (Or.inr (by decide)) (ax_put_o (Or.inl (by omega)) (ax_put_o (Or.inr (by decide)) (ax_put_o (Or.inr (by decide)) (ax_put_o (Or.inr (by decide)) w1)))))))) (ax_put_o (Or.inl (by omega)) (ax_put_o (Or.inr (by decide)) (ax_put_s _ _ _))) t3 q3) rfl ?_
  exact fx_reti rfl rfl rfl
theorem le_82d2 (S : fS h) (B : tb h 42 b L) (hb : tz_r b) (hL : L ≤ 1600) (w1 : h.2.2.2 41 1 = iv L) (v6 : h.2.2.2 41 6 = iv e) (O : am_isO h q 4 = true) (hq : 130 ≤ q) (t1 : tz_t b L e s1 e1 k1 v1) (q1 : k1 = 2 ∧ 0 ≤ v1 ∧ v1 ≤ 9999) (t2 : tz_t b L e1 s2 e2 k2 v2) (q2 : cl_f b s2 e2 k2 ((2 : Nat) : Int)) (t3 : tz_t b L e2 s3 e3 k3 v3) (q3 : k3 ≠ 59) : am_ev (d + 6) 82 0 (am_ent [.ref q, .ref 41] 2) [] h (some (iv 0), (am_put (am_put (am_put (am_put (am_put (am_put (am_put (am_put (am_put (am_put (am_put (am_put (am_put h 41 5 (iv ((s1 : Int)))) 41 6 (iv ((e1 : Int)))) 41 2 (iv (k1))) q 4 (iv (v1))) 41 5 (iv ((s2 : Int)))) 41 6 (iv ((e2 : Int)))) 41 2 (iv (k2))) q 5 (iv 2)) 41 5 (iv ((s3 : Int)))) 41 6 (iv ((e3 : Int)))) 41 2 (iv (k3))) 41 3 (iv 1)) 41 4 (iv ((s3 : Int))))) := by
  show am_ev (d + 6) 82 0 [.ref q, .ref 41] [] h _
  refine am_ev.step (pc' := 1) rfl rfl ?_
  refine am_ev.step (pc' := 2) rfl rfl ?_
  refine fx_sip (p' := 5) rfl rfl rfl ?_
  refine ax_call (z := 28) (p' := 8) (as := [_, _, _]) rfl (Or.inr (Or.inl ⟨_, rfl⟩)) rfl rfl rfl rfl rfl rfl (S.ob rfl) rfl (tk_28c (lo := 0) (hi := 9999) (by omega) S B hb hL w1 v6 t1 q1) rfl ?_
  refine fx_z_ne_T (pT := 13) rfl (by omega) rfl (by omega) ?_
  refine am_ev.step (pc' := 14) rfl rfl ?_
  refine am_ev.step (pc' := 15) rfl rfl ?_
  refine ax_call (z := 30) (p' := 18) (as := [_]) rfl (Or.inr (Or.inl ⟨_, rfl⟩)) rfl rfl rfl rfl rfl rfl (fO (fO (fO (S.ob rfl)))) rfl (tk_30w (((S.po rfl rfl).po rfl rfl).po rfl rfl) (((B.put (by decide)).put (by decide)).put (by decide)) hb hL (ax_put_o (Or.inr (by decide)) (ax_put_o (Or.inr (by decide)) (ax_put_o (Or.inr (by decide)) w1))) (ax_put_o (Or.inr (by decide)) (ax_put_o (Or.inr (by decide)) (ax_put_s _ _ _))) (ax_put_o (Or.inr (by decide)) (ax_put_s _ _ _)) t1) rfl ?_
  refine ax_pf (p' := 21) rfl rfl (fO (fO (fO O))) rfl ?_
  refine am_ev.step (pc' := 22) rfl rfl ?_
  refine ax_call (z := 21) (p' := 25) (as := [_]) rfl (Or.inr (Or.inl ⟨_, rfl⟩)) rfl rfl rfl rfl rfl rfl (fO (fO (fO (fO (S.ob rfl))))) rfl (tk_21w ((((S.po rfl rfl).po rfl rfl).po rfl rfl).pd (by omega)) ((((B.put (by decide)).put (by decide)).put (by decide)).put (by omega)) hb hL (ax_put_o (Or.inl (by omega)) (ax_put_o (Or.inr (by decide)) (ax_put_o (Or.inr (by decide)) (ax_put_o (Or.inr (by decide)) w1)))) (ax_put_o (Or.inl (by omega)) (ax_put_o (Or.inr (by decide)) (ax_put_s _ _ _))) t2) rfl ?_
  refine am_ev.step (pc' := 26) rfl rfl ?_
  refine am_ev.ldc rfl rfl rfl rfl ?_
  refine ax_call (z := 26) (p' := 31) (as := [_, _]) rfl (Or.inr (Or.inl ⟨_, rfl⟩)) rfl rfl rfl rfl rfl rfl (fO (fO (fO (fO (fO (fO (fO (S.ob rfl)))))))) rfl ((tk_26 (i := 8) (k := k2) (s := s2) (e := e2) (by decide) (((((((S.po rfl rfl).po rfl rfl).po rfl rfl).pd (by omega)).po rfl rfl).po rfl rfl).po rfl rfl) (((((((B.put (by decide)).put (by decide)).put (by decide)).put (by omega)).put (by decide)).put (by decide)).put (by decide)) hb hL (ax_put_o (Or.inr (by decide)) (ax_put_o (Or.inr (by decide)) (ax_put_o (Or.inr (by decide)) (ax_put_o (Or.inl (by omega)) (ax_put_o (Or.inr (by decide)) (ax_put_o (Or.inr (by decide)) (ax_put_o (Or.inr (by decide)) w1))))))) (ax_put_s _ _ _) (ax_put_o (Or.inr (by decide)) (ax_put_o (Or.inr (by decide)) (ax_put_s _ _ _))) (ax_put_o (Or.inr (by decide)) (ax_put_s _ _ _)) ⟨(t2.f hb).2.1, (t2.f hb).2.2.1⟩ ⟨(t2.f hb).2.2.2.1, Int.le_trans (t2.f hb).2.2.2.2.1 (by decide)⟩).2 ((cl_f_w q2 (n := 0) (by decide)).2 (by decide))) rfl ?_
  refine fx_z_eq_T (pT := 42) rfl (by omega) rfl (by omega) ?_
  refine am_ev.step (pc' := 43) rfl rfl ?_
  refine am_ev.ldc rfl rfl rfl rfl ?_
  refine ax_call (z := 26) (p' := 48) (as := [_, _]) rfl (Or.inr (Or.inl ⟨_, rfl⟩)) rfl rfl rfl rfl rfl rfl (fO (fO (fO (fO (fO (fO (fO (S.ob rfl)))))))) rfl ((tk_26 (i := 10) (k := k2) (s := s2) (e := e2) (by decide) (((((((S.po rfl rfl).po rfl rfl).po rfl rfl).pd (by omega)).po rfl rfl).po rfl rfl).po rfl rfl) (((((((B.put (by decide)).put (by decide)).put (by decide)).put (by omega)).put (by decide)).put (by decide)).put (by decide)) hb hL (ax_put_o (Or.inr (by decide)) (ax_put_o (Or.inr (by decide)) (ax_put_o (Or.inr (by decide)) (ax_put_o (Or.inl (by omega)) (ax_put_o (Or.inr (by decide)) (ax_put_o (Or.inr (by decide)) (ax_put_o (Or.inr (by decide)) w1))))))) (ax_put_s _ _ _) (ax_put_o (Or.inr (by decide)) (ax_put_o (Or.inr (by decide)) (ax_put_s _ _ _))) (ax_put_o (Or.inr (by decide)) (ax_put_s _ _ _)) ⟨(t2.f hb).2.1, (t2.f hb).2.2.1⟩ ⟨(t2.f hb).2.2.2.1, Int.le_trans (t2.f hb).2.2.2.2.1 (by decide)⟩).2 ((cl_f_w q2 (n := 1) (by decide)).2 (by decide))) rfl ?_
  refine fx_z_eq_T (pT := 59) rfl (by omega) rfl (by omega) ?_
  refine am_ev.step (pc' := 60) rfl rfl ?_
  refine am_ev.ldc rfl rfl rfl rfl ?_
  refine ax_call (z := 26) (p' := 65) (as := [_, _]) rfl (Or.inr (Or.inl ⟨_, rfl⟩)) rfl rfl rfl rfl rfl rfl (fO (fO (fO (fO (fO (fO (fO (S.ob rfl)))))))) rfl ((tk_26 (i := 0) (k := k2) (s := s2) (e := e2) (by decide) (((((((S.po rfl rfl).po rfl rfl).po rfl rfl).pd (by omega)).po rfl rfl).po rfl rfl).po rfl rfl) (((((((B.put (by decide)).put (by decide)).put (by decide)).put (by omega)).put (by decide)).put (by decide)).put (by decide)) hb hL (ax_put_o (Or.inr (by decide)) (ax_put_o (Or.inr (by decide)) (ax_put_o (Or.inr (by decide)) (ax_put_o (Or.inl (by omega)) (ax_put_o (Or.inr (by decide)) (ax_put_o (Or.inr (by decide)) (ax_put_o (Or.inr (by decide)) w1))))))) (ax_put_s _ _ _) (ax_put_o (Or.inr (by decide)) (ax_put_o (Or.inr (by decide)) (ax_put_s _ _ _))) (ax_put_o (Or.inr (by decide)) (ax_put_s _ _ _)) ⟨(t2.f hb).2.1, (t2.f hb).2.2.1⟩ ⟨(t2.f hb).2.2.2.1, Int.le_trans (t2.f hb).2.2.2.2.1 (by decide)⟩).1 ((cl_f_w q2 (n := 2) (by decide)).1 rfl)) rfl ?_
  refine fx_z_eq_F (pF := 68) rfl (by omega) rfl (by omega) ?_
  refine am_ev.step (pc' := 69) rfl rfl ?_
  refine am_ev.step (pc' := 70) rfl rfl ?_
  refine ax_pf (p' := 73) rfl rfl (fO (fO (fO (fO (fO (fO (fO O))))))) rfl ?_
  refine am_ev.step (pc' := 82) rfl rfl ?_
  refine am_ev.step (pc' := 83) rfl rfl ?_
  refine ax_call (z := 32) (p' := 86) (as := [_]) rfl (Or.inr (Or.inl ⟨_, rfl⟩)) rfl rfl rfl rfl rfl rfl (fO (fO (fO (fO (fO (fO (fO (fO (S.ob rfl))))))))) rfl (tk_32a ((((((((S.po rfl rfl).po rfl rfl).po rfl rfl).pd (by omega)).po rfl rfl).po rfl rfl).po rfl rfl).pd (by omega)) ((((((((B.put (by decide)).put (by decide)).put (by decide)).put (by omega)).put (by decide)).put (by decide)).put (by decide)).put (by omega)) hb hL (ax_put_o (Or.inl (by omega)) (ax_put_o (Or.inr (by decide)) (ax_put_o (Or.inr (by decide)) (ax_put_o (Or.inr (by decide)) (ax_put_o (Or.inl (by omega)) (ax_put_o (Or.inr (by decide)) (ax_put_o (Or.inr (by decide)) (ax_put_o (Or.inr (by decide)) w1)))))))) (ax_put_o (Or.inl (by omega)) (ax_put_o (Or.inr (by decide)) (ax_put_s _ _ _))) t3 q3) rfl ?_
  exact fx_reti rfl rfl rfl
theorem le_82e2 (S : fS h) (B : tb h 42 b L) (hb : tz_r b) (hL : L ≤ 1600) (w1 : h.2.2.2 41 1 = iv L) (v6 : h.2.2.2 41 6 = iv e) (O : am_isO h q 4 = true) (hq : 130 ≤ q) (t1 : tz_t b L e s1 e1 k1 v1) (q1 : k1 = 2 ∧ 0 ≤ v1 ∧ v1 ≤ 9999) (t2 : tz_t b L e1 s2 e2 k2 v2) (q2 : cl_f b s2 e2 k2 ((2 : Nat) : Int)) (t3 : tz_t b L e2 s3 e3 k3 v3) (q3 : k3 = 59) : am_ev (d + 6) 82 0 (am_ent [.ref q, .ref 41] 2) [] h (some (iv 1), (am_put (am_put (am_put (am_put (am_put (am_put (am_put (am_put (am_put (am_put (am_put h 41 5 (iv ((s1 : Int)))) 41 6 (iv ((e1 : Int)))) 41 2 (iv (k1))) q 4 (iv (v1))) 41 5 (iv ((s2 : Int)))) 41 6 (iv ((e2 : Int)))) 41 2 (iv (k2))) q 5 (iv 2)) 41 5 (iv ((s3 : Int)))) 41 6 (iv ((e3 : Int)))) 41 2 (iv (k3)))) := by
  show am_ev (d + 6) 82 0 [.ref q, .ref 41] [] h _
  refine am_ev.step (pc' := 1) rfl rfl ?_
  refine am_ev.step (pc' := 2) rfl rfl ?_
  refine fx_sip (p' := 5) rfl rfl rfl ?_
  refine ax_call (z := 28) (p' := 8) (as := [_, _, _]) rfl (Or.inr (Or.inl ⟨_, rfl⟩)) rfl rfl rfl rfl rfl rfl (S.ob rfl) rfl (tk_28c (lo := 0) (hi := 9999) (by omega) S B hb hL w1 v6 t1 q1) rfl ?_
  refine fx_z_ne_T (pT := 13) rfl (by omega) rfl (by omega) ?_
  refine am_ev.step (pc' := 14) rfl rfl ?_
  refine am_ev.step (pc' := 15) rfl rfl ?_
  refine ax_call (z := 30) (p' := 18) (as := [_]) rfl (Or.inr (Or.inl ⟨_, rfl⟩)) rfl rfl rfl rfl rfl rfl (fO (fO (fO (S.ob rfl)))) rfl (tk_30w (((S.po rfl rfl).po rfl rfl).po rfl rfl) (((B.put (by decide)).put (by decide)).put (by decide)) hb hL (ax_put_o (Or.inr (by decide)) (ax_put_o (Or.inr (by decide)) (ax_put_o (Or.inr (by decide)) w1))) (ax_put_o (Or.inr (by decide)) (ax_put_o (Or.inr (by decide)) (ax_put_s _ _ _))) (ax_put_o (Or.inr (by decide)) (ax_put_s _ _ _)) t1) rfl ?_
  refine ax_pf (p' := 21) rfl rfl (fO (fO (fO O))) rfl ?_
  refine am_ev.step (pc' := 22) rfl rfl ?_
  refine ax_call (z := 21) (p' := 25) (as := [_]) rfl (Or.inr (Or.inl ⟨_, rfl⟩)) rfl rfl rfl rfl rfl rfl (fO (fO (fO (fO (S.ob rfl))))) rfl (tk_21w ((((S.po rfl rfl).po rfl rfl).po rfl rfl).pd (by omega)) ((((B.put (by decide)).put (by decide)).put (by decide)).put (by omega)) hb hL (ax_put_o (Or.inl (by omega)) (ax_put_o (Or.inr (by decide)) (ax_put_o (Or.inr (by decide)) (ax_put_o (Or.inr (by decide)) w1)))) (ax_put_o (Or.inl (by omega)) (ax_put_o (Or.inr (by decide)) (ax_put_s _ _ _))) t2) rfl ?_
  refine am_ev.step (pc' := 26) rfl rfl ?_
  refine am_ev.ldc rfl rfl rfl rfl ?_
  refine ax_call (z := 26) (p' := 31) (as := [_, _]) rfl (Or.inr (Or.inl ⟨_, rfl⟩)) rfl rfl rfl rfl rfl rfl (fO (fO (fO (fO (fO (fO (fO (S.ob rfl)))))))) rfl ((tk_26 (i := 8) (k := k2) (s := s2) (e := e2) (by decide) (((((((S.po rfl rfl).po rfl rfl).po rfl rfl).pd (by omega)).po rfl rfl).po rfl rfl).po rfl rfl) (((((((B.put (by decide)).put (by decide)).put (by decide)).put (by omega)).put (by decide)).put (by decide)).put (by decide)) hb hL (ax_put_o (Or.inr (by decide)) (ax_put_o (Or.inr (by decide)) (ax_put_o (Or.inr (by decide)) (ax_put_o (Or.inl (by omega)) (ax_put_o (Or.inr (by decide)) (ax_put_o (Or.inr (by decide)) (ax_put_o (Or.inr (by decide)) w1))))))) (ax_put_s _ _ _) (ax_put_o (Or.inr (by decide)) (ax_put_o (Or.inr (by decide)) (ax_put_s _ _ _))) (ax_put_o (Or.inr (by decide)) (ax_put_s _ _ _)) ⟨(t2.f hb).2.1, (t2.f hb).2.2.1⟩ ⟨(t2.f hb).2.2.2.1, Int.le_trans (t2.f hb).2.2.2.2.1 (by decide)⟩).2 ((cl_f_w q2 (n := 0) (by decide)).2 (by decide))) rfl ?_
  refine fx_z_eq_T (pT := 42) rfl (by omega) rfl (by omega) ?_
  refine am_ev.step (pc' := 43) rfl rfl ?_
  refine am_ev.ldc rfl rfl rfl rfl ?_
  refine ax_call (z := 26) (p' := 48) (as := [_, _]) rfl (Or.inr (Or.inl ⟨_, rfl⟩)) rfl rfl rfl rfl rfl rfl (fO (fO (fO (fO (fO (fO (fO (S.ob rfl)))))))) rfl ((tk_26 (i := 10) (k := k2) (s := s2) (e := e2) (by decide) (((((((S.po rfl rfl).po rfl rfl).po rfl rfl).pd (by omega)).po rfl rfl).po rfl rfl).po rfl rfl) (((((((B.put (by decide)).put (by decide)).put (by decide)).put (by omega)).put (by decide)).put (by decide)).put (by decide)) hb hL (ax_put_o (Or.inr (by decide)) (ax_put_o (Or.inr (by decide)) (ax_put_o (Or.inr (by decide)) (ax_put_o (Or.inl (by omega)) (ax_put_o (Or.inr (by decide)) (ax_put_o (Or.inr (by decide)) (ax_put_o (Or.inr (by decide)) w1))))))) (ax_put_s _ _ _) (ax_put_o (Or.inr (by decide)) (ax_put_o (Or.inr (by decide)) (ax_put_s _ _ _))) (ax_put_o (Or.inr (by decide)) (ax_put_s _ _ _)) ⟨(t2.f hb).2.1, (t2.f hb).2.2.1⟩ ⟨(t2.f hb).2.2.2.1, Int.le_trans (t2.f hb).2.2.2.2.1 (by decide)⟩).2 ((cl_f_w q2 (n := 1) (by decide)).2 (by decide))) rfl ?_
  refine fx_z_eq_T (pT := 59) rfl (by omega) rfl (by omega) ?_
  refine am_ev.step (pc' := 60) rfl rfl ?_
  refine am_ev.ldc rfl rfl rfl rfl ?_
  refine ax_call (z := 26) (p' := 65) (as := [_, _]) rfl (Or.inr (Or.inl ⟨_, rfl⟩)) rfl rfl rfl rfl rfl rfl (fO (fO (fO (fO (fO (fO (fO (S.ob rfl)))))))) rfl ((tk_26 (i := 0) (k := k2) (s := s2) (e := e2) (by decide) (((((((S.po rfl rfl).po rfl rfl).po rfl rfl).pd (by omega)).po rfl rfl).po rfl rfl).po rfl rfl) (((((((B.put (by decide)).put (by decide)).put (by decide)).put (by omega)).put (by decide)).put (by decide)).put (by decide)) hb hL (ax_put_o (Or.inr (by decide)) (ax_put_o (Or.inr (by decide)) (ax_put_o (Or.inr (by decide)) (ax_put_o (Or.inl (by omega)) (ax_put_o (Or.inr (by decide)) (ax_put_o (Or.inr (by decide)) (ax_put_o (Or.inr (by decide)) w1))))))) (ax_put_s _ _ _) (ax_put_o (Or.inr (by decide)) (ax_put_o (Or.inr (by decide)) (ax_put_s _ _ _))) (ax_put_o (Or.inr (by decide)) (ax_put_s _ _ _)) ⟨(t2.f hb).2.1, (t2.f hb).2.2.1⟩ ⟨(t2.f hb).2.2.2.1, Int.le_trans (t2.f hb).2.2.2.2.1 (by decide)⟩).1 ((cl_f_w q2 (n := 2) (by decide)).1 rfl)) rfl ?_
  refine fx_z_eq_F (pF := 68) rfl (by omega) rfl (by omega) ?_
  refine am_ev.step (pc' := 69) rfl rfl ?_
  refine am_ev.step (pc' := 70) rfl rfl ?_
  refine ax_pf (p' := 73) rfl rfl (fO (fO (fO (fO (fO (fO (fO O))))))) rfl ?_
  refine am_ev.step (pc' := 82) rfl rfl ?_
  refine am_ev.step (pc' := 83) rfl rfl ?_
  refine ax_call (z := 32) (p' := 86) (as := [_]) rfl (Or.inr (Or.inl ⟨_, rfl⟩)) rfl rfl rfl rfl rfl rfl (fO (fO (fO (fO (fO (fO (fO (fO (S.ob rfl))))))))) rfl (tk_32b ((((((((S.po rfl rfl).po rfl rfl).po rfl rfl).pd (by omega)).po rfl rfl).po rfl rfl).po rfl rfl).pd (by omega)) ((((((((B.put (by decide)).put (by decide)).put (by decide)).put (by omega)).put (by decide)).put (by decide)).put (by decide)).put (by omega)) hb hL (ax_put_o (Or.inl (by omega)) (ax_put_o (Or.inr (by decide)) (ax_put_o (Or.inr (by decide)) (ax_put_o (Or.inr (by decide)) (ax_put_o (Or.inl (by omega)) (ax_put_o (Or.inr (by decide)) (ax_put_o (Or.inr (by decide)) (ax_put_o (Or.inr (by decide)) w1)))))))) (ax_put_o (Or.inl (by omega)) (ax_put_o (Or.inr (by decide)) (ax_put_s _ _ _))) t3 q3) rfl ?_
  exact fx_reti rfl rfl rfl
end LEA
section LEB
variable {d : Nat} {h : am_H} {b : Nat → Int} {L p s e : Nat} {k v c : Int}
theorem le_77 (S : fS h) (B : tb h 42 b L) (hb : tz_r b) (hL : L ≤ 1600) (w1 : h.2.2.2 41 1 = iv L) (v2 : h.2.2.2 41 2 = iv k) (v5 : h.2.2.2 41 5 = iv s) (v6 : h.2.2.2 41 6 = iv e) (t0 : tz_t b L p s e k v) (q : cl_l b s e k c) : am_ev (d + 6) 77 0 (am_ent [.ref 41] 1) [] h (some (iv c), h) := by
  show am_ev (d + 6) 77 0 [.ref 41] [] h _
  have q0 := q
  rcases q with ⟨n, hn, rfl, -⟩ | ⟨rfl, -⟩
  · have w : ∀ m : Nat, m < 6 → (n = m → tz_w b s e k (tx_l m)) ∧ (n ≠ m → ¬ tz_w b s e k (tx_l m)) := fun m hm => ⟨fun z => (cl_l_w q0 hm).1 (by omega), fun z => (cl_l_w q0 hm).2 (by omega)⟩
    have hn2 : n = 0 ∨ n = 1 ∨ n = 2 ∨ n = 3 ∨ n = 4 ∨ n = 5 := by omega
    rcases hn2 with rfl | rfl | rfl | rfl | rfl | rfl
    · refine am_ev.step (pc' := 1) rfl rfl ?_
      refine am_ev.ldc rfl rfl rfl rfl ?_
      refine ax_call (z := 26) (p' := 6) (as := [_, _]) rfl (Or.inr (Or.inl ⟨_, rfl⟩)) rfl rfl rfl rfl rfl rfl (S.ob rfl) rfl ((tk_26 (i := 7) (k := k) (s := s) (e := e) (by decide) S B hb hL w1 v2 v5 v6 ⟨(t0.f hb).2.1, (t0.f hb).2.2.1⟩ ⟨(t0.f hb).2.2.2.1, Int.le_trans (t0.f hb).2.2.2.2.1 (by decide)⟩).1 ((w 0 (by decide)).1 rfl)) rfl ?_
      refine fx_z_eq_F (pF := 9) rfl (by omega) rfl (by omega) ?_
      refine am_ev.step (pc' := 10) rfl rfl ?_
      exact fx_reti rfl rfl rfl
    · refine am_ev.step (pc' := 1) rfl rfl ?_
      refine am_ev.ldc rfl rfl rfl rfl ?_
      refine ax_call (z := 26) (p' := 6) (as := [_, _]) rfl (Or.inr (Or.inl ⟨_, rfl⟩)) rfl rfl rfl rfl rfl rfl (S.ob rfl) rfl ((tk_26 (i := 7) (k := k) (s := s) (e := e) (by decide) S B hb hL w1 v2 v5 v6 ⟨(t0.f hb).2.1, (t0.f hb).2.2.1⟩ ⟨(t0.f hb).2.2.2.1, Int.le_trans (t0.f hb).2.2.2.2.1 (by decide)⟩).2 ((w 0 (by decide)).2 (by decide))) rfl ?_
      refine fx_z_eq_T (pT := 11) rfl (by omega) rfl (by omega) ?_
      refine am_ev.step (pc' := 12) rfl rfl ?_
      refine am_ev.ldc rfl rfl rfl rfl ?_
      refine ax_call (z := 26) (p' := 17) (as := [_, _]) rfl (Or.inr (Or.inl ⟨_, rfl⟩)) rfl rfl rfl rfl rfl rfl (S.ob rfl) rfl ((tk_26 (i := 15) (k := k) (s := s) (e := e) (by decide) S B hb hL w1 v2 v5 v6 ⟨(t0.f hb).2.1, (t0.f hb).2.2.1⟩ ⟨(t0.f hb).2.2.2.1, Int.le_trans (t0.f hb).2.2.2.2.1 (by decide)⟩).1 ((w 1 (by decide)).1 rfl)) rfl ?_
      refine fx_z_eq_F (pF := 20) rfl (by omega) rfl (by omega) ?_
      refine am_ev.step (pc' := 21) rfl rfl ?_
      exact fx_reti rfl rfl rfl
    · refine am_ev.step (pc' := 1) rfl rfl ?_
      refine am_ev.ldc rfl rfl rfl rfl ?_
      refine ax_call (z := 26) (p' := 6) (as := [_, _]) rfl (Or.inr (Or.inl ⟨_, rfl⟩)) rfl rfl rfl rfl rfl rfl (S.ob rfl) rfl ((tk_26 (i := 7) (k := k) (s := s) (e := e) (by decide) S B hb hL w1 v2 v5 v6 ⟨(t0.f hb).2.1, (t0.f hb).2.2.1⟩ ⟨(t0.f hb).2.2.2.1, Int.le_trans (t0.f hb).2.2.2.2.1 (by decide)⟩).2 ((w 0 (by decide)).2 (by decide))) rfl ?_
      refine fx_z_eq_T (pT := 11) rfl (by omega) rfl (by omega) ?_
      refine am_ev.step (pc' := 12) rfl rfl ?_
      refine am_ev.ldc rfl rfl rfl rfl ?_
      refine ax_call (z := 26) (p' := 17) (as := [_, _]) rfl (Or.inr (Or.inl ⟨_, rfl⟩)) rfl rfl rfl rfl rfl rfl (S.ob rfl) rfl ((tk_26 (i := 15) (k := k) (s := s) (e := e) (by decide) S B hb hL w1 v2 v5 v6 ⟨(t0.f hb).2.1, (t0.f hb).2.2.1⟩ ⟨(t0.f hb).2.2.2.1, Int.le_trans (t0.f hb).2.2.2.2.1 (by decide)⟩).2 ((w 1 (by decide)).2 (by decide))) rfl ?_
      refine fx_z_eq_T (pT := 22) rfl (by omega) rfl (by omega) ?_
      refine am_ev.step (pc' := 23) rfl rfl ?_
      refine am_ev.ldc rfl rfl rfl rfl ?_
      refine ax_call (z := 26) (p' := 28) (as := [_, _]) rfl (Or.inr (Or.inl ⟨_, rfl⟩)) rfl rfl rfl rfl rfl rfl (S.ob rfl) rfl ((tk_26 (i := 4) (k := k) (s := s) (e := e) (by decide) S B hb hL w1 v2 v5 v6 ⟨(t0.f hb).2.1, (t0.f hb).2.2.1⟩ ⟨(t0.f hb).2.2.2.1, Int.le_trans (t0.f hb).2.2.2.2.1 (by decide)⟩).1 ((w 2 (by decide)).1 rfl)) rfl ?_
      refine fx_z_eq_F (pF := 31) rfl (by omega) rfl (by omega) ?_
      refine am_ev.step (pc' := 32) rfl rfl ?_
      exact fx_reti rfl rfl rfl
    · refine am_ev.step (pc' := 1) rfl rfl ?_
      refine am_ev.ldc rfl rfl rfl rfl ?_
      refine ax_call (z := 26) (p' := 6) (as := [_, _]) rfl (Or.inr (Or.inl ⟨_, rfl⟩)) rfl rfl rfl rfl rfl rfl (S.ob rfl) rfl ((tk_26 (i := 7) (k := k) (s := s) (e := e) (by decide) S B hb hL w1 v2 v5 v6 ⟨(t0.f hb).2.1, (t0.f hb).2.2.1⟩ ⟨(t0.f hb).2.2.2.1, Int.le_trans (t0.f hb).2.2.2.2.1 (by decide)⟩).2 ((w 0 (by decide)).2 (by decide))) rfl ?_
      refine fx_z_eq_T (pT := 11) rfl (by omega) rfl (by omega) ?_
      refine am_ev.step (pc' := 12) rfl rfl ?_
      refine am_ev.ldc rfl rfl rfl rfl ?_
      refine ax_call (z := 26) (p' := 17) (as := [_, _]) rfl (Or.inr (Or.inl ⟨_, rfl⟩)) rfl rfl rfl rfl rfl rfl (S.ob rfl) rfl ((tk_26 (i := 15) (k := k) (s := s) (e := e) (by decide) S B hb hL w1 v2 v5 v6 ⟨(t0.f hb).2.1, (t0.f hb).2.2.1⟩ ⟨(t0.f hb).2.2.2.1, Int.le_trans (t0.f hb).2.2.2.2.1 (by decide)⟩).2 ((w 1 (by decide)).2 (by decide))) rfl ?_
      refine fx_z_eq_T (pT := 22) rfl (by omega) rfl (by omega) ?_
      refine am_ev.step (pc' := 23) rfl rfl ?_
      refine am_ev.ldc rfl rfl rfl rfl ?_
      refine ax_call (z := 26) (p' := 28) (as := [_, _]) rfl (Or.inr (Or.inl ⟨_, rfl⟩)) rfl rfl rfl rfl rfl rfl (S.ob rfl) rfl ((tk_26 (i := 4) (k := k) (s := s) (e := e) (by decide) S B hb hL w1 v2 v5 v6 ⟨(t0.f hb).2.1, (t0.f hb).2.2.1⟩ ⟨(t0.f hb).2.2.2.1, Int.le_trans (t0.f hb).2.2.2.2.1 (by decide)⟩).2 ((w 2 (by decide)).2 (by decide))) rfl ?_
      refine fx_z_eq_T (pT := 33) rfl (by omega) rfl (by omega) ?_
      refine am_ev.step (pc' := 34) rfl rfl ?_
      refine am_ev.ldc rfl rfl rfl rfl ?_
      refine ax_call (z := 26) (p' := 39) (as := [_, _]) rfl (Or.inr (Or.inl ⟨_, rfl⟩)) rfl rfl rfl rfl rfl rfl (S.ob rfl) rfl ((tk_26 (i := 1) (k := k) (s := s) (e := e) (by decide) S B hb hL w1 v2 v5 v6 ⟨(t0.f hb).2.1, (t0.f hb).2.2.1⟩ ⟨(t0.f hb).2.2.2.1, Int.le_trans (t0.f hb).2.2.2.2.1 (by decide)⟩).1 ((w 3 (by decide)).1 rfl)) rfl ?_
      refine fx_z_eq_F (pF := 42) rfl (by omega) rfl (by omega) ?_
      refine am_ev.step (pc' := 43) rfl rfl ?_
      exact fx_reti rfl rfl rfl
    · refine am_ev.step (pc' := 1) rfl rfl ?_
      refine am_ev.ldc rfl rfl rfl rfl ?_
      refine ax_call (z := 26) (p' := 6) (as := [_, _]) rfl (Or.inr (Or.inl ⟨_, rfl⟩)) rfl rfl rfl rfl rfl rfl (S.ob rfl) rfl ((tk_26 (i := 7) (k := k) (s := s) (e := e) (by decide) S B hb hL w1 v2 v5 v6 ⟨(t0.f hb).2.1, (t0.f hb).2.2.1⟩ ⟨(t0.f hb).2.2.2.1, Int.le_trans (t0.f hb).2.2.2.2.1 (by decide)⟩).2 ((w 0 (by decide)).2 (by decide))) rfl ?_
      refine fx_z_eq_T (pT := 11) rfl (by omega) rfl (by omega) ?_
      refine am_ev.step (pc' := 12) rfl rfl ?_
      refine am_ev.ldc rfl rfl rfl rfl ?_
      refine ax_call (z := 26) (p' := 17) (as := [_, _]) rfl (Or.inr (Or.inl ⟨_, rfl⟩)) rfl rfl rfl rfl rfl rfl (S.ob rfl) rfl ((tk_26 (i := 15) (k := k) (s := s) (e := e) (by decide) S B hb hL w1 v2 v5 v6 ⟨(t0.f hb).2.1, (t0.f hb).2.2.1⟩ ⟨(t0.f hb).2.2.2.1, Int.le_trans (t0.f hb).2.2.2.2.1 (by decide)⟩).2 ((w 1 (by decide)).2 (by decide))) rfl ?_
      refine fx_z_eq_T (pT := 22) rfl (by omega) rfl (by omega) ?_
      refine am_ev.step (pc' := 23) rfl rfl ?_
      refine am_ev.ldc rfl rfl rfl rfl ?_
      refine ax_call (z := 26) (p' := 28) (as := [_, _]) rfl (Or.inr (Or.inl ⟨_, rfl⟩)) rfl rfl rfl rfl rfl rfl (S.ob rfl) rfl ((tk_26 (i := 4) (k := k) (s := s) (e := e) (by decide) S B hb hL w1 v2 v5 v6 ⟨(t0.f hb).2.1, (t0.f hb).2.2.1⟩ ⟨(t0.f hb).2.2.2.1, Int.le_trans (t0.f hb).2.2.2.2.1 (by decide)⟩).2 ((w 2 (by decide)).2 (by decide))) rfl ?_
      refine fx_z_eq_T (pT := 33) rfl (by omega) rfl (by omega) ?_
      refine am_ev.step (pc' := 34) rfl rfl ?_
      refine am_ev.ldc rfl rfl rfl rfl ?_
      refine ax_call (z := 26) (p' := 39) (as := [_, _]) rfl (Or.inr (Or.inl ⟨_, rfl⟩)) rfl rfl rfl rfl rfl rfl (S.ob rfl) rfl ((tk_26 (i := 1) (k := k) (s := s) (e := e) (by decide) S B hb hL w1 v2 v5 v6 ⟨(t0.f hb).2.1, (t0.f hb).2.2.1⟩ ⟨(t0.f hb).2.2.2.1, Int.le_trans (t0.f hb).2.2.2.2.1 (by decide)⟩).2 ((w 3 (by decide)).2 (by decide))) rfl ?_
      refine fx_z_eq_T (pT := 44) rfl (by omega) rfl (by omega) ?_
      refine am_ev.step (pc' := 45) rfl rfl ?_
      refine am_ev.ldc rfl rfl rfl rfl ?_
      refine ax_call (z := 26) (p' := 50) (as := [_, _]) rfl (Or.inr (Or.inl ⟨_, rfl⟩)) rfl rfl rfl rfl rfl rfl (S.ob rfl) rfl ((tk_26 (i := 3) (k := k) (s := s) (e := e) (by decide) S B hb hL w1 v2 v5 v6 ⟨(t0.f hb).2.1, (t0.f hb).2.2.1⟩ ⟨(t0.f hb).2.2.2.1, Int.le_trans (t0.f hb).2.2.2.2.1 (by decide)⟩).1 ((w 4 (by decide)).1 rfl)) rfl ?_
      refine fx_z_eq_F (pF := 53) rfl (by omega) rfl (by omega) ?_
      refine am_ev.step (pc' := 54) rfl rfl ?_
      exact fx_reti rfl rfl rfl
    · refine am_ev.step (pc' := 1) rfl rfl ?_
      refine am_ev.ldc rfl rfl rfl rfl ?_
      refine ax_call (z := 26) (p' := 6) (as := [_, _]) rfl (Or.inr (Or.inl ⟨_, rfl⟩)) rfl rfl rfl rfl rfl rfl (S.ob rfl) rfl ((tk_26 (i := 7) (k := k) (s := s) (e := e) (by decide) S B hb hL w1 v2 v5 v6 ⟨(t0.f hb).2.1, (t0.f hb).2.2.1⟩ ⟨(t0.f hb).2.2.2.1, Int.le_trans (t0.f hb).2.2.2.2.1 (by decide)⟩).2 ((w 0 (by decide)).2 (by decide))) rfl ?_
      refine fx_z_eq_T (pT := 11) rfl (by omega) rfl (by omega) ?_
      refine am_ev.step (pc' := 12) rfl rfl ?_
      refine am_ev.ldc rfl rfl rfl rfl ?_
      refine ax_call (z := 26) (p' := 17) (as := [_, _]) rfl (Or.inr (Or.inl ⟨_, rfl⟩)) rfl rfl rfl rfl rfl rfl (S.ob rfl) rfl ((tk_26 (i := 15) (k := k) (s := s) (e := e) (by decide) S B hb hL w1 v2 v5 v6 ⟨(t0.f hb).2.1, (t0.f hb).2.2.1⟩ ⟨(t0.f hb).2.2.2.1, Int.le_trans (t0.f hb).2.2.2.2.1 (by decide)⟩).2 ((w 1 (by decide)).2 (by decide))) rfl ?_
      refine fx_z_eq_T (pT := 22) rfl (by omega) rfl (by omega) ?_
      refine am_ev.step (pc' := 23) rfl rfl ?_
      refine am_ev.ldc rfl rfl rfl rfl ?_
      refine ax_call (z := 26) (p' := 28) (as := [_, _]) rfl (Or.inr (Or.inl ⟨_, rfl⟩)) rfl rfl rfl rfl rfl rfl (S.ob rfl) rfl ((tk_26 (i := 4) (k := k) (s := s) (e := e) (by decide) S B hb hL w1 v2 v5 v6 ⟨(t0.f hb).2.1, (t0.f hb).2.2.1⟩ ⟨(t0.f hb).2.2.2.1, Int.le_trans (t0.f hb).2.2.2.2.1 (by decide)⟩).2 ((w 2 (by decide)).2 (by decide))) rfl ?_
      refine fx_z_eq_T (pT := 33) rfl (by omega) rfl (by omega) ?_
      refine am_ev.step (pc' := 34) rfl rfl ?_
      refine am_ev.ldc rfl rfl rfl rfl ?_
      refine ax_call (z := 26) (p' := 39) (as := [_, _]) rfl (Or.inr (Or.inl ⟨_, rfl⟩)) rfl rfl rfl rfl rfl rfl (S.ob rfl) rfl ((tk_26 (i := 1) (k := k) (s := s) (e := e) (by decide) S B hb hL w1 v2 v5 v6 ⟨(t0.f hb).2.1, (t0.f hb).2.2.1⟩ ⟨(t0.f hb).2.2.2.1, Int.le_trans (t0.f hb).2.2.2.2.1 (by decide)⟩).2 ((w 3 (by decide)).2 (by decide))) rfl ?_
      refine fx_z_eq_T (pT := 44) rfl (by omega) rfl (by omega) ?_
      refine am_ev.step (pc' := 45) rfl rfl ?_
      refine am_ev.ldc rfl rfl rfl rfl ?_
      refine ax_call (z := 26) (p' := 50) (as := [_, _]) rfl (Or.inr (Or.inl ⟨_, rfl⟩)) rfl rfl rfl rfl rfl rfl (S.ob rfl) rfl ((tk_26 (i := 3) (k := k) (s := s) (e := e) (by decide) S B hb hL w1 v2 v5 v6 ⟨(t0.f hb).2.1, (t0.f hb).2.2.1⟩ ⟨(t0.f hb).2.2.2.1, Int.le_trans (t0.f hb).2.2.2.2.1 (by decide)⟩).2 ((w 4 (by decide)).2 (by decide))) rfl ?_
      refine fx_z_eq_T (pT := 55) rfl (by omega) rfl (by omega) ?_
      refine am_ev.step (pc' := 56) rfl rfl ?_
      refine am_ev.ldc rfl rfl rfl rfl ?_
      refine ax_call (z := 26) (p' := 61) (as := [_, _]) rfl (Or.inr (Or.inl ⟨_, rfl⟩)) rfl rfl rfl rfl rfl rfl (S.ob rfl) rfl ((tk_26 (i := 2) (k := k) (s := s) (e := e) (by decide) S B hb hL w1 v2 v5 v6 ⟨(t0.f hb).2.1, (t0.f hb).2.2.1⟩ ⟨(t0.f hb).2.2.2.1, Int.le_trans (t0.f hb).2.2.2.2.1 (by decide)⟩).1 ((w 5 (by decide)).1 rfl)) rfl ?_
      refine fx_z_eq_F (pF := 64) rfl (by omega) rfl (by omega) ?_
      refine am_ev.step (pc' := 65) rfl rfl ?_
      refine am_ev.step (pc' := 69) rfl rfl ?_
      exact fx_reti rfl rfl rfl
  · refine am_ev.step (pc' := 1) rfl rfl ?_
    refine am_ev.ldc rfl rfl rfl rfl ?_
    refine ax_call (z := 26) (p' := 6) (as := [_, _]) rfl (Or.inr (Or.inl ⟨_, rfl⟩)) rfl rfl rfl rfl rfl rfl (S.ob rfl) rfl ((tk_26 (i := 7) (k := k) (s := s) (e := e) (by decide) S B hb hL w1 v2 v5 v6 ⟨(t0.f hb).2.1, (t0.f hb).2.2.1⟩ ⟨(t0.f hb).2.2.2.1, Int.le_trans (t0.f hb).2.2.2.2.1 (by decide)⟩).2 ((cl_l_w q0 (n := 0) (by decide)).2 (by decide))) rfl ?_
    refine fx_z_eq_T (pT := 11) rfl (by omega) rfl (by omega) ?_
    refine am_ev.step (pc' := 12) rfl rfl ?_
    refine am_ev.ldc rfl rfl rfl rfl ?_
    refine ax_call (z := 26) (p' := 17) (as := [_, _]) rfl (Or.inr (Or.inl ⟨_, rfl⟩)) rfl rfl rfl rfl rfl rfl (S.ob rfl) rfl ((tk_26 (i := 15) (k := k) (s := s) (e := e) (by decide) S B hb hL w1 v2 v5 v6 ⟨(t0.f hb).2.1, (t0.f hb).2.2.1⟩ ⟨(t0.f hb).2.2.2.1, Int.le_trans (t0.f hb).2.2.2.2.1 (by decide)⟩).2 ((cl_l_w q0 (n := 1) (by decide)).2 (by decide))) rfl ?_
    refine fx_z_eq_T (pT := 22) rfl (by omega) rfl (by omega) ?_
    refine am_ev.step (pc' := 23) rfl rfl ?_
    refine am_ev.ldc rfl rfl rfl rfl ?_
    refine ax_call (z := 26) (p' := 28) (as := [_, _]) rfl (Or.inr (Or.inl ⟨_, rfl⟩)) rfl rfl rfl rfl rfl rfl (S.ob rfl) rfl ((tk_26 (i := 4) (k := k) (s := s) (e := e) (by decide) S B hb hL w1 v2 v5 v6 ⟨(t0.f hb).2.1, (t0.f hb).2.2.1⟩ ⟨(t0.f hb).2.2.2.1, Int.le_trans (t0.f hb).2.2.2.2.1 (by decide)⟩).2 ((cl_l_w q0 (n := 2) (by decide)).2 (by decide))) rfl ?_
    refine fx_z_eq_T (pT := 33) rfl (by omega) rfl (by omega) ?_
    refine am_ev.step (pc' := 34) rfl rfl ?_
    refine am_ev.ldc rfl rfl rfl rfl ?_
    refine ax_call (z := 26) (p' := 39) (as := [_, _]) rfl (Or.inr (Or.inl ⟨_, rfl⟩)) rfl rfl rfl rfl rfl rfl (S.ob rfl) rfl ((tk_26 (i := 1) (k := k) (s := s) (e := e) (by decide) S B hb hL w1 v2 v5 v6 ⟨(t0.f hb).2.1, (t0.f hb).2.2.1⟩ ⟨(t0.f hb).2.2.2.1, Int.le_trans (t0.f hb).2.2.2.2.1 (by decide)⟩).2 ((cl_l_w q0 (n := 3) (by decide)).2 (by decide))) rfl ?_
    refine fx_z_eq_T (pT := 44) rfl (by omega) rfl (by omega) ?_
    refine am_ev.step (pc' := 45) rfl rfl ?_
    refine am_ev.ldc rfl rfl rfl rfl ?_
    refine ax_call (z := 26) (p' := 50) (as := [_, _]) rfl (Or.inr (Or.inl ⟨_, rfl⟩)) rfl rfl rfl rfl rfl rfl (S.ob rfl) rfl ((tk_26 (i := 3) (k := k) (s := s) (e := e) (by decide) S B hb hL w1 v2 v5 v6 ⟨(t0.f hb).2.1, (t0.f hb).2.2.1⟩ ⟨(t0.f hb).2.2.2.1, Int.le_trans (t0.f hb).2.2.2.2.1 (by decide)⟩).2 ((cl_l_w q0 (n := 4) (by decide)).2 (by decide))) rfl ?_
    refine fx_z_eq_T (pT := 55) rfl (by omega) rfl (by omega) ?_
    refine am_ev.step (pc' := 56) rfl rfl ?_
    refine am_ev.ldc rfl rfl rfl rfl ?_
    refine ax_call (z := 26) (p' := 61) (as := [_, _]) rfl (Or.inr (Or.inl ⟨_, rfl⟩)) rfl rfl rfl rfl rfl rfl (S.ob rfl) rfl ((tk_26 (i := 2) (k := k) (s := s) (e := e) (by decide) S B hb hL w1 v2 v5 v6 ⟨(t0.f hb).2.1, (t0.f hb).2.2.1⟩ ⟨(t0.f hb).2.2.2.1, Int.le_trans (t0.f hb).2.2.2.2.1 (by decide)⟩).2 ((cl_l_w q0 (n := 5) (by decide)).2 (by decide))) rfl ?_
    refine fx_z_eq_T (pT := 68) rfl (by omega) rfl (by omega) ?_
    refine am_ev.step (pc' := 69) rfl rfl ?_
    exact fx_reti rfl rfl rfl
end LEB
end
section
/-! LEAVES, the program's side, 2 -/
/-- the tape's state while a part is read; nothing else has changed -/
def cT (h h0 : am_H) (b : Nat → Int) (L p : Nat) : Prop := fS h ∧ tb h 42 b L ∧ h.2.2.2 41 1 = iv L ∧ h.2.2.2 41 6 = iv p ∧ h.2.2.2 41 3 = iv 0 ∧ h.2.2.2 41 4 = iv (-1) ∧ (h.1 = h0.1 ∧ h.2.2.1 = h0.2.2.1) ∧ ∀ c j, c ≠ 41 → h.2.2.2 c j = h0.2.2.2 c j
/-- a fault was found -/
def cX (h h0 : am_H) (f : Int) (s : Nat) : Prop := fS h ∧ h.2.2.2 41 3 = iv f ∧ h.2.2.2 41 4 = iv s ∧ (h.1 = h0.1 ∧ h.2.2.1 = h0.2.2.1) ∧ ∀ c j, c ≠ 41 → h.2.2.2 c j = h0.2.2.2 c j
section LEC
variable {d : Nat} {h h0 : am_H} {b : Nat → Int} {L p s e s1 e1 l n g : Nat} {k k1 v v1 c : Int} {t : Int32}
section LE80
theorem le_80a (S : fS h) (B : tb h 42 b L) (hb : tz_r b) (hL : L ≤ 1600) (w1 : h.2.2.2 41 1 = iv L) (v2 : h.2.2.2 41 2 = iv k) (v5 : h.2.2.2 41 5 = iv s) (v6 : h.2.2.2 41 6 = iv e) (t0 : tz_t b L p s e k v) (q1 : k ≠ 2) : am_ev (d + 1) 80 0 (am_ent [.ref 41, .int t, iv ((g : Int))] 3) [] h (some (iv 0), (am_put (am_put h 41 3 (iv 1)) 41 4 (iv ((s : Int))))) := by
  have f0 := t0.f5 hb
  show am_ev (d + 1) 80 0 [.ref 41, .int t, iv ((g : Int))] [] h _
  refine am_ev.step (pc' := 1) rfl rfl ?_
  refine ax_gf (p' := 4) rfl rfl (S.ob rfl) v2 ?_
  refine am_ev.step (pc' := 5) rfl rfl ?_
  refine fx_c_eq_F (pF := 8) rfl (by omega) (by omega) rfl (by omega) ?_
  refine am_ev.step (pc' := 9) rfl rfl ?_
  refine am_ev.step (pc' := 10) rfl rfl ?_
  refine ax_call (z := 29) (p' := 13) (as := [_, _]) rfl (Or.inr (Or.inl ⟨_, rfl⟩)) rfl rfl rfl rfl rfl rfl (S.ob rfl) rfl (tk_29 (s := s) S v5) rfl ?_
  exact fx_reti rfl rfl rfl
theorem le_80b (S : fS h) (B : tb h 42 b L) (hb : tz_r b) (hL : L ≤ 1600) (w1 : h.2.2.2 41 1 = iv L) (v2 : h.2.2.2 41 2 = iv k) (v5 : h.2.2.2 41 5 = iv s) (v6 : h.2.2.2 41 6 = iv e) (hg : g ≤ 19) (t0 : tz_t b L p s e k v) (q1 : k = 2) (q2 : (g : Int) < v) : am_ev (d + 1) 80 0 (am_ent [.ref 41, .int t, iv ((g : Int))] 3) [] h (some (iv 0), (am_put (am_put h 41 3 (iv 2)) 41 4 (iv ((s : Int))))) := by
  have u0 := t0.bd hb q1
  show am_ev (d + 1) 80 0 [.ref 41, .int t, iv ((g : Int))] [] h _
  refine am_ev.step (pc' := 1) rfl rfl ?_
  refine ax_gf (p' := 4) rfl rfl (S.ob rfl) v2 ?_
  refine am_ev.step (pc' := 5) rfl rfl ?_
  refine fx_c_eq_T (pT := 14) rfl (by omega) (by omega) rfl (by omega) ?_
  refine am_ev.step (pc' := 15) rfl rfl ?_
  refine ax_call (z := 30) (p' := 18) (as := [_]) rfl (Or.inr (Or.inl ⟨_, rfl⟩)) rfl rfl rfl rfl rfl rfl (S.ob rfl) rfl (tk_30w S B hb hL w1 v5 v6 t0) rfl ?_
  refine am_ev.step (pc' := 19) rfl rfl ?_
  refine fx_c_le_F (pF := 22) rfl (by omega) (by omega) rfl (by omega) ?_
  refine am_ev.step (pc' := 23) rfl rfl ?_
  refine am_ev.step (pc' := 24) rfl rfl ?_
  refine ax_call (z := 29) (p' := 27) (as := [_, _]) rfl (Or.inr (Or.inl ⟨_, rfl⟩)) rfl rfl rfl rfl rfl rfl (S.ob rfl) rfl (tk_29 (s := s) S v5) rfl ?_
  exact fx_reti rfl rfl rfl
theorem le_80c (S : fS h) (B : tb h 42 b L) (hb : tz_r b) (hL : L ≤ 1600) (w1 : h.2.2.2 41 1 = iv L) (v2 : h.2.2.2 41 2 = iv k) (v5 : h.2.2.2 41 5 = iv s) (v6 : h.2.2.2 41 6 = iv e) (hg : g ≤ 19) (hl : l ≤ g) (t0 : tz_t b L p s e k (l : Int)) (q1 : k = 2) (q2 : bt t l = true) : am_ev (d + 1) 80 0 (am_ent [.ref 41, .int t, iv ((g : Int))] 3) [] h (some (iv 0), (am_put (am_put h 41 3 (iv 3)) 41 4 (iv ((s : Int))))) := by
  show am_ev (d + 1) 80 0 [.ref 41, .int t, iv ((g : Int))] [] h _
  refine am_ev.step (pc' := 1) rfl rfl ?_
  refine ax_gf (p' := 4) rfl rfl (S.ob rfl) v2 ?_
  refine am_ev.step (pc' := 5) rfl rfl ?_
  refine fx_c_eq_T (pT := 14) rfl (by omega) (by omega) rfl (by omega) ?_
  refine am_ev.step (pc' := 15) rfl rfl ?_
  refine ax_call (z := 30) (p' := 18) (as := [_]) rfl (Or.inr (Or.inl ⟨_, rfl⟩)) rfl rfl rfl rfl rfl rfl (S.ob rfl) rfl (tk_30w S B hb hL w1 v5 v6 t0) rfl ?_
  refine am_ev.step (pc' := 19) rfl rfl ?_
  refine fx_c_le_T (pT := 28) rfl (by omega) (by omega) rfl (by omega) ?_
  refine am_ev.step (pc' := 29) rfl rfl ?_
  refine am_ev.step (pc' := 30) rfl rfl ?_
  refine ax_call (z := 30) (p' := 33) (as := [_]) rfl (Or.inr (Or.inl ⟨_, rfl⟩)) rfl rfl rfl rfl rfl rfl (S.ob rfl) rfl (tk_30w S B hb hL w1 v5 v6 t0) rfl ?_
  refine ax_call (z := 31) (p' := 36) (as := [_, _]) rfl (Or.inl ⟨_, rfl⟩) rfl rfl rfl rfl rfl rfl rfl rfl ((tk_31 (c := l) (by omega)).1 q2) rfl ?_
  refine fx_z_eq_F (pF := 39) rfl (by omega) rfl (by omega) ?_
  refine am_ev.step (pc' := 40) rfl rfl ?_
  refine am_ev.step (pc' := 41) rfl rfl ?_
  refine ax_call (z := 29) (p' := 44) (as := [_, _]) rfl (Or.inr (Or.inl ⟨_, rfl⟩)) rfl rfl rfl rfl rfl rfl (S.ob rfl) rfl (tk_29 (s := s) S v5) rfl ?_
  refine fx_z_eq_T (pT := 51) rfl (by omega) rfl (by omega) ?_
  refine am_ev.step (pc' := 52) rfl rfl ?_
  exact fx_reti rfl rfl rfl
theorem le_80d (S : fS h) (B : tb h 42 b L) (hb : tz_r b) (hL : L ≤ 1600) (w1 : h.2.2.2 41 1 = iv L) (v2 : h.2.2.2 41 2 = iv k) (v5 : h.2.2.2 41 5 = iv s) (v6 : h.2.2.2 41 6 = iv e) (hg : g ≤ 19) (hl : l ≤ g) (t0 : tz_t b L p s e k (l : Int)) (q1 : k = 2) (q2 : bt t l = false) : am_ev (d + 1) 80 0 (am_ent [.ref 41, .int t, iv ((g : Int))] 3) [] h (some (iv 1), h) := by
  show am_ev (d + 1) 80 0 [.ref 41, .int t, iv ((g : Int))] [] h _
  refine am_ev.step (pc' := 1) rfl rfl ?_
  refine ax_gf (p' := 4) rfl rfl (S.ob rfl) v2 ?_
  refine am_ev.step (pc' := 5) rfl rfl ?_
  refine fx_c_eq_T (pT := 14) rfl (by omega) (by omega) rfl (by omega) ?_
  refine am_ev.step (pc' := 15) rfl rfl ?_
  refine ax_call (z := 30) (p' := 18) (as := [_]) rfl (Or.inr (Or.inl ⟨_, rfl⟩)) rfl rfl rfl rfl rfl rfl (S.ob rfl) rfl (tk_30w S B hb hL w1 v5 v6 t0) rfl ?_
  refine am_ev.step (pc' := 19) rfl rfl ?_
  refine fx_c_le_T (pT := 28) rfl (by omega) (by omega) rfl (by omega) ?_
  refine am_ev.step (pc' := 29) rfl rfl ?_
  refine am_ev.step (pc' := 30) rfl rfl ?_
  refine ax_call (z := 30) (p' := 33) (as := [_]) rfl (Or.inr (Or.inl ⟨_, rfl⟩)) rfl rfl rfl rfl rfl rfl (S.ob rfl) rfl (tk_30w S B hb hL w1 v5 v6 t0) rfl ?_
  refine ax_call (z := 31) (p' := 36) (as := [_, _]) rfl (Or.inl ⟨_, rfl⟩) rfl rfl rfl rfl rfl rfl rfl rfl ((tk_31 (c := l) (by omega)).2 q2) rfl ?_
  refine fx_z_eq_T (pT := 47) rfl (by omega) rfl (by omega) ?_
  refine am_ev.step (pc' := 48) rfl rfl ?_
  refine am_ev.step (pc' := 52) rfl rfl ?_
  exact fx_reti rfl rfl rfl
end LE80
theorem cb_R (hb : tz_r b) (hL : L ≤ 1600) (C : cT h h0 b L p) (t0 : tz_t b L p s e k v) (hn : n ≤ g + 1) (hg : g ≤ 19) (n1 : 1 ≤ n) (q : k = 59) : ∃ H : am_H, am_ev (d + 2) 79 4 [.ref 41, iv ((g : Int)), .int t, iv ((n : Int))] [] h  (some (.int t), H) ∧ cT H h0 b L e := by
  obtain ⟨S, B, w1, v6, f3, f4, sz, fr⟩ := C
  have f0 := t0.f5 hb
  refine ⟨(am_put (am_put (am_put h 41 5 (iv ((s : Int)))) 41 6 (iv ((e : Int)))) 41 2 (iv (k))), ?_, ⟨(((S.po rfl rfl).po rfl rfl).po rfl rfl), (((B.put (by decide)).put (by decide)).put (by decide)), (ax_put_o (Or.inr (by decide)) (ax_put_o (Or.inr (by decide)) (ax_put_o (Or.inr (by decide)) w1))), (ax_put_o (Or.inr (by decide)) (ax_put_s _ _ _)), (ax_put_o (Or.inr (by decide)) (ax_put_o (Or.inr (by decide)) (ax_put_o (Or.inr (by decide)) f3))), (ax_put_o (Or.inr (by decide)) (ax_put_o (Or.inr (by decide)) (ax_put_o (Or.inr (by decide)) f4))), sz, (fun c j n1 => (ax_put_o (Or.inl n1) (ax_put_o (Or.inl n1) (ax_put_o (Or.inl n1) (fr c j n1)))))⟩⟩
  refine am_ev.step (pc' := 5) rfl rfl ?_
  refine am_ev.step (pc' := 6) rfl rfl ?_
  refine am_ev.step (pc' := 7) rfl rfl ?_
  refine fx_add (p' := 8) (e := ((g : Int) + 1)) rfl rfl (by omega) ?_
  refine fx_c_gt_F (pF := 11) rfl (by omega) (by omega) rfl (by omega) ?_
  refine am_ev.step (pc' := 12) rfl rfl ?_
  refine ax_call (z := 21) (p' := 15) (as := [_]) rfl (Or.inr (Or.inl ⟨_, rfl⟩)) rfl rfl rfl rfl rfl rfl (S.ob rfl) rfl (tk_21w S B hb hL w1 v6 t0) rfl ?_
  refine am_ev.step (pc' := 16) rfl rfl ?_
  refine fx_z_le_F (pF := 19) rfl (by omega) rfl (by omega) ?_
  refine am_ev.step (pc' := 20) rfl rfl ?_
  refine ax_gf (p' := 23) rfl rfl (fO (fO (fO (S.ob rfl)))) (ax_put_s _ _ _) ?_
  refine fx_bip (p' := 25) rfl rfl rfl ?_
  refine fx_c_ne_F (pF := 28) rfl (by omega) (by omega) rfl (by omega) ?_
  refine am_ev.step (pc' := 29) rfl rfl ?_
  exact fx_reti rfl rfl rfl
theorem cb_A0 (hb : tz_r b) (hL : L ≤ 1600) (C : cT h h0 b L p) (t0 : tz_t b L p s e k v) (hn : n ≤ g + 1) (hg : g ≤ 19) (n0 : n = 0) (q : k ≠ 2) : ∃ H : am_H, am_ev (d + 2) 79 4 [.ref 41, iv ((g : Int)), .int t, iv ((n : Int))] [] h  (some (iv (-1)), H) ∧ cX H h0 1 s := by
  obtain ⟨S, B, w1, v6, f3, f4, sz, fr⟩ := C
  have f0 := t0.f5 hb
  refine ⟨(am_put (am_put (am_put (am_put (am_put h 41 5 (iv ((s : Int)))) 41 6 (iv ((e : Int)))) 41 2 (iv (k))) 41 3 (iv 1)) 41 4 (iv ((s : Int)))), ?_, ⟨(((((S.po rfl rfl).po rfl rfl).po rfl rfl).po rfl rfl).po rfl rfl), (ax_put_o (Or.inr (by decide)) (ax_put_s _ _ _)), (ax_put_s _ _ _), sz, (fun c j n1 => (ax_put_o (Or.inl n1) (ax_put_o (Or.inl n1) (ax_put_o (Or.inl n1) (ax_put_o (Or.inl n1) (ax_put_o (Or.inl n1) (fr c j n1)))))))⟩⟩
  refine am_ev.step (pc' := 5) rfl rfl ?_
  refine am_ev.step (pc' := 6) rfl rfl ?_
  refine am_ev.step (pc' := 7) rfl rfl ?_
  refine fx_add (p' := 8) (e := ((g : Int) + 1)) rfl rfl (by omega) ?_
  refine fx_c_gt_F (pF := 11) rfl (by omega) (by omega) rfl (by omega) ?_
  refine am_ev.step (pc' := 12) rfl rfl ?_
  refine ax_call (z := 21) (p' := 15) (as := [_]) rfl (Or.inr (Or.inl ⟨_, rfl⟩)) rfl rfl rfl rfl rfl rfl (S.ob rfl) rfl (tk_21w S B hb hL w1 v6 t0) rfl ?_
  refine am_ev.step (pc' := 16) rfl rfl ?_
  refine fx_z_le_T (pT := 30) rfl (by omega) rfl (by omega) ?_
  refine am_ev.step (pc' := 31) rfl rfl ?_
  refine am_ev.step (pc' := 32) rfl rfl ?_
  refine am_ev.step (pc' := 33) rfl rfl ?_
  refine ax_call (z := 80) (p' := 36) (as := [_, _, _]) rfl (Or.inl ⟨_, rfl⟩) rfl rfl rfl rfl rfl rfl rfl rfl (le_80a (((S.po rfl rfl).po rfl rfl).po rfl rfl) (((B.put (by decide)).put (by decide)).put (by decide)) hb hL (ax_put_o (Or.inr (by decide)) (ax_put_o (Or.inr (by decide)) (ax_put_o (Or.inr (by decide)) w1))) (ax_put_s _ _ _) (ax_put_o (Or.inr (by decide)) (ax_put_o (Or.inr (by decide)) (ax_put_s _ _ _))) (ax_put_o (Or.inr (by decide)) (ax_put_s _ _ _)) t0 q) rfl ?_
  refine fx_z_ne_F (pF := 39) rfl (by omega) rfl (by omega) ?_
  refine am_ev.step (pc' := 40) rfl rfl ?_
  exact fx_reti rfl rfl rfl
theorem cb_A1 (hb : tz_r b) (hL : L ≤ 1600) (C : cT h h0 b L p) (t0 : tz_t b L p s e k v) (hn : n ≤ g + 1) (hg : g ≤ 19) (n1 : 1 ≤ n) (q : k ≠ 2) (q5 : k ≠ 59) : ∃ H : am_H, am_ev (d + 2) 79 4 [.ref 41, iv ((g : Int)), .int t, iv ((n : Int))] [] h  (some (iv (-1)), H) ∧ cX H h0 1 s := by
  obtain ⟨S, B, w1, v6, f3, f4, sz, fr⟩ := C
  have f0 := t0.f5 hb
  refine ⟨(am_put (am_put (am_put (am_put (am_put h 41 5 (iv ((s : Int)))) 41 6 (iv ((e : Int)))) 41 2 (iv (k))) 41 3 (iv 1)) 41 4 (iv ((s : Int)))), ?_, ⟨(((((S.po rfl rfl).po rfl rfl).po rfl rfl).po rfl rfl).po rfl rfl), (ax_put_o (Or.inr (by decide)) (ax_put_s _ _ _)), (ax_put_s _ _ _), sz, (fun c j n1 => (ax_put_o (Or.inl n1) (ax_put_o (Or.inl n1) (ax_put_o (Or.inl n1) (ax_put_o (Or.inl n1) (ax_put_o (Or.inl n1) (fr c j n1)))))))⟩⟩
  refine am_ev.step (pc' := 5) rfl rfl ?_
  refine am_ev.step (pc' := 6) rfl rfl ?_
  refine am_ev.step (pc' := 7) rfl rfl ?_
  refine fx_add (p' := 8) (e := ((g : Int) + 1)) rfl rfl (by omega) ?_
  refine fx_c_gt_F (pF := 11) rfl (by omega) (by omega) rfl (by omega) ?_
  refine am_ev.step (pc' := 12) rfl rfl ?_
  refine ax_call (z := 21) (p' := 15) (as := [_]) rfl (Or.inr (Or.inl ⟨_, rfl⟩)) rfl rfl rfl rfl rfl rfl (S.ob rfl) rfl (tk_21w S B hb hL w1 v6 t0) rfl ?_
  refine am_ev.step (pc' := 16) rfl rfl ?_
  refine fx_z_le_F (pF := 19) rfl (by omega) rfl (by omega) ?_
  refine am_ev.step (pc' := 20) rfl rfl ?_
  refine ax_gf (p' := 23) rfl rfl (fO (fO (fO (S.ob rfl)))) (ax_put_s _ _ _) ?_
  refine fx_bip (p' := 25) rfl rfl rfl ?_
  refine fx_c_ne_T (pT := 30) rfl (by omega) (by omega) rfl (by omega) ?_
  refine am_ev.step (pc' := 31) rfl rfl ?_
  refine am_ev.step (pc' := 32) rfl rfl ?_
  refine am_ev.step (pc' := 33) rfl rfl ?_
  refine ax_call (z := 80) (p' := 36) (as := [_, _, _]) rfl (Or.inl ⟨_, rfl⟩) rfl rfl rfl rfl rfl rfl rfl rfl (le_80a (((S.po rfl rfl).po rfl rfl).po rfl rfl) (((B.put (by decide)).put (by decide)).put (by decide)) hb hL (ax_put_o (Or.inr (by decide)) (ax_put_o (Or.inr (by decide)) (ax_put_o (Or.inr (by decide)) w1))) (ax_put_s _ _ _) (ax_put_o (Or.inr (by decide)) (ax_put_o (Or.inr (by decide)) (ax_put_s _ _ _))) (ax_put_o (Or.inr (by decide)) (ax_put_s _ _ _)) t0 q) rfl ?_
  refine fx_z_ne_F (pF := 39) rfl (by omega) rfl (by omega) ?_
  refine am_ev.step (pc' := 40) rfl rfl ?_
  exact fx_reti rfl rfl rfl
theorem cb_B0 (hb : tz_r b) (hL : L ≤ 1600) (C : cT h h0 b L p) (t0 : tz_t b L p s e k v) (hn : n ≤ g + 1) (hg : g ≤ 19) (n0 : n = 0) (q : k = 2) (q2 : (g : Int) < v) : ∃ H : am_H, am_ev (d + 2) 79 4 [.ref 41, iv ((g : Int)), .int t, iv ((n : Int))] [] h  (some (iv (-1)), H) ∧ cX H h0 2 s := by
  obtain ⟨S, B, w1, v6, f3, f4, sz, fr⟩ := C
  have f0 := t0.f5 hb
  refine ⟨(am_put (am_put (am_put (am_put (am_put h 41 5 (iv ((s : Int)))) 41 6 (iv ((e : Int)))) 41 2 (iv (k))) 41 3 (iv 2)) 41 4 (iv ((s : Int)))), ?_, ⟨(((((S.po rfl rfl).po rfl rfl).po rfl rfl).po rfl rfl).po rfl rfl), (ax_put_o (Or.inr (by decide)) (ax_put_s _ _ _)), (ax_put_s _ _ _), sz, (fun c j n1 => (ax_put_o (Or.inl n1) (ax_put_o (Or.inl n1) (ax_put_o (Or.inl n1) (ax_put_o (Or.inl n1) (ax_put_o (Or.inl n1) (fr c j n1)))))))⟩⟩
  refine am_ev.step (pc' := 5) rfl rfl ?_
  refine am_ev.step (pc' := 6) rfl rfl ?_
  refine am_ev.step (pc' := 7) rfl rfl ?_
  refine fx_add (p' := 8) (e := ((g : Int) + 1)) rfl rfl (by omega) ?_
  refine fx_c_gt_F (pF := 11) rfl (by omega) (by omega) rfl (by omega) ?_
  refine am_ev.step (pc' := 12) rfl rfl ?_
  refine ax_call (z := 21) (p' := 15) (as := [_]) rfl (Or.inr (Or.inl ⟨_, rfl⟩)) rfl rfl rfl rfl rfl rfl (S.ob rfl) rfl (tk_21w S B hb hL w1 v6 t0) rfl ?_
  refine am_ev.step (pc' := 16) rfl rfl ?_
  refine fx_z_le_T (pT := 30) rfl (by omega) rfl (by omega) ?_
  refine am_ev.step (pc' := 31) rfl rfl ?_
  refine am_ev.step (pc' := 32) rfl rfl ?_
  refine am_ev.step (pc' := 33) rfl rfl ?_
  refine ax_call (z := 80) (p' := 36) (as := [_, _, _]) rfl (Or.inl ⟨_, rfl⟩) rfl rfl rfl rfl rfl rfl rfl rfl (le_80b (((S.po rfl rfl).po rfl rfl).po rfl rfl) (((B.put (by decide)).put (by decide)).put (by decide)) hb hL (ax_put_o (Or.inr (by decide)) (ax_put_o (Or.inr (by decide)) (ax_put_o (Or.inr (by decide)) w1))) (ax_put_s _ _ _) (ax_put_o (Or.inr (by decide)) (ax_put_o (Or.inr (by decide)) (ax_put_s _ _ _))) (ax_put_o (Or.inr (by decide)) (ax_put_s _ _ _)) hg t0 q q2) rfl ?_
  refine fx_z_ne_F (pF := 39) rfl (by omega) rfl (by omega) ?_
  refine am_ev.step (pc' := 40) rfl rfl ?_
  exact fx_reti rfl rfl rfl
theorem cb_B1 (hb : tz_r b) (hL : L ≤ 1600) (C : cT h h0 b L p) (t0 : tz_t b L p s e k v) (hn : n ≤ g + 1) (hg : g ≤ 19) (n1 : 1 ≤ n) (q : k = 2) (q2 : (g : Int) < v) : ∃ H : am_H, am_ev (d + 2) 79 4 [.ref 41, iv ((g : Int)), .int t, iv ((n : Int))] [] h  (some (iv (-1)), H) ∧ cX H h0 2 s := by
  obtain ⟨S, B, w1, v6, f3, f4, sz, fr⟩ := C
  have f0 := t0.f5 hb
  refine ⟨(am_put (am_put (am_put (am_put (am_put h 41 5 (iv ((s : Int)))) 41 6 (iv ((e : Int)))) 41 2 (iv (k))) 41 3 (iv 2)) 41 4 (iv ((s : Int)))), ?_, ⟨(((((S.po rfl rfl).po rfl rfl).po rfl rfl).po rfl rfl).po rfl rfl), (ax_put_o (Or.inr (by decide)) (ax_put_s _ _ _)), (ax_put_s _ _ _), sz, (fun c j n1 => (ax_put_o (Or.inl n1) (ax_put_o (Or.inl n1) (ax_put_o (Or.inl n1) (ax_put_o (Or.inl n1) (ax_put_o (Or.inl n1) (fr c j n1)))))))⟩⟩
  refine am_ev.step (pc' := 5) rfl rfl ?_
  refine am_ev.step (pc' := 6) rfl rfl ?_
  refine am_ev.step (pc' := 7) rfl rfl ?_
  refine fx_add (p' := 8) (e := ((g : Int) + 1)) rfl rfl (by omega) ?_
  refine fx_c_gt_F (pF := 11) rfl (by omega) (by omega) rfl (by omega) ?_
  refine am_ev.step (pc' := 12) rfl rfl ?_
  refine ax_call (z := 21) (p' := 15) (as := [_]) rfl (Or.inr (Or.inl ⟨_, rfl⟩)) rfl rfl rfl rfl rfl rfl (S.ob rfl) rfl (tk_21w S B hb hL w1 v6 t0) rfl ?_
  refine am_ev.step (pc' := 16) rfl rfl ?_
  refine fx_z_le_F (pF := 19) rfl (by omega) rfl (by omega) ?_
  refine am_ev.step (pc' := 20) rfl rfl ?_
  refine ax_gf (p' := 23) rfl rfl (fO (fO (fO (S.ob rfl)))) (ax_put_s _ _ _) ?_
  refine fx_bip (p' := 25) rfl rfl rfl ?_
  refine fx_c_ne_T (pT := 30) rfl (by omega) (by omega) rfl (by omega) ?_
  refine am_ev.step (pc' := 31) rfl rfl ?_
  refine am_ev.step (pc' := 32) rfl rfl ?_
  refine am_ev.step (pc' := 33) rfl rfl ?_
  refine ax_call (z := 80) (p' := 36) (as := [_, _, _]) rfl (Or.inl ⟨_, rfl⟩) rfl rfl rfl rfl rfl rfl rfl rfl (le_80b (((S.po rfl rfl).po rfl rfl).po rfl rfl) (((B.put (by decide)).put (by decide)).put (by decide)) hb hL (ax_put_o (Or.inr (by decide)) (ax_put_o (Or.inr (by decide)) (ax_put_o (Or.inr (by decide)) w1))) (ax_put_s _ _ _) (ax_put_o (Or.inr (by decide)) (ax_put_o (Or.inr (by decide)) (ax_put_s _ _ _))) (ax_put_o (Or.inr (by decide)) (ax_put_s _ _ _)) hg t0 q q2) rfl ?_
  refine fx_z_ne_F (pF := 39) rfl (by omega) rfl (by omega) ?_
  refine am_ev.step (pc' := 40) rfl rfl ?_
  exact fx_reti rfl rfl rfl
theorem cb_C0 (hb : tz_r b) (hL : L ≤ 1600) (C : cT h h0 b L p) (t0 : tz_t b L p s e k (l : Int)) (hn : n ≤ g + 1) (hg : g ≤ 19) (n0 : n = 0) (hl : l ≤ g) (q : k = 2) (q2 : bt t l = true) : ∃ H : am_H, am_ev (d + 2) 79 4 [.ref 41, iv ((g : Int)), .int t, iv ((n : Int))] [] h  (some (iv (-1)), H) ∧ cX H h0 3 s := by
  obtain ⟨S, B, w1, v6, f3, f4, sz, fr⟩ := C
  have f0 := t0.f5 hb
  refine ⟨(am_put (am_put (am_put (am_put (am_put h 41 5 (iv ((s : Int)))) 41 6 (iv ((e : Int)))) 41 2 (iv (k))) 41 3 (iv 3)) 41 4 (iv ((s : Int)))), ?_, ⟨(((((S.po rfl rfl).po rfl rfl).po rfl rfl).po rfl rfl).po rfl rfl), (ax_put_o (Or.inr (by decide)) (ax_put_s _ _ _)), (ax_put_s _ _ _), sz, (fun c j n1 => (ax_put_o (Or.inl n1) (ax_put_o (Or.inl n1) (ax_put_o (Or.inl n1) (ax_put_o (Or.inl n1) (ax_put_o (Or.inl n1) (fr c j n1)))))))⟩⟩
  refine am_ev.step (pc' := 5) rfl rfl ?_
  refine am_ev.step (pc' := 6) rfl rfl ?_
  refine am_ev.step (pc' := 7) rfl rfl ?_
  refine fx_add (p' := 8) (e := ((g : Int) + 1)) rfl rfl (by omega) ?_
  refine fx_c_gt_F (pF := 11) rfl (by omega) (by omega) rfl (by omega) ?_
  refine am_ev.step (pc' := 12) rfl rfl ?_
  refine ax_call (z := 21) (p' := 15) (as := [_]) rfl (Or.inr (Or.inl ⟨_, rfl⟩)) rfl rfl rfl rfl rfl rfl (S.ob rfl) rfl (tk_21w S B hb hL w1 v6 t0) rfl ?_
  refine am_ev.step (pc' := 16) rfl rfl ?_
  refine fx_z_le_T (pT := 30) rfl (by omega) rfl (by omega) ?_
  refine am_ev.step (pc' := 31) rfl rfl ?_
  refine am_ev.step (pc' := 32) rfl rfl ?_
  refine am_ev.step (pc' := 33) rfl rfl ?_
  refine ax_call (z := 80) (p' := 36) (as := [_, _, _]) rfl (Or.inl ⟨_, rfl⟩) rfl rfl rfl rfl rfl rfl rfl rfl (le_80c (((S.po rfl rfl).po rfl rfl).po rfl rfl) (((B.put (by decide)).put (by decide)).put (by decide)) hb hL (ax_put_o (Or.inr (by decide)) (ax_put_o (Or.inr (by decide)) (ax_put_o (Or.inr (by decide)) w1))) (ax_put_s _ _ _) (ax_put_o (Or.inr (by decide)) (ax_put_o (Or.inr (by decide)) (ax_put_s _ _ _))) (ax_put_o (Or.inr (by decide)) (ax_put_s _ _ _)) hg hl t0 q q2) rfl ?_
  refine fx_z_ne_F (pF := 39) rfl (by omega) rfl (by omega) ?_
  refine am_ev.step (pc' := 40) rfl rfl ?_
  exact fx_reti rfl rfl rfl
theorem cb_C1 (hb : tz_r b) (hL : L ≤ 1600) (C : cT h h0 b L p) (t0 : tz_t b L p s e k (l : Int)) (hn : n ≤ g + 1) (hg : g ≤ 19) (n1 : 1 ≤ n) (hl : l ≤ g) (q : k = 2) (q2 : bt t l = true) : ∃ H : am_H, am_ev (d + 2) 79 4 [.ref 41, iv ((g : Int)), .int t, iv ((n : Int))] [] h  (some (iv (-1)), H) ∧ cX H h0 3 s := by
  obtain ⟨S, B, w1, v6, f3, f4, sz, fr⟩ := C
  have f0 := t0.f5 hb
  refine ⟨(am_put (am_put (am_put (am_put (am_put h 41 5 (iv ((s : Int)))) 41 6 (iv ((e : Int)))) 41 2 (iv (k))) 41 3 (iv 3)) 41 4 (iv ((s : Int)))), ?_, ⟨(((((S.po rfl rfl).po rfl rfl).po rfl rfl).po rfl rfl).po rfl rfl), (ax_put_o (Or.inr (by decide)) (ax_put_s _ _ _)), (ax_put_s _ _ _), sz, (fun c j n1 => (ax_put_o (Or.inl n1) (ax_put_o (Or.inl n1) (ax_put_o (Or.inl n1) (ax_put_o (Or.inl n1) (ax_put_o (Or.inl n1) (fr c j n1)))))))⟩⟩
  refine am_ev.step (pc' := 5) rfl rfl ?_
  refine am_ev.step (pc' := 6) rfl rfl ?_
  refine am_ev.step (pc' := 7) rfl rfl ?_
  refine fx_add (p' := 8) (e := ((g : Int) + 1)) rfl rfl (by omega) ?_
  refine fx_c_gt_F (pF := 11) rfl (by omega) (by omega) rfl (by omega) ?_
  refine am_ev.step (pc' := 12) rfl rfl ?_
  refine ax_call (z := 21) (p' := 15) (as := [_]) rfl (Or.inr (Or.inl ⟨_, rfl⟩)) rfl rfl rfl rfl rfl rfl (S.ob rfl) rfl (tk_21w S B hb hL w1 v6 t0) rfl ?_
  refine am_ev.step (pc' := 16) rfl rfl ?_
  refine fx_z_le_F (pF := 19) rfl (by omega) rfl (by omega) ?_
  refine am_ev.step (pc' := 20) rfl rfl ?_
  refine ax_gf (p' := 23) rfl rfl (fO (fO (fO (S.ob rfl)))) (ax_put_s _ _ _) ?_
  refine fx_bip (p' := 25) rfl rfl rfl ?_
  refine fx_c_ne_T (pT := 30) rfl (by omega) (by omega) rfl (by omega) ?_
  refine am_ev.step (pc' := 31) rfl rfl ?_
  refine am_ev.step (pc' := 32) rfl rfl ?_
  refine am_ev.step (pc' := 33) rfl rfl ?_
  refine ax_call (z := 80) (p' := 36) (as := [_, _, _]) rfl (Or.inl ⟨_, rfl⟩) rfl rfl rfl rfl rfl rfl rfl rfl (le_80c (((S.po rfl rfl).po rfl rfl).po rfl rfl) (((B.put (by decide)).put (by decide)).put (by decide)) hb hL (ax_put_o (Or.inr (by decide)) (ax_put_o (Or.inr (by decide)) (ax_put_o (Or.inr (by decide)) w1))) (ax_put_s _ _ _) (ax_put_o (Or.inr (by decide)) (ax_put_o (Or.inr (by decide)) (ax_put_s _ _ _))) (ax_put_o (Or.inr (by decide)) (ax_put_s _ _ _)) hg hl t0 q q2) rfl ?_
  refine fx_z_ne_F (pF := 39) rfl (by omega) rfl (by omega) ?_
  refine am_ev.step (pc' := 40) rfl rfl ?_
  exact fx_reti rfl rfl rfl
theorem cb_N0 (hb : tz_r b) (hL : L ≤ 1600) (C : cT h h0 b L p) (t0 : tz_t b L p s e k (l : Int)) (hn : n ≤ g + 1) (hg : g ≤ 19) (n0 : n = 0) (hl : l ≤ g) (q : k = 2) (q2 : bt t l = false) : ∃ H : am_H, cT H h0 b L e ∧ ∀ x, am_ev (d + 2) 79 4 [.ref 41, iv ((g : Int)), .int (t ||| ((Int32.ofInt 1) <<< ((Int32.ofInt ((l : Int))) &&& 31))), iv ((n : Int) + 1)] [] H x → am_ev (d + 2) 79 4 [.ref 41, iv ((g : Int)), .int t, iv ((n : Int))] [] h  x := by
  obtain ⟨S, B, w1, v6, f3, f4, sz, fr⟩ := C
  have f0 := t0.f5 hb
  refine ⟨(am_put (am_put (am_put h 41 5 (iv ((s : Int)))) 41 6 (iv ((e : Int)))) 41 2 (iv (k))), ⟨(((S.po rfl rfl).po rfl rfl).po rfl rfl), (((B.put (by decide)).put (by decide)).put (by decide)), (ax_put_o (Or.inr (by decide)) (ax_put_o (Or.inr (by decide)) (ax_put_o (Or.inr (by decide)) w1))), (ax_put_o (Or.inr (by decide)) (ax_put_s _ _ _)), (ax_put_o (Or.inr (by decide)) (ax_put_o (Or.inr (by decide)) (ax_put_o (Or.inr (by decide)) f3))), (ax_put_o (Or.inr (by decide)) (ax_put_o (Or.inr (by decide)) (ax_put_o (Or.inr (by decide)) f4))), sz, (fun c j n1 => (ax_put_o (Or.inl n1) (ax_put_o (Or.inl n1) (ax_put_o (Or.inl n1) (fr c j n1)))))⟩, fun x q9 => ?_⟩
  refine am_ev.step (pc' := 5) rfl rfl ?_
  refine am_ev.step (pc' := 6) rfl rfl ?_
  refine am_ev.step (pc' := 7) rfl rfl ?_
  refine fx_add (p' := 8) (e := ((g : Int) + 1)) rfl rfl (by omega) ?_
  refine fx_c_gt_F (pF := 11) rfl (by omega) (by omega) rfl (by omega) ?_
  refine am_ev.step (pc' := 12) rfl rfl ?_
  refine ax_call (z := 21) (p' := 15) (as := [_]) rfl (Or.inr (Or.inl ⟨_, rfl⟩)) rfl rfl rfl rfl rfl rfl (S.ob rfl) rfl (tk_21w S B hb hL w1 v6 t0) rfl ?_
  refine am_ev.step (pc' := 16) rfl rfl ?_
  refine fx_z_le_T (pT := 30) rfl (by omega) rfl (by omega) ?_
  refine am_ev.step (pc' := 31) rfl rfl ?_
  refine am_ev.step (pc' := 32) rfl rfl ?_
  refine am_ev.step (pc' := 33) rfl rfl ?_
  refine ax_call (z := 80) (p' := 36) (as := [_, _, _]) rfl (Or.inl ⟨_, rfl⟩) rfl rfl rfl rfl rfl rfl rfl rfl (le_80d (((S.po rfl rfl).po rfl rfl).po rfl rfl) (((B.put (by decide)).put (by decide)).put (by decide)) hb hL (ax_put_o (Or.inr (by decide)) (ax_put_o (Or.inr (by decide)) (ax_put_o (Or.inr (by decide)) w1))) (ax_put_s _ _ _) (ax_put_o (Or.inr (by decide)) (ax_put_o (Or.inr (by decide)) (ax_put_s _ _ _))) (ax_put_o (Or.inr (by decide)) (ax_put_s _ _ _)) hg hl t0 q q2) rfl ?_
  refine fx_z_ne_T (pT := 41) rfl (by omega) rfl (by omega) ?_
  refine am_ev.step (pc' := 42) rfl rfl ?_
  refine am_ev.step (pc' := 43) rfl rfl ?_
  refine am_ev.step (pc' := 44) rfl rfl ?_
  refine ax_call (z := 30) (p' := 47) (as := [_]) rfl (Or.inr (Or.inl ⟨_, rfl⟩)) rfl rfl rfl rfl rfl rfl (fO (fO (fO (S.ob rfl)))) rfl (tk_30w (((S.po rfl rfl).po rfl rfl).po rfl rfl) (((B.put (by decide)).put (by decide)).put (by decide)) hb hL (ax_put_o (Or.inr (by decide)) (ax_put_o (Or.inr (by decide)) (ax_put_o (Or.inr (by decide)) w1))) (ax_put_o (Or.inr (by decide)) (ax_put_o (Or.inr (by decide)) (ax_put_s _ _ _))) (ax_put_o (Or.inr (by decide)) (ax_put_s _ _ _)) t0) rfl ?_
  refine am_ev.step (pc' := 48) rfl rfl ?_
  refine am_ev.step (pc' := 49) rfl rfl ?_
  refine am_ev.step (pc' := 50) (ls' := [.ref 41, iv ((g : Int)), .int (t ||| ((Int32.ofInt 1) <<< ((Int32.ofInt ((l : Int))) &&& 31))), iv ((n : Int))]) rfl rfl ?_
  refine fx_inc (p' := 53) (e := ((n : Int) + 1)) (ls' := [.ref 41, iv ((g : Int)), .int (t ||| ((Int32.ofInt 1) <<< ((Int32.ofInt ((l : Int))) &&& 31))), iv ((n : Int) + 1)]) rfl rfl rfl (by omega) rfl ?_
  refine am_ev.step (pc' := 4) rfl rfl ?_
  exact q9
theorem cb_N1 (hb : tz_r b) (hL : L ≤ 1600) (C : cT h h0 b L p) (t0 : tz_t b L p s e k (l : Int)) (hn : n ≤ g + 1) (hg : g ≤ 19) (n1 : 1 ≤ n) (hl : l ≤ g) (q : k = 2) (q2 : bt t l = false) : ∃ H : am_H, cT H h0 b L e ∧ ∀ x, am_ev (d + 2) 79 4 [.ref 41, iv ((g : Int)), .int (t ||| ((Int32.ofInt 1) <<< ((Int32.ofInt ((l : Int))) &&& 31))), iv ((n : Int) + 1)] [] H x → am_ev (d + 2) 79 4 [.ref 41, iv ((g : Int)), .int t, iv ((n : Int))] [] h  x := by
  obtain ⟨S, B, w1, v6, f3, f4, sz, fr⟩ := C
  have f0 := t0.f5 hb
  refine ⟨(am_put (am_put (am_put h 41 5 (iv ((s : Int)))) 41 6 (iv ((e : Int)))) 41 2 (iv (k))), ⟨(((S.po rfl rfl).po rfl rfl).po rfl rfl), (((B.put (by decide)).put (by decide)).put (by decide)), (ax_put_o (Or.inr (by decide)) (ax_put_o (Or.inr (by decide)) (ax_put_o (Or.inr (by decide)) w1))), (ax_put_o (Or.inr (by decide)) (ax_put_s _ _ _)), (ax_put_o (Or.inr (by decide)) (ax_put_o (Or.inr (by decide)) (ax_put_o (Or.inr (by decide)) f3))), (ax_put_o (Or.inr (by decide)) (ax_put_o (Or.inr (by decide)) (ax_put_o (Or.inr (by decide)) f4))), sz, (fun c j n1 => (ax_put_o (Or.inl n1) (ax_put_o (Or.inl n1) (ax_put_o (Or.inl n1) (fr c j n1)))))⟩, fun x q9 => ?_⟩
  refine am_ev.step (pc' := 5) rfl rfl ?_
  refine am_ev.step (pc' := 6) rfl rfl ?_
  refine am_ev.step (pc' := 7) rfl rfl ?_
  refine fx_add (p' := 8) (e := ((g : Int) + 1)) rfl rfl (by omega) ?_
  refine fx_c_gt_F (pF := 11) rfl (by omega) (by omega) rfl (by omega) ?_
  refine am_ev.step (pc' := 12) rfl rfl ?_
  refine ax_call (z := 21) (p' := 15) (as := [_]) rfl (Or.inr (Or.inl ⟨_, rfl⟩)) rfl rfl rfl rfl rfl rfl (S.ob rfl) rfl (tk_21w S B hb hL w1 v6 t0) rfl ?_
  refine am_ev.step (pc' := 16) rfl rfl ?_
  refine fx_z_le_F (pF := 19) rfl (by omega) rfl (by omega) ?_
  refine am_ev.step (pc' := 20) rfl rfl ?_
  refine ax_gf (p' := 23) rfl rfl (fO (fO (fO (S.ob rfl)))) (ax_put_s _ _ _) ?_
  refine fx_bip (p' := 25) rfl rfl rfl ?_
  refine fx_c_ne_T (pT := 30) rfl (by omega) (by omega) rfl (by omega) ?_
  refine am_ev.step (pc' := 31) rfl rfl ?_
  refine am_ev.step (pc' := 32) rfl rfl ?_
  refine am_ev.step (pc' := 33) rfl rfl ?_
  refine ax_call (z := 80) (p' := 36) (as := [_, _, _]) rfl (Or.inl ⟨_, rfl⟩) rfl rfl rfl rfl rfl rfl rfl rfl (le_80d (((S.po rfl rfl).po rfl rfl).po rfl rfl) (((B.put (by decide)).put (by decide)).put (by decide)) hb hL (ax_put_o (Or.inr (by decide)) (ax_put_o (Or.inr (by decide)) (ax_put_o (Or.inr (by decide)) w1))) (ax_put_s _ _ _) (ax_put_o (Or.inr (by decide)) (ax_put_o (Or.inr (by decide)) (ax_put_s _ _ _))) (ax_put_o (Or.inr (by decide)) (ax_put_s _ _ _)) hg hl t0 q q2) rfl ?_
  refine fx_z_ne_T (pT := 41) rfl (by omega) rfl (by omega) ?_
  refine am_ev.step (pc' := 42) rfl rfl ?_
  refine am_ev.step (pc' := 43) rfl rfl ?_
  refine am_ev.step (pc' := 44) rfl rfl ?_
  refine ax_call (z := 30) (p' := 47) (as := [_]) rfl (Or.inr (Or.inl ⟨_, rfl⟩)) rfl rfl rfl rfl rfl rfl (fO (fO (fO (S.ob rfl)))) rfl (tk_30w (((S.po rfl rfl).po rfl rfl).po rfl rfl) (((B.put (by decide)).put (by decide)).put (by decide)) hb hL (ax_put_o (Or.inr (by decide)) (ax_put_o (Or.inr (by decide)) (ax_put_o (Or.inr (by decide)) w1))) (ax_put_o (Or.inr (by decide)) (ax_put_o (Or.inr (by decide)) (ax_put_s _ _ _))) (ax_put_o (Or.inr (by decide)) (ax_put_s _ _ _)) t0) rfl ?_
  refine am_ev.step (pc' := 48) rfl rfl ?_
  refine am_ev.step (pc' := 49) rfl rfl ?_
  refine am_ev.step (pc' := 50) (ls' := [.ref 41, iv ((g : Int)), .int (t ||| ((Int32.ofInt 1) <<< ((Int32.ofInt ((l : Int))) &&& 31))), iv ((n : Int))]) rfl rfl ?_
  refine fx_inc (p' := 53) (e := ((n : Int) + 1)) (ls' := [.ref 41, iv ((g : Int)), .int (t ||| ((Int32.ofInt 1) <<< ((Int32.ofInt ((l : Int))) &&& 31))), iv ((n : Int) + 1)]) rfl rfl rfl (by omega) rfl ?_
  refine am_ev.step (pc' := 4) rfl rfl ?_
  exact q9
end LEC
/-- as cT, but for one cell's places -/
def cQ (h h0 : am_H) (q : Nat) (b : Nat → Int) (L p : Nat) : Prop := fS h ∧ tb h 42 b L ∧ h.2.2.2 41 1 = iv L ∧ h.2.2.2 41 6 = iv p ∧ h.2.2.2 41 3 = iv 0 ∧ h.2.2.2 41 4 = iv (-1) ∧ (h.1 = h0.1 ∧ h.2.2.1 = h0.2.2.1) ∧ ∀ c j, c ≠ 41 → c ≠ q → h.2.2.2 c j = h0.2.2.2 c j
section LED
variable {d : Nat} {h h0 : am_H} {b : Nat → Int} {L p s e n q : Nat} {k v : Int}
theorem cc_R (hb : tz_r b) (hL : L ≤ 1600) (C : cT h h0 b L p) (t0 : tz_t b L p s e k v) (O : am_isO h q 4 = true) (hq : 130 ≤ q) (n1 : 1 ≤ n) (hn : n ≤ 6) (q0 : k = 59) : ∃ H : am_H, am_ev (d + 2) 84 2 [.ref q, .ref 41, iv ((n : Int))] [] h  (some (iv 1), am_put H q 8 (iv n)) ∧ cT H h0 b L e := by
  obtain ⟨S, B, w1, v6, f3, f4, sz, fr⟩ := C
  have f0 := t0.f5 hb
  refine ⟨(am_put (am_put (am_put h 41 5 (iv ((s : Int)))) 41 6 (iv ((e : Int)))) 41 2 (iv (k))), ?_, ⟨(((S.po rfl rfl).po rfl rfl).po rfl rfl), (((B.put (by decide)).put (by decide)).put (by decide)), (ax_put_o (Or.inr (by decide)) (ax_put_o (Or.inr (by decide)) (ax_put_o (Or.inr (by decide)) w1))), (ax_put_o (Or.inr (by decide)) (ax_put_s _ _ _)), (ax_put_o (Or.inr (by decide)) (ax_put_o (Or.inr (by decide)) (ax_put_o (Or.inr (by decide)) f3))), (ax_put_o (Or.inr (by decide)) (ax_put_o (Or.inr (by decide)) (ax_put_o (Or.inr (by decide)) f4))), sz, (fun c j n1 => (ax_put_o (Or.inl n1) (ax_put_o (Or.inl n1) (ax_put_o (Or.inl n1) (fr c j n1)))))⟩⟩
  refine am_ev.step (pc' := 3) rfl rfl ?_
  refine fx_bip (p' := 5) rfl rfl rfl ?_
  refine fx_c_gt_F (pF := 8) rfl (by omega) (by omega) rfl (by omega) ?_
  refine am_ev.step (pc' := 9) rfl rfl ?_
  refine ax_call (z := 21) (p' := 12) (as := [_]) rfl (Or.inr (Or.inl ⟨_, rfl⟩)) rfl rfl rfl rfl rfl rfl (S.ob rfl) rfl (tk_21w S B hb hL w1 v6 t0) rfl ?_
  refine am_ev.step (pc' := 13) rfl rfl ?_
  refine fx_z_le_F (pF := 16) rfl (by omega) rfl (by omega) ?_
  refine am_ev.step (pc' := 17) rfl rfl ?_
  refine ax_gf (p' := 20) rfl rfl (fO (fO (fO (S.ob rfl)))) (ax_put_s _ _ _) ?_
  refine fx_bip (p' := 22) rfl rfl rfl ?_
  refine fx_c_ne_F (pF := 25) rfl (by omega) (by omega) rfl (by omega) ?_
  refine am_ev.step (pc' := 26) rfl rfl ?_
  refine am_ev.step (pc' := 27) rfl rfl ?_
  refine ax_pf (p' := 30) rfl rfl (fO (fO (fO O))) rfl ?_
  refine am_ev.step (pc' := 31) rfl rfl ?_
  exact fx_reti rfl rfl rfl
theorem cc_A0 (hb : tz_r b) (hL : L ≤ 1600) (C : cT h h0 b L p) (t0 : tz_t b L p s e k v) (O : am_isO h q 4 = true) (hq : 130 ≤ q) (n0 : n = 0) (q0 : k ≠ 1) : ∃ H : am_H, am_ev (d + 2) 84 2 [.ref q, .ref 41, iv ((n : Int))] [] h  (some (iv 0), H) ∧ cX H h0 1 s := by
  obtain ⟨S, B, w1, v6, f3, f4, sz, fr⟩ := C
  have f0 := t0.f5 hb
  refine ⟨(am_put (am_put (am_put (am_put (am_put h 41 5 (iv ((s : Int)))) 41 6 (iv ((e : Int)))) 41 2 (iv (k))) 41 3 (iv 1)) 41 4 (iv ((s : Int)))), ?_, ⟨(((((S.po rfl rfl).po rfl rfl).po rfl rfl).po rfl rfl).po rfl rfl), (ax_put_o (Or.inr (by decide)) (ax_put_s _ _ _)), (ax_put_s _ _ _), sz, (fun c j n1 => (ax_put_o (Or.inl n1) (ax_put_o (Or.inl n1) (ax_put_o (Or.inl n1) (ax_put_o (Or.inl n1) (ax_put_o (Or.inl n1) (fr c j n1)))))))⟩⟩
  refine am_ev.step (pc' := 3) rfl rfl ?_
  refine fx_bip (p' := 5) rfl rfl rfl ?_
  refine fx_c_gt_F (pF := 8) rfl (by omega) (by omega) rfl (by omega) ?_
  refine am_ev.step (pc' := 9) rfl rfl ?_
  refine ax_call (z := 21) (p' := 12) (as := [_]) rfl (Or.inr (Or.inl ⟨_, rfl⟩)) rfl rfl rfl rfl rfl rfl (S.ob rfl) rfl (tk_21w S B hb hL w1 v6 t0) rfl ?_
  refine am_ev.step (pc' := 13) rfl rfl ?_
  refine fx_z_le_T (pT := 32) rfl (by omega) rfl (by omega) ?_
  refine am_ev.step (pc' := 33) rfl rfl ?_
  refine ax_gf (p' := 36) rfl rfl (fO (fO (fO (S.ob rfl)))) (ax_put_s _ _ _) ?_
  refine am_ev.step (pc' := 37) rfl rfl ?_
  refine fx_c_eq_F (pF := 40) rfl (by omega) (by omega) rfl (by omega) ?_
  refine am_ev.step (pc' := 41) rfl rfl ?_
  refine am_ev.step (pc' := 42) rfl rfl ?_
  refine ax_call (z := 29) (p' := 45) (as := [_, _]) rfl (Or.inr (Or.inl ⟨_, rfl⟩)) rfl rfl rfl rfl rfl rfl (fO (fO (fO (S.ob rfl)))) rfl (tk_29 (s := s) (((S.po rfl rfl).po rfl rfl).po rfl rfl) (ax_put_o (Or.inr (by decide)) (ax_put_o (Or.inr (by decide)) (ax_put_s _ _ _)))) rfl ?_
  exact fx_reti rfl rfl rfl
theorem cc_A1 (hb : tz_r b) (hL : L ≤ 1600) (C : cT h h0 b L p) (t0 : tz_t b L p s e k v) (O : am_isO h q 4 = true) (hq : 130 ≤ q) (n1 : 1 ≤ n) (hn : n ≤ 6) (q0 : k ≠ 1) (q5 : k ≠ 59) : ∃ H : am_H, am_ev (d + 2) 84 2 [.ref q, .ref 41, iv ((n : Int))] [] h  (some (iv 0), H) ∧ cX H h0 1 s := by
  obtain ⟨S, B, w1, v6, f3, f4, sz, fr⟩ := C
  have f0 := t0.f5 hb
  refine ⟨(am_put (am_put (am_put (am_put (am_put h 41 5 (iv ((s : Int)))) 41 6 (iv ((e : Int)))) 41 2 (iv (k))) 41 3 (iv 1)) 41 4 (iv ((s : Int)))), ?_, ⟨(((((S.po rfl rfl).po rfl rfl).po rfl rfl).po rfl rfl).po rfl rfl), (ax_put_o (Or.inr (by decide)) (ax_put_s _ _ _)), (ax_put_s _ _ _), sz, (fun c j n1 => (ax_put_o (Or.inl n1) (ax_put_o (Or.inl n1) (ax_put_o (Or.inl n1) (ax_put_o (Or.inl n1) (ax_put_o (Or.inl n1) (fr c j n1)))))))⟩⟩
  refine am_ev.step (pc' := 3) rfl rfl ?_
  refine fx_bip (p' := 5) rfl rfl rfl ?_
  refine fx_c_gt_F (pF := 8) rfl (by omega) (by omega) rfl (by omega) ?_
  refine am_ev.step (pc' := 9) rfl rfl ?_
  refine ax_call (z := 21) (p' := 12) (as := [_]) rfl (Or.inr (Or.inl ⟨_, rfl⟩)) rfl rfl rfl rfl rfl rfl (S.ob rfl) rfl (tk_21w S B hb hL w1 v6 t0) rfl ?_
  refine am_ev.step (pc' := 13) rfl rfl ?_
  refine fx_z_le_F (pF := 16) rfl (by omega) rfl (by omega) ?_
  refine am_ev.step (pc' := 17) rfl rfl ?_
  refine ax_gf (p' := 20) rfl rfl (fO (fO (fO (S.ob rfl)))) (ax_put_s _ _ _) ?_
  refine fx_bip (p' := 22) rfl rfl rfl ?_
  refine fx_c_ne_T (pT := 32) rfl (by omega) (by omega) rfl (by omega) ?_
  refine am_ev.step (pc' := 33) rfl rfl ?_
  refine ax_gf (p' := 36) rfl rfl (fO (fO (fO (S.ob rfl)))) (ax_put_s _ _ _) ?_
  refine am_ev.step (pc' := 37) rfl rfl ?_
  refine fx_c_eq_F (pF := 40) rfl (by omega) (by omega) rfl (by omega) ?_
  refine am_ev.step (pc' := 41) rfl rfl ?_
  refine am_ev.step (pc' := 42) rfl rfl ?_
  refine ax_call (z := 29) (p' := 45) (as := [_, _]) rfl (Or.inr (Or.inl ⟨_, rfl⟩)) rfl rfl rfl rfl rfl rfl (fO (fO (fO (S.ob rfl)))) rfl (tk_29 (s := s) (((S.po rfl rfl).po rfl rfl).po rfl rfl) (ax_put_o (Or.inr (by decide)) (ax_put_o (Or.inr (by decide)) (ax_put_s _ _ _)))) rfl ?_
  exact fx_reti rfl rfl rfl
theorem cc_7 (hb : tz_r b) (hL : L ≤ 1600) (C : cT h h0 b L p) (t0 : tz_t b L p s e k v) (O : am_isO h q 4 = true) (hq : 130 ≤ q) (n6 : n = 6) (q0 : k = 1) : ∃ H : am_H, am_ev (d + 2) 84 2 [.ref q, .ref 41, iv ((n : Int))] [] h  (some (iv 0), H) ∧ cX H h0 4 s := by
  obtain ⟨S, B, w1, v6, f3, f4, sz, fr⟩ := C
  have f0 := t0.f5 hb
  refine ⟨(am_put (am_put (am_put (am_put (am_put h 41 5 (iv ((s : Int)))) 41 6 (iv ((e : Int)))) 41 2 (iv (k))) 41 3 (iv 4)) 41 4 (iv ((s : Int)))), ?_, ⟨(((((S.po rfl rfl).po rfl rfl).po rfl rfl).po rfl rfl).po rfl rfl), (ax_put_o (Or.inr (by decide)) (ax_put_s _ _ _)), (ax_put_s _ _ _), sz, (fun c j n1 => (ax_put_o (Or.inl n1) (ax_put_o (Or.inl n1) (ax_put_o (Or.inl n1) (ax_put_o (Or.inl n1) (ax_put_o (Or.inl n1) (fr c j n1)))))))⟩⟩
  refine am_ev.step (pc' := 3) rfl rfl ?_
  refine fx_bip (p' := 5) rfl rfl rfl ?_
  refine fx_c_gt_F (pF := 8) rfl (by omega) (by omega) rfl (by omega) ?_
  refine am_ev.step (pc' := 9) rfl rfl ?_
  refine ax_call (z := 21) (p' := 12) (as := [_]) rfl (Or.inr (Or.inl ⟨_, rfl⟩)) rfl rfl rfl rfl rfl rfl (S.ob rfl) rfl (tk_21w S B hb hL w1 v6 t0) rfl ?_
  refine am_ev.step (pc' := 13) rfl rfl ?_
  refine fx_z_le_F (pF := 16) rfl (by omega) rfl (by omega) ?_
  refine am_ev.step (pc' := 17) rfl rfl ?_
  refine ax_gf (p' := 20) rfl rfl (fO (fO (fO (S.ob rfl)))) (ax_put_s _ _ _) ?_
  refine fx_bip (p' := 22) rfl rfl rfl ?_
  refine fx_c_ne_T (pT := 32) rfl (by omega) (by omega) rfl (by omega) ?_
  refine am_ev.step (pc' := 33) rfl rfl ?_
  refine ax_gf (p' := 36) rfl rfl (fO (fO (fO (S.ob rfl)))) (ax_put_s _ _ _) ?_
  refine am_ev.step (pc' := 37) rfl rfl ?_
  refine fx_c_eq_T (pT := 46) rfl (by omega) (by omega) rfl (by omega) ?_
  refine fx_inc (p' := 49) (e := ((n : Int) + 1)) (ls' := [.ref q, .ref 41, iv ((n : Int) + 1)]) rfl rfl rfl (by omega) rfl ?_
  refine am_ev.step (pc' := 2) rfl rfl ?_
  refine am_ev.step (pc' := 3) rfl rfl ?_
  refine fx_bip (p' := 5) rfl rfl rfl ?_
  refine fx_c_gt_T (pT := 52) rfl (by omega) (by omega) rfl (by omega) ?_
  refine am_ev.step (pc' := 53) rfl rfl ?_
  refine am_ev.step (pc' := 54) rfl rfl ?_
  refine ax_call (z := 29) (p' := 57) (as := [_, _]) rfl (Or.inr (Or.inl ⟨_, rfl⟩)) rfl rfl rfl rfl rfl rfl (fO (fO (fO (S.ob rfl)))) rfl (tk_29 (s := s) (((S.po rfl rfl).po rfl rfl).po rfl rfl) (ax_put_o (Or.inr (by decide)) (ax_put_o (Or.inr (by decide)) (ax_put_s _ _ _)))) rfl ?_
  exact fx_reti rfl rfl rfl
theorem cc_N0 (hb : tz_r b) (hL : L ≤ 1600) (C : cT h h0 b L p) (t0 : tz_t b L p s e k v) (O : am_isO h q 4 = true) (hq : 130 ≤ q) (n0 : n = 0) (q0 : k = 1) : ∃ H : am_H, cT H h0 b L e ∧ ∀ x, am_ev (d + 2) 84 2 [.ref q, .ref 41, iv ((n : Int) + 1)] [] H x → am_ev (d + 2) 84 2 [.ref q, .ref 41, iv ((n : Int))] [] h  x := by
  obtain ⟨S, B, w1, v6, f3, f4, sz, fr⟩ := C
  have f0 := t0.f5 hb
  refine ⟨(am_put (am_put (am_put h 41 5 (iv ((s : Int)))) 41 6 (iv ((e : Int)))) 41 2 (iv (k))), ⟨(((S.po rfl rfl).po rfl rfl).po rfl rfl), (((B.put (by decide)).put (by decide)).put (by decide)), (ax_put_o (Or.inr (by decide)) (ax_put_o (Or.inr (by decide)) (ax_put_o (Or.inr (by decide)) w1))), (ax_put_o (Or.inr (by decide)) (ax_put_s _ _ _)), (ax_put_o (Or.inr (by decide)) (ax_put_o (Or.inr (by decide)) (ax_put_o (Or.inr (by decide)) f3))), (ax_put_o (Or.inr (by decide)) (ax_put_o (Or.inr (by decide)) (ax_put_o (Or.inr (by decide)) f4))), sz, (fun c j n1 => (ax_put_o (Or.inl n1) (ax_put_o (Or.inl n1) (ax_put_o (Or.inl n1) (fr c j n1)))))⟩, fun x q9 => ?_⟩
  refine am_ev.step (pc' := 3) rfl rfl ?_
  refine fx_bip (p' := 5) rfl rfl rfl ?_
  refine fx_c_gt_F (pF := 8) rfl (by omega) (by omega) rfl (by omega) ?_
  refine am_ev.step (pc' := 9) rfl rfl ?_
  refine ax_call (z := 21) (p' := 12) (as := [_]) rfl (Or.inr (Or.inl ⟨_, rfl⟩)) rfl rfl rfl rfl rfl rfl (S.ob rfl) rfl (tk_21w S B hb hL w1 v6 t0) rfl ?_
  refine am_ev.step (pc' := 13) rfl rfl ?_
  refine fx_z_le_T (pT := 32) rfl (by omega) rfl (by omega) ?_
  refine am_ev.step (pc' := 33) rfl rfl ?_
  refine ax_gf (p' := 36) rfl rfl (fO (fO (fO (S.ob rfl)))) (ax_put_s _ _ _) ?_
  refine am_ev.step (pc' := 37) rfl rfl ?_
  refine fx_c_eq_T (pT := 46) rfl (by omega) (by omega) rfl (by omega) ?_
  refine fx_inc (p' := 49) (e := ((n : Int) + 1)) (ls' := [.ref q, .ref 41, iv ((n : Int) + 1)]) rfl rfl rfl (by omega) rfl ?_
  refine am_ev.step (pc' := 2) rfl rfl ?_
  exact q9
theorem cc_N1 (hb : tz_r b) (hL : L ≤ 1600) (C : cT h h0 b L p) (t0 : tz_t b L p s e k v) (O : am_isO h q 4 = true) (hq : 130 ≤ q) (n1 : 1 ≤ n) (hn : n ≤ 5) (q0 : k = 1) : ∃ H : am_H, cT H h0 b L e ∧ ∀ x, am_ev (d + 2) 84 2 [.ref q, .ref 41, iv ((n : Int) + 1)] [] H x → am_ev (d + 2) 84 2 [.ref q, .ref 41, iv ((n : Int))] [] h  x := by
  obtain ⟨S, B, w1, v6, f3, f4, sz, fr⟩ := C
  have f0 := t0.f5 hb
  refine ⟨(am_put (am_put (am_put h 41 5 (iv ((s : Int)))) 41 6 (iv ((e : Int)))) 41 2 (iv (k))), ⟨(((S.po rfl rfl).po rfl rfl).po rfl rfl), (((B.put (by decide)).put (by decide)).put (by decide)), (ax_put_o (Or.inr (by decide)) (ax_put_o (Or.inr (by decide)) (ax_put_o (Or.inr (by decide)) w1))), (ax_put_o (Or.inr (by decide)) (ax_put_s _ _ _)), (ax_put_o (Or.inr (by decide)) (ax_put_o (Or.inr (by decide)) (ax_put_o (Or.inr (by decide)) f3))), (ax_put_o (Or.inr (by decide)) (ax_put_o (Or.inr (by decide)) (ax_put_o (Or.inr (by decide)) f4))), sz, (fun c j n1 => (ax_put_o (Or.inl n1) (ax_put_o (Or.inl n1) (ax_put_o (Or.inl n1) (fr c j n1)))))⟩, fun x q9 => ?_⟩
  refine am_ev.step (pc' := 3) rfl rfl ?_
  refine fx_bip (p' := 5) rfl rfl rfl ?_
  refine fx_c_gt_F (pF := 8) rfl (by omega) (by omega) rfl (by omega) ?_
  refine am_ev.step (pc' := 9) rfl rfl ?_
  refine ax_call (z := 21) (p' := 12) (as := [_]) rfl (Or.inr (Or.inl ⟨_, rfl⟩)) rfl rfl rfl rfl rfl rfl (S.ob rfl) rfl (tk_21w S B hb hL w1 v6 t0) rfl ?_
  refine am_ev.step (pc' := 13) rfl rfl ?_
  refine fx_z_le_F (pF := 16) rfl (by omega) rfl (by omega) ?_
  refine am_ev.step (pc' := 17) rfl rfl ?_
  refine ax_gf (p' := 20) rfl rfl (fO (fO (fO (S.ob rfl)))) (ax_put_s _ _ _) ?_
  refine fx_bip (p' := 22) rfl rfl rfl ?_
  refine fx_c_ne_T (pT := 32) rfl (by omega) (by omega) rfl (by omega) ?_
  refine am_ev.step (pc' := 33) rfl rfl ?_
  refine ax_gf (p' := 36) rfl rfl (fO (fO (fO (S.ob rfl)))) (ax_put_s _ _ _) ?_
  refine am_ev.step (pc' := 37) rfl rfl ?_
  refine fx_c_eq_T (pT := 46) rfl (by omega) (by omega) rfl (by omega) ?_
  refine fx_inc (p' := 49) (e := ((n : Int) + 1)) (ls' := [.ref q, .ref 41, iv ((n : Int) + 1)]) rfl rfl rfl (by omega) rfl ?_
  refine am_ev.step (pc' := 2) rfl rfl ?_
  exact q9
end LED
end
