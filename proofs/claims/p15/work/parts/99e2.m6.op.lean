/-! POEM AND TRANSLATED: what they leave -/
section OPP
variable {h : am_H} {d : Nat} {p a b c e u : Int32}
theorem op_poe (I : cq_Inv none h) (P : rp_P h) (C : rp_C h) : ∃ (x : Int32) (h1 h2 : am_H), am_ev (d + 2) 38 0 (am_ent [.ref 40, .int a, .int b, .int c, .int e] (am_in 38).2.2.1) [] h (some (.int x), h1) ∧ am_ev (d + 2) 185 0 (am_ent [.ref 78, .int a, .int b, .int c, .int e] (am_in 185).2.2.1) [] h1 (some (.int x), h2) ∧ rp_O h h1 h2 ct_38.2.2.2.1 ct_185.2.2.2.1 := by
  have P0 := P
  obtain ⟨m, m1, m2, PP, PD⟩ := P
  have bm := rp_bm I m1
  have lo := I.lo
  obtain ⟨r, h1, ev1, T1, I1, F1, A1, B1⟩ := sp_ap4 (A := 3) (B := 15) ok_38 rfl rfl (by decide +kernel) I (d := d + 2) (by show 2 ≤ d + 2; omega) a b c e
  obtain ⟨r', h2, ev2, T2, I2, F2, A2, B2⟩ := sp_ap4 (A := 0) (B := 0) ok_185 rfl rfl (by decide +kernel) I1 (d := d + 2) (by show 2 ≤ d + 2; omega) a b c e
  have k16 : h1.2.2.2 78 16 = .int m := by rw [lw_frF F1 lo (by decide) (by decide +kernel), m2]
  have k86 : ∀ j, h1.2.2.2 86 j = h.2.2.2 86 j := lw_frA F1 lo (by decide) (by decide +kernel)
  have k90 : ∀ j, h1.2.2.2 90 j = h.2.2.2 90 j := lw_frA F1 lo (by decide) (by decide +kernel)
  have C2 : rp_C h2 := rp_Cfr I1 F2 (by decide +kernel) (rp_Cfr I F1 (by decide +kernel) C)
  have fin : ∀ x : Int32, r = some (.int x) → r' = some (.int x) → rp_P h2 → ∃ (x : Int32) (h1 h2 : am_H), am_ev (d + 2) 38 0 (am_ent [.ref 40, .int a, .int b, .int c, .int e] (am_in 38).2.2.1) [] h (some (.int x), h1) ∧ am_ev (d + 2) 185 0 (am_ent [.ref 78, .int a, .int b, .int c, .int e] (am_in 185).2.2.1) [] h1 (some (.int x), h2) ∧ rp_O h h1 h2 ct_38.2.2.2.1 ct_185.2.2.2.1 := fun x e1 e2 P2 => ⟨x, h1, h2, by rw [← e1]; exact ev1, by rw [← e2]; exact ev2, I1, I2, F1, F2, P2, C2, by omega, by omega⟩
  by_cases q : po_ok a b c e
  · by_cases hm : m.toInt < 40
    · obtain ⟨g, w1, w2, w3, w4, w5, w6, w7⟩ := pc_38d (d := d) I q m1 ⟨bm.1, hm⟩
      obtain ⟨g', u1, u2, u3, u4, u5⟩ := pm_185d (d := d) I1 q k16 ⟨bm.1, hm⟩
      have q1 := ax_det ev1 (w1)
      have q2 := ax_det ev2 (u1)
      have e1 := (Prod.mk.inj q1).1
      have e2 := (Prod.mk.inj q2).1
      have e3 := (Prod.mk.inj q1).2
      have e4 := (Prod.mk.inj q2).2
      refine fin _ e1 e2 ?_
      have mp := ax_p1 (m := m) ⟨bm.1, by omega⟩
      have f73 := lw_frA F2 I1.lo (c := 73) (by decide) (by decide +kernel)
      have x73 : ∀ j, h2.2.2.2 73 j = g.2.2.2 73 j := fun j => by rw [f73, e3]
      have nw : h1.2.2.2 73 m.toInt.toNat = .ref h.1 := by
        rw [e3]
        exact w3
      refine ⟨m + Int32.ofInt 1, ?_, ?_, fun p hp => ?_, fun p q h1 h2 => ?_⟩
      · rw [lw_frF F2 I1.lo (by decide) (by decide +kernel), e3]
        exact w2
      · rw [e4]
        exact u2
      · by_cases ep : p = m.toInt.toNat
        · subst ep
          obtain ⟨o1, o2, o3⟩ := rp_obj I1 (p := m.toInt.toNat) (by omega) nw
          refine ⟨h.1, a, Int32.ofInt (-1), by rw [f73, nw], ?_, by rw [e4]; exact u3, ?_, by rw [e4]; exact u4⟩
          · rw [lw_frO F2 o1 o2 o3 (by decide +kernel), e3]
            exact w4
          · rw [lw_frO F2 o1 o2 o3 (by decide +kernel), e3]
            exact w5
        · obtain ⟨s, t, w, k1, k2, k3, k4, k5⟩ := PP p (by omega)
          obtain ⟨o1, o2, o3⟩ := rp_obj I (p := p) (by omega) k1
          have y1 : h1.2.2.2 73 p = .ref s := by rw [e3, w6 p ep, k1]
          obtain ⟨p1, p2, p3⟩ := rp_obj I1 (p := p) (by omega) y1
          obtain ⟨v1, v2⟩ := u5 p ep
          refine ⟨s, t, w, by rw [f73, y1], ?_, by rw [e4, v1, k86, k3], ?_, by rw [e4, v2, k90, k5]⟩
          · rw [lw_frO F2 p1 p2 p3 (by decide +kernel), e3, w7 s 0 o1 o2, k2]
          · rw [lw_frO F2 p1 p2 p3 (by decide +kernel), e3, w7 s 4 o1 o2, k4]
      · rw [x73, x73]
        by_cases eq : q = m.toInt.toNat
        · subst eq
          obtain ⟨s, t, w, k1, -⟩ := PP p (by omega)
          obtain ⟨o1, o2, o3⟩ := rp_obj I (p := p) (by omega) k1
          rw [w6 p (by omega), k1, w3]
          intro z
          cases z
          omega
        · rw [w6 p (by omega), w6 q eq]
          exact PD p q h1 (by omega)
    · have w1 := pc_38u (d := d + 1) I q m1 (by omega)
      have u1 := pm_185u (d := d) I1 q k16 (by omega)
      have q1 := ax_det ev1 (w1)
      have q2 := ax_det ev2 (u1)
      have e1 := (Prod.mk.inj q1).1
      have e2 := (Prod.mk.inj q2).1
      have e3 := (Prod.mk.inj q1).2
      have e4 := (Prod.mk.inj q2).2
      exact fin _ e1 e2 (by rw [e4, e3]; exact P0)
  · have w1 := pc_38f (h := h) (d := d + 1) q
    have u1 := pm_185f (h := h1) (d := d) q
    have q1 := ax_det ev1 (w1)
    have q2 := ax_det ev2 (u1)
    have e1 := (Prod.mk.inj q1).1
    have e2 := (Prod.mk.inj q2).1
    have e3 := (Prod.mk.inj q1).2
    have e4 := (Prod.mk.inj q2).2
    exact fin _ e1 e2 (by rw [e4, e3]; exact P0)
theorem op_tra (I : cq_Inv none h) (P : rp_P h) (C : rp_C h) : ∃ (x : Int32) (h1 h2 : am_H), am_ev (d + 2) 41 0 (am_ent [.ref 40, .int p, .int a, .int u] (am_in 41).2.2.1) [] h (some (.int x), h1) ∧ am_ev (d + 2) 187 0 (am_ent [.ref 78, .int p, .int a, .int u] (am_in 187).2.2.1) [] h1 (some (.int x), h2) ∧ rp_O h h1 h2 ct_41.2.2.2.1 ct_187.2.2.2.1 := by
  have P0 := P
  obtain ⟨m, m1, m2, PP, PD⟩ := P
  have bm := rp_bm I m1
  have lo := I.lo
  obtain ⟨r, h1, ev1, T1, I1, F1, A1, B1⟩ := sp_ap3 (A := 0) (B := 0) ok_41 rfl rfl (by decide +kernel) I (d := d + 2) (by show 1 ≤ d + 2; omega) p a u
  obtain ⟨r', h2, ev2, T2, I2, F2, A2, B2⟩ := sp_ap3 (A := 0) (B := 0) ok_187 rfl rfl (by decide +kernel) I1 (d := d + 2) (by show 2 ≤ d + 2; omega) p a u
  have O40 := ax_o I (c := 40) (k := 11) (by decide +kernel)
  have O78 := ax_o I1 (c := 78) (k := 13) (by decide +kernel)
  have k16 : h1.2.2.2 78 16 = .int m := by rw [lw_frF F1 lo (by decide) (by decide +kernel), m2]
  have k86 : ∀ j, h1.2.2.2 86 j = h.2.2.2 86 j := lw_frA F1 lo (by decide) (by decide +kernel)
  have k90 : ∀ j, h1.2.2.2 90 j = h.2.2.2 90 j := lw_frA F1 lo (by decide) (by decide +kernel)
  have C2 : rp_C h2 := rp_Cfr I1 F2 (by decide +kernel) (rp_Cfr I F1 (by decide +kernel) C)
  have fin : ∀ x : Int32, r = some (.int x) → r' = some (.int x) → rp_P h2 → ∃ (x : Int32) (h1 h2 : am_H), am_ev (d + 2) 41 0 (am_ent [.ref 40, .int p, .int a, .int u] (am_in 41).2.2.1) [] h (some (.int x), h1) ∧ am_ev (d + 2) 187 0 (am_ent [.ref 78, .int p, .int a, .int u] (am_in 187).2.2.1) [] h1 (some (.int x), h2) ∧ rp_O h h1 h2 ct_41.2.2.2.1 ct_187.2.2.2.1 := fun x e1 e2 P2 => ⟨x, h1, h2, by rw [← e1]; exact ev1, by rw [← e2]; exact ev2, I1, I2, F1, F2, P2, C2, by omega, by omega⟩
  by_cases hp : 0 ≤ p.toInt ∧ p.toInt < m.toInt
  · obtain ⟨s, t, w, s1, s2, s3, s4, s5⟩ := PP p.toInt.toNat (by omega)
    have H42 := (po_42 (d := d + 1) I m1 bm).1 hp
    rw [s1] at H42
    have H188 := (po_188 (d := d) O78 k16 bm).1 hp
    have ko := rp_obj I (p := p.toInt.toNat) (by omega) s1
    have Os := ax_kO ko
    obtain ⟨o1, o2, o3⟩ := ko
    have v17 := ax_rf I1 (c := 78) (j := 17) (k := 86) (by decide +kernel) (by decide +kernel)
    have v21 := ax_rf I1 (c := 78) (j := 21) (k := 90) (by decide +kernel) (by decide +kernel)
    have v22 := ax_rf I1 (c := 78) (j := 22) (k := 91) (by decide +kernel) (by decide +kernel)
    have A86 := ax_ar I1 (c := 86) (tc := 0) (n := 40) (by decide) (by decide +kernel)
    have A90 := ax_ar I1 (c := 90) (tc := 0) (n := 40) (by decide) (by decide +kernel)
    have A91 := ax_ar I1 (c := 91) (tc := 0) (n := 40) (by decide) (by decide +kernel)
    have rd1 : am_rd h1 86 p (fun c => Nat.beq c 0) = some (.int t) := by
      rw [ax_rdv A86.1 A86.2 (by decide) (by decide) hp.1 (by omega), k86, s3]
    have rd2 : am_rd h1 90 p (fun c => Nat.beq c 0) = some (.int w) := by
      rw [ax_rdv A90.1 A90.2 (by decide) (by decide) hp.1 (by omega), k90, s5]
    by_cases q : tr_ok a u t
    · by_cases qw : w = Int32.ofInt (-1)
      · have w1 := tr_41d (d := d + 1) O40 H42 Os s2 s4 q qw
        have u1 := tr_187d (d := d) O78 H188 v17 v21 v22 rd1 rd2 q qw (ax_wrv A90.1 A90.2 hp.1 (by omega)) (ax_wrv A91.1 A91.2 hp.1 (by omega))
        have q1 := ax_det ev1 (w1)
        have q2 := ax_det ev2 (u1)
        have e1 := (Prod.mk.inj q1).1
        have e2 := (Prod.mk.inj q2).1
        have e3 := (Prod.mk.inj q1).2
        have e4 := (Prod.mk.inj q2).2
        refine fin _ e1 e2 ?_
        have j1 : ∀ c j, c ≠ s → h1.2.2.2 c j = h.2.2.2 c j := fun c j hc => by
          rw [e3]
          exact ax_put_o (Or.inl hc) (ax_put_o (Or.inl hc) rfl)
        have j2 : ∀ c j, c ≠ 90 → c ≠ 91 → h2.2.2.2 c j = h1.2.2.2 c j := fun c j hc hd => by
          rw [e4]
          exact ax_put_o (Or.inl hd) (ax_put_o (Or.inl hc) rfl)
        have x0 : h1.2.2.2 s 0 = .int t := by
          rw [e3]
          exact ax_put_o (Or.inr (by decide)) (ax_put_o (Or.inr (by decide)) s2)
        have x4 : h1.2.2.2 s 4 = .int a := by
          rw [e3]
          exact ax_put_o (Or.inr (by decide)) (ax_put_s _ _ _)
        have x90 : h2.2.2.2 90 p.toInt.toNat = .int a := by
          rw [e4]
          exact ax_put_o (Or.inl (by decide)) (ax_put_s _ _ _)
        have x91 : ∀ j, j ≠ p.toInt.toNat → h2.2.2.2 90 j = h1.2.2.2 90 j := fun j hj => by
          rw [e4]
          exact ax_put_o (Or.inl (by decide)) (ax_put_o (Or.inr hj) rfl)
        have y73 : ∀ j, h2.2.2.2 73 j = h.2.2.2 73 j := fun j => by rw [j2 73 j (by decide) (by decide), j1 73 j (by omega)]
        refine ⟨m, by rw [j2 40 8 (by decide) (by decide), j1 40 8 (by omega), m1], by rw [j2 78 16 (by decide) (by decide), k16], fun p' hp' => ?_, fun p' q' z1 z2 => by rw [y73, y73]; exact PD p' q' z1 z2⟩
        by_cases ep : p' = p.toInt.toNat
        · rw [ep]
          exact ⟨s, t, a, by rw [y73, s1], by rw [j2 s 0 (by omega) (by omega), x0], by rw [j2 86 _ (by decide) (by decide), k86, s3], by rw [j2 s 4 (by omega) (by omega), x4], x90⟩
        · obtain ⟨s', t', w', l1, l2, l3, l4, l5⟩ := PP p' hp'
          obtain ⟨b1, b2, b3⟩ := rp_obj I (p := p') (by omega) l1
          have ne : s' ≠ s := fun z => by
            rw [z, ← s1] at l1
            rcases Nat.lt_or_gt_of_ne ep with y | y
            · exact PD p' _ y (by omega) l1
            · exact PD _ p' y hp' l1.symm
          exact ⟨s', t', w', by rw [y73, l1], by rw [j2 s' 0 (by omega) (by omega), j1 s' 0 ne, l2], by rw [j2 86 _ (by decide) (by decide), k86, l3], by rw [j2 s' 4 (by omega) (by omega), j1 s' 4 ne, l4], by rw [x91 p' ep, k90, l5]⟩
      · have w1 := tr_41s (d := d + 1) O40 H42 Os s2 s4 q qw
        have u1 := tr_187s (d := d) O78 H188 v17 v21 rd1 rd2 q qw
        have q1 := ax_det ev1 (w1)
        have q2 := ax_det ev2 (u1)
        have e1 := (Prod.mk.inj q1).1
        have e2 := (Prod.mk.inj q2).1
        have e3 := (Prod.mk.inj q1).2
        have e4 := (Prod.mk.inj q2).2
        exact fin _ e1 e2 (by rw [e4, e3]; exact P0)
    · have w1 := tr_41f (d := d + 1) O40 H42 Os s2 q
      have u1 := tr_187f (d := d) O78 H188 v17 rd1 q
      have q1 := ax_det ev1 (w1)
      have q2 := ax_det ev2 (u1)
      have e1 := (Prod.mk.inj q1).1
      have e2 := (Prod.mk.inj q2).1
      have e3 := (Prod.mk.inj q1).2
      have e4 := (Prod.mk.inj q2).2
      exact fin _ e1 e2 (by rw [e4, e3]; exact P0)
  · have H42 := (po_42 (d := d + 1) I m1 bm).2 hp
    have H188 := (po_188 (d := d) O78 k16 bm).2 hp
    have w1 := tr_41n (a := a) (u := u) (d := d + 1) O40 H42
    have u1 := tr_187n (a := a) (u := u) (d := d) O78 H188
    have q1 := ax_det ev1 (w1)
    have q2 := ax_det ev2 (u1)
    have e1 := (Prod.mk.inj q1).1
    have e2 := (Prod.mk.inj q2).1
    have e3 := (Prod.mk.inj q1).2
    have e4 := (Prod.mk.inj q2).2
    exact fin _ e1 e2 (by rw [e4, e3]; exact P0)
end OPP
section OPQ
variable {h : am_H} {d : Nat}
theorem oq_poe (I : cq_Inv none h) (P : rp_P h) (C : rp_C h) (w1 w2 w3 w4 : Int32) : ∃ (x : Int32) (h1 h2 : am_H), am_ev (d + 8) 38 0 (am_ent [.ref 40, .int w1, .int w2, .int w3, .int w4] (am_in 38).2.2.1) [] h (some (.int x), h1) ∧ am_ev (d + 8) 185 0 (am_ent [.ref 78, .int w1, .int w2, .int w3, .int w4] (am_in 185).2.2.1) [] h1 (some (.int x), h2) ∧ cq_Inv none h1 ∧ cq_Inv none h2 ∧ cq_Fr ct_38.2.2.2.1 h h1 ∧ cq_Fr ct_185.2.2.2.1 h1 h2 ∧ (∀ q ∈ [((40 : Nat), (8 : Nat), (78 : Nat), (16 : Nat))], tT h2 q) ∧ rp_P h2 ∧ rp_C h2 ∧ h2.1 ≤ h.1 + 12 ∧ h2.2.1 ≤ h.2.1 + 624 := by
  obtain ⟨x, h1, h2, a1, a2, I1, I2, F1, F2, P2, C2, b1, b2⟩ := op_poe (d := d + 6) (a := w1) (b := w2) (c := w3) (e := w4) I P C
  refine ⟨x, h1, h2, a1, a2, I1, I2, F1, F2, fun q hq => ?_, P2, C2, b1, b2⟩
  rw [List.mem_singleton.1 hq]
  obtain ⟨m, m1, m2, -⟩ := P2
  exact ⟨m, m1, m2⟩
theorem oq_tra (I : cq_Inv none h) (P : rp_P h) (C : rp_C h) (w1 w2 w3 : Int32) : ∃ (x : Int32) (h1 h2 : am_H), am_ev (d + 8) 41 0 (am_ent [.ref 40, .int w1, .int w2, .int w3] (am_in 41).2.2.1) [] h (some (.int x), h1) ∧ am_ev (d + 8) 187 0 (am_ent [.ref 78, .int w1, .int w2, .int w3] (am_in 187).2.2.1) [] h1 (some (.int x), h2) ∧ cq_Inv none h1 ∧ cq_Inv none h2 ∧ cq_Fr ct_41.2.2.2.1 h h1 ∧ cq_Fr ct_187.2.2.2.1 h1 h2 ∧ (∀ q ∈ [((40 : Nat), (8 : Nat), (78 : Nat), (16 : Nat))], tT h2 q) ∧ rp_P h2 ∧ rp_C h2 ∧ h2.1 ≤ h.1 + 12 ∧ h2.2.1 ≤ h.2.1 + 624 := by
  obtain ⟨x, h1, h2, a1, a2, I1, I2, F1, F2, P2, C2, b1, b2⟩ := op_tra (d := d + 6) (p := w1) (a := w2) (u := w3) I P C
  refine ⟨x, h1, h2, a1, a2, I1, I2, F1, F2, fun q hq => ?_, P2, C2, b1, b2⟩
  rw [List.mem_singleton.1 hq]
  obtain ⟨m, m1, m2, -⟩ := P2
  exact ⟨m, m1, m2⟩
theorem oq_can (I : cq_Inv none h) (P : rp_P h) (C : rp_C h) (w1 : Int32) : ∃ (x : Int32) (h1 h2 : am_H), am_ev (d + 8) 101 0 (am_ent [.ref 40, .int w1] (am_in 101).2.2.1) [] h (some (.int x), h1) ∧ am_ev (d + 8) 225 0 (am_ent [.ref 78, .int w1] (am_in 225).2.2.1) [] h1 (some (.int x), h2) ∧ cq_Inv none h1 ∧ cq_Inv none h2 ∧ cq_Fr ct_101.2.2.2.1 h h1 ∧ cq_Fr ct_225.2.2.2.1 h1 h2 ∧ (∀ q ∈ [((40 : Nat), (8 : Nat), (78 : Nat), (16 : Nat))], tT h2 q) ∧ rp_P h2 ∧ rp_C h2 ∧ h2.1 ≤ h.1 + 12 ∧ h2.2.1 ≤ h.2.1 + 624 := by
  obtain ⟨x, h1, h2, a1, a2, I1, I2, F1, F2, P2, C2, b1, b2⟩ := op_can (d := d + 6) (p := w1) I P C
  refine ⟨x, h1, h2, a1, a2, I1, I2, F1, F2, fun q hq => ?_, P2, C2, b1, b2⟩
  rw [List.mem_singleton.1 hq]
  obtain ⟨m, m1, m2, -⟩ := P2
  exact ⟨m, m1, m2⟩
end OPQ
