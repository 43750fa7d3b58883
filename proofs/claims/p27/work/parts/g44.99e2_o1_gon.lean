/-! GONE, LEFT, LEAVE ON AT THE LAW -/
section OGO
variable {h : am_H} {d : Nat}
theorem i_of {f : Int32} {i : Int} (e : f.toInt = i) (b : -2147483648 ≤ i ∧ i ≤ 2147483647) : f = Int32.ofInt i := Int32.toInt_inj.1 (by rw [e, fx_ti b])
theorem lf_i0 (I : cq_Inv none h) {s : Nat} (K : cq_kOk h s (0, 4, 0)) : ∃ x : Int32, h.2.2.2 s 0 = .int x := by
  obtain ⟨x, ex, -⟩ : ∃ x : Int32, h.2.2.2 s 0 = .int x ∧ (cq_cl 4 0).2.1 ≤ x.toInt ∧ x.toInt ≤ (cq_cl 4 0).2.2.1 := ax_fd I K (j := 0) (t := (1, (cq_cl 4 0).2.1, (cq_cl 4 0).2.2.1, 0, 0, 0)) (by decide +kernel) (by decide +kernel)
  exact ⟨x, ex⟩
theorem lf_i1 (I : cq_Inv none h) {s : Nat} (K : cq_kOk h s (0, 4, 0)) : ∃ x : Int32, h.2.2.2 s 1 = .int x := by
  obtain ⟨x, ex, -⟩ : ∃ x : Int32, h.2.2.2 s 1 = .int x ∧ (cq_cl 4 1).2.1 ≤ x.toInt ∧ x.toInt ≤ (cq_cl 4 1).2.2.1 := ax_fd I K (j := 1) (t := (1, (cq_cl 4 1).2.1, (cq_cl 4 1).2.2.1, 0, 0, 0)) (by decide +kernel) (by decide +kernel)
  exact ⟨x, ex⟩
theorem lf_i2 (I : cq_Inv none h) {s : Nat} (K : cq_kOk h s (0, 4, 0)) : ∃ x : Int32, h.2.2.2 s 2 = .int x := by
  obtain ⟨x, ex, -⟩ : ∃ x : Int32, h.2.2.2 s 2 = .int x ∧ (cq_cl 4 2).2.1 ≤ x.toInt ∧ x.toInt ≤ (cq_cl 4 2).2.2.1 := ax_fd I K (j := 2) (t := (1, (cq_cl 4 2).2.1, (cq_cl 4 2).2.2.1, 0, 0, 0)) (by decide +kernel) (by decide +kernel)
  exact ⟨x, ex⟩
theorem lf_i3 (I : cq_Inv none h) {s : Nat} (K : cq_kOk h s (0, 4, 0)) : ∃ x : Int32, h.2.2.2 s 3 = .int x := by
  obtain ⟨x, ex, -⟩ : ∃ x : Int32, h.2.2.2 s 3 = .int x ∧ (cq_cl 4 3).2.1 ≤ x.toInt ∧ x.toInt ≤ (cq_cl 4 3).2.2.1 := ax_fd I K (j := 3) (t := (1, (cq_cl 4 3).2.1, (cq_cl 4 3).2.2.1, 0, 0, 0)) (by decide +kernel) (by decide +kernel)
  exact ⟨x, ex⟩
theorem lf_i4 (I : cq_Inv none h) {s : Nat} (K : cq_kOk h s (0, 4, 0)) : ∃ x : Int32, h.2.2.2 s 4 = .int x := by
  obtain ⟨x, ex, -⟩ : ∃ x : Int32, h.2.2.2 s 4 = .int x ∧ (cq_cl 4 4).2.1 ≤ x.toInt ∧ x.toInt ≤ (cq_cl 4 4).2.2.1 := ax_fd I K (j := 4) (t := (1, (cq_cl 4 4).2.1, (cq_cl 4 4).2.2.1, 0, 0, 0)) (by decide +kernel) (by decide +kernel)
  exact ⟨x, ex⟩
theorem lf_i5 (I : cq_Inv none h) {s : Nat} (K : cq_kOk h s (0, 4, 0)) : ∃ x : Int32, h.2.2.2 s 5 = .int x := by
  obtain ⟨x, ex, -⟩ : ∃ x : Int32, h.2.2.2 s 5 = .int x ∧ (cq_cl 4 5).2.1 ≤ x.toInt ∧ x.toInt ≤ (cq_cl 4 5).2.2.1 := ax_fd I K (j := 5) (t := (1, (cq_cl 4 5).2.1, (cq_cl 4 5).2.2.1, 0, 0, 0)) (by decide +kernel) (by decide +kernel)
  exact ⟨x, ex⟩
theorem lf_i6 (I : cq_Inv none h) {s : Nat} (K : cq_kOk h s (0, 4, 0)) : ∃ x : Int32, h.2.2.2 s 6 = .int x := by
  obtain ⟨x, ex, -⟩ : ∃ x : Int32, h.2.2.2 s 6 = .int x ∧ (cq_cl 4 6).2.1 ≤ x.toInt ∧ x.toInt ≤ (cq_cl 4 6).2.2.1 := ax_fd I K (j := 6) (t := (1, (cq_cl 4 6).2.1, (cq_cl 4 6).2.2.1, 0, 0, 0)) (by decide +kernel) (by decide +kernel)
  exact ⟨x, ex⟩
theorem lf_i7 (I : cq_Inv none h) {s : Nat} (K : cq_kOk h s (0, 4, 0)) : ∃ x : Int32, h.2.2.2 s 7 = .int x := by
  obtain ⟨x, ex, -⟩ : ∃ x : Int32, h.2.2.2 s 7 = .int x ∧ (cq_cl 4 7).2.1 ≤ x.toInt ∧ x.toInt ≤ (cq_cl 4 7).2.2.1 := ax_fd I K (j := 7) (t := (1, (cq_cl 4 7).2.1, (cq_cl 4 7).2.2.1, 0, 0, 0)) (by decide +kernel) (by decide +kernel)
  exact ⟨x, ex⟩
theorem lf_i8 (I : cq_Inv none h) {s : Nat} (K : cq_kOk h s (0, 4, 0)) : ∃ x : Int32, h.2.2.2 s 8 = .int x := by
  obtain ⟨x, ex, -⟩ : ∃ x : Int32, h.2.2.2 s 8 = .int x ∧ (cq_cl 4 8).2.1 ≤ x.toInt ∧ x.toInt ≤ (cq_cl 4 8).2.2.1 := ax_fd I K (j := 8) (t := (1, (cq_cl 4 8).2.1, (cq_cl 4 8).2.2.1, 0, 0, 0)) (by decide +kernel) (by decide +kernel)
  exact ⟨x, ex⟩
theorem op_gon (I : cq_Inv none h) (R : rL h) (Tc : tT h (40, 9, 78, 15)) (p a : Int32) : ∃ (x : Int32) (h1 h2 : am_H), am_ev (d + 10) 89 0 (am_ent [.ref 40, .int p, .int a] (am_in 89).2.2.1) [] h (some (.int x), h1) ∧ am_ev (d + 10) 215 0 (am_ent [.ref 78, .int p, .int a] (am_in 215).2.2.1) [] h1 (some (.int x), h2) ∧ cq_Inv none h1 ∧ cq_Inv none h2 ∧ cq_Fr ct_89.2.2.2.1 h h1 ∧ cq_Fr ct_215.2.2.2.1 h1 h2 ∧ (∀ q ∈ ([] : List (Nat × Nat × Nat × Nat)), tT h2 q) ∧ rL h2 ∧ h2.1 ≤ h.1 + 12 ∧ h2.2.1 ≤ h.2.1 + 624 := by
  obtain ⟨cc, c1, c2⟩ := Tc
  have c1 : h.2.2.2 40 9 = .int cc := c1
  have c2 : h.2.2.2 78 15 = .int cc := c2
  have c0 : 0 ≤ cc.toInt := by
    obtain ⟨y, ey, b0, -⟩ := ax_in I (c := 40) (j := 9) (l := 0) (u := 29999) (by decide +kernel) (by decide +kernel)
    rw [c1] at ey
    cases ey
    exact b0
  have R0 := R
  obtain ⟨m, m1, m2, RP, RD⟩ := R
  have bm := rL_bm I m1
  have lo := I.lo
  obtain ⟨r, h1, ev1, T1', I1, F1, A1, B1⟩ := sp_ap2 (A := 0) (B := 0) ok_89 rfl rfl (by decide +kernel) I (d := d + 10) (Nat.le_trans (by decide +kernel) (Nat.le_add_left 10 d)) p a
  obtain ⟨r', h2, ev2, T2', I2, F2, A2, B2⟩ := sp_ap2 (A := 0) (B := 0) ok_215 rfl rfl (by decide +kernel) I1 (d := d + 10) (Nat.le_trans (by decide +kernel) (Nat.le_add_left 10 d)) p a
  have O40 := ax_o I (c := 40) (k := 11) (by decide +kernel)
  have O48 := ax_o I (c := 48) (k := 7) (by decide +kernel)
  have O78 := ax_o I1 (c := 78) (k := 13) (by decide +kernel)
  have v2 := ax_rf I (c := 40) (j := 2) (k := 48) (by decide +kernel) (by decide +kernel)
  have v0 := ax_rf I (c := 48) (j := 0) (k := 49) (by decide +kernel) (by decide +kernel)
  have A49 := ax_ar I (c := 49) (tc := 8) (n := 80) (by decide) (by decide +kernel)
  have k35 : h1.2.2.2 78 35 = .int m := by rw [lw_frF F1 lo (by decide) (by decide +kernel), m2]
  have k15 : h1.2.2.2 78 15 = .int cc := by rw [lw_frF F1 lo (by decide) (by decide +kernel), c2]
  have kM : ∀ c, 103 ≤ c → c ≤ 113 → ∀ j, h1.2.2.2 c j = h.2.2.2 c j := fun c a1 a2 => by
    have hc : c = 103 ∨ c = 104 ∨ c = 105 ∨ c = 106 ∨ c = 107 ∨ c = 108 ∨ c = 109 ∨ c = 110 ∨ c = 111 ∨ c = 112 ∨ c = 113 := by omega
    rcases hc with rfl | rfl | rfl | rfl | rfl | rfl | rfl | rfl | rfl | rfl | rfl <;> exact lw_frA F1 lo (by decide) (by decide +kernel)
  have fin : ∀ x : Int32, r = some (.int x) → r' = some (.int x) → rL h2 → ∃ (x : Int32) (h1 h2 : am_H), am_ev (d + 10) 89 0 (am_ent [.ref 40, .int p, .int a] (am_in 89).2.2.1) [] h (some (.int x), h1) ∧ am_ev (d + 10) 215 0 (am_ent [.ref 78, .int p, .int a] (am_in 215).2.2.1) [] h1 (some (.int x), h2) ∧ cq_Inv none h1 ∧ cq_Inv none h2 ∧ cq_Fr ct_89.2.2.2.1 h h1 ∧ cq_Fr ct_215.2.2.2.1 h1 h2 ∧ (∀ q ∈ ([] : List (Nat × Nat × Nat × Nat)), tT h2 q) ∧ rL h2 ∧ h2.1 ≤ h.1 + 12 ∧ h2.2.1 ≤ h.2.1 + 624 := fun x e1 e2 R2 => ⟨x, h1, h2, by rw [← e1]; exact ev1, by rw [← e2]; exact ev2, I1, I2, F1, F2, (fun q hq => by cases hq), R2, by omega, by omega⟩
  by_cases hp : 0 ≤ p.toInt ∧ p.toInt < m.toInt
  · obtain ⟨s, z⟩ := RP p.toInt.toNat (by omega)
    obtain ⟨s1, y0, y1, yj, s9⟩ := z
    have ko := rL_ob I (k := p.toInt.toNat) (by omega) s1
    have Os := ax_kO ko
    obtain ⟨o1, o2, o3⟩ := ko
    have rd : am_rd h 49 p (fun c => Nat.ble 4 c && am_isA c) = some (.ref s) := by
      rw [ax_rdv A49.1 A49.2 (by decide) (by decide +kernel) hp.1 (by omega), s1]
    have H87 := go_87t (d := d + 9) O48 m1 v0 hp rd
    have H214 := (go_214 (d := d + 8) O78 k35 bm).1 hp
    have v46 := ax_rf I1 (c := 78) (j := 46) (k := 112) (by decide +kernel) (by decide +kernel)
    have v47 := ax_rf I1 (c := 78) (j := 47) (k := 113) (by decide +kernel) (by decide +kernel)
    have A112 := ax_ar I1 (c := 112) (tc := 0) (n := 81) (by decide) (by decide +kernel)
    have A113 := ax_ar I1 (c := 113) (tc := 0) (n := 81) (by decide) (by decide +kernel)
    by_cases q : 0 ≤ a.toInt ∧ a.toInt ≤ 29999
    · rcases s9 with ⟨x9, x13⟩ | ⟨x, y, x0, yy0, x9, x12, x10, x13⟩
      · have rd1 : am_rd h1 113 p (fun c => Nat.beq c 0) = some (.int (Int32.ofInt (-1))) := by
          rw [ax_rdv A113.1 A113.2 (by decide) (by decide) hp.1 (by omega), kM 113 (by decide) (by decide), x13]
        have q1 := ax_det ev1 (go_89d (d := d + 9) O40 O48 v2 H87 Os o1 x9 q rfl c1)
        have q2 := ax_det ev2 (go_215d (d := d + 8) O78 H214 v46 v47 k15 rd1 q rfl (ax_wrv A112.1 A112.2 hp.1 (by omega)) (ax_wrv A113.1 A113.2 hp.1 (by omega)))
        have e1 := (Prod.mk.inj q1).1
        have e2 := (Prod.mk.inj q2).1
        have e3 := (Prod.mk.inj q1).2
        have e4 := (Prod.mk.inj q2).2
        have j1 : ∀ c j, (c ≠ s ∨ j < 9) → h1.2.2.2 c j = h.2.2.2 c j := fun c j hc => by
          rw [e3]
          exact ax_put_o (by omega) (ax_put_o (by omega) rfl)
        have j2 : ∀ c j, ((c ≠ 112 ∧ c ≠ 113) ∨ j ≠ p.toInt.toNat) → h2.2.2.2 c j = h1.2.2.2 c j := fun c j hc => by
          rw [e4]
          exact ax_put_o (by omega) (ax_put_o (by omega) rfl)
        refine fin _ e1 e2 ⟨m, by rw [j2 48 1 (by omega), j1 48 1 (by omega), m1], by rw [j2 78 35 (by omega), k35], fun k hk => ?_, fun k l a1 a2 => by rw [j2 49 k (by omega), j2 49 l (by omega), j1 49 k (by omega), j1 49 l (by omega)]; exact RD k l a1 a2⟩
        by_cases ek : k = p.toInt.toNat
        · subst ek
          refine ⟨s, by rw [j2 49 _ (by omega), j1 49 _ (by omega), s1], by rw [j2 s 0 (by omega), j1 s 0 (by omega), j2 103 _ (by omega), kM 103 (by decide) (by decide), y0], by rw [j2 s 1 (by omega), j1 s 1 (by omega), j2 111 _ (by omega), kM 111 (by decide) (by decide), y1], fun j a1 a2 => by rw [j2 s j (by omega), j1 s j (by omega), j2 (102 + j) _ (by omega), kM (102 + j) (by omega) (by omega), yj j a1 a2], Or.inr ⟨a, cc, q.1, c0, ?_, ?_, ?_, ?_⟩⟩
          · rw [j2 s 9 (by omega), e3]
            exact ax_put_o (Or.inr (by decide)) (ax_put_s _ _ _)
          · rw [e4]
            exact ax_put_o (Or.inl (by decide)) (ax_put_s _ _ _)
          · rw [j2 s 10 (by omega), e3]
            exact ax_put_s _ _ _
          · rw [e4]
            exact ax_put_s _ _ _
        · obtain ⟨s', z'⟩ := RP k hk
          have ne : s' ≠ s := fun z => by
            have l1 := z'.1
            rw [z, ← s1] at l1
            rcases Nat.lt_or_gt_of_ne ek with y | y
            · exact RD k _ y (by omega) l1
            · exact RD _ k y hk l1.symm
          obtain ⟨b1, b2, b3⟩ := rL_ob I (k := k) (by omega) z'.1
          exact ⟨s', rL1_fr (fun j _ => by rw [j2 s' j (by omega), j1 s' j (Or.inl ne)]) (by rw [j2 49 k (by omega), j1 49 k (by omega)]) (fun c c1 c2 => by rw [j2 c k (Or.inr ek), kM c c1 c2]) z'⟩
      · have qx : ∀ {u : Int32}, 0 ≤ u.toInt → ¬ u = Int32.ofInt (-1) := fun u0 z => by
          rw [z, show (Int32.ofInt (-1)).toInt = -1 by decide] at u0
          omega
        have rd1 : am_rd h1 113 p (fun c => Nat.beq c 0) = some (.int y) := by
          rw [ax_rdv A113.1 A113.2 (by decide) (by decide) hp.1 (by omega), kM 113 (by decide) (by decide), x13]
        have q1 := ax_det ev1 (go_89s (d := d + 9) O40 O48 v2 H87 Os x9 q (qx x0))
        have q2 := ax_det ev2 (go_215s (d := d + 8) O78 H214 v47 rd1 q (qx yy0))
        have e1 := (Prod.mk.inj q1).1
        have e2 := (Prod.mk.inj q2).1
        have e3 := (Prod.mk.inj q1).2
        have e4 := (Prod.mk.inj q2).2
        exact fin _ e1 e2 (by rw [e4, e3]; exact R0)
    · have q1 := ax_det ev1 (go_89f (d := d + 9) O40 O48 v2 H87 q)
      have q2 := ax_det ev2 (go_215f (d := d + 8) O78 H214 q)
      have e1 := (Prod.mk.inj q1).1
      have e2 := (Prod.mk.inj q2).1
      have e3 := (Prod.mk.inj q1).2
      have e4 := (Prod.mk.inj q2).2
      exact fin _ e1 e2 (by rw [e4, e3]; exact R0)
  · have H87 := go_87f (d := d + 9) (p := p) O48 m1 hp
    have H214 := (go_214 (d := d + 8) O78 k35 bm).2 hp
    have q1 := ax_det ev1 (go_89n (a := a) (d := d + 9) O40 O48 v2 H87)
    have q2 := ax_det ev2 (go_215n (a := a) (d := d + 8) O78 H214)
    have e1 := (Prod.mk.inj q1).1
    have e2 := (Prod.mk.inj q2).1
    have e3 := (Prod.mk.inj q1).2
    have e4 := (Prod.mk.inj q2).2
    exact fin _ e1 e2 (by rw [e4, e3]; exact R0)
theorem op_lft (I : cq_Inv none h) (R : rL h) (p a : Int32) : ∃ (x : Int32) (h1 h2 : am_H), am_ev (d + 10) 86 0 (am_ent [.ref 40, .int p, .int a] (am_in 86).2.2.1) [] h (some (.int x), h1) ∧ am_ev (d + 10) 213 0 (am_ent [.ref 78, .int p, .int a] (am_in 213).2.2.1) [] h1 (some (.int x), h2) ∧ cq_Inv none h1 ∧ cq_Inv none h2 ∧ cq_Fr ct_86.2.2.2.1 h h1 ∧ cq_Fr ct_213.2.2.2.1 h1 h2 ∧ (∀ q ∈ ([] : List (Nat × Nat × Nat × Nat)), tT h2 q) ∧ h2.1 ≤ h.1 + 12 ∧ h2.2.1 ≤ h.2.1 + 624 := by
  obtain ⟨m, m1, m2, RP, RD⟩ := R
  have bm := rL_bm I m1
  have lo := I.lo
  obtain ⟨r, h1, ev1, T1', I1, F1, A1, B1⟩ := sp_ap2 (A := 0) (B := 0) ok_86 rfl rfl (by decide +kernel) I (d := d + 10) (Nat.le_trans (by decide +kernel) (Nat.le_add_left 10 d)) p a
  obtain ⟨r', h2, ev2, T2', I2, F2, A2, B2⟩ := sp_ap2 (A := 0) (B := 0) ok_213 rfl rfl (by decide +kernel) I1 (d := d + 10) (Nat.le_trans (by decide +kernel) (Nat.le_add_left 10 d)) p a
  have O40 := ax_o I (c := 40) (k := 11) (by decide +kernel)
  have O48 := ax_o I (c := 48) (k := 7) (by decide +kernel)
  have O78 := ax_o I1 (c := 78) (k := 13) (by decide +kernel)
  have v2 := ax_rf I (c := 40) (j := 2) (k := 48) (by decide +kernel) (by decide +kernel)
  have v0 := ax_rf I (c := 48) (j := 0) (k := 49) (by decide +kernel) (by decide +kernel)
  have A49 := ax_ar I (c := 49) (tc := 8) (n := 80) (by decide) (by decide +kernel)
  have k35 : h1.2.2.2 78 35 = .int m := by rw [lw_frF F1 lo (by decide) (by decide +kernel), m2]
  have kM : ∀ c, 103 ≤ c → c ≤ 113 → ∀ j, h1.2.2.2 c j = h.2.2.2 c j := fun c a1 a2 => by
    have hc : c = 103 ∨ c = 104 ∨ c = 105 ∨ c = 106 ∨ c = 107 ∨ c = 108 ∨ c = 109 ∨ c = 110 ∨ c = 111 ∨ c = 112 ∨ c = 113 := by omega
    rcases hc with rfl | rfl | rfl | rfl | rfl | rfl | rfl | rfl | rfl | rfl | rfl <;> exact lw_frA F1 lo (by decide) (by decide +kernel)
  have fin : ∀ x : Int32, r = some (.int x) → r' = some (.int x) → ∃ (x : Int32) (h1 h2 : am_H), am_ev (d + 10) 86 0 (am_ent [.ref 40, .int p, .int a] (am_in 86).2.2.1) [] h (some (.int x), h1) ∧ am_ev (d + 10) 213 0 (am_ent [.ref 78, .int p, .int a] (am_in 213).2.2.1) [] h1 (some (.int x), h2) ∧ cq_Inv none h1 ∧ cq_Inv none h2 ∧ cq_Fr ct_86.2.2.2.1 h h1 ∧ cq_Fr ct_213.2.2.2.1 h1 h2 ∧ (∀ q ∈ ([] : List (Nat × Nat × Nat × Nat)), tT h2 q) ∧ h2.1 ≤ h.1 + 12 ∧ h2.2.1 ≤ h.2.1 + 624 := fun x e1 e2 => ⟨x, h1, h2, by rw [← e1]; exact ev1, by rw [← e2]; exact ev2, I1, I2, F1, F2, (fun q hq => by cases hq), by omega, by omega⟩
  by_cases hp : 0 ≤ p.toInt ∧ p.toInt < m.toInt
  · obtain ⟨s, z⟩ := RP p.toInt.toNat (by omega)
    obtain ⟨s1, y0, y1, yj, -⟩ := z
    have ko := rL_ob I (k := p.toInt.toNat) (by omega) s1
    have Os := ax_kO ko
    have rd : am_rd h 49 p (fun c => Nat.ble 4 c && am_isA c) = some (.ref s) := by
      rw [ax_rdv A49.1 A49.2 (by decide) (by decide +kernel) hp.1 (by omega), s1]
    have H87 := go_87t (d := d + 9) O48 m1 v0 hp rd
    have H214 := (go_214 (d := d + 8) O78 k35 bm).1 hp
    by_cases hf : 0 ≤ a.toInt ∧ a.toInt ≤ 8
    · have ha : a.toInt = 0 ∨ a.toInt = 1 ∨ a.toInt = 2 ∨ a.toInt = 3 ∨ a.toInt = 4 ∨ a.toInt = 5 ∨ a.toInt = 6 ∨ a.toInt = 7 ∨ a.toInt = 8 := by omega
      rcases ha with e | e | e | e | e | e | e | e | e
      · have e := i_of e (by decide)
        subst e
        obtain ⟨x, ex⟩ := lf_i0 I ko
        have A := ax_ar I1 (c := 103) (tc := 0) (n := 81) (by decide) (by decide +kernel)
        have rd1 : am_rd h1 103 p (fun c => Nat.beq c 0) = some (.int x) := by
          have w : h.2.2.2 s 0 = h.2.2.2 103 p.toInt.toNat := y0
          rw [ax_rdv A.1 A.2 (by decide) (by decide) hp.1 (by omega), kM 103 (by decide) (by decide), ← w, ex]
        exact fin _ (Prod.mk.inj (ax_det ev1 (go_86t (d := d + 9) O40 O48 v2 H87 Os (go_88_0 Os ex)))).1 (Prod.mk.inj (ax_det ev2 (go_213_0 (d := d + 9) O78 H214 (ax_rf I1 (c := 78) (j := 37) (k := 103) (by decide +kernel) (by decide +kernel)) rd1))).1
      · have e := i_of e (by decide)
        subst e
        obtain ⟨x, ex⟩ := lf_i2 I ko
        have A := ax_ar I1 (c := 104) (tc := 0) (n := 81) (by decide) (by decide +kernel)
        have rd1 : am_rd h1 104 p (fun c => Nat.beq c 0) = some (.int x) := by
          have w : h.2.2.2 s 2 = h.2.2.2 104 p.toInt.toNat := yj 2 (by decide) (by decide)
          rw [ax_rdv A.1 A.2 (by decide) (by decide) hp.1 (by omega), kM 104 (by decide) (by decide), ← w, ex]
        exact fin _ (Prod.mk.inj (ax_det ev1 (go_86t (d := d + 9) O40 O48 v2 H87 Os (go_88_1 Os ex)))).1 (Prod.mk.inj (ax_det ev2 (go_213_1 (d := d + 9) O78 H214 (ax_rf I1 (c := 78) (j := 38) (k := 104) (by decide +kernel) (by decide +kernel)) rd1))).1
      · have e := i_of e (by decide)
        subst e
        obtain ⟨x, ex⟩ := lf_i3 I ko
        have A := ax_ar I1 (c := 105) (tc := 0) (n := 81) (by decide) (by decide +kernel)
        have rd1 : am_rd h1 105 p (fun c => Nat.beq c 0) = some (.int x) := by
          have w : h.2.2.2 s 3 = h.2.2.2 105 p.toInt.toNat := yj 3 (by decide) (by decide)
          rw [ax_rdv A.1 A.2 (by decide) (by decide) hp.1 (by omega), kM 105 (by decide) (by decide), ← w, ex]
        exact fin _ (Prod.mk.inj (ax_det ev1 (go_86t (d := d + 9) O40 O48 v2 H87 Os (go_88_2 Os ex)))).1 (Prod.mk.inj (ax_det ev2 (go_213_2 (d := d + 9) O78 H214 (ax_rf I1 (c := 78) (j := 39) (k := 105) (by decide +kernel) (by decide +kernel)) rd1))).1
      · have e := i_of e (by decide)
        subst e
        obtain ⟨x, ex⟩ := lf_i4 I ko
        have A := ax_ar I1 (c := 106) (tc := 0) (n := 81) (by decide) (by decide +kernel)
        have rd1 : am_rd h1 106 p (fun c => Nat.beq c 0) = some (.int x) := by
          have w : h.2.2.2 s 4 = h.2.2.2 106 p.toInt.toNat := yj 4 (by decide) (by decide)
          rw [ax_rdv A.1 A.2 (by decide) (by decide) hp.1 (by omega), kM 106 (by decide) (by decide), ← w, ex]
        exact fin _ (Prod.mk.inj (ax_det ev1 (go_86t (d := d + 9) O40 O48 v2 H87 Os (go_88_3 Os ex)))).1 (Prod.mk.inj (ax_det ev2 (go_213_3 (d := d + 9) O78 H214 (ax_rf I1 (c := 78) (j := 40) (k := 106) (by decide +kernel) (by decide +kernel)) rd1))).1
      · have e := i_of e (by decide)
        subst e
        obtain ⟨x, ex⟩ := lf_i5 I ko
        have A := ax_ar I1 (c := 107) (tc := 0) (n := 81) (by decide) (by decide +kernel)
        have rd1 : am_rd h1 107 p (fun c => Nat.beq c 0) = some (.int x) := by
          have w : h.2.2.2 s 5 = h.2.2.2 107 p.toInt.toNat := yj 5 (by decide) (by decide)
          rw [ax_rdv A.1 A.2 (by decide) (by decide) hp.1 (by omega), kM 107 (by decide) (by decide), ← w, ex]
        exact fin _ (Prod.mk.inj (ax_det ev1 (go_86t (d := d + 9) O40 O48 v2 H87 Os (go_88_4 Os ex)))).1 (Prod.mk.inj (ax_det ev2 (go_213_4 (d := d + 9) O78 H214 (ax_rf I1 (c := 78) (j := 41) (k := 107) (by decide +kernel) (by decide +kernel)) rd1))).1
      · have e := i_of e (by decide)
        subst e
        obtain ⟨x, ex⟩ := lf_i6 I ko
        have A := ax_ar I1 (c := 108) (tc := 0) (n := 81) (by decide) (by decide +kernel)
        have rd1 : am_rd h1 108 p (fun c => Nat.beq c 0) = some (.int x) := by
          have w : h.2.2.2 s 6 = h.2.2.2 108 p.toInt.toNat := yj 6 (by decide) (by decide)
          rw [ax_rdv A.1 A.2 (by decide) (by decide) hp.1 (by omega), kM 108 (by decide) (by decide), ← w, ex]
        exact fin _ (Prod.mk.inj (ax_det ev1 (go_86t (d := d + 9) O40 O48 v2 H87 Os (go_88_5 Os ex)))).1 (Prod.mk.inj (ax_det ev2 (go_213_5 (d := d + 9) O78 H214 (ax_rf I1 (c := 78) (j := 42) (k := 108) (by decide +kernel) (by decide +kernel)) rd1))).1
      · have e := i_of e (by decide)
        subst e
        obtain ⟨x, ex⟩ := lf_i7 I ko
        have A := ax_ar I1 (c := 109) (tc := 0) (n := 81) (by decide) (by decide +kernel)
        have rd1 : am_rd h1 109 p (fun c => Nat.beq c 0) = some (.int x) := by
          have w : h.2.2.2 s 7 = h.2.2.2 109 p.toInt.toNat := yj 7 (by decide) (by decide)
          rw [ax_rdv A.1 A.2 (by decide) (by decide) hp.1 (by omega), kM 109 (by decide) (by decide), ← w, ex]
        exact fin _ (Prod.mk.inj (ax_det ev1 (go_86t (d := d + 9) O40 O48 v2 H87 Os (go_88_6 Os ex)))).1 (Prod.mk.inj (ax_det ev2 (go_213_6 (d := d + 9) O78 H214 (ax_rf I1 (c := 78) (j := 43) (k := 109) (by decide +kernel) (by decide +kernel)) rd1))).1
      · have e := i_of e (by decide)
        subst e
        obtain ⟨x, ex⟩ := lf_i8 I ko
        have A := ax_ar I1 (c := 110) (tc := 0) (n := 81) (by decide) (by decide +kernel)
        have rd1 : am_rd h1 110 p (fun c => Nat.beq c 0) = some (.int x) := by
          have w : h.2.2.2 s 8 = h.2.2.2 110 p.toInt.toNat := yj 8 (by decide) (by decide)
          rw [ax_rdv A.1 A.2 (by decide) (by decide) hp.1 (by omega), kM 110 (by decide) (by decide), ← w, ex]
        exact fin _ (Prod.mk.inj (ax_det ev1 (go_86t (d := d + 9) O40 O48 v2 H87 Os (go_88_7 Os ex)))).1 (Prod.mk.inj (ax_det ev2 (go_213_7 (d := d + 9) O78 H214 (ax_rf I1 (c := 78) (j := 44) (k := 110) (by decide +kernel) (by decide +kernel)) rd1))).1
      · have e := i_of e (by decide)
        subst e
        obtain ⟨x, ex⟩ := lf_i1 I ko
        have A := ax_ar I1 (c := 111) (tc := 0) (n := 81) (by decide) (by decide +kernel)
        have rd1 : am_rd h1 111 p (fun c => Nat.beq c 0) = some (.int x) := by
          have w : h.2.2.2 s 1 = h.2.2.2 111 p.toInt.toNat := y1
          rw [ax_rdv A.1 A.2 (by decide) (by decide) hp.1 (by omega), kM 111 (by decide) (by decide), ← w, ex]
        exact fin _ (Prod.mk.inj (ax_det ev1 (go_86t (d := d + 9) O40 O48 v2 H87 Os (go_88_8 Os ex)))).1 (Prod.mk.inj (ax_det ev2 (go_213_8 (d := d + 9) O78 H214 (ax_rf I1 (c := 78) (j := 45) (k := 111) (by decide +kernel) (by decide +kernel)) rd1))).1
    · have ba : -2147483648 ≤ a.toInt ∧ a.toInt ≤ 2147483647 := ⟨Int32.le_toInt a, by have := Int32.toInt_lt a; omega⟩
      have qa : a.toInt < 0 ∨ 8 < a.toInt := by omega
      have w1 : am_ev (d + 9) 88 0 (am_ent [.ref s, .int a] 2) [] h (some (ax_m (-9)), h) := by
        rw [fx_of a]
        exact go_88_d ba qa
      have u1 : am_ev (d + 10) 213 0 (am_ent [.ref 78, .int p, .int a] 3) [] h1 (some (ax_m (-9)), h1) := by
        rw [fx_of a]
        exact go_213_d (d := d + 9) O78 H214 ba qa
      exact fin _ (Prod.mk.inj (ax_det ev1 (go_86t (d := d + 9) O40 O48 v2 H87 Os w1))).1 (Prod.mk.inj (ax_det ev2 (u1))).1
  · have H87 := go_87f (d := d + 9) (p := p) O48 m1 hp
    have H214 := (go_214 (d := d + 8) O78 k35 bm).2 hp
    exact fin _ (Prod.mk.inj (ax_det ev1 (go_86n (a := a) (d := d + 9) O40 O48 v2 H87))).1 (Prod.mk.inj (ax_det ev2 (go_213_n (a := a) (d := d + 9) O78 H214))).1
def gI (v : Value) : Int32 := match v with
  | .int x => x
  | _ => 0
theorem op_lvo (I : cq_Inv none h) (P : rp_P h) (R : rL h) (p a : Int32) : ∃ (x : Int32) (h1 h2 : am_H), am_ev (d + 10) 98 0 (am_ent [.ref 40, .int p, .int a] (am_in 98).2.2.1) [] h (some (.int x), h1) ∧ am_ev (d + 10) 223 0 (am_ent [.ref 78, .int p, .int a] (am_in 223).2.2.1) [] h1 (some (.int x), h2) ∧ cq_Inv none h1 ∧ cq_Inv none h2 ∧ cq_Fr ct_98.2.2.2.1 h h1 ∧ cq_Fr ct_223.2.2.2.1 h1 h2 ∧ (∀ q ∈ ([] : List (Nat × Nat × Nat × Nat)), tT h2 q) ∧ h2.1 ≤ h.1 + 12 ∧ h2.2.1 ≤ h.2.1 + 624 := by
  obtain ⟨m, m1, m2, RP, RD⟩ := R
  have bm := rL_bm I m1
  obtain ⟨pm, q1, q2, PP, PD⟩ := P
  have bp := rp_bm I q1
  have lo := I.lo
  obtain ⟨r, h1, ev1, T1', I1, F1, A1, B1⟩ := sp_ap2 (A := 0) (B := 0) ok_98 rfl rfl (by decide +kernel) I (d := d + 10) (Nat.le_trans (by decide +kernel) (Nat.le_add_left 10 d)) p a
  obtain ⟨r', h2, ev2, T2', I2, F2, A2, B2⟩ := sp_ap2 (A := 0) (B := 0) ok_223 rfl rfl (by decide +kernel) I1 (d := d + 10) (Nat.le_trans (by decide +kernel) (Nat.le_add_left 10 d)) p a
  have O40 := ax_o I (c := 40) (k := 11) (by decide +kernel)
  have O48 := ax_o I (c := 48) (k := 7) (by decide +kernel)
  have O78 := ax_o I1 (c := 78) (k := 13) (by decide +kernel)
  have v2 := ax_rf I (c := 40) (j := 2) (k := 48) (by decide +kernel) (by decide +kernel)
  have v0 := ax_rf I (c := 48) (j := 0) (k := 49) (by decide +kernel) (by decide +kernel)
  have A49 := ax_ar I (c := 49) (tc := 8) (n := 80) (by decide) (by decide +kernel)
  have k35 : h1.2.2.2 78 35 = .int m := by rw [lw_frF F1 lo (by decide) (by decide +kernel), m2]
  have k16 : h1.2.2.2 78 16 = .int pm := by rw [lw_frF F1 lo (by decide) (by decide +kernel), q2]
  have kM : ∀ c, 103 ≤ c → c ≤ 113 → ∀ j, h1.2.2.2 c j = h.2.2.2 c j := fun c a1 a2 => by
    have hc : c = 103 ∨ c = 104 ∨ c = 105 ∨ c = 106 ∨ c = 107 ∨ c = 108 ∨ c = 109 ∨ c = 110 ∨ c = 111 ∨ c = 112 ∨ c = 113 := by omega
    rcases hc with rfl | rfl | rfl | rfl | rfl | rfl | rfl | rfl | rfl | rfl | rfl <;> exact lw_frA F1 lo (by decide) (by decide +kernel)
  have fin : ∀ x : Int32, r = some (.int x) → r' = some (.int x) → ∃ (x : Int32) (h1 h2 : am_H), am_ev (d + 10) 98 0 (am_ent [.ref 40, .int p, .int a] (am_in 98).2.2.1) [] h (some (.int x), h1) ∧ am_ev (d + 10) 223 0 (am_ent [.ref 78, .int p, .int a] (am_in 223).2.2.1) [] h1 (some (.int x), h2) ∧ cq_Inv none h1 ∧ cq_Inv none h2 ∧ cq_Fr ct_98.2.2.2.1 h h1 ∧ cq_Fr ct_223.2.2.2.1 h1 h2 ∧ (∀ q ∈ ([] : List (Nat × Nat × Nat × Nat)), tT h2 q) ∧ h2.1 ≤ h.1 + 12 ∧ h2.2.1 ≤ h.2.1 + 624 := fun x e1 e2 => ⟨x, h1, h2, by rw [← e1]; exact ev1, by rw [← e2]; exact ev2, I1, I2, F1, F2, (fun q hq => by cases hq), by omega, by omega⟩
  obtain ⟨n, hn⟩ : ∃ n : Nat, m.toInt.toNat = n := ⟨_, rfl⟩
  have G : ∀ i, i < n → ∃ s, h.2.2.2 49 i = .ref s ∧ am_isO h s 4 = true ∧ h.2.2.2 s 0 = .int (gI (h.2.2.2 103 i)) ∧ h.2.2.2 s 1 = .int (gI (h.2.2.2 111 i)) := fun i hi => by
    obtain ⟨s, z1, z2, z3, -⟩ := RP i (by omega)
    have ko := rL_ob I (k := i) (by omega) z1
    obtain ⟨x, ex⟩ := lf_i0 I ko
    obtain ⟨y, ey⟩ := lf_i1 I ko
    refine ⟨s, z1, ax_kO ko, ?_, ?_⟩
    · rw [← z2, ex]
      rfl
    · rw [← z3, ey]
      rfl
  have G1 : ∀ i, i < n → h1.2.2.2 103 i = .int (gI (h.2.2.2 103 i)) ∧ h1.2.2.2 111 i = .int (gI (h.2.2.2 111 i)) := fun i hi => by
    obtain ⟨s, z1, z2, z3, -⟩ := RP i (by omega)
    obtain ⟨s', w1, -, w2, w3⟩ := G i hi
    rw [z1] at w1
    cases w1
    exact ⟨by rw [kM 103 (by decide) (by decide), ← w2, z2], by rw [kM 111 (by decide) (by decide), ← w3, z3]⟩
  by_cases hp : 0 ≤ p.toInt ∧ p.toInt < pm.toInt
  · obtain ⟨s, t, w, s1, -⟩ := PP p.toInt.toNat (by omega)
    have H42 := (po_42 (d := d + 9) I q1 bp).1 hp
    rw [s1] at H42
    have H188 := (po_188 (d := d + 8) O78 k16 bp).1 hp
    by_cases q : 0 ≤ a.toInt ∧ a.toInt ≤ 29999
    · have w1 := go_96 (X := fun i => gI (h.2.2.2 103 i)) (Y := fun i => gI (h.2.2.2 111 i)) (P := p) (D := a) (n := n) (d := d + 9) (fS.of I) (iv_nat m1 bm.1 hn) (by omega) G
      have u1 := go_222 (X := fun i => gI (h.2.2.2 103 i)) (Y := fun i => gI (h.2.2.2 111 i)) (P := p) (D := a) (m := n) (d := d + 9) (fS.of I1) (iv_nat k35 bm.1 hn) (by omega) G1
      exact fin _ (Prod.mk.inj (ax_det ev1 (go_98t (d := d + 9) O40 O48 v2 H42 q w1))).1 (Prod.mk.inj (ax_det ev2 (go_223t (d := d + 8) O78 H188 q u1))).1
    · exact fin _ (Prod.mk.inj (ax_det ev1 (go_98f (d := d + 9) O40 H42 q))).1 (Prod.mk.inj (ax_det ev2 (go_223f (d := d + 8) O78 H188 q))).1
  · have H42 := (po_42 (d := d + 9) I q1 bp).2 hp
    have H188 := (po_188 (d := d + 8) O78 k16 bp).2 hp
    exact fin _ (Prod.mk.inj (ax_det ev1 (go_98n (a := a) (d := d + 9) O40 H42))).1 (Prod.mk.inj (ax_det ev2 (go_223n (a := a) (d := d + 8) O78 H188))).1
end OGO
