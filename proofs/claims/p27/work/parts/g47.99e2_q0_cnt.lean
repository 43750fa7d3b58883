/-! BOOK AND COUNT, both sides -/
section BKC
variable {h : am_H} {d : Nat} {x y : Int} {p a : Int32}
theorem bk_100t (r : -2147483648 ≤ x ∧ x ≤ 2147483647) (q : 1 ≤ x ∧ x ≤ 63) : am_ev d 100 0 (am_ent [iv (x)] 1) [] h (some (iv 1), h) := by
  show am_ev d 100 0 [iv (x)] [] h _
  refine am_ev.step (pc' := 1) rfl rfl ?_
  refine am_ev.step (pc' := 2) rfl rfl ?_
  refine fx_c_lt (pT := 15) (pF := 5) rfl (by omega) (by omega) rfl rfl (fun c1 => ?_) (fun c1 => ?_)
  · refine am_ev.step (pc' := 16) rfl rfl ?_
    exfalso
    omega
  · refine am_ev.step (pc' := 6) rfl rfl ?_
    refine fx_bip (p' := 8) rfl rfl rfl ?_
    refine fx_c_gt (pT := 15) (pF := 11) rfl (by omega) (by omega) rfl rfl (fun c2 => ?_) (fun c2 => ?_)
    · refine am_ev.step (pc' := 16) rfl rfl ?_
      exfalso
      omega
    · refine am_ev.step (pc' := 12) rfl rfl ?_
      refine am_ev.step (pc' := 16) rfl rfl ?_
      exact fx_reti rfl rfl rfl
theorem bk_100f (r : -2147483648 ≤ x ∧ x ≤ 2147483647) (q : ¬ (1 ≤ x ∧ x ≤ 63)) : am_ev d 100 0 (am_ent [iv (x)] 1) [] h (some (iv 0), h) := by
  show am_ev d 100 0 [iv (x)] [] h _
  refine am_ev.step (pc' := 1) rfl rfl ?_
  refine am_ev.step (pc' := 2) rfl rfl ?_
  refine fx_c_lt (pT := 15) (pF := 5) rfl (by omega) (by omega) rfl rfl (fun c1 => ?_) (fun c1 => ?_)
  · refine am_ev.step (pc' := 16) rfl rfl ?_
    exact fx_reti rfl rfl rfl
  · refine am_ev.step (pc' := 6) rfl rfl ?_
    refine fx_bip (p' := 8) rfl rfl rfl ?_
    refine fx_c_gt (pT := 15) (pF := 11) rfl (by omega) (by omega) rfl rfl (fun c2 => ?_) (fun c2 => ?_)
    · refine am_ev.step (pc' := 16) rfl rfl ?_
      exact fx_reti rfl rfl rfl
    · refine am_ev.step (pc' := 12) rfl rfl ?_
      refine am_ev.step (pc' := 16) rfl rfl ?_
      exfalso
      omega
theorem bk_39t (r : -2147483648 ≤ x ∧ x ≤ 2147483647) (q : 0 ≤ x ∧ x ≤ 29999) : am_ev d 39 0 (am_ent [iv (x), iv 29999] 2) [] h (some (iv 1), h) := by
  show am_ev d 39 0 [iv (x), iv 29999] [] h _
  refine am_ev.step (pc' := 1) rfl rfl ?_
  refine fx_z_lt (pT := 13) (pF := 4) rfl (by omega) rfl rfl (fun c1 => ?_) (fun c1 => ?_)
  · refine am_ev.step (pc' := 14) rfl rfl ?_
    exfalso
    omega
  · refine am_ev.step (pc' := 5) rfl rfl ?_
    refine am_ev.step (pc' := 6) rfl rfl ?_
    refine fx_c_gt (pT := 13) (pF := 9) rfl (by omega) (by omega) rfl rfl (fun c2 => ?_) (fun c2 => ?_)
    · refine am_ev.step (pc' := 14) rfl rfl ?_
      exfalso
      omega
    · refine am_ev.step (pc' := 10) rfl rfl ?_
      refine am_ev.step (pc' := 14) rfl rfl ?_
      exact fx_reti rfl rfl rfl
theorem bk_39f (r : -2147483648 ≤ x ∧ x ≤ 2147483647) (q : ¬ (0 ≤ x ∧ x ≤ 29999)) : am_ev d 39 0 (am_ent [iv (x), iv 29999] 2) [] h (some (iv 0), h) := by
  show am_ev d 39 0 [iv (x), iv 29999] [] h _
  refine am_ev.step (pc' := 1) rfl rfl ?_
  refine fx_z_lt (pT := 13) (pF := 4) rfl (by omega) rfl rfl (fun c1 => ?_) (fun c1 => ?_)
  · refine am_ev.step (pc' := 14) rfl rfl ?_
    exact fx_reti rfl rfl rfl
  · refine am_ev.step (pc' := 5) rfl rfl ?_
    refine am_ev.step (pc' := 6) rfl rfl ?_
    refine fx_c_gt (pT := 13) (pF := 9) rfl (by omega) (by omega) rfl rfl (fun c2 => ?_) (fun c2 => ?_)
    · refine am_ev.step (pc' := 14) rfl rfl ?_
      exact fx_reti rfl rfl rfl
    · refine am_ev.step (pc' := 10) rfl rfl ?_
      refine am_ev.step (pc' := 14) rfl rfl ?_
      exfalso
      omega
theorem bk_216t (r : -2147483648 ≤ x ∧ x ≤ 2147483647) (q : 0 ≤ x ∧ x ≤ 29999) : am_ev (d + 1) 216 0 (am_ent [iv x] 1) [] h (some (iv 1), h) := by
  show am_ev (d + 1) 216 0 [iv x] [] h _
  refine am_ev.step (pc' := 1) rfl rfl ?_
  refine am_ev.step (pc' := 2) rfl rfl ?_
  refine am_ev.step (pc' := 3) rfl rfl ?_
  refine am_ev.step (pc' := 6) rfl rfl ?_
  refine ax_call (z := 165) (p' := 9) (as := [_, _, _]) rfl (Or.inl ⟨_, rfl⟩) rfl rfl rfl rfl rfl rfl rfl rfl ((md_inN (l := 0) (g := 29999) (by decide) (by decide) r).1 q) rfl ?_
  exact fx_reti rfl rfl rfl
theorem bk_216f (r : -2147483648 ≤ x ∧ x ≤ 2147483647) (q : ¬ (0 ≤ x ∧ x ≤ 29999)) : am_ev (d + 1) 216 0 (am_ent [iv x] 1) [] h (some (iv 0), h) := by
  show am_ev (d + 1) 216 0 [iv x] [] h _
  refine am_ev.step (pc' := 1) rfl rfl ?_
  refine am_ev.step (pc' := 2) rfl rfl ?_
  refine am_ev.step (pc' := 3) rfl rfl ?_
  refine am_ev.step (pc' := 6) rfl rfl ?_
  refine ax_call (z := 165) (p' := 9) (as := [_, _, _]) rfl (Or.inl ⟨_, rfl⟩) rfl rfl rfl rfl rfl rfl rfl rfl ((md_inN (l := 0) (g := 29999) (by decide) (by decide) r).2 q) rfl ?_
  exact fx_reti rfl rfl rfl
theorem bk_99t (S : fS h) (r : -2147483648 ≤ x ∧ x ≤ 2147483647) (r2 : -2147483648 ≤ y ∧ y ≤ 2147483647) (q : 1 ≤ x ∧ x ≤ 63) (q2 : 0 ≤ y ∧ y ≤ 29999) : am_ev (d + 1) 99 0 (am_ent [.ref 40, iv (x), iv (y)] 3) [] h (some (iv 1), (am_put (am_put h 40 10 (iv (x))) 40 11 (iv (y)))) := by
  show am_ev (d + 1) 99 0 [.ref 40, iv (x), iv (y)] [] h _
  refine am_ev.step (pc' := 1) rfl rfl ?_
  refine ax_call (z := 100) (p' := 4) (as := [_]) rfl (Or.inl ⟨_, rfl⟩) rfl rfl rfl rfl rfl rfl rfl rfl (bk_100t r q) rfl ?_
  refine fx_z_eq_F (pF := 7) rfl (by omega) rfl (by omega) ?_
  refine am_ev.step (pc' := 8) rfl rfl ?_
  refine fx_sip (p' := 11) rfl rfl rfl ?_
  refine ax_call (z := 39) (p' := 14) (as := [_, _]) rfl (Or.inl ⟨_, rfl⟩) rfl rfl rfl rfl rfl rfl rfl rfl (bk_39t r2 q2) rfl ?_
  refine fx_z_ne_T (pT := 20) rfl (by omega) rfl (by omega) ?_
  refine am_ev.step (pc' := 21) rfl rfl ?_
  refine am_ev.step (pc' := 22) rfl rfl ?_
  refine ax_pf (p' := 25) rfl rfl (S.ob rfl) rfl ?_
  refine am_ev.step (pc' := 26) rfl rfl ?_
  refine am_ev.step (pc' := 27) rfl rfl ?_
  refine ax_pf (p' := 30) rfl rfl (fO (S.ob rfl)) rfl ?_
  refine am_ev.step (pc' := 31) rfl rfl ?_
  exact fx_reti rfl rfl rfl
theorem bk_99a (S : fS h) (r : -2147483648 ≤ x ∧ x ≤ 2147483647) (r2 : -2147483648 ≤ y ∧ y ≤ 2147483647) (q : ¬ (1 ≤ x ∧ x ≤ 63)) : am_ev (d + 1) 99 0 (am_ent [.ref 40, iv (x), iv (y)] 3) [] h (some (iv (-2)), h) := by
  show am_ev (d + 1) 99 0 [.ref 40, iv (x), iv (y)] [] h _
  refine am_ev.step (pc' := 1) rfl rfl ?_
  refine ax_call (z := 100) (p' := 4) (as := [_]) rfl (Or.inl ⟨_, rfl⟩) rfl rfl rfl rfl rfl rfl rfl rfl (bk_100f r q) rfl ?_
  refine fx_z_eq_T (pT := 17) rfl (by omega) rfl (by omega) ?_
  refine fx_bip (p' := 19) rfl rfl rfl ?_
  exact fx_reti rfl rfl rfl
theorem bk_99b (S : fS h) (r : -2147483648 ≤ x ∧ x ≤ 2147483647) (r2 : -2147483648 ≤ y ∧ y ≤ 2147483647) (q : 1 ≤ x ∧ x ≤ 63) (q2 : ¬ (0 ≤ y ∧ y ≤ 29999)) : am_ev (d + 1) 99 0 (am_ent [.ref 40, iv (x), iv (y)] 3) [] h (some (iv (-2)), h) := by
  show am_ev (d + 1) 99 0 [.ref 40, iv (x), iv (y)] [] h _
  refine am_ev.step (pc' := 1) rfl rfl ?_
  refine ax_call (z := 100) (p' := 4) (as := [_]) rfl (Or.inl ⟨_, rfl⟩) rfl rfl rfl rfl rfl rfl rfl rfl (bk_100t r q) rfl ?_
  refine fx_z_eq_F (pF := 7) rfl (by omega) rfl (by omega) ?_
  refine am_ev.step (pc' := 8) rfl rfl ?_
  refine fx_sip (p' := 11) rfl rfl rfl ?_
  refine ax_call (z := 39) (p' := 14) (as := [_, _]) rfl (Or.inl ⟨_, rfl⟩) rfl rfl rfl rfl rfl rfl rfl rfl (bk_39f r2 q2) rfl ?_
  refine fx_z_ne_F (pF := 17) rfl (by omega) rfl (by omega) ?_
  refine fx_bip (p' := 19) rfl rfl rfl ?_
  exact fx_reti rfl rfl rfl
theorem bk_224t (S : fS h) (r : -2147483648 ≤ x ∧ x ≤ 2147483647) (r2 : -2147483648 ≤ y ∧ y ≤ 2147483647) (q : 1 ≤ x ∧ x ≤ 63) (q2 : 0 ≤ y ∧ y ≤ 29999) : am_ev (d + 2) 224 0 (am_ent [.ref 78, iv (x), iv (y)] 3) [] h (some (iv 1), (am_put (am_put h 78 51 (iv (x))) 78 52 (iv (y)))) := by
  show am_ev (d + 2) 224 0 [.ref 78, iv (x), iv (y)] [] h _
  refine am_ev.step (pc' := 1) rfl rfl ?_
  refine am_ev.step (pc' := 2) rfl rfl ?_
  refine am_ev.step (pc' := 3) rfl rfl ?_
  refine am_ev.step (pc' := 6) rfl rfl ?_
  refine ax_call (z := 165) (p' := 9) (as := [_, _, _]) rfl (Or.inl ⟨_, rfl⟩) rfl rfl rfl rfl rfl rfl rfl rfl ((md_inN (l := 1) (g := 63) (by decide) (by decide) r).1 q) rfl ?_
  refine fx_z_eq_F (pF := 12) rfl (by omega) rfl (by omega) ?_
  refine am_ev.step (pc' := 13) rfl rfl ?_
  refine ax_call (z := 216) (p' := 16) (as := [_]) rfl (Or.inl ⟨_, rfl⟩) rfl rfl rfl rfl rfl rfl rfl rfl (bk_216t r2 q2) rfl ?_
  refine fx_z_ne_T (pT := 22) rfl (by omega) rfl (by omega) ?_
  refine am_ev.step (pc' := 23) rfl rfl ?_
  refine am_ev.step (pc' := 24) rfl rfl ?_
  refine ax_pf (p' := 27) rfl rfl (S.ob rfl) rfl ?_
  refine am_ev.step (pc' := 28) rfl rfl ?_
  refine am_ev.step (pc' := 29) rfl rfl ?_
  refine ax_pf (p' := 32) rfl rfl (fO (S.ob rfl)) rfl ?_
  refine am_ev.step (pc' := 33) rfl rfl ?_
  exact fx_reti rfl rfl rfl
theorem bk_224a (S : fS h) (r : -2147483648 ≤ x ∧ x ≤ 2147483647) (r2 : -2147483648 ≤ y ∧ y ≤ 2147483647) (q : ¬ (1 ≤ x ∧ x ≤ 63)) : am_ev (d + 2) 224 0 (am_ent [.ref 78, iv (x), iv (y)] 3) [] h (some (iv (-2)), h) := by
  show am_ev (d + 2) 224 0 [.ref 78, iv (x), iv (y)] [] h _
  refine am_ev.step (pc' := 1) rfl rfl ?_
  refine am_ev.step (pc' := 2) rfl rfl ?_
  refine am_ev.step (pc' := 3) rfl rfl ?_
  refine am_ev.step (pc' := 6) rfl rfl ?_
  refine ax_call (z := 165) (p' := 9) (as := [_, _, _]) rfl (Or.inl ⟨_, rfl⟩) rfl rfl rfl rfl rfl rfl rfl rfl ((md_inN (l := 1) (g := 63) (by decide) (by decide) r).2 q) rfl ?_
  refine fx_z_eq_T (pT := 19) rfl (by omega) rfl (by omega) ?_
  refine fx_bip (p' := 21) rfl rfl rfl ?_
  exact fx_reti rfl rfl rfl
theorem bk_224b (S : fS h) (r : -2147483648 ≤ x ∧ x ≤ 2147483647) (r2 : -2147483648 ≤ y ∧ y ≤ 2147483647) (q : 1 ≤ x ∧ x ≤ 63) (q2 : ¬ (0 ≤ y ∧ y ≤ 29999)) : am_ev (d + 2) 224 0 (am_ent [.ref 78, iv (x), iv (y)] 3) [] h (some (iv (-2)), h) := by
  show am_ev (d + 2) 224 0 [.ref 78, iv (x), iv (y)] [] h _
  refine am_ev.step (pc' := 1) rfl rfl ?_
  refine am_ev.step (pc' := 2) rfl rfl ?_
  refine am_ev.step (pc' := 3) rfl rfl ?_
  refine am_ev.step (pc' := 6) rfl rfl ?_
  refine ax_call (z := 165) (p' := 9) (as := [_, _, _]) rfl (Or.inl ⟨_, rfl⟩) rfl rfl rfl rfl rfl rfl rfl rfl ((md_inN (l := 1) (g := 63) (by decide) (by decide) r).1 q) rfl ?_
  refine fx_z_eq_F (pF := 12) rfl (by omega) rfl (by omega) ?_
  refine am_ev.step (pc' := 13) rfl rfl ?_
  refine ax_call (z := 216) (p' := 16) (as := [_]) rfl (Or.inl ⟨_, rfl⟩) rfl rfl rfl rfl rfl rfl rfl rfl (bk_216f r2 q2) rfl ?_
  refine fx_z_ne_F (pF := 19) rfl (by omega) rfl (by omega) ?_
  refine fx_bip (p' := 21) rfl rfl rfl ?_
  exact fx_reti rfl rfl rfl
/-- the book's lands and day on both sides -/
def rB (h : am_H) : Prop := h.2.2.2 40 10 = h.2.2.2 78 51 ∧ h.2.2.2 40 11 = h.2.2.2 78 52
def rB_m (m : cq_W) : Bool := lw_nF m 40 10 && lw_nF m 78 51 && lw_nF m 40 11 && lw_nF m 78 52
theorem rB_fr {h h2 : am_H} {m : cq_W} (I : cq_Inv none h) (F : cq_Fr m h h2) (q : rB_m m = true) (X : rB h) : rB h2 := by
  have b1 := (Bool.and_eq_true _ _ ▸ q)
  have b2 := (Bool.and_eq_true _ _ ▸ b1.1)
  have b3 := (Bool.and_eq_true _ _ ▸ b2.1)
  exact ⟨by rw [lw_frF F I.lo (by decide) b3.1, lw_frF F I.lo (by decide) b3.2]; exact X.1, by rw [lw_frF F I.lo (by decide) b2.2, lw_frF F I.lo (by decide) b1.2]; exact X.2⟩
theorem i_rng (x : Int32) : -2147483648 ≤ x.toInt ∧ x.toInt ≤ 2147483647 := ⟨x.le_toInt, by have := x.toInt_lt; omega⟩
theorem op_boo (I : cq_Inv none h) (X : rB h) (p a : Int32) : ∃ (x : Int32) (h1 h2 : am_H), am_ev (d + 10) 99 0 (am_ent [.ref 40, .int p, .int a] (am_in 99).2.2.1) [] h (some (.int x), h1) ∧ am_ev (d + 10) 224 0 (am_ent [.ref 78, .int p, .int a] (am_in 224).2.2.1) [] h1 (some (.int x), h2) ∧ cq_Inv none h1 ∧ cq_Inv none h2 ∧ cq_Fr ct_99.2.2.2.1 h h1 ∧ cq_Fr ct_224.2.2.2.1 h1 h2 ∧ (∀ q ∈ ([] : List (Nat × Nat × Nat × Nat)), tT h2 q) ∧ rB h2 ∧ h2.1 ≤ h.1 + 12 ∧ h2.2.1 ≤ h.2.1 + 624 := by
  have lo := I.lo
  obtain ⟨r, h1, ev1, T1', I1, F1, A1, B1⟩ := sp_ap2 (A := 0) (B := 0) ok_99 rfl rfl (by decide +kernel) I (d := d + 10) (Nat.le_trans (by decide +kernel) (Nat.le_add_left 10 d)) p a
  obtain ⟨r', h2, ev2, T2', I2, F2, A2, B2⟩ := sp_ap2 (A := 0) (B := 0) ok_224 rfl rfl (by decide +kernel) I1 (d := d + 10) (Nat.le_trans (by decide +kernel) (Nat.le_add_left 10 d)) p a
  have S := fS.of I
  have S1 := fS.of I1
  have ep := fx_of p
  have ea := fx_of a
  have rp := i_rng p
  have ra := i_rng a
  have fin : ∀ x : Int32, r = some (.int x) → r' = some (.int x) → rB h2 → ∃ (x : Int32) (h1 h2 : am_H), am_ev (d + 10) 99 0 (am_ent [.ref 40, .int p, .int a] (am_in 99).2.2.1) [] h (some (.int x), h1) ∧ am_ev (d + 10) 224 0 (am_ent [.ref 78, .int p, .int a] (am_in 224).2.2.1) [] h1 (some (.int x), h2) ∧ cq_Inv none h1 ∧ cq_Inv none h2 ∧ cq_Fr ct_99.2.2.2.1 h h1 ∧ cq_Fr ct_224.2.2.2.1 h1 h2 ∧ (∀ q ∈ ([] : List (Nat × Nat × Nat × Nat)), tT h2 q) ∧ rB h2 ∧ h2.1 ≤ h.1 + 12 ∧ h2.2.1 ≤ h.2.1 + 624 := fun x e1 e2 R2 => ⟨x, h1, h2, by rw [← e1]; exact ev1, by rw [← e2]; exact ev2, I1, I2, F1, F2, (fun q hq => by cases hq), R2, by omega, by omega⟩
  have fin' : ∀ e : Int, r = some (iv e) → r' = some (iv e) → rB h2 → _ := fun e => fin (Int32.ofInt e)
  rw [ep, ea] at ev1 ev2
  by_cases q : 1 ≤ p.toInt ∧ p.toInt ≤ 63
  · by_cases q2 : 0 ≤ a.toInt ∧ a.toInt ≤ 29999
    · have z1 := ax_det ev1 (bk_99t (d := d + 9) S rp ra q q2)
      have z2 := ax_det ev2 (bk_224t (d := d + 8) S1 rp ra q q2)
      have e3 := (Prod.mk.inj z1).2
      have e4 := (Prod.mk.inj z2).2
      refine fin' 1 (Prod.mk.inj z1).1 (Prod.mk.inj z2).1 ⟨?_, ?_⟩
      · rw [lw_frF F2 I1.lo (by decide) (by decide +kernel), e4, e3]
        exact Eq.trans (ax_put_o (Or.inr (by decide)) (ax_put_s _ _ _)) (Eq.symm (ax_put_o (Or.inr (by decide)) (ax_put_s _ _ _)))
      · rw [lw_frF F2 I1.lo (by decide) (by decide +kernel), e4, e3]
        exact Eq.trans (ax_put_s _ _ _) (Eq.symm (ax_put_s _ _ _))
    · have z1 := ax_det ev1 (bk_99b (d := d + 9) S rp ra q q2)
      have z2 := ax_det ev2 (bk_224b (d := d + 8) S1 rp ra q q2)
      refine fin' (-2) (Prod.mk.inj z1).1 (Prod.mk.inj z2).1 ?_
      rw [(Prod.mk.inj z2).2, (Prod.mk.inj z1).2]
      exact X
  · have z1 := ax_det ev1 (bk_99a (d := d + 9) S rp ra q)
    have z2 := ax_det ev2 (bk_224a (d := d + 8) S1 rp ra q)
    refine fin' (-2) (Prod.mk.inj z1).1 (Prod.mk.inj z2).1 ?_
    rw [(Prod.mk.inj z2).2, (Prod.mk.inj z1).2]
    exact X
theorem ct_160_0 (S : fS h) (v : h.2.2.2 40 9 = .int a) : am_ev d 160 0 (am_ent [.ref 40, iv 0] 2) [] h (some (.int a), h) := by
  refine am_ev.step (pc' := 1) rfl rfl ?_
  refine fx_ts (p' := 44) rfl (by decide) (by decide) rfl (by decide) ?_
  refine am_ev.step (pc' := 45) rfl rfl ?_
  refine ax_gf (p' := 48) rfl rfl (S.ob rfl) v ?_
  exact fx_reti rfl rfl rfl
theorem ct_263_0 (S : fS h) (v : h.2.2.2 78 15 = .int a) : am_ev d 263 0 (am_ent [.ref 78, iv 0] 2) [] h (some (.int a), h) := by
  refine am_ev.step (pc' := 1) rfl rfl ?_
  refine fx_ts (p' := 44) rfl (by decide) (by decide) rfl (by decide) ?_
  refine am_ev.step (pc' := 45) rfl rfl ?_
  refine ax_gf (p' := 48) rfl rfl (S.ob rfl) v ?_
  exact fx_reti rfl rfl rfl
theorem ct_160_1 (S : fS h) (v : h.2.2.2 40 8 = .int a) : am_ev d 160 0 (am_ent [.ref 40, iv 1] 2) [] h (some (.int a), h) := by
  refine am_ev.step (pc' := 1) rfl rfl ?_
  refine fx_ts (p' := 49) rfl (by decide) (by decide) rfl (by decide) ?_
  refine am_ev.step (pc' := 50) rfl rfl ?_
  refine ax_gf (p' := 53) rfl rfl (S.ob rfl) v ?_
  exact fx_reti rfl rfl rfl
theorem ct_263_1 (S : fS h) (v : h.2.2.2 78 16 = .int a) : am_ev d 263 0 (am_ent [.ref 78, iv 1] 2) [] h (some (.int a), h) := by
  refine am_ev.step (pc' := 1) rfl rfl ?_
  refine fx_ts (p' := 49) rfl (by decide) (by decide) rfl (by decide) ?_
  refine am_ev.step (pc' := 50) rfl rfl ?_
  refine ax_gf (p' := 53) rfl rfl (S.ob rfl) v ?_
  exact fx_reti rfl rfl rfl
theorem ct_160_2 (S : fS h) (v : h.2.2.2 48 1 = .int a) : am_ev d 160 0 (am_ent [.ref 40, iv 2] 2) [] h (some (.int a), h) := by
  refine am_ev.step (pc' := 1) rfl rfl ?_
  refine fx_ts (p' := 54) rfl (by decide) (by decide) rfl (by decide) ?_
  refine am_ev.step (pc' := 55) rfl rfl ?_
  refine ax_gf (p' := 58) rfl rfl (S.ob rfl) (S.rf rfl rfl) ?_
  refine ax_gf (p' := 61) rfl rfl (S.ob rfl) v ?_
  exact fx_reti rfl rfl rfl
theorem ct_263_2 (S : fS h) (v : h.2.2.2 78 35 = .int a) : am_ev d 263 0 (am_ent [.ref 78, iv 2] 2) [] h (some (.int a), h) := by
  refine am_ev.step (pc' := 1) rfl rfl ?_
  refine fx_ts (p' := 54) rfl (by decide) (by decide) rfl (by decide) ?_
  refine am_ev.step (pc' := 55) rfl rfl ?_
  refine ax_gf (p' := 58) rfl rfl (S.ob rfl) v ?_
  exact fx_reti rfl rfl rfl
theorem ct_160_3 (S : fS h) (v : h.2.2.2 40 13 = .int a) : am_ev d 160 0 (am_ent [.ref 40, iv 3] 2) [] h (some (.int a), h) := by
  refine am_ev.step (pc' := 1) rfl rfl ?_
  refine fx_ts (p' := 62) rfl (by decide) (by decide) rfl (by decide) ?_
  refine am_ev.step (pc' := 63) rfl rfl ?_
  refine ax_gf (p' := 66) rfl rfl (S.ob rfl) v ?_
  exact fx_reti rfl rfl rfl
theorem ct_263_3 (S : fS h) (v : h.2.2.2 78 53 = .int a) : am_ev d 263 0 (am_ent [.ref 78, iv 3] 2) [] h (some (.int a), h) := by
  refine am_ev.step (pc' := 1) rfl rfl ?_
  refine fx_ts (p' := 59) rfl (by decide) (by decide) rfl (by decide) ?_
  refine am_ev.step (pc' := 60) rfl rfl ?_
  refine ax_gf (p' := 63) rfl rfl (S.ob rfl) v ?_
  exact fx_reti rfl rfl rfl
theorem ct_160_4 (S : fS h) (v : h.2.2.2 41 1 = .int a) : am_ev d 160 0 (am_ent [.ref 40, iv 4] 2) [] h (some (.int a), h) := by
  refine am_ev.step (pc' := 1) rfl rfl ?_
  refine fx_ts (p' := 67) rfl (by decide) (by decide) rfl (by decide) ?_
  refine am_ev.step (pc' := 68) rfl rfl ?_
  refine ax_gf (p' := 71) rfl rfl (S.ob rfl) (S.rf rfl rfl) ?_
  refine ax_gf (p' := 74) rfl rfl (S.ob rfl) v ?_
  exact fx_reti rfl rfl rfl
theorem ct_263_4 (S : fS h) (v : h.2.2.2 78 2 = .int a) : am_ev d 263 0 (am_ent [.ref 78, iv 4] 2) [] h (some (.int a), h) := by
  refine am_ev.step (pc' := 1) rfl rfl ?_
  refine fx_ts (p' := 64) rfl (by decide) (by decide) rfl (by decide) ?_
  refine am_ev.step (pc' := 65) rfl rfl ?_
  refine ax_gf (p' := 68) rfl rfl (S.ob rfl) v ?_
  exact fx_reti rfl rfl rfl
theorem ct_160_5 (S : fS h) (v : h.2.2.2 40 10 = .int a) : am_ev d 160 0 (am_ent [.ref 40, iv 5] 2) [] h (some (.int a), h) := by
  refine am_ev.step (pc' := 1) rfl rfl ?_
  refine fx_ts (p' := 75) rfl (by decide) (by decide) rfl (by decide) ?_
  refine am_ev.step (pc' := 76) rfl rfl ?_
  refine ax_gf (p' := 79) rfl rfl (S.ob rfl) v ?_
  exact fx_reti rfl rfl rfl
theorem ct_263_5 (S : fS h) (v : h.2.2.2 78 51 = .int a) : am_ev d 263 0 (am_ent [.ref 78, iv 5] 2) [] h (some (.int a), h) := by
  refine am_ev.step (pc' := 1) rfl rfl ?_
  refine fx_ts (p' := 69) rfl (by decide) (by decide) rfl (by decide) ?_
  refine am_ev.step (pc' := 70) rfl rfl ?_
  refine ax_gf (p' := 73) rfl rfl (S.ob rfl) v ?_
  exact fx_reti rfl rfl rfl
theorem ct_160_6 (S : fS h) (v : h.2.2.2 40 11 = .int a) : am_ev d 160 0 (am_ent [.ref 40, iv 6] 2) [] h (some (.int a), h) := by
  refine am_ev.step (pc' := 1) rfl rfl ?_
  refine fx_ts (p' := 80) rfl (by decide) (by decide) rfl (by decide) ?_
  refine am_ev.step (pc' := 81) rfl rfl ?_
  refine ax_gf (p' := 84) rfl rfl (S.ob rfl) v ?_
  exact fx_reti rfl rfl rfl
theorem ct_263_6 (S : fS h) (v : h.2.2.2 78 52 = .int a) : am_ev d 263 0 (am_ent [.ref 78, iv 6] 2) [] h (some (.int a), h) := by
  refine am_ev.step (pc' := 1) rfl rfl ?_
  refine fx_ts (p' := 74) rfl (by decide) (by decide) rfl (by decide) ?_
  refine am_ev.step (pc' := 75) rfl rfl ?_
  refine ax_gf (p' := 78) rfl rfl (S.ob rfl) v ?_
  exact fx_reti rfl rfl rfl
theorem ct_160_n (r : -2147483648 ≤ x ∧ x ≤ 2147483647) (q : x < 0 ∨ 6 < x) : am_ev d 160 0 (am_ent [.ref 40, iv x] 2) [] h (some (iv (-1)), h) := by
  refine am_ev.step (pc' := 1) rfl rfl ?_
  refine fx_td (p' := 85) rfl r q (by decide) ?_
  refine am_ev.step (pc' := 86) rfl rfl ?_
  exact fx_reti rfl rfl rfl
theorem ct_263_n (r : -2147483648 ≤ x ∧ x ≤ 2147483647) (q : x < 0 ∨ 6 < x) : am_ev d 263 0 (am_ent [.ref 78, iv x] 2) [] h (some (iv (-1)), h) := by
  refine am_ev.step (pc' := 1) rfl rfl ?_
  refine fx_td (p' := 79) rfl r q (by decide) ?_
  refine am_ev.step (pc' := 80) rfl rfl ?_
  exact fx_reti rfl rfl rfl
theorem op_cnt (I : cq_Inv none h) (P : rp_P h) (C : rp_C h) (R : rL h) (B : rB h) (Tt : tT h (41, 1, 78, 2)) (Tc : tT h (40, 9, 78, 15)) (p : Int32) : ∃ (x : Int32) (h1 h2 : am_H), am_ev (d + 10) 160 0 (am_ent [.ref 40, .int p] (am_in 160).2.2.1) [] h (some (.int x), h1) ∧ am_ev (d + 10) 263 0 (am_ent [.ref 78, .int p] (am_in 263).2.2.1) [] h1 (some (.int x), h2) ∧ cq_Inv none h1 ∧ cq_Inv none h2 ∧ cq_Fr ct_160.2.2.2.1 h h1 ∧ cq_Fr ct_263.2.2.2.1 h1 h2 ∧ (∀ q ∈ ([] : List (Nat × Nat × Nat × Nat)), tT h2 q) ∧ h2.1 ≤ h.1 + 12 ∧ h2.2.1 ≤ h.2.1 + 624 := by
  have S := fS.of I
  have fin : ∀ x : Int32, am_ev (d + 10) 160 0 (am_ent [.ref 40, .int p] 2) [] h (some (.int x), h) → am_ev (d + 10) 263 0 (am_ent [.ref 78, .int p] 2) [] h (some (.int x), h) → ∃ (x : Int32) (h1 h2 : am_H), am_ev (d + 10) 160 0 (am_ent [.ref 40, .int p] (am_in 160).2.2.1) [] h (some (.int x), h1) ∧ am_ev (d + 10) 263 0 (am_ent [.ref 78, .int p] (am_in 263).2.2.1) [] h1 (some (.int x), h2) ∧ cq_Inv none h1 ∧ cq_Inv none h2 ∧ cq_Fr ct_160.2.2.2.1 h h1 ∧ cq_Fr ct_263.2.2.2.1 h1 h2 ∧ (∀ q ∈ ([] : List (Nat × Nat × Nat × Nat)), tT h2 q) ∧ h2.1 ≤ h.1 + 12 ∧ h2.2.1 ≤ h.2.1 + 624 := fun x e1 e2 => ⟨x, h, h, e1, e2, I, I, ct_nil, ct_nil, (fun q hq => by cases hq), by omega, by omega⟩
  by_cases hf : 0 ≤ p.toInt ∧ p.toInt ≤ 6
  · have ha : p.toInt = 0 ∨ p.toInt = 1 ∨ p.toInt = 2 ∨ p.toInt = 3 ∨ p.toInt = 4 ∨ p.toInt = 5 ∨ p.toInt = 6 := by omega
    rcases ha with e | e | e | e | e | e | e
    · have e := i_of e (by decide)
      subst e
      obtain ⟨x, u1, u2⟩ := Tc
      exact fin _ (ct_160_0 (d := d + 10) S u1) (ct_263_0 (d := d + 10) S u2)
    · have e := i_of e (by decide)
      subst e
      obtain ⟨x, u1, u2, -⟩ := P
      exact fin _ (ct_160_1 (d := d + 10) S u1) (ct_263_1 (d := d + 10) S u2)
    · have e := i_of e (by decide)
      subst e
      obtain ⟨x, u1, u2, -⟩ := R
      exact fin _ (ct_160_2 (d := d + 10) S u1) (ct_263_2 (d := d + 10) S u2)
    · have e := i_of e (by decide)
      subst e
      obtain ⟨x, -, u1, u2, -⟩ := C
      exact fin _ (ct_160_3 (d := d + 10) S u1) (ct_263_3 (d := d + 10) S u2)
    · have e := i_of e (by decide)
      subst e
      obtain ⟨x, u1, u2⟩ := Tt
      exact fin _ (ct_160_4 (d := d + 10) S u1) (ct_263_4 (d := d + 10) S u2)
    · have e := i_of e (by decide)
      subst e
      obtain ⟨x, u1, -⟩ := ax_in I (c := 40) (j := 10) (l := -2147483648) (u := 2147483647) (by decide +kernel) (by decide +kernel)
      have u2 := B.1.symm.trans u1
      exact fin _ (ct_160_5 (d := d + 10) S u1) (ct_263_5 (d := d + 10) S u2)
    · have e := i_of e (by decide)
      subst e
      obtain ⟨x, u1, -⟩ := ax_in I (c := 40) (j := 11) (l := -2147483648) (u := 2147483647) (by decide +kernel) (by decide +kernel)
      have u2 := B.2.symm.trans u1
      exact fin _ (ct_160_6 (d := d + 10) S u1) (ct_263_6 (d := d + 10) S u2)
  · rw [fx_of p] at fin ⊢
    exact fin _ (ct_160_n (d := d + 10) (i_rng p) (by omega)) (ct_263_n (d := d + 10) (i_rng p) (by omega))
end BKC
