/-! POEMS AND CANDIDATES: what holds between both sides -/
def rp_P (h : am_H) : Prop := ∃ m : Int32, h.2.2.2 40 8 = .int m ∧ h.2.2.2 78 16 = .int m ∧ (∀ p : Nat, (p : Int) < m.toInt → ∃ (s : Nat) (t w : Int32), h.2.2.2 73 p = .ref s ∧ h.2.2.2 s 0 = .int t ∧ h.2.2.2 86 p = .int t ∧ h.2.2.2 s 4 = .int w ∧ h.2.2.2 90 p = .int w) ∧ (∀ p q : Nat, p < q → (q : Int) < m.toInt → h.2.2.2 73 p ≠ h.2.2.2 73 q)
def rp_C (h : am_H) : Prop := ∃ (n : Int32) (ν : Nat → Int32), h.2.2.2 40 13 = .int n ∧ h.2.2.2 78 53 = .int n ∧ ∀ c : Nat, (c : Int) < n.toInt → (∃ s, h.2.2.2 74 c = .ref s ∧ h.2.2.2 s 0 = .int (ν c)) ∧ h.2.2.2 117 c = .int (ν c)
def rp_Pm (m : cq_W) : Bool := lw_nF m 40 8 && lw_nF m 78 16 && lw_nA m 73 && lw_nA m 86 && lw_nA m 90 && lw_nO m 6 0 && lw_nO m 6 4
def rp_Cm (m : cq_W) : Bool := lw_nF m 40 13 && lw_nF m 78 53 && lw_nA m 74 && lw_nA m 117 && lw_nO m 1 0
section RPF
variable {h h2 : am_H} {m : cq_W}
theorem rp_obj (I : cq_Inv none h) {p s : Nat} (hp : p < 40) (e : h.2.2.2 73 p = .ref s) : cq_kOk h s (0, 6, 0) := by
  have t := ax_ty I (c := 73) (j := p) (t := (5, 0, 0, 6, 0, 0)) (by
    rw [show Nat.blt p (cq_fix 73).2.2 = true from Nat.ble_eq_true_of_le hp]
    decide +kernel) (by
    unfold cq_ty
    rw [show cq_isA 73 = true by decide +kernel, show ((Nat.beq 73 81 || Nat.beq 73 83) && Nat.beq p 1) = false from rfl]
    show cq_ar 73 = _
    decide +kernel)
  rw [e] at t
  rcases t with t | ⟨a, t, k⟩
  · cases t
  · cases t
    exact k
theorem rp_cob (I : cq_Inv none h) {c s : Nat} (hc : c < 14) (e : h.2.2.2 74 c = .ref s) : cq_kOk h s (0, 1, 0) := by
  have t := ax_ty I (c := 74) (j := c) (t := (11, 0, 0, 1, 40, 13)) (by
    rw [show Nat.blt c (cq_fix 74).2.2 = true from Nat.ble_eq_true_of_le hc]
    decide +kernel) (by
    unfold cq_ty
    rw [show cq_isA 74 = true by decide +kernel, show ((Nat.beq 74 81 || Nat.beq 74 83) && Nat.beq c 1) = false from rfl]
    show cq_ar 74 = _
    decide +kernel)
  rw [e] at t
  rcases t with ⟨t, _⟩ | ⟨a, t, k⟩
  · cases t
  · cases t
    exact k
theorem rp_bm (I : cq_Inv none h) {x : Int32} (e : h.2.2.2 40 8 = .int x) : 0 ≤ x.toInt ∧ x.toInt ≤ 40 := by
  obtain ⟨y, ey, a, b⟩ := ax_in I (c := 40) (j := 8) (l := 0) (u := 40) (by decide +kernel) (by decide +kernel)
  rw [e] at ey
  cases ey
  exact ⟨a, b⟩
theorem rp_bn (I : cq_Inv none h) {x : Int32} (e : h.2.2.2 40 13 = .int x) : 0 ≤ x.toInt ∧ x.toInt ≤ 14 := by
  obtain ⟨y, ey, a, b⟩ := ax_in I (c := 40) (j := 13) (l := 0) (u := 14) (by decide +kernel) (by decide +kernel)
  rw [e] at ey
  cases ey
  exact ⟨a, b⟩
theorem rp_Pfr (I : cq_Inv none h) (F : cq_Fr m h h2) (q : rp_Pm m = true) (P : rp_P h) : rp_P h2 := by
  have b1 := (Bool.and_eq_true _ _ ▸ q)
  have b2 := (Bool.and_eq_true _ _ ▸ b1.1)
  have b3 := (Bool.and_eq_true _ _ ▸ b2.1)
  have b4 := (Bool.and_eq_true _ _ ▸ b3.1)
  have b5 := (Bool.and_eq_true _ _ ▸ b4.1)
  have b6 := (Bool.and_eq_true _ _ ▸ b5.1)
  obtain ⟨x, e1, e2, PP, PD⟩ := P
  have bx := rp_bm I e1
  have f73 := lw_frA F I.lo (c := 73) (by decide) b5.2
  refine ⟨x, by rw [lw_frF F I.lo (by decide) b6.1, e1], by rw [lw_frF F I.lo (by decide) b6.2, e2], fun p hp => ?_, fun p q h1 h2 => by rw [f73, f73]; exact PD p q h1 h2⟩
  obtain ⟨s, t, w, k1, k2, k3, k4, k5⟩ := PP p hp
  obtain ⟨o1, o2, o3⟩ := rp_obj I (p := p) (by omega) k1
  exact ⟨s, t, w, by rw [f73, k1], by rw [lw_frO F o1 o2 o3 b2.2, k2], by rw [lw_frA F I.lo (by decide) b4.2, k3], by rw [lw_frO F o1 o2 o3 b1.2, k4], by rw [lw_frA F I.lo (by decide) b3.2, k5]⟩
theorem rp_Cfr (I : cq_Inv none h) (F : cq_Fr m h h2) (q : rp_Cm m = true) (C : rp_C h) : rp_C h2 := by
  have b1 := (Bool.and_eq_true _ _ ▸ q)
  have b2 := (Bool.and_eq_true _ _ ▸ b1.1)
  have b3 := (Bool.and_eq_true _ _ ▸ b2.1)
  have b4 := (Bool.and_eq_true _ _ ▸ b3.1)
  obtain ⟨x, ν, e1, e2, CC⟩ := C
  have bx := rp_bn I e1
  refine ⟨x, ν, by rw [lw_frF F I.lo (by decide) b4.1, e1], by rw [lw_frF F I.lo (by decide) b4.2, e2], fun c hc => ?_⟩
  obtain ⟨⟨s, k1, k2⟩, k3⟩ := CC c hc
  obtain ⟨o1, o2, o3⟩ := rp_cob I (c := c) (by omega) k1
  exact ⟨⟨s, by rw [lw_frA F I.lo (by decide) b3.2, k1], by rw [lw_frO F o1 o2 o3 b1.2, k2]⟩, by rw [lw_frA F I.lo (by decide) b2.2, k3]⟩
end RPF
theorem ax_p1 {m : Int32} (h : 0 ≤ m.toInt ∧ m.toInt < 100) : (m + Int32.ofInt 1).toInt = m.toInt + 1 := ax_1 (by omega)
/-- what a call that changes them leaves -/
def rp_O (h h1 h2 : am_H) (m1 m2 : cq_W) : Prop := cq_Inv none h1 ∧ cq_Inv none h2 ∧ cq_Fr m1 h h1 ∧ cq_Fr m2 h1 h2 ∧ rp_P h2 ∧ rp_C h2 ∧ h2.1 ≤ h.1 + 12 ∧ h2.2.1 ≤ h.2.1 + 624
section OPC
variable {h : am_H} {d : Nat} {p : Int32}
theorem op_can (I : cq_Inv none h) (P : rp_P h) (C : rp_C h) : ∃ (a : Int32) (h1 h2 : am_H), am_ev (d + 2) 101 0 (am_ent [.ref 40, .int p] (am_in 101).2.2.1) [] h (some (.int a), h1) ∧ am_ev (d + 2) 225 0 (am_ent [.ref 78, .int p] (am_in 225).2.2.1) [] h1 (some (.int a), h2) ∧ rp_O h h1 h2 ct_101.2.2.2.1 ct_225.2.2.2.1 := by
  have P0 := P
  have C0 := C
  obtain ⟨m, m1, m2, PP, PD⟩ := P
  obtain ⟨n, ν, n1, n2, CC⟩ := C
  have bm := rp_bm I m1
  have bn := rp_bn I n1
  have lo := I.lo
  obtain ⟨r, h1, ev1, T1, I1, F1, A1, B1⟩ := sp_ap1 (A := 1) (B := 8) ok_101 rfl rfl (by decide +kernel) I (d := d + 2) (by show 2 ≤ d + 2; omega) p
  obtain ⟨r', h2, ev2, T2, I2, F2, A2, B2⟩ := sp_ap1 (A := 0) (B := 0) ok_225 rfl rfl (by decide +kernel) I1 (d := d + 2) (by show 2 ≤ d + 2; omega) p
  have O40 := ax_o I (c := 40) (k := 11) (by decide +kernel)
  have O78 := ax_o I1 (c := 78) (k := 13) (by decide +kernel)
  have k16 : h1.2.2.2 78 16 = .int m := by rw [lw_frF F1 lo (by decide) (by decide +kernel), m2]
  have k53 : h1.2.2.2 78 53 = .int n := by rw [lw_frF F1 lo (by decide) (by decide +kernel), n2]
  have k117 : ∀ j, h1.2.2.2 117 j = h.2.2.2 117 j := lw_frA F1 lo (by decide) (by decide +kernel)
  have P1 : rp_P h1 := rp_Pfr I F1 (by decide +kernel) P0
  have P2 : rp_P h2 := rp_Pfr I1 F2 (by decide +kernel) P1
  have z0 : (Int32.ofInt 0).toInt = 0 := by decide
  have fin : ∀ a : Int32, r = some (.int a) → r' = some (.int a) → rp_C h2 → ∃ (a : Int32) (h1 h2 : am_H), am_ev (d + 2) 101 0 (am_ent [.ref 40, .int p] (am_in 101).2.2.1) [] h (some (.int a), h1) ∧ am_ev (d + 2) 225 0 (am_ent [.ref 78, .int p] (am_in 225).2.2.1) [] h1 (some (.int a), h2) ∧ rp_O h h1 h2 ct_101.2.2.2.1 ct_225.2.2.2.1 := fun a e1 e2 C2 => ⟨a, h1, h2, by rw [← e1]; exact ev1, by rw [← e2]; exact ev2, I1, I2, F1, F2, P2, C2, by omega, by omega⟩
  by_cases hp : 0 ≤ p.toInt ∧ p.toInt < m.toInt
  · obtain ⟨s, t, w, s1, -⟩ := PP p.toInt.toNat (by omega)
    have H42 := (po_42 (d := d + 1) I m1 bm).1 hp
    rw [s1] at H42
    have H188 := (po_188 (d := d) O78 k16 bm).1 hp
    have top : ∀ x, am_ev (d + 2) 101 15 [.ref 40, .int p, .ref s, .int (Int32.ofInt 0)] [] h x → am_ev (d + 2) 101 0 (am_ent [.ref 40, .int p] (am_in 101).2.2.1) [] h x := fun x q => by
      refine am_ev.step (pc' := 1) rfl rfl ?_
      refine am_ev.step (pc' := 2) rfl rfl ?_
      refine ax_call (z := 42) (p' := 5) (as := [_, _]) rfl (Or.inr (Or.inl ⟨_, rfl⟩)) rfl rfl rfl rfl rfl rfl O40 rfl H42 rfl ?_
      refine am_ev.step (pc' := 6) rfl rfl ?_
      refine am_ev.step (pc' := 7) rfl rfl ?_
      refine am_ev.step (pc' := 13) rfl rfl ?_
      refine am_ev.step (pc' := 14) rfl rfl ?_
      refine am_ev.step (pc' := 15) rfl rfl ?_
      exact q
    have top2 : ∀ x, am_ev (d + 2) 225 13 [.ref 78, .int p, .int (Int32.ofInt 0)] [] h1 x → am_ev (d + 2) 225 0 (am_ent [.ref 78, .int p] (am_in 225).2.2.1) [] h1 x := fun x q => by
      refine am_ev.step (pc' := 1) rfl rfl ?_
      refine am_ev.step (pc' := 2) rfl rfl ?_
      refine ax_call (z := 188) (p' := 5) (as := [_, _]) rfl (Or.inr (Or.inl ⟨_, rfl⟩)) rfl rfl rfl rfl rfl rfl O78 rfl H188 rfl ?_
      refine ax_z_ne_T (p' := 11) rfl rfl (by decide : ¬ Int32.ofInt 1 = 0) ?_
      refine am_ev.step (pc' := 12) rfl rfl ?_
      refine am_ev.step (pc' := 13) rfl rfl ?_
      exact q
    have v12 := ax_rf I (c := 40) (j := 12) (k := 74) (by decide +kernel) (by decide +kernel)
    have v56 := ax_rf I1 (c := 78) (j := 56) (k := 117) (by decide +kernel) (by decide +kernel)
    have A74 := ax_ar I (c := 74) (tc := 5) (n := 14) (by decide) (by decide +kernel)
    have A117 := ax_ar I1 (c := 117) (tc := 0) (n := 14) (by decide) (by decide +kernel)
    have L1 := ca_101 (d := d + 2) (p := p) (pm := s) (ν := ν) O40 n1 v12 A74 bn.2 (fun c hc => by
      obtain ⟨⟨s, k1, k2⟩, -⟩ := CC c hc
      exact ⟨s, k1, ax_kO (rp_cob I (c := c) (by omega) k1), k2⟩) 14 (Int32.ofInt 0) (by omega) (by omega) (by omega)
    have L2 := ca_225 (d := d + 2) (p := p) (ν := ν) O78 k53 v56 A117 bn.2 (fun c hc => by rw [k117, (CC c hc).2]) 14 (Int32.ofInt 0) (by omega) (by omega) (by omega)
    by_cases hf : ∃ j : Nat, (Int32.ofInt 0).toInt ≤ j ∧ (j : Int) < n.toInt ∧ ν j = p
    · have q1 := ax_det ev1 (top _ (L1.1 hf))
      have q2 := ax_det ev2 (top2 _ (L2.1 hf))
      have e1 := (Prod.mk.inj q1).1
      have e2 := (Prod.mk.inj q2).1
      have e3 := (Prod.mk.inj q1).2
      have e4 := (Prod.mk.inj q2).2
      exact fin _ e1 e2 (by rw [e4, e3]; exact C0)
    · have hf' : ∀ j : Nat, (Int32.ofInt 0).toInt ≤ j → (j : Int) < n.toInt → ν j ≠ p := fun j a b c => hf ⟨j, a, b, c⟩
      by_cases hn : n.toInt < 14
      · obtain ⟨g, w1, w2, w3, w4, w5⟩ := ca_101d (d := d) (p := p) (pm := s) I n1 ⟨bn.1, hn⟩
        obtain ⟨g', u1, u2, u3, u4⟩ := ca_225d (d := d + 2) (p := p) I1 k53 ⟨bn.1, hn⟩
        have q1 := ax_det ev1 (top _ (L1.2 _ hf' w1))
        have q2 := ax_det ev2 (top2 _ (L2.2 _ hf' u1))
        have e1 := (Prod.mk.inj q1).1
        have e2 := (Prod.mk.inj q2).1
        have e3 := (Prod.mk.inj q1).2
        have e4 := (Prod.mk.inj q2).2
        refine fin _ e1 e2 ?_
        have np := ax_p1 (m := n) ⟨bn.1, by omega⟩
        have f1 : ∀ c j, c < 130 → lw_nF ct_225.2.2.2.1 c j = true → h2.2.2.2 c j = h1.2.2.2 c j := fun c j hc q => lw_frF F2 I1.lo hc q
        have f74 := lw_frA F2 I1.lo (c := 74) (by decide) (by decide +kernel)
        refine ⟨n + Int32.ofInt 1, fun c => if c = n.toInt.toNat then p else ν c, ?_, ?_, fun c hc => ⟨?_, ?_⟩⟩
        · rw [f1 40 13 (by decide) (by decide +kernel), e3]
          exact w2
        · rw [e4]
          exact u2
        · by_cases ec : c = n.toInt.toNat
          · dsimp only
            rw [if_pos ec, ec]
            refine ⟨h.1, by rw [f74, e3]; exact w3, ?_⟩
            obtain ⟨o1, o2, o3⟩ := rp_cob I1 (c := n.toInt.toNat) (s := h.1) (by omega) (by rw [e3]; exact w3)
            rw [lw_frO F2 o1 o2 o3 (by decide +kernel), e3]
            exact w4
          · dsimp only
            rw [if_neg ec]
            obtain ⟨⟨s', k1, k2⟩, -⟩ := CC c (by omega)
            obtain ⟨o1, o2, o3⟩ := rp_cob I (c := c) (by omega) k1
            have x1 : h1.2.2.2 74 c = .ref s' := by rw [e3, w5 c ec, k1]
            obtain ⟨p1, p2, p3⟩ := rp_cob I1 (c := c) (by omega) x1
            exact ⟨s', by rw [f74, x1], by rw [lw_frO F2 p1 p2 p3 (by decide +kernel), lw_frO F1 o1 o2 o3 (by decide +kernel), k2]⟩
        · by_cases ec : c = n.toInt.toNat
          · dsimp only
            rw [if_pos ec, ec, e4]
            exact u3
          · dsimp only
            rw [if_neg ec, e4, u4 c ec, k117, (CC c (by omega)).2]
      · have lt : ¬ n < (Int8.ofInt 14).toInt32 := fun z => by
          have z := Int32.lt_iff_toInt_lt.1 z
          rw [show (Int8.ofInt 14).toInt32.toInt = 14 by decide] at z
          omega
        have eq : n = (Int8.ofInt 14).toInt32 := Int32.toInt_inj.1 (by
          rw [show (Int8.ofInt 14).toInt32.toInt = 14 by decide]
          omega)
        have w1 : am_ev (d + 2) 101 45 [.ref 40, .int p, .ref s, .int n] [] h (some (ax_m (-3)), h) := by
          refine am_ev.step (pc' := 46) rfl rfl ?_
          refine ax_gf (p' := 49) rfl rfl O40 n1 ?_
          refine am_ev.step (pc' := 51) rfl rfl ?_
          refine ax_c_lt_N (p' := 54) rfl rfl lt ?_
          refine am_ev.step (pc' := 56) rfl rfl ?_
          exact am_ev.reti rfl rfl rfl
        have u1 : am_ev (d + 2) 225 40 [.ref 78, .int p, .int n] [] h1 (some (ax_m (-3)), h1) := by
          refine am_ev.step (pc' := 41) rfl rfl ?_
          refine ax_gf (p' := 44) rfl rfl O78 k53 ?_
          refine am_ev.step (pc' := 46) rfl rfl ?_
          refine ax_c_ne_N (p' := 49) rfl rfl eq ?_
          refine am_ev.step (pc' := 51) rfl rfl ?_
          exact am_ev.reti rfl rfl rfl
        have q1 := ax_det ev1 (top _ (L1.2 _ hf' w1))
        have q2 := ax_det ev2 (top2 _ (L2.2 _ hf' u1))
        have e1 := (Prod.mk.inj q1).1
        have e2 := (Prod.mk.inj q2).1
        have e3 := (Prod.mk.inj q1).2
        have e4 := (Prod.mk.inj q2).2
        exact fin _ e1 e2 (by rw [e4, e3]; exact C0)
  · have H42 := (po_42 (d := d + 1) I m1 bm).2 hp
    have H188 := (po_188 (d := d) O78 k16 bm).2 hp
    have w1 : am_ev (d + 2) 101 0 (am_ent [.ref 40, .int p] (am_in 101).2.2.1) [] h (some (ax_m (-2)), h) := by
      refine am_ev.step (pc' := 1) rfl rfl ?_
      refine am_ev.step (pc' := 2) rfl rfl ?_
      refine ax_call (z := 42) (p' := 5) (as := [_, _]) rfl (Or.inr (Or.inl ⟨_, rfl⟩)) rfl rfl rfl rfl rfl rfl O40 rfl H42 rfl ?_
      refine am_ev.step (pc' := 6) rfl rfl ?_
      refine am_ev.step (pc' := 7) rfl rfl ?_
      refine am_ev.step (pc' := 10) rfl rfl ?_
      refine am_ev.step (pc' := 12) rfl rfl ?_
      exact am_ev.reti rfl rfl rfl
    have u1 : am_ev (d + 2) 225 0 (am_ent [.ref 78, .int p] (am_in 225).2.2.1) [] h1 (some (ax_m (-2)), h1) := by
      refine am_ev.step (pc' := 1) rfl rfl ?_
      refine am_ev.step (pc' := 2) rfl rfl ?_
      refine ax_call (z := 188) (p' := 5) (as := [_, _]) rfl (Or.inr (Or.inl ⟨_, rfl⟩)) rfl rfl rfl rfl rfl rfl O78 rfl H188 rfl ?_
      refine ax_z_ne_N (p' := 8) rfl rfl (by decide : Int32.ofInt 0 = 0) ?_
      refine am_ev.step (pc' := 10) rfl rfl ?_
      exact am_ev.reti rfl rfl rfl
    have q1 := ax_det ev1 w1
    have q2 := ax_det ev2 u1
    have e1 := (Prod.mk.inj q1).1
    have e2 := (Prod.mk.inj q2).1
    have e3 := (Prod.mk.inj q1).2
    have e4 := (Prod.mk.inj q2).2
    exact fin _ e1 e2 (by rw [e4, e3]; exact C0)
end OPC
