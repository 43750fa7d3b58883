/-! THE CALLS OF THE TAPE AND THE RULES -/
/-- what holds between both sides of the tape's bytes and the rules -/
def rT (h : am_H) : Prop := (∀ j, j < 1600 → h.2.2.2 42 j = h.2.2.2 80 j) ∧ (∀ j, j < 7 → h.2.2.2 44 j = h.2.2.2 81 j) ∧ (∀ j, j < 6 → h.2.2.2 45 j = h.2.2.2 82 j)
def rT_m (m : cq_W) : Bool := lw_nA m 42 && lw_nA m 80 && lw_nA m 44 && lw_nA m 81 && lw_nA m 45 && lw_nA m 82
theorem rT_fr {h h2 : am_H} {m : cq_W} (I : cq_Inv none h) (F : cq_Fr m h h2) (q : rT_m m = true) (X : rT h) : rT h2 := by
  have b1 := (Bool.and_eq_true _ _ ▸ q)
  have b2 := (Bool.and_eq_true _ _ ▸ b1.1)
  have b3 := (Bool.and_eq_true _ _ ▸ b2.1)
  have b4 := (Bool.and_eq_true _ _ ▸ b3.1)
  have b5 := (Bool.and_eq_true _ _ ▸ b4.1)
  have lo := I.lo
  refine ⟨fun j hj => ?_, fun j hj => ?_, fun j hj => ?_⟩
  · rw [lw_frA F lo (by decide) b5.1 j, lw_frA F lo (by decide) b5.2 j]
    exact X.1 j hj
  · rw [lw_frA F lo (by decide) b4.2 j, lw_frA F lo (by decide) b3.2 j]
    exact X.2.1 j hj
  · rw [lw_frA F lo (by decide) b2.2 j, lw_frA F lo (by decide) b1.2 j]
    exact X.2.2 j hj
def rbV_m (m : cq_W) : Bool := lw_nA m 44 && lw_nA m 45
theorem rbV_fr {h h2 : am_H} {m : cq_W} (I : cq_Inv none h) (F : cq_Fr m h h2) (q : rbV_m m = true) (X : rbV h) : rbV h2 := by
  have b1 := (Bool.and_eq_true _ _ ▸ q)
  obtain ⟨V, Y, B, x1, x2⟩ := X
  exact ⟨V, Y, B, fun j hj => (lw_frA F I.lo (by decide) b1.1 j).trans (x1 j hj), fun j hj => (lw_frA F I.lo (by decide) b1.2 j).trans (x2 j hj)⟩
/-- the fault of the latest reading, on both sides -/
def rF (h : am_H) : Prop := h.2.2.2 41 3 = h.2.2.2 78 8 ∧ h.2.2.2 41 4 = h.2.2.2 78 9
def rF_m (m : cq_W) : Bool := lw_nF m 41 3 && lw_nF m 78 8 && lw_nF m 41 4 && lw_nF m 78 9
theorem rF_fr {h h2 : am_H} {m : cq_W} (I : cq_Inv none h) (F : cq_Fr m h h2) (q : rF_m m = true) (X : rF h) : rF h2 := by
  have b1 := (Bool.and_eq_true _ _ ▸ q)
  have b2 := (Bool.and_eq_true _ _ ▸ b1.1)
  have b3 := (Bool.and_eq_true _ _ ▸ b2.1)
  exact ⟨by rw [lw_frF F I.lo (by decide) b3.1, lw_frF F I.lo (by decide) b3.2]; exact X.1, by rw [lw_frF F I.lo (by decide) b2.2, lw_frF F I.lo (by decide) b1.2]; exact X.2⟩
/-- what a call done by hand leaves -/
def rO (h h1 h2 : am_H) (m1 m2 : cq_W) (Q : List (Nat × Nat × Nat × Nat)) : Prop := cq_Inv none h1 ∧ cq_Inv none h2 ∧ cq_Fr m1 h h1 ∧ cq_Fr m2 h1 h2 ∧ (∀ q ∈ Q, tT h2 q) ∧ rT h2 ∧ h2.1 ≤ h.1 + 12 ∧ h2.2.1 ≤ h.2.1 + 624
section OP0
variable {h : am_H} {d : Nat}
/-- the bytes of the tape -/
theorem tb_b (I : cq_Inv none h) : ∃ b : Nat → Int, tz_r b ∧ ∀ j, j < 1600 → h.2.2.2 42 j = iv (b j) := by
  refine ⟨fun j => if j < 1600 then cq_n h 42 j else 0, fun j => ?_, fun j hj => ?_⟩
  · by_cases hj : j < 1600
    · obtain ⟨x, ex, a, c⟩ := ax_in I (c := 42) (j := j) (l := -128) (u := 127) (by
        rw [show Nat.blt j (cq_fix 42).2.2 = true from Nat.ble_eq_true_of_le hj]
        decide +kernel) (by
        unfold cq_ty
        rw [show cq_isA 42 = true by decide +kernel, show ((Nat.beq 42 81 || Nat.beq 42 83) && Nat.beq j 1) = false from rfl]
        show cq_ar 42 = _
        decide +kernel)
      dsimp only
      rw [if_pos hj]
      unfold cq_n
      rw [ex]
      exact ⟨a, c⟩
    · dsimp only
      rw [if_neg hj]
      omega
  · obtain ⟨x, ex, a, c⟩ := ax_in I (c := 42) (j := j) (l := -128) (u := 127) (by
      rw [show Nat.blt j (cq_fix 42).2.2 = true from Nat.ble_eq_true_of_le hj]
      decide +kernel) (by
      unfold cq_ty
      rw [show cq_isA 42 = true by decide +kernel, show ((Nat.beq 42 81 || Nat.beq 42 83) && Nat.beq j 1) = false from rfl]
      show cq_ar 42 = _
      decide +kernel)
    dsimp only
    rw [if_pos hj]
    unfold cq_n
    rw [ex]
    exact fx_of x
theorem op_fee (I : cq_Inv none h) (X : rT h) (T : tT h (41, 1, 78, 2)) (p1 p2 p3 p4 p5 : Int32) : ∃ (a : Int32) (h1 h2 : am_H), am_ev (d + 8) 14 0 (am_ent [.ref 40, .int p1, .int p2, .int p3, .int p4, .int p5] (am_in 14).2.2.1) [] h (some (.int a), h1) ∧ am_ev (d + 8) 162 0 (am_ent [.ref 78, .int p1, .int p2, .int p3, .int p4, .int p5] (am_in 162).2.2.1) [] h1 (some (.int a), h2) ∧ rO h h1 h2 ct_14.2.2.2.1 ct_162.2.2.2.1 [(41, 1, 78, 2)] := by
  obtain ⟨L, hL, v1, v2⟩ := tT_nat I T
  have lo := I.lo
  obtain ⟨r, h1, ev1, T1, I1, F1, A1, B1⟩ := sp_ap5 (A := 0) (B := 0) ok_14 rfl rfl (by decide +kernel) I (d := d + 8) (by show 1 ≤ d + 8; omega) p1 p2 p3 p4 p5
  obtain ⟨r', h2, ev2, T2, I2, F2, A2, B2⟩ := sp_ap5 (A := 0) (B := 0) ok_162 rfl rfl (by decide +kernel) I1 (d := d + 8) (by show 1 ≤ d + 8; omega) p1 p2 p3 p4 p5
  have k2 : h1.2.2.2 78 2 = iv L := by rw [lw_frF F1 lo (by decide) (by decide +kernel), v2]
  have k80 := lw_frA F1 lo (c := 80) (by decide) (by decide +kernel)
  obtain ⟨a, H, G, e1, e2, e3, e4⟩ := fe_all (d := d + 7) (p1 := p1) (p2 := p2) (p3 := p3) (p4 := p4) (p5 := p5) (fS.of I) (fS.of I1) v1 k2 hL (fun j hj => by rw [k80 j]; exact X.1 j hj)
  have q1 := ax_det ev1 e1
  have q2 := ax_det ev2 e2
  obtain ⟨rfl, rfl⟩ := Prod.mk.inj q1
  obtain ⟨rfl, rfl⟩ := Prod.mk.inj q2
  have lo1 := I1.lo
  refine ⟨Int32.ofInt a, h1, h2, ev1, ev2, I1, I2, F1, F2, fun q hq => ?_, ⟨fun j hj => ?_, fun j hj => ?_, fun j hj => ?_⟩, by omega, by omega⟩
  · rw [List.mem_singleton.1 hq]
    exact tT_of I2 (c := 41) (j := 1) (l := 0) (u := 1600) (by decide +kernel) (by decide +kernel) (by rw [lw_frF F2 lo1 (c := 41) (j := 1) (by decide) (by decide +kernel), e3])
  · rw [lw_frA F2 lo1 (c := 42) (by decide) (by decide +kernel) j]
    exact e4 j hj
  · rw [lw_frA F2 lo1 (c := 44) (by decide) (by decide +kernel) j, lw_frA F1 lo (c := 44) (by decide) (by decide +kernel) j, lw_frA F2 lo1 (c := 81) (by decide) (by decide +kernel) j, lw_frA F1 lo (c := 81) (by decide) (by decide +kernel) j]
    exact X.2.1 j hj
  · rw [lw_frA F2 lo1 (c := 45) (by decide) (by decide +kernel) j, lw_frA F1 lo (c := 45) (by decide) (by decide +kernel) j, lw_frA F2 lo1 (c := 82) (by decide) (by decide +kernel) j, lw_frA F1 lo (c := 82) (by decide) (by decide +kernel) j]
    exact X.2.2 j hj
theorem op_rul (I : cq_Inv none h) (X : rT h) (XB : rbV h) (T : tT h (41, 1, 78, 2)) : ∃ (a : Int32) (h1 h2 : am_H), am_ev (d + 8) 18 0 (am_ent [.ref 40] (am_in 18).2.2.1) [] h (some (.int a), h1) ∧ am_ev (d + 8) 167 0 (am_ent [.ref 78] (am_in 167).2.2.1) [] h1 (some (.int a), h2) ∧ cq_Inv none h1 ∧ cq_Inv none h2 ∧ cq_Fr ct_18.2.2.2.1 h h1 ∧ cq_Fr ct_167.2.2.2.1 h1 h2 ∧ (∀ q ∈ [((41 : Nat), (1 : Nat), (78 : Nat), (2 : Nat))], tT h2 q) ∧ rT h2 ∧ rbV h2 ∧ rF h2 ∧ h2.1 ≤ h.1 + 12 ∧ h2.2.1 ≤ h.2.1 + 624 := by
  obtain ⟨L, hL, v1, v2⟩ := tT_nat I T
  obtain ⟨b, hb, hB⟩ := tb_b I
  have lo := I.lo
  obtain ⟨r, h1, ev1, T1, I1, F1, A1, B1⟩ := sp_ap0 (A := 0) (B := 0) ok_18 rfl rfl (by decide +kernel) I (d := d + 8) (by show 8 ≤ d + 8; omega)
  obtain ⟨r', h2, ev2, T2, I2, F2, A2, B2⟩ := sp_ap0 (A := 0) (B := 0) ok_167 rfl rfl (by decide +kernel) I1 (d := d + 8) (by show 8 ≤ d + 8; omega)
  have k2 : h1.2.2.2 78 2 = iv L := by rw [lw_frF F1 lo (by decide) (by decide +kernel), v2]
  have k80 := lw_frA F1 lo (c := 80) (by decide) (by decide +kernel)
  have k81 := lw_frA F1 lo (c := 81) (by decide) (by decide +kernel)
  have k82 := lw_frA F1 lo (c := 82) (by decide) (by decide +kernel)
  obtain ⟨w, hw, -⟩ := ax_in I1 (c := 78) (j := 7) (l := -2147483648) (u := 2147483647) (by decide +kernel) (by decide +kernel)
  obtain ⟨a, H, G, e1, e2, e3, e4, e5, e6, e7, e8⟩ := rw_all (d := d) (fS.of I) (fun i hi => hB i (by omega)) hb hL v1 (fS.of I1) (fun i hi => by rw [k80 i, ← X.1 i (by omega)]; exact hB i (by omega)) k2 (hw.trans (fx_of w)) (fun j hj => by rw [k81 j]; exact X.2.1 j hj) (fun j hj => by rw [k82 j]; exact X.2.2 j hj) XB
  have q1 := ax_det ev1 e1
  have q2 := ax_det ev2 e2
  obtain ⟨rfl, rfl⟩ := Prod.mk.inj q1
  obtain ⟨rfl, rfl⟩ := Prod.mk.inj q2
  have lo1 := I1.lo
  refine ⟨Int32.ofInt a, _, h2, ev1, ev2, I1, I2, F1, F2, fun q hq => ?_, ⟨fun j hj => ?_, fun j hj => ?_, fun j hj => ?_⟩, rbV_fr I1 F2 (by decide +kernel) ?_, ⟨?_, ?_⟩, by omega, by omega⟩
  · rw [List.mem_singleton.1 hq]
    refine tT_of I2 (c := 41) (j := 1) (l := 0) (u := 1600) (by decide +kernel) (by decide +kernel) ?_
    rw [lw_frF F2 lo1 (c := 41) (j := 1) (by decide) (by decide +kernel), e3]
    exact ax_put_s _ _ _
  · rw [lw_frA F2 lo1 (c := 42) (by decide) (by decide +kernel) j, lw_frA F1 lo (c := 42) (by decide) (by decide +kernel) j, lw_frA F2 lo1 (c := 80) (by decide) (by decide +kernel) j, k80 j]
    exact X.1 j hj
  · rw [lw_frA F2 lo1 (c := 44) (by decide) (by decide +kernel) j]
    exact Eq.trans (ax_put_o (Or.inl (by decide)) rfl) (e6 j hj)
  · rw [lw_frA F2 lo1 (c := 45) (by decide) (by decide +kernel) j]
    exact Eq.trans (ax_put_o (Or.inl (by decide)) rfl) (e7 j hj)
  · obtain ⟨V, Y, B, x1, x2⟩ := e8
    exact ⟨V, Y, B, fun j hj => Eq.trans (ax_put_o (Or.inl (by decide)) rfl) (x1 j hj), fun j hj => Eq.trans (ax_put_o (Or.inl (by decide)) rfl) (x2 j hj)⟩
  · rw [lw_frF F2 lo1 (c := 41) (j := 3) (by decide) (by decide +kernel)]
    exact Eq.trans (ax_put_o (Or.inr (by decide)) rfl) e4
  · rw [lw_frF F2 lo1 (c := 41) (j := 4) (by decide) (by decide +kernel)]
    exact Eq.trans (ax_put_o (Or.inr (by decide)) rfl) e5
theorem ru_int (I : cq_Inv none h) {c n j : Nat} (q : (Nat.ble 40 c && Nat.blt c 130 && cq_isA c && !Nat.beq c 81 && !Nat.beq c 83) = true) (f : cq_fix c = (1, 0, n)) (a : cq_ar c = (1, -2147483648, 2147483647, 0, 0, 0)) (hj : j < n) : ∃ v : Int32, h.2.2.2 c j = .int v := by
  have b1 := (Bool.and_eq_true _ _ ▸ q)
  have b2 := (Bool.and_eq_true _ _ ▸ b1.1)
  have b3 := (Bool.and_eq_true _ _ ▸ b2.1)
  obtain ⟨x, ex, -⟩ := ax_in I (c := c) (j := j) (l := -2147483648) (u := 2147483647) (by
    rw [f, show Nat.blt j (1, 0, n).2.2 = true from Nat.ble_eq_true_of_le hj, b3.1]
    rfl) (by
    have b4 := b1.2
    have b5 := b2.2
    unfold cq_ty
    rw [b3.2]
    simp only [Bool.not_eq_true'] at b4 b5
    rw [b4, b5]
    exact a)
  exact ⟨x, ex⟩
theorem op_rlv (I : cq_Inv none h) (X : rT h) (p1 : Int32) : ∃ (a : Int32) (h1 h2 : am_H), am_ev (d + 8) 35 0 (am_ent [.ref 40, .int p1] (am_in 35).2.2.1) [] h (some (.int a), h1) ∧ am_ev (d + 8) 184 0 (am_ent [.ref 78, .int p1] (am_in 184).2.2.1) [] h1 (some (.int a), h2) ∧ rO h h1 h2 ct_35.2.2.2.1 ct_184.2.2.2.1 [] := by
  obtain ⟨a, e1, e2⟩ := ru_all (d := d + 7) (fS.of I) (fun j hj => ru_int I (by decide +kernel) (by decide +kernel) (by decide +kernel) hj) (fun j hj => ru_int I (by decide +kernel) (by decide +kernel) (by decide +kernel) hj) X.2.1 X.2.2 p1
  exact ⟨a, h, h, e1, e2, I, I, ct_nil, ct_nil, fun q hq => (by cases hq), X, by omega, by omega⟩
end OP0
