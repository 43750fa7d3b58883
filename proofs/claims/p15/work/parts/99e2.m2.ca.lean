/-! CANDIDATE, on both sides -/
theorem ca_101 {h : am_H} {n p : Int32} {pm d : Nat} {ν : Nat → Int32} (O : am_isO h 40 11 = true) (v13 : h.2.2.2 40 13 = .int n) (v12 : h.2.2.2 40 12 = .ref 74) (A : 74 < h.1 ∧ h.2.2.1 74 = (1, 5, 14)) (n14 : n.toInt ≤ 14) (C : ∀ c : Nat, (c : Int) < n.toInt → ∃ s, h.2.2.2 74 c = .ref s ∧ am_isO h s 1 = true ∧ h.2.2.2 s 0 = .int (ν c)) : ∀ (k : Nat) (c : Int32), 0 ≤ c.toInt → c.toInt ≤ n.toInt → n.toInt - c.toInt ≤ k →
    ((∃ j : Nat, c.toInt ≤ j ∧ (j : Int) < n.toInt ∧ ν j = p) → am_ev d 101 15 [.ref 40, .int p, .ref pm, .int c] [] h (some (ax_m (-4)), h)) ∧ (∀ x, (∀ j : Nat, c.toInt ≤ j → (j : Int) < n.toInt → ν j ≠ p) → am_ev d 101 45 [.ref 40, .int p, .ref pm, .int n] [] h x → am_ev d 101 15 [.ref 40, .int p, .ref pm, .int c] [] h x) := by
  intro k
  induction k with
  | zero =>
    intro c c0 c1 ck
    have e : c = n := Int32.toInt_inj.1 (by omega)
    subst e
    have le : c ≤ c := Int32.le_iff_toInt_le.2 (Int.le_refl _)
    refine ⟨fun ⟨j, j1, j2, _⟩ => by omega, fun x _ q => ?_⟩
    refine am_ev.step (pc' := 16) rfl rfl ?_
    refine am_ev.step (pc' := 17) rfl rfl ?_
    refine ax_gf (p' := 20) rfl rfl O v13 ?_
    refine ax_c_ge_T (p' := 45) rfl rfl le ?_
    exact q
  | succ k ih =>
    intro c c0 c1 ck
    by_cases hc : n ≤ c
    · have hc' := Int32.le_iff_toInt_le.1 hc
      have e : c = n := Int32.toInt_inj.1 (by omega)
      subst e
      refine ⟨fun ⟨j, j1, j2, _⟩ => by omega, fun x _ q => ?_⟩
      refine am_ev.step (pc' := 16) rfl rfl ?_
      refine am_ev.step (pc' := 17) rfl rfl ?_
      refine ax_gf (p' := 20) rfl rfl O v13 ?_
      refine ax_c_ge_T (p' := 45) rfl rfl hc ?_
      exact q
    · have hc' : c.toInt < n.toInt := by
        have := mt Int32.le_iff_toInt_le.2 hc
        omega
      obtain ⟨s, a1, a2, a3⟩ := C c.toInt.toNat (by omega)
      have rd : am_rd h 74 c (fun c => Nat.ble 4 c && am_isA c) = some (.ref s) := by
        rw [ax_rdv A.1 A.2 (by decide) (by decide +kernel) c0 (by omega), a1]
      by_cases hp : ν c.toInt.toNat = p
      · refine ⟨fun _ => ?_, fun x hn q => absurd hp (hn c.toInt.toNat (by omega) (by omega))⟩
        refine am_ev.step (pc' := 16) rfl rfl ?_
        refine am_ev.step (pc' := 17) rfl rfl ?_
        refine ax_gf (p' := 20) rfl rfl O v13 ?_
        refine ax_c_ge_N (p' := 23) rfl rfl hc ?_
        refine am_ev.step (pc' := 24) rfl rfl ?_
        refine ax_gf (p' := 27) rfl rfl O v12 ?_
        refine am_ev.step (pc' := 28) rfl rfl ?_
        refine ax_aaload (p' := 29) rfl rfl rd ?_
        refine ax_gf (p' := 32) rfl rfl a2 a3 ?_
        refine am_ev.step (pc' := 33) rfl rfl ?_
        refine ax_c_ne_N (p' := 36) rfl rfl hp ?_
        refine am_ev.step (pc' := 38) rfl rfl ?_
        exact am_ev.reti rfl rfl rfl
      · have e1 := ax_1 (c := c) (by omega)
        obtain ⟨i1, i2⟩ := ih (c + Int32.ofInt 1) (by omega) (by omega) (by omega)
        have stp : ∀ x, am_ev d 101 15 [.ref 40, .int p, .ref pm, .int (c + Int32.ofInt 1)] [] h x → am_ev d 101 15 [.ref 40, .int p, .ref pm, .int c] [] h x := fun x q => by
          refine am_ev.step (pc' := 16) rfl rfl ?_
          refine am_ev.step (pc' := 17) rfl rfl ?_
          refine ax_gf (p' := 20) rfl rfl O v13 ?_
          refine ax_c_ge_N (p' := 23) rfl rfl hc ?_
          refine am_ev.step (pc' := 24) rfl rfl ?_
          refine ax_gf (p' := 27) rfl rfl O v12 ?_
          refine am_ev.step (pc' := 28) rfl rfl ?_
          refine ax_aaload (p' := 29) rfl rfl rd ?_
          refine ax_gf (p' := 32) rfl rfl a2 a3 ?_
          refine am_ev.step (pc' := 33) rfl rfl ?_
          refine ax_c_ne_T (p' := 39) rfl rfl hp ?_
          refine am_ev.step (pc' := 42) rfl rfl ?_
          refine am_ev.step (pc' := 15) rfl rfl ?_
          exact q
        refine ⟨fun ⟨j, j1, j2, j3⟩ => stp _ (i1 ⟨j, ?_, j2, j3⟩), fun x hn q => stp _ (i2 x (fun j j1 j2 => hn j (by omega) j2) q)⟩
        by_cases ej : (j : Int) = c.toInt
        · have : c.toInt.toNat = j := by omega
          rw [this] at hp
          exact absurd j3 hp
        · omega
theorem ca_225 {h : am_H} {n p : Int32} {d : Nat} {ν : Nat → Int32} (O : am_isO h 78 13 = true) (v53 : h.2.2.2 78 53 = .int n) (v56 : h.2.2.2 78 56 = .ref 117) (A : 117 < h.1 ∧ h.2.2.1 117 = (1, 0, 14)) (n14 : n.toInt ≤ 14) (C : ∀ c : Nat, (c : Int) < n.toInt → h.2.2.2 117 c = .int (ν c)) : ∀ (k : Nat) (c : Int32), 0 ≤ c.toInt → c.toInt ≤ n.toInt → n.toInt - c.toInt ≤ k →
    ((∃ j : Nat, c.toInt ≤ j ∧ (j : Int) < n.toInt ∧ ν j = p) → am_ev d 225 13 [.ref 78, .int p, .int c] [] h (some (ax_m (-4)), h)) ∧ (∀ x, (∀ j : Nat, c.toInt ≤ j → (j : Int) < n.toInt → ν j ≠ p) → am_ev d 225 40 [.ref 78, .int p, .int n] [] h x → am_ev d 225 13 [.ref 78, .int p, .int c] [] h x) := by
  intro k
  induction k with
  | zero =>
    intro c c0 c1 ck
    have e : c = n := Int32.toInt_inj.1 (by omega)
    subst e
    have le : c ≤ c := Int32.le_iff_toInt_le.2 (Int.le_refl _)
    refine ⟨fun ⟨j, j1, j2, _⟩ => by omega, fun x _ q => ?_⟩
    refine am_ev.step (pc' := 14) rfl rfl ?_
    refine am_ev.step (pc' := 15) rfl rfl ?_
    refine ax_gf (p' := 18) rfl rfl O v53 ?_
    refine ax_c_ge_T (p' := 40) rfl rfl le ?_
    exact q
  | succ k ih =>
    intro c c0 c1 ck
    by_cases hc : n ≤ c
    · have hc' := Int32.le_iff_toInt_le.1 hc
      have e : c = n := Int32.toInt_inj.1 (by omega)
      subst e
      refine ⟨fun ⟨j, j1, j2, _⟩ => by omega, fun x _ q => ?_⟩
      refine am_ev.step (pc' := 14) rfl rfl ?_
      refine am_ev.step (pc' := 15) rfl rfl ?_
      refine ax_gf (p' := 18) rfl rfl O v53 ?_
      refine ax_c_ge_T (p' := 40) rfl rfl hc ?_
      exact q
    · have hc' : c.toInt < n.toInt := by
        have := mt Int32.le_iff_toInt_le.2 hc
        omega
      have rd : am_rd h 117 c (fun c => Nat.beq c 0) = some (.int (ν c.toInt.toNat)) := by
        rw [ax_rdv A.1 A.2 (by decide) (by decide) c0 (by omega), C _ (by omega)]
      by_cases hp : ν c.toInt.toNat = p
      · refine ⟨fun _ => ?_, fun x hn q => absurd hp (hn c.toInt.toNat (by omega) (by omega))⟩
        refine am_ev.step (pc' := 14) rfl rfl ?_
        refine am_ev.step (pc' := 15) rfl rfl ?_
        refine ax_gf (p' := 18) rfl rfl O v53 ?_
        refine ax_c_ge_N (p' := 21) rfl rfl hc ?_
        refine am_ev.step (pc' := 22) rfl rfl ?_
        refine ax_gf (p' := 25) rfl rfl O v56 ?_
        refine am_ev.step (pc' := 26) rfl rfl ?_
        refine ax_iaload (p' := 27) rfl rfl rd ?_
        refine am_ev.step (pc' := 28) rfl rfl ?_
        refine ax_c_ne_N (p' := 31) rfl rfl hp ?_
        refine am_ev.step (pc' := 33) rfl rfl ?_
        exact am_ev.reti rfl rfl rfl
      · have e1 := ax_1 (c := c) (by omega)
        obtain ⟨i1, i2⟩ := ih (c + Int32.ofInt 1) (by omega) (by omega) (by omega)
        have stp : ∀ x, am_ev d 225 13 [.ref 78, .int p, .int (c + Int32.ofInt 1)] [] h x → am_ev d 225 13 [.ref 78, .int p, .int c] [] h x := fun x q => by
          refine am_ev.step (pc' := 14) rfl rfl ?_
          refine am_ev.step (pc' := 15) rfl rfl ?_
          refine ax_gf (p' := 18) rfl rfl O v53 ?_
          refine ax_c_ge_N (p' := 21) rfl rfl hc ?_
          refine am_ev.step (pc' := 22) rfl rfl ?_
          refine ax_gf (p' := 25) rfl rfl O v56 ?_
          refine am_ev.step (pc' := 26) rfl rfl ?_
          refine ax_iaload (p' := 27) rfl rfl rd ?_
          refine am_ev.step (pc' := 28) rfl rfl ?_
          refine ax_c_ne_T (p' := 34) rfl rfl hp ?_
          refine am_ev.step (pc' := 37) rfl rfl ?_
          refine am_ev.step (pc' := 13) rfl rfl ?_
          exact q
        refine ⟨fun ⟨j, j1, j2, j3⟩ => stp _ (i1 ⟨j, ?_, j2, j3⟩), fun x hn q => stp _ (i2 x (fun j j1 j2 => hn j (by omega) j2) q)⟩
        by_cases ej : (j : Int) = c.toInt
        · have : c.toInt.toNat = j := by omega
          rw [this] at hp
          exact absurd j3 hp
        · omega
section CAN
variable {h : am_H} {d : Nat} {p m n : Int32}
theorem in_165t {a b c : Int64} (q : b.toInt ≤ a.toInt ∧ a.toInt ≤ c.toInt) : am_ev d 165 0 (am_ent [.long a, .long b, .long c] 6) [] h (some (.int (Int32.ofInt 1)), h) := by
  have c1 : ¬ lg_cmp a b < 0 := fun z => by
    have := (cq_cmp_s a b).1.1 (Int32.lt_iff_toInt_lt.1 z)
    omega
  have c2 : ¬ 0 < lg_cmp a c := fun z => by
    have z := Int32.lt_iff_toInt_lt.1 z
    rw [show (0 : Int32).toInt = 0 by decide] at z
    have k1 := (cq_cmp_s a c).1
    have k2 := (cq_cmp_s a c).2
    omega
  refine am_ev.step (pc' := 1) rfl rfl ?_
  refine am_ev.step (pc' := 2) rfl rfl ?_
  refine am_ev.step (pc' := 3) rfl rfl ?_
  refine ax_z_lt_N (p' := 6) rfl rfl c1 ?_
  refine am_ev.step (pc' := 7) rfl rfl ?_
  refine am_ev.step (pc' := 9) rfl rfl ?_
  refine am_ev.step (pc' := 10) rfl rfl ?_
  refine ax_z_gt_N (p' := 13) rfl rfl c2 ?_
  refine am_ev.step (pc' := 14) rfl rfl ?_
  refine am_ev.step (pc' := 18) rfl rfl ?_
  exact am_ev.reti rfl rfl rfl
theorem in_165f {a b c : Int64} (q : ¬ (b.toInt ≤ a.toInt ∧ a.toInt ≤ c.toInt)) : am_ev d 165 0 (am_ent [.long a, .long b, .long c] 6) [] h (some (.int (Int32.ofInt 0)), h) := by
  by_cases c1 : lg_cmp a b < 0
  · refine am_ev.step (pc' := 1) rfl rfl ?_
    refine am_ev.step (pc' := 2) rfl rfl ?_
    refine am_ev.step (pc' := 3) rfl rfl ?_
    refine ax_z_lt_T (p' := 17) rfl rfl c1 ?_
    refine am_ev.step (pc' := 18) rfl rfl ?_
    exact am_ev.reti rfl rfl rfl
  · have c2 : 0 < lg_cmp a c := Int32.lt_iff_toInt_lt.2 (by
      rw [show (0 : Int32).toInt = 0 by decide]
      have k0 := mt Int32.lt_iff_toInt_lt.2 c1
      rw [show (0 : Int32).toInt = 0 by decide] at k0
      have k1 := (cq_cmp_s a c).1
      have k2 := (cq_cmp_s a c).2
      have k3 := (cq_cmp_s a b).1
      omega)
    refine am_ev.step (pc' := 1) rfl rfl ?_
    refine am_ev.step (pc' := 2) rfl rfl ?_
    refine am_ev.step (pc' := 3) rfl rfl ?_
    refine ax_z_lt_N (p' := 6) rfl rfl c1 ?_
    refine am_ev.step (pc' := 7) rfl rfl ?_
    refine am_ev.step (pc' := 9) rfl rfl ?_
    refine am_ev.step (pc' := 10) rfl rfl ?_
    refine ax_z_gt_T (p' := 17) rfl rfl c2 ?_
    refine am_ev.step (pc' := 18) rfl rfl ?_
    exact am_ev.reti rfl rfl rfl
/-- isPoem -/
theorem po_188 (O : am_isO h 78 13 = true) (v : h.2.2.2 78 16 = .int m) (hm : 0 ≤ m.toInt ∧ m.toInt ≤ 40) : (0 ≤ p.toInt ∧ p.toInt < m.toInt → am_ev (d + 1) 188 0 (am_ent [.ref 78, .int p] 2) [] h (some (.int (Int32.ofInt 1)), h)) ∧ (¬ (0 ≤ p.toInt ∧ p.toInt < m.toInt) → am_ev (d + 1) 188 0 (am_ent [.ref 78, .int p] 2) [] h (some (.int (Int32.ofInt 0)), h)) := by
  have e0 : p.toInt64.toInt = p.toInt := Int32.toInt_toInt64 p
  have e1 : (m.toInt64 - Int64.ofNat 1).toInt = m.toInt - 1 := by
    rw [Int64.toInt_sub, Int32.toInt_toInt64, show (Int64.ofNat 1).toInt = 1 by decide, Int.bmod_eq_of_le (by omega) (by omega)]
  have e2 : (Int64.ofNat 0).toInt = 0 := by decide
  refine ⟨fun q => ?_, fun q => ?_⟩
  · have H := in_165t (h := h) (d := d) (a := p.toInt64) (b := Int64.ofNat 0) (c := m.toInt64 - Int64.ofNat 1) (by omega)
    refine am_ev.step (pc' := 1) rfl rfl ?_
    refine am_ev.step (pc' := 2) rfl rfl ?_
    refine am_ev.step (pc' := 3) rfl rfl ?_
    refine am_ev.step (pc' := 4) rfl rfl ?_
    refine ax_gf (p' := 7) rfl rfl O v ?_
    refine am_ev.step (pc' := 8) rfl rfl ?_
    refine am_ev.step (pc' := 9) rfl rfl ?_
    refine am_ev.step (pc' := 10) rfl rfl ?_
    refine ax_call (z := 165) (p' := 13) (as := [_, _, _]) rfl (Or.inl ⟨_, rfl⟩) rfl rfl rfl rfl rfl rfl rfl rfl H rfl ?_
    exact am_ev.reti rfl rfl rfl
  · have H := in_165f (h := h) (d := d) (a := p.toInt64) (b := Int64.ofNat 0) (c := m.toInt64 - Int64.ofNat 1) (by omega)
    refine am_ev.step (pc' := 1) rfl rfl ?_
    refine am_ev.step (pc' := 2) rfl rfl ?_
    refine am_ev.step (pc' := 3) rfl rfl ?_
    refine am_ev.step (pc' := 4) rfl rfl ?_
    refine ax_gf (p' := 7) rfl rfl O v ?_
    refine am_ev.step (pc' := 8) rfl rfl ?_
    refine am_ev.step (pc' := 9) rfl rfl ?_
    refine am_ev.step (pc' := 10) rfl rfl ?_
    refine ax_call (z := 165) (p' := 13) (as := [_, _, _]) rfl (Or.inl ⟨_, rfl⟩) rfl rfl rfl rfl rfl rfl rfl rfl H rfl ?_
    exact am_ev.reti rfl rfl rfl
/-- poemAt -/
theorem po_42 (I : cq_Inv none h) (v : h.2.2.2 40 8 = .int m) (hm : 0 ≤ m.toInt ∧ m.toInt ≤ 40) : (0 ≤ p.toInt ∧ p.toInt < m.toInt → am_ev d 42 0 (am_ent [.ref 40, .int p] 2) [] h (some (h.2.2.2 73 p.toInt.toNat), h)) ∧ (¬ (0 ≤ p.toInt ∧ p.toInt < m.toInt) → am_ev d 42 0 (am_ent [.ref 40, .int p] 2) [] h (some .null, h)) := by
  have O := ax_o I (c := 40) (k := 11) (by decide +kernel)
  have v7 := ax_rf I (c := 40) (j := 7) (k := 73) (by decide +kernel) (by decide +kernel)
  have A := ax_ar I (c := 73) (tc := 10) (n := 40) (by decide) (by decide +kernel)
  have z0 : (0 : Int32).toInt = 0 := by decide
  refine ⟨fun q => ?_, fun q => ?_⟩
  · have c1 : ¬ p < 0 := fun z => by
      have := Int32.lt_iff_toInt_lt.1 z
      omega
    have c2 : p < m := Int32.lt_iff_toInt_lt.2 q.2
    have t := ax_ty I (c := 73) (j := p.toInt.toNat) (t := (5, 0, 0, 6, 0, 0)) ?_ ?_
    · rcases t with t | ⟨s, t, -⟩
      · have rd : am_rd h 73 p (fun c => Nat.ble 4 c && am_isA c) = some .null := by
          rw [ax_rdv A.1 A.2 (by decide) (by decide +kernel) q.1 (by omega), t]
        rw [t]
        refine am_ev.step (pc' := 1) rfl rfl ?_
        refine ax_z_lt_N (p' := 4) rfl rfl c1 ?_
        refine am_ev.step (pc' := 5) rfl rfl ?_
        refine am_ev.step (pc' := 6) rfl rfl ?_
        refine ax_gf (p' := 9) rfl rfl O v ?_
        refine ax_c_lt_T (p' := 16) rfl rfl c2 ?_
        refine am_ev.step (pc' := 17) rfl rfl ?_
        refine ax_gf (p' := 20) rfl rfl O v7 ?_
        refine am_ev.step (pc' := 21) rfl rfl ?_
        refine ax_aaload (p' := 22) rfl rfl rd ?_
        first | exact am_ev.reta rfl rfl | exact am_ev.retn rfl rfl
      · have rd : am_rd h 73 p (fun c => Nat.ble 4 c && am_isA c) = some (.ref s) := by
          rw [ax_rdv A.1 A.2 (by decide) (by decide +kernel) q.1 (by omega), t]
        rw [t]
        refine am_ev.step (pc' := 1) rfl rfl ?_
        refine ax_z_lt_N (p' := 4) rfl rfl c1 ?_
        refine am_ev.step (pc' := 5) rfl rfl ?_
        refine am_ev.step (pc' := 6) rfl rfl ?_
        refine ax_gf (p' := 9) rfl rfl O v ?_
        refine ax_c_lt_T (p' := 16) rfl rfl c2 ?_
        refine am_ev.step (pc' := 17) rfl rfl ?_
        refine ax_gf (p' := 20) rfl rfl O v7 ?_
        refine am_ev.step (pc' := 21) rfl rfl ?_
        refine ax_aaload (p' := 22) rfl rfl rd ?_
        first | exact am_ev.reta rfl rfl | exact am_ev.retn rfl rfl
    · have : p.toInt.toNat < 40 := by omega
      rw [show Nat.blt p.toInt.toNat (cq_fix 73).2.2 = true from Nat.ble_eq_true_of_le this]
      decide +kernel
    · unfold cq_ty
      rw [show cq_isA 73 = true by decide +kernel, show ((Nat.beq 73 81 || Nat.beq 73 83) && Nat.beq p.toInt.toNat 1) = false from rfl]
      show cq_ar 73 = _
      decide +kernel
  · by_cases c1 : p < 0
    · refine am_ev.step (pc' := 1) rfl rfl ?_
      refine ax_z_lt_T (p' := 12) rfl rfl c1 ?_
      refine am_ev.step (pc' := 13) rfl rfl ?_
      refine am_ev.step (pc' := 22) rfl rfl ?_
      first | exact am_ev.reta rfl rfl | exact am_ev.retn rfl rfl
    · have c2 : ¬ p < m := fun z => by
        have k1 := Int32.lt_iff_toInt_lt.1 z
        have k2 := mt Int32.lt_iff_toInt_lt.2 c1
        omega
      refine am_ev.step (pc' := 1) rfl rfl ?_
      refine ax_z_lt_N (p' := 4) rfl rfl c1 ?_
      refine am_ev.step (pc' := 5) rfl rfl ?_
      refine am_ev.step (pc' := 6) rfl rfl ?_
      refine ax_gf (p' := 9) rfl rfl O v ?_
      refine ax_c_lt_N (p' := 12) rfl rfl c2 ?_
      refine am_ev.step (pc' := 13) rfl rfl ?_
      refine am_ev.step (pc' := 22) rfl rfl ?_
      first | exact am_ev.reta rfl rfl | exact am_ev.retn rfl rfl
/-- Candidate's constructor -/
theorem co_102 {a pm : Nat} (O : am_isO h a 1 = true) : ∃ g : am_H, am_ev (d + 1) 102 0 (am_ent [.ref a, .int p, .ref pm] 3) [] h (none, g) ∧ g.1 = h.1 ∧ g.2.2.1 = h.2.2.1 ∧ g.2.2.2 a 0 = .int p ∧ ∀ c j, c ≠ a → g.2.2.2 c j = h.2.2.2 c j := by
  refine ⟨am_put (am_put (am_put (am_put (am_put (am_put (am_put (am_put h a 2 (.int (Int32.ofInt 0))) a 3 (.int (Int32.ofInt (-1)))) a 4 .null) a 5 (.int (Int32.ofInt (-1)))) a 6 (.int (Int32.ofInt 0))) a 7 (.int (Int32.ofInt 0))) a 0 (.int p)) a 1 (.ref pm), ?_, rfl, rfl, ax_put_o (Or.inr (by decide)) (ax_put_s _ _ _), fun c j hc => ?_⟩
  · refine am_ev.step (pc' := 1) rfl rfl ?_
    refine ax_obj (p' := 4) rfl ?_ rfl rfl rfl ?_
    · exact Or.inr (Or.inr ⟨_, rfl⟩)
    refine am_ev.step (pc' := 5) rfl rfl ?_
    refine am_ev.step (pc' := 6) rfl rfl ?_
    refine ax_pf (p' := 9) rfl rfl O rfl ?_
    refine am_ev.step (pc' := 10) rfl rfl ?_
    refine am_ev.step (pc' := 11) rfl rfl ?_
    refine ax_pf (p' := 14) rfl rfl O rfl ?_
    refine am_ev.step (pc' := 15) rfl rfl ?_
    refine am_ev.step (pc' := 16) rfl rfl ?_
    refine ax_pf (p' := 19) rfl rfl O rfl ?_
    refine am_ev.step (pc' := 20) rfl rfl ?_
    refine am_ev.step (pc' := 21) rfl rfl ?_
    refine ax_pf (p' := 24) rfl rfl O rfl ?_
    refine am_ev.step (pc' := 25) rfl rfl ?_
    refine am_ev.step (pc' := 26) rfl rfl ?_
    refine ax_pf (p' := 29) rfl rfl O rfl ?_
    refine am_ev.step (pc' := 30) rfl rfl ?_
    refine am_ev.step (pc' := 31) rfl rfl ?_
    refine ax_pf (p' := 34) rfl rfl O rfl ?_
    refine am_ev.step (pc' := 35) rfl rfl ?_
    refine am_ev.step (pc' := 36) rfl rfl ?_
    refine ax_pf (p' := 39) rfl rfl O rfl ?_
    refine am_ev.step (pc' := 40) rfl rfl ?_
    refine am_ev.step (pc' := 41) rfl rfl ?_
    refine ax_pf (p' := 44) rfl rfl O rfl ?_
    exact am_ev.retv rfl rfl
  · refine ax_put_o (Or.inl hc) (ax_put_o (Or.inl hc) (ax_put_o (Or.inl hc) (ax_put_o (Or.inl hc) (ax_put_o (Or.inl hc) (ax_put_o (Or.inl hc) (ax_put_o (Or.inl hc) (ax_put_o (Or.inl hc) rfl)))))))
/-- the class's last part: one more -/
theorem ca_101d {pm : Nat} (I : cq_Inv none h) (v13 : h.2.2.2 40 13 = .int n) (hn : 0 ≤ n.toInt ∧ n.toInt < 14) : ∃ g : am_H, am_ev (d + 2) 101 45 [.ref 40, .int p, .ref pm, .int n] [] h (some (.int (n + Int32.ofInt 1 - Int32.ofInt 1)), g) ∧ g.2.2.2 40 13 = .int (n + Int32.ofInt 1) ∧ g.2.2.2 74 n.toInt.toNat = .ref h.1 ∧ g.2.2.2 h.1 0 = .int p ∧ ∀ c, c ≠ n.toInt.toNat → g.2.2.2 74 c = h.2.2.2 74 c := by
  have lo := I.lo
  have O := ax_o I (c := 40) (k := 11) (by decide +kernel)
  have O63 := ax_o I (c := 63) (k := 2) (by decide +kernel)
  have O72 := ax_o I (c := 72) (k := 10) (by decide +kernel)
  have v12 := ax_rf I (c := 40) (j := 12) (k := 74) (by decide +kernel) (by decide +kernel)
  have v4 := ax_rf I (c := 40) (j := 4) (k := 63) (by decide +kernel) (by decide +kernel)
  have v6 := ax_rf I (c := 40) (j := 6) (k := 72) (by decide +kernel) (by decide +kernel)
  have A := ax_ar I (c := 74) (tc := 5) (n := 14) (by decide) (by decide +kernel)
  have lt : n < (Int8.ofInt 14).toInt32 := Int32.lt_iff_toInt_lt.2 (by
    rw [show (Int8.ofInt 14).toInt32.toInt = 14 by decide]
    exact hn.2)
  obtain ⟨k, hk⟩ : ∃ k : am_H, k = am_mk h (0, 1, am_N 1) (am_N 1) (fun j => defaultValue (am_ty 1 j)) := ⟨_, rfl⟩
  have k1 : k.1 = h.1 + 1 := by rw [hk]; rfl
  have ks : ∀ c, c ≠ h.1 → k.2.2.1 c = h.2.2.1 c := fun c hc => by
    rw [hk]
    exact if_neg hc
  have ka : k.2.2.1 h.1 = (0, 1, am_N 1) := by
    rw [hk]
    exact if_pos rfl
  have kv : ∀ c j, c ≠ h.1 → k.2.2.2 c j = h.2.2.2 c j := fun c j hc => by
    rw [hk]
    exact if_neg hc
  have Ok : am_isO k h.1 1 = true := by
    unfold am_isO
    rw [ka, k1, show Nat.blt h.1 (h.1 + 1) = true from Nat.ble_eq_true_of_le (Nat.le_refl _)]
    rfl
  obtain ⟨g, ev, g1, gs, ga, gv⟩ := co_102 (d := d) (p := p) (pm := pm) Ok
  have tr : ∀ c : Nat, c < 130 → c ≠ h.1 := fun c hc => by omega
  have isO : ∀ c x : Nat, c < 130 → am_isO h c x = true → am_isO g c x = true := fun c x hc q => by
    unfold am_isO at q ⊢
    have q1 := (Bool.and_eq_true _ _ ▸ q)
    have q2 := (Bool.and_eq_true _ _ ▸ q1.1)
    rw [g1, gs, ks c (tr c hc), k1, q2.2, q1.2, show Nat.blt c (h.1 + 1) = true from Nat.ble_eq_true_of_le (by omega)]
    rfl
  have val : ∀ c j, c < 130 → g.2.2.2 c j = h.2.2.2 c j := fun c j hc => by rw [gv c j (tr c hc), kv c j (tr c hc)]
  have sa : g.2.2.1 h.1 = (0, 1, am_N 1) := by rw [gs, ka]
  have Oa : am_isO g h.1 1 = true := by
    unfold am_isO
    rw [sa, g1, k1, show Nat.blt h.1 (h.1 + 1) = true from Nat.ble_eq_true_of_le (Nat.le_refl _)]
    rfl
  have WR : am_isO g h.1 (g.2.2.1 h.1).2.1 = true ∧ am_isA ((g.2.2.1 h.1).2.1 + 4) = true ∧ am_wr g 74 n ((g.2.2.1 h.1).2.1 + 4) (.ref h.1) = some (am_put g 74 n.toInt.toNat (.ref h.1)) := by
    rw [sa]
    exact ⟨Oa, by decide +kernel, ax_wrv (by rw [g1, k1]; omega) (by rw [gs, ks 74 (tr 74 (by decide)), A.2]) hn.1 (by omega)⟩
  have Og := isO 40 11 (by decide) O
  have Og63 := isO 63 2 (by decide) O63
  have Og72 := isO 72 10 (by decide) O72
  obtain ⟨g2, e2⟩ : ∃ g2 : am_H, g2 = am_put g 74 n.toInt.toNat (.ref h.1) := ⟨_, rfl⟩
  rw [← e2] at WR
  have f13 : g2.2.2.2 40 13 = .int n := by
    rw [e2]
    exact ax_put_o (Or.inl (by decide)) (by rw [val 40 13 (by decide), v13])
  have f4 : g2.2.2.2 40 4 = .ref 63 := by
    rw [e2]
    exact ax_put_o (Or.inl (by decide)) (by rw [val 40 4 (by decide), v4])
  have f6 : g2.2.2.2 40 6 = .ref 72 := by
    rw [e2]
    exact ax_put_o (Or.inl (by decide)) (by rw [val 40 6 (by decide), v6])
  have O2 : am_isO g2 40 11 = true := by rw [e2]; exact Og
  have O263 : am_isO g2 63 2 = true := by rw [e2]; exact Og63
  have O272 : am_isO g2 72 10 = true := by rw [e2]; exact Og72
  refine ⟨am_put (am_put (am_put g2 40 13 (.int (n + Int32.ofInt 1))) 63 0 (.int (Int32.ofInt 0))) 72 0 (.int (Int32.ofInt 0)), ?_, ?_, ?_, ?_, fun c hc => ?_⟩
  · refine am_ev.step (pc' := 46) rfl rfl ?_
    refine ax_gf (p' := 49) rfl rfl O v13 ?_
    refine am_ev.step (pc' := 51) rfl rfl ?_
    refine ax_c_lt_T (p' := 57) rfl rfl lt ?_
    refine am_ev.step (pc' := 58) rfl rfl ?_
    refine ax_gf (p' := 61) rfl rfl O v12 ?_
    refine am_ev.step (pc' := 62) rfl rfl ?_
    refine ax_gf (p' := 65) rfl rfl O v13 ?_
    refine am_ev.step (pc' := 68) rfl rfl ?_
    refine am_ev.step (pc' := 69) rfl rfl ?_
    refine am_ev.step (pc' := 70) rfl rfl ?_
    refine am_ev.step (pc' := 71) rfl rfl ?_
    refine ax_call (z := 102) (p' := 74) (as := [_, _, _]) rfl (Or.inr (Or.inr ⟨_, rfl⟩)) rfl rfl rfl rfl rfl rfl rfl rfl (by rw [← hk]; exact ev) rfl ?_
    refine ax_aastore (p' := 75) rfl rfl WR ?_
    refine am_ev.step (pc' := 76) rfl rfl ?_
    refine am_ev.step (pc' := 77) rfl rfl ?_
    refine ax_gf (p' := 80) rfl rfl O2 f13 ?_
    refine am_ev.step (pc' := 81) rfl rfl ?_
    refine am_ev.step (pc' := 82) rfl rfl ?_
    refine ax_pf (p' := 85) rfl rfl O2 rfl ?_
    refine am_ev.step (pc' := 86) rfl rfl ?_
    refine ax_gf (p' := 89) rfl rfl O2 (ax_put_o (Or.inr (by decide)) f4) ?_
    refine am_ev.step (pc' := 90) rfl rfl ?_
    refine ax_pf (p' := 93) rfl rfl O263 rfl ?_
    refine am_ev.step (pc' := 94) rfl rfl ?_
    refine ax_gf (p' := 97) rfl rfl O2 (ax_put_o (Or.inl (by decide)) (ax_put_o (Or.inr (by decide)) f6)) ?_
    refine am_ev.step (pc' := 98) rfl rfl ?_
    refine ax_pf (p' := 101) rfl rfl O272 rfl ?_
    refine am_ev.step (pc' := 102) rfl rfl ?_
    refine ax_gf (p' := 105) rfl rfl O2 (ax_put_o (Or.inl (by decide)) (ax_put_o (Or.inl (by decide)) (ax_put_s _ _ _))) ?_
    refine am_ev.step (pc' := 106) rfl rfl ?_
    refine am_ev.step (pc' := 107) rfl rfl ?_
    exact am_ev.reti rfl rfl rfl
  · exact ax_put_o (Or.inl (by decide)) (ax_put_o (Or.inl (by decide)) (ax_put_s _ _ _))
  · refine ax_put_o (Or.inl (by decide)) (ax_put_o (Or.inl (by decide)) (ax_put_o (Or.inl (by decide)) ?_))
    rw [e2]
    exact ax_put_s _ _ _
  · refine ax_put_o (Or.inl (by omega)) (ax_put_o (Or.inl (by omega)) (ax_put_o (Or.inl (by omega)) ?_))
    rw [e2]
    exact ax_put_o (Or.inl (by omega)) ga
  · refine ax_put_o (Or.inl (by decide)) (ax_put_o (Or.inl (by decide)) (ax_put_o (Or.inl (by decide)) ?_))
    rw [e2]
    exact ax_put_o (Or.inr hc) (val 74 c (by decide))
/-- the reference's last part -/
theorem ca_225d (I : cq_Inv none h) (v53 : h.2.2.2 78 53 = .int n) (hn : 0 ≤ n.toInt ∧ n.toInt < 14) : ∃ g : am_H, am_ev d 225 40 [.ref 78, .int p, .int n] [] h (some (.int (n + Int32.ofInt 1 - Int32.ofInt 1)), g) ∧ g.2.2.2 78 53 = .int (n + Int32.ofInt 1) ∧ g.2.2.2 117 n.toInt.toNat = .int p ∧ ∀ c, c ≠ n.toInt.toNat → g.2.2.2 117 c = h.2.2.2 117 c := by
  have O := ax_o I (c := 78) (k := 13) (by decide +kernel)
  have v56 := ax_rf I (c := 78) (j := 56) (k := 117) (by decide +kernel) (by decide +kernel)
  have A := ax_ar I (c := 117) (tc := 0) (n := 14) (by decide) (by decide +kernel)
  have ne : ¬ n = (Int8.ofInt 14).toInt32 := fun z => by
    rw [z, show (Int8.ofInt 14).toInt32.toInt = 14 by decide] at hn
    omega
  have WR : am_wr h 117 n 0 (.int p) = some (am_put h 117 n.toInt.toNat (.int p)) := ax_wrv A.1 A.2 hn.1 (by omega)
  obtain ⟨g2, e2⟩ : ∃ g2 : am_H, g2 = am_put h 117 n.toInt.toNat (.int p) := ⟨_, rfl⟩
  rw [← e2] at WR
  have f53 : g2.2.2.2 78 53 = .int n := by
    rw [e2]
    exact ax_put_o (Or.inl (by decide)) v53
  have O2 : am_isO g2 78 13 = true := by rw [e2]; exact O
  refine ⟨am_put (am_put (am_put g2 78 53 (.int (n + Int32.ofInt 1))) 78 54 (.int (Int32.ofInt 0))) 78 75 (.int (Int32.ofInt 0)), ?_, ?_, ?_, fun c hc => ?_⟩
  · refine am_ev.step (pc' := 41) rfl rfl ?_
    refine ax_gf (p' := 44) rfl rfl O v53 ?_
    refine am_ev.step (pc' := 46) rfl rfl ?_
    refine ax_c_ne_T (p' := 52) rfl rfl ne ?_
    refine am_ev.step (pc' := 53) rfl rfl ?_
    refine ax_gf (p' := 56) rfl rfl O v56 ?_
    refine am_ev.step (pc' := 57) rfl rfl ?_
    refine ax_gf (p' := 60) rfl rfl O v53 ?_
    refine am_ev.step (pc' := 61) rfl rfl ?_
    refine ax_iastore (p' := 62) rfl rfl WR ?_
    refine am_ev.step (pc' := 63) rfl rfl ?_
    refine am_ev.step (pc' := 64) rfl rfl ?_
    refine ax_gf (p' := 67) rfl rfl O2 f53 ?_
    refine am_ev.step (pc' := 68) rfl rfl ?_
    refine am_ev.step (pc' := 69) rfl rfl ?_
    refine ax_pf (p' := 72) rfl rfl O2 rfl ?_
    refine am_ev.step (pc' := 73) rfl rfl ?_
    refine am_ev.step (pc' := 74) rfl rfl ?_
    refine ax_pf (p' := 77) rfl rfl O2 rfl ?_
    refine am_ev.step (pc' := 78) rfl rfl ?_
    refine am_ev.step (pc' := 79) rfl rfl ?_
    refine ax_pf (p' := 82) rfl rfl O2 rfl ?_
    refine am_ev.step (pc' := 83) rfl rfl ?_
    refine ax_gf (p' := 86) rfl rfl O2 (ax_put_o (Or.inr (by decide)) (ax_put_o (Or.inr (by decide)) (ax_put_s _ _ _))) ?_
    refine am_ev.step (pc' := 87) rfl rfl ?_
    refine am_ev.step (pc' := 88) rfl rfl ?_
    exact am_ev.reti rfl rfl rfl
  · exact ax_put_o (Or.inr (by decide)) (ax_put_o (Or.inr (by decide)) (ax_put_s _ _ _))
  · refine ax_put_o (Or.inl (by decide)) (ax_put_o (Or.inl (by decide)) (ax_put_o (Or.inl (by decide)) ?_))
    rw [e2]
    exact ax_put_s _ _ _
  · refine ax_put_o (Or.inl (by decide)) (ax_put_o (Or.inl (by decide)) (ax_put_o (Or.inl (by decide)) ?_))
    rw [e2]
    exact ax_put_o (Or.inr hc) rfl
end CAN
