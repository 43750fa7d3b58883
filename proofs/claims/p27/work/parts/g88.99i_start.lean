/-! THE LAW FROM ITS START TO ITS END -/
theorem dh_gn_ok {r : Option dh_D} (q : r.isSome = true) : r = some (dh_gn r) := by
  cases r with
  | none => cases q
  | some D => rfl
theorem dh_s1 : (dh_new (40, 0, [], []) (0, 11, am_N 11) (am_N 11)).isSome = true := by decide +kernel
theorem dh_s2 : (dh_new (dh_get dh_r1) (0, 13, am_N 13) (am_N 13)).isSome = true := by decide +kernel
theorem dh_l2 : dh_ls 0 (dh_get dh_r2).2.2.1 = none := by decide +kernel
/-- both places are known and the same -/
def dh_eq (D : dh_D) (c i c' i' : Nat) : Bool := (dh_ls c D.2.2.1).isSome && (dh_ls c' D.2.2.1).isSome && (match dh_val D c i, dh_val D c' i' with
  | .int x, .int y => decide (x.toInt = y.toInt)
  | _, _ => false)
theorem dh_x1 : ((List.range 1600).all fun j => dh_z (dh_get dh_r2) 42 j && dh_z (dh_get dh_r2) 80 j) = true := by decide +kernel
theorem dh_x2 : ((List.range 7).all fun j => dh_eq (dh_get dh_r2) 44 j 81 j) = true := by decide +kernel
theorem dh_x3 : ((List.range 6).all fun j => dh_eq (dh_get dh_r2) 45 j 82 j) = true := by decide +kernel
theorem dh_t4 : (dh_z (dh_get dh_r2) 40 13 && dh_z (dh_get dh_r2) 78 53) = true := by decide +kernel
theorem dh_t5 : (dh_z (dh_get dh_r2) 48 1 && dh_z (dh_get dh_r2) 78 35) = true := by decide +kernel
/-- a place is known and within bounds -/
def dh_bd (D : dh_D) (c i : Nat) (l u : Int) : Bool := (dh_ls c D.2.2.1).isSome && (match dh_val D c i with
  | .int x => decide (l ≤ x.toInt) && decide (x.toInt ≤ u)
  | _ => false)
theorem dh_x6 : ((List.range 7).all fun j => dh_bd (dh_get dh_r2) 44 j (cq_sv 2 j) (cq_sv 3 j)) = true := by decide +kernel
theorem dh_x7 : ((List.range 6).all fun j => dh_bd (dh_get dh_r2) 45 j 0 99) = true := by decide +kernel
theorem dh_xa : (dh_z (dh_get dh_r2) 48 5 && dh_z (dh_get dh_r2) 78 36) = true := by decide +kernel
theorem dh_x9 : (dh_eq (dh_get dh_r2) 40 10 78 51 && dh_eq (dh_get dh_r2) 40 11 78 52) = true := by decide +kernel
theorem dh_xb : (dh_z (dh_get dh_r2) 40 8 && dh_z (dh_get dh_r2) 78 16 && dh_z (dh_get dh_r2) 56 0) = true := by decide +kernel
theorem dh_xc : ((List.range 40).all fun j => dh_z (dh_get dh_r2) 91 j && dh_z (dh_get dh_r2) 92 j) = true := by decide +kernel
def dv_a (v : Value) (f : Nat → Bool) : Bool := match v with
  | .ref a => f a
  | _ => true
theorem dv_a_ok {v : Value} {f : Nat → Bool} {a : Nat} (q : dv_a v f = true) (e : v = .ref a) : f a = true := by
  subst e
  exact q
section DVS
variable {L : Nat} {xs : Nat → Int32}
theorem dv_rf {D : dh_D} {c j a : Nat} (h : (dh_h L xs D).2.2.2 c j = .ref a) : (c, j, Value.ref a) ∈ D.2.2.2 := by
  have h : (match dh_lk c j D.2.2.2 with
    | some v => v
    | none => (match dh_ls c D.2.2.1 with
      | some s => dh_df s j
      | none => am_V0 xs c j)) = .ref a := h
  cases e : dh_lk c j D.2.2.2 with
  | some v =>
    rw [e] at h
    have h : v = .ref a := h
    rw [h] at e
    exact dh_lk_mem e
  | none =>
    exfalso
    rw [e] at h
    cases e2 : dh_ls c D.2.2.1 with
    | some s =>
      rw [e2] at h
      have h : dh_df s j = .ref a := h
      unfold dh_df at h
      cases k : Nat.beq s.1 0 with
      | true =>
        rw [k] at h
        have h : defaultValue (am_ty s.2.1 j) = .ref a := h
        revert h
        cases am_ty s.2.1 j <;> exact fun z => (by cases z)
      | false =>
        rw [k] at h
        have h : am_dv s.2.1 = .ref a := h
        unfold am_dv at h
        split at h <;> cases h
    | none =>
      rw [e2] at h
      have h : am_V0 xs c j = .ref a := h
      unfold am_V0 at h
      cases k : Nat.beq c 0 with
      | true =>
        rw [k] at h
        cases h
      | false =>
        rw [k] at h
        cases h
theorem dv_sh {D : dh_D} {c : Nat} {s : am_Sh} (e : dh_ls c D.2.2.1 = some s) : (dh_h L xs D).2.2.1 c = s := by
  show (match dh_ls c D.2.2.1 with
    | some s => s
    | none => am_sh0 L c) = s
  rw [e]
theorem dv_s0 {D : dh_D} {c : Nat} (e : dh_ls c D.2.2.1 = none) : ((dh_h L xs D).2.2.1 c).1 ≠ 0 := by
  have h : (dh_h L xs D).2.2.1 c = am_sh0 L c := by
    show (match dh_ls c D.2.2.1 with
      | some s => s
      | none => am_sh0 L c) = am_sh0 L c
    rw [e]
  rw [h]
  unfold am_sh0
  cases Nat.beq c 0 with
  | true => exact fun z => (by cases z)
  | false =>
    cases Nat.blt c 7 with
    | true => exact fun z => (by cases z)
    | false => exact fun z => (by cases z)
def dv_s (D : dh_D) (c : Nat) (f : am_Sh → Bool) : Bool := match dh_ls c D.2.2.1 with
  | some s => f s
  | none => false
theorem dv_s_ok {D : dh_D} {c : Nat} {f : am_Sh → Bool} (q : dv_s D c f = true) : f ((dh_h L xs D).2.2.1 c) = true := by
  unfold dv_s at q
  cases e : dh_ls c D.2.2.1 with
  | some s =>
    rw [e] at q
    rw [dv_sh e]
    exact q
  | none =>
    rw [e] at q
    cases q
def dv_u (a : Nat) : Bool := Nat.beq a 44 || (Nat.ble 54 a && Nat.ble a 57)
def dv_1 (D : dh_D) : Bool := (D.2.2.2.all fun e => dv_a e.2.2 fun a => Nat.blt a 130 && (!dv_u a || dv_s D e.1 fun s => Nat.beq s.1 0 && hx_K s.2.1 e.2.1))
def dv_2 (D : dh_D) : Bool := ((List.range 130).all fun c => dv_s D c (fun s => zd_kd c s && (!Nat.beq s.1 0 || ((!Nat.beq s.2.1 0 || Nat.beq c 53) && (!Nat.beq s.2.1 3 || Nat.beq c 54) && (!Nat.beq s.2.1 8 || Nat.beq c 43)))) || (dh_ls c D.2.2.1).isNone && Nat.blt c 40)
def dv_3 (D : dh_D) : Bool := (([44, 55, 56, 57].all fun a => dv_s D a fun s => Nat.beq s.1 1) && (dv_s D 54 fun s => Nat.beq s.1 0 && Nat.beq s.2.1 3))
theorem rY_start {D : dh_D} (n1 : D.1 = 130) (q1 : dv_1 D = true) (q2 : dv_2 D = true) (q3 : dv_3 D = true) (q4 : dh_z D 40 8 = true) (z8 : (dh_h L xs D).2.2.2 40 8 = .int 0) (B : rbV (dh_h L xs D)) : rY (dh_h L xs D) := by
  have nh : (dh_h L xs D).1 = 130 := n1
  unfold dv_1 at q1
  unfold dv_2 at q2
  unfold dv_3 at q3
  have uu : ∀ a, hx_U (dh_h L xs D) a → dv_u a = true ∧ (a = 44 ∨ a = 54 ∨ a = 55 ∨ a = 56 ∨ a = 57) := fun a u => by
    rcases u with u | u | ⟨E, u1, u2, -⟩
    · subst u
      exact ⟨rfl, Or.inl rfl⟩
    · have : a = 54 ∨ a = 55 ∨ a = 56 ∨ a = 57 := by omega
      rcases this with rfl | rfl | rfl | rfl <;> exact ⟨rfl, by omega⟩
    · rw [nh] at u2
      omega
  refine ⟨fun c j a hc e => ?_, ⟨⟨⟨fun a u => ?_, fun c hc k0 kk => ?_, fun c j a hc _ e u => ?_, fun c c1 hc => ?_⟩, fun E e1 e2 _ => ?_, rb_r B⟩, fun m p s q v8 hp => ?_⟩, fun m p p' s s' v8 hp => ?_⟩
  · have z := (Bool.and_eq_true _ _ ▸ dv_a_ok (List.all_eq_true.1 q1 _ (dv_rf e)) rfl)
    exact Nat.le_of_ble_eq_true z.1
  · have k := (uu a u).2
    have z := (Bool.and_eq_true _ _ ▸ q3)
    refine ⟨by omega, by omega, ?_⟩
    by_cases a54 : a = 54
    · subst a54
      have y := (Bool.and_eq_true _ _ ▸ dv_s_ok (L := L) (xs := xs) z.2)
      refine Or.inr ⟨Nat.eq_of_beq_eq_true y.1, ?_⟩
      rw [Nat.eq_of_beq_eq_true y.2]
      rfl
    · have mem : a ∈ [44, 55, 56, 57] := by
        simp only [List.mem_cons, List.not_mem_nil, or_false]
        omega
      exact Or.inl (Nat.eq_of_beq_eq_true (dv_s_ok (L := L) (xs := xs) (List.all_eq_true.1 z.1 a mem)))
  · rw [nh] at hc
    rcases Bool.or_eq_true _ _ ▸ List.all_eq_true.1 q2 c (List.mem_range.2 hc) with y | y
    · have y := (Bool.and_eq_true _ _ ▸ dv_s_ok (L := L) (xs := xs) y)
      have y2 := y.2
      rw [k0] at y2
      have y2 : ((!Nat.beq ((dh_h L xs D).2.2.1 c).2.1 0 || Nat.beq c 53) && (!Nat.beq ((dh_h L xs D).2.2.1 c).2.1 3 || Nat.beq c 54) && (!Nat.beq ((dh_h L xs D).2.2.1 c).2.1 8 || Nat.beq c 43)) = true := y2
      have b1 := (Bool.and_eq_true _ _ ▸ y2)
      have b2 := (Bool.and_eq_true _ _ ▸ b1.1)
      refine ⟨fun z => ?_, fun z => ?_, fun z => ?_⟩
      · have w := b2.1
        rw [z] at w
        exact Nat.eq_of_beq_eq_true w
      · have w := b2.2
        rw [z] at w
        exact Or.inl (Nat.eq_of_beq_eq_true w)
      · have w := b1.2
        rw [z] at w
        exact Nat.eq_of_beq_eq_true w
    · have y := (Bool.and_eq_true _ _ ▸ y)
      exact absurd k0 (dv_s0 (Option.isNone_iff_eq_none.1 y.1))
  · have z := (Bool.and_eq_true _ _ ▸ dv_a_ok (List.all_eq_true.1 q1 _ (dv_rf e)) rfl)
    have z2 := z.2
    rw [(uu a u).1] at z2
    have z2 := (Bool.and_eq_true _ _ ▸ dv_s_ok (L := L) (xs := xs) z2)
    exact ⟨Nat.eq_of_beq_eq_true z2.1, z2.2⟩
  · rw [nh] at hc
    rcases Bool.or_eq_true _ _ ▸ List.all_eq_true.1 q2 c (List.mem_range.2 hc) with y | y
    · exact (Bool.and_eq_true _ _ ▸ dv_s_ok (L := L) (xs := xs) y).1
    · have y := (Bool.and_eq_true _ _ ▸ y)
      have : c < 40 := Nat.le_of_ble_eq_true y.2
      omega
  · rw [nh] at e2
    omega
  · rw [z8] at v8
    have v8 : (0 : Int32) = m := Value.int.inj v8
    rw [← v8, show (0 : Int32).toInt = 0 by decide] at hp
    omega
  · rw [z8] at v8
    have v8 : (0 : Int32) = m := Value.int.inj v8
    rw [← v8, show (0 : Int32).toInt = 0 by decide] at hp
    omega
end DVS
theorem dv_q1 : dv_1 (dh_get dh_r2) = true := by decide +kernel
theorem dv_q2 : dv_2 (dh_get dh_r2) = true := by decide +kernel
theorem dv_q3 : dv_3 (dh_get dh_r2) = true := by decide +kernel
theorem dv_q4 : dh_z (dh_get dh_r2) 40 8 = true := by decide +kernel
theorem rG_start {L : Nat} {xs : Nat → Int32} {D : dh_D} (z8 : (dh_h L xs D).2.2.2 40 13 = .int 0) : rG (dh_h L xs D) := fun n pm e1 _ => by
  rw [z8] at e1
  cases e1
  have z0 : (0 : Int32).toInt = 0 := by decide
  exact ⟨fun c k hc => absurd hc (by rw [z0]; omega), fun c c' hc => absurd hc (by rw [z0]; omega)⟩
theorem dh_xg : dh_z (dh_get dh_r2) 40 13 = true := by decide +kernel
theorem dh_t3 : (lw_ps.all fun q => dh_z (dh_get dh_r2) q.1 q.2.1 && dh_z (dh_get dh_r2) q.2.2.1 q.2.2.2) = true := by decide +kernel
section LWS
variable {L : Nat} {xs : Nat → Int32}
theorem dh_h1 (D : dh_D) : (dh_h L xs D).1 = D.1 := rfl
theorem dh_h2 (D : dh_D) : (dh_h L xs D).2.1 = D.2.1 := rfl
theorem dh_h3 {D : dh_D} (q : dh_ls 0 D.2.2.1 = none) : ((dh_h L xs D).2.2.1 0).2.2 = L := by
  show (match dh_ls 0 D.2.2.1 with
    | some s => s
    | none => am_sh0 L 0).2.2 = L
  rw [q]
  rfl
theorem lw_c1 : am_ev 1299 1 0 (am_ent [.ref 40] (am_in 1).2.2.1) [] (dh_h L xs (dh_gn (dh_new (40, 0, [], []) (0, 11, am_N 11) (am_N 11)))) (none, dh_h L xs (dh_get dh_r1)) :=
  ⟨3000, dh_run_ok 3000 1299 1 0 (am_ent [.ref 40] (am_in 1).2.2.1) [] (dh_gn (dh_new (40, 0, [], []) (0, 11, am_N 11) (am_N 11))) none (dh_get dh_r1) (dh_okr_ok dh_r1_ok)⟩
theorem lw_c2 : am_ev 1299 161 0 (am_ent [.ref 78] (am_in 161).2.2.1) [] (dh_h L xs (dh_gn (dh_new (dh_get dh_r1) (0, 13, am_N 13) (am_N 13)))) (none, dh_h L xs (dh_get dh_r2)) :=
  ⟨3000, dh_run_ok 3000 1299 161 0 (am_ent [.ref 78] (am_in 161).2.2.1) [] (dh_gn (dh_new (dh_get dh_r1) (0, 13, am_N 13) (am_N 13))) none (dh_get dh_r2) (dh_okr_ok dh_r2_ok)⟩
theorem dh_z_int {D : dh_D} {c i : Nat} (q : dh_z D c i = true) : (dh_h L xs D).2.2.2 c i = .int 0 := by
  have q := (Bool.and_eq_true _ _ ▸ q)
  obtain ⟨sh, hs⟩ := Option.isSome_iff_exists.1 q.1
  rw [dh_val_ok hs]
  have q2 := q.2
  split at q2
  · rename_i x hx
    rw [hx]
    have e : x.toInt = 0 := of_decide_eq_true q2
    have e1 : x = 0 := by
      apply Int32.toInt_inj.1
      rw [e]
      decide
    rw [e1]
  · cases q2
theorem dh_eq_ok {D : dh_D} {c i c' i' : Nat} (q : dh_eq D c i c' i' = true) : (dh_h L xs D).2.2.2 c i = (dh_h L xs D).2.2.2 c' i' := by
  have q := (Bool.and_eq_true _ _ ▸ q)
  have q1 := (Bool.and_eq_true _ _ ▸ q.1)
  obtain ⟨sh, hs⟩ := Option.isSome_iff_exists.1 q1.1
  obtain ⟨sh', hs'⟩ := Option.isSome_iff_exists.1 q1.2
  rw [dh_val_ok hs, dh_val_ok hs']
  have q2 := q.2
  split at q2
  · rename_i x y hx hy
    rw [hx, hy]
    have e : x.toInt = y.toInt := of_decide_eq_true q2
    rw [Int32.toInt_inj.1 e]
  · cases q2
theorem dh_bd_ok {D : dh_D} {c i : Nat} {l u : Int} (q : dh_bd D c i l u = true) : (dh_h L xs D).2.2.2 c i = iv (cq_n (dh_h L xs D) c i) ∧ l ≤ cq_n (dh_h L xs D) c i ∧ cq_n (dh_h L xs D) c i ≤ u := by
  have q := (Bool.and_eq_true _ _ ▸ q)
  obtain ⟨sh, hs⟩ := Option.isSome_iff_exists.1 q.1
  unfold cq_n
  rw [dh_val_ok hs]
  have q2 := q.2
  split at q2
  · rename_i x hx
    rw [hx]
    have z := (Bool.and_eq_true _ _ ▸ q2)
    exact ⟨fx_of x, of_decide_eq_true z.1, of_decide_eq_true z.2⟩
  · cases q2
/-- what the start needs of the two heaps, with nothing to unfold in it -/
theorem lw_st0 : ∃ (A1 A2 B1 B2 : am_H), A1 = am_mk (am_h0 L xs) (0, 11, am_N 11) (am_N 11) (fun j => defaultValue (am_ty 11 j)) ∧ am_ev 1299 1 0 (am_ent [.ref 40] (am_in 1).2.2.1) [] A1 (none, A2) ∧ A2.1 = 78 ∧ B1 = am_mk A2 (0, 13, am_N 13) (am_N 13) (fun j => defaultValue (am_ty 13 j)) ∧ am_ev 1299 161 0 (am_ent [.ref 78] (am_in 161).2.2.1) [] B1 (none, B2) ∧ (L ≤ 100000 → cq_Inv none B2) ∧ (B2.2.2.1 0).2.2 = L ∧ (∀ q ∈ lw_ps, lw_T B2 q) ∧ rT B2 ∧ rp_P B2 ∧ rp_C B2 ∧ rL B2 ∧ rbV B2 ∧ rD B2 ∧ rB B2 ∧ rQ B2 ∧ rY B2 ∧ rG B2 ∧ B2.1 = 130 ∧ B2.2.1 = 67768 := by
  have e1 := dh_new_ok (L := L) (xs := xs) (d := fun j => defaultValue (am_ty 11 j)) (dh_gn_ok dh_s1) (fun j => rfl)
  have e2 := dh_new_ok (L := L) (xs := xs) (d := fun j => defaultValue (am_ty 13 j)) (dh_gn_ok dh_s2) (fun j => rfl)
  have zz : ∀ q ∈ lw_ps, lw_T (dh_h L xs (dh_get dh_r2)) q := fun q hq => by
    have z := (Bool.and_eq_true _ _ ▸ List.all_eq_true.1 dh_t3 q hq)
    exact ⟨0, dh_z_int z.1, dh_z_int z.2⟩
  have zx_rT : rT (dh_h L xs (dh_get dh_r2)) := by
    refine ⟨fun j hj => ?_, fun j hj => ?_, fun j hj => ?_⟩
    · have z := (Bool.and_eq_true _ _ ▸ List.all_eq_true.1 dh_x1 j (List.mem_range.2 hj))
      rw [dh_z_int z.1, dh_z_int z.2]
    · exact dh_eq_ok (List.all_eq_true.1 dh_x2 j (List.mem_range.2 hj))
    · exact dh_eq_ok (List.all_eq_true.1 dh_x3 j (List.mem_range.2 hj))
  have zx_rp_P : rp_P (dh_h L xs (dh_get dh_r2)) := by
    have z := (Bool.and_eq_true _ _ ▸ List.all_eq_true.1 dh_t3 (40, 8, 78, 16) (by decide))
    have z1 : (dh_h L xs (dh_get dh_r2)).2.2.2 40 8 = .int 0 := dh_z_int z.1
    have z2 : (dh_h L xs (dh_get dh_r2)).2.2.2 78 16 = .int 0 := dh_z_int z.2
    exact ⟨0, z1, z2, fun p hp => by rw [show (0 : Int32).toInt = 0 by decide] at hp; omega, fun p q _ hq => by rw [show (0 : Int32).toInt = 0 by decide] at hq; omega⟩
  have zx_rp_C : rp_C (dh_h L xs (dh_get dh_r2)) := by
    have z := (Bool.and_eq_true _ _ ▸ dh_t4)
    have z1 : (dh_h L xs (dh_get dh_r2)).2.2.2 40 13 = .int 0 := dh_z_int z.1
    have z2 : (dh_h L xs (dh_get dh_r2)).2.2.2 78 53 = .int 0 := dh_z_int z.2
    exact ⟨0, fun _ => 0, z1, z2, fun p hp => by rw [show (0 : Int32).toInt = 0 by decide] at hp; omega⟩
  have zx_rL : rL (dh_h L xs (dh_get dh_r2)) := by
    have z := (Bool.and_eq_true _ _ ▸ dh_t5)
    have z1 : (dh_h L xs (dh_get dh_r2)).2.2.2 48 1 = .int 0 := dh_z_int z.1
    have z2 : (dh_h L xs (dh_get dh_r2)).2.2.2 78 35 = .int 0 := dh_z_int z.2
    exact ⟨0, z1, z2, fun k hk => by rw [show (0 : Int32).toInt = 0 by decide] at hk; omega, fun k l _ hl => by rw [show (0 : Int32).toInt = 0 by decide] at hl; omega⟩
  have zx_rbV : rbV (dh_h L xs (dh_get dh_r2)) := ⟨fun j => cq_n (dh_h L xs (dh_get dh_r2)) 44 j, fun j => cq_n (dh_h L xs (dh_get dh_r2)) 45 j, ⟨fun j hj => (dh_bd_ok (List.all_eq_true.1 dh_x6 j (List.mem_range.2 hj))).2, fun j hj => (dh_bd_ok (List.all_eq_true.1 dh_x7 j (List.mem_range.2 hj))).2⟩, fun j hj => (dh_bd_ok (List.all_eq_true.1 dh_x6 j (List.mem_range.2 hj))).1, fun j hj => (dh_bd_ok (List.all_eq_true.1 dh_x7 j (List.mem_range.2 hj))).1⟩
  have zx_rD : rD (dh_h L xs (dh_get dh_r2)) := by
    have z := (Bool.and_eq_true _ _ ▸ dh_xa)
    exact ⟨0, fun _ => 0, fun _ => 0, fun _ => 0, by omega, dh_z_int z.1, dh_z_int z.2, fun i hi => absurd hi (Nat.not_lt_zero i), fun i hi => absurd hi (Nat.not_lt_zero i)⟩
  have zx_rB : rB (dh_h L xs (dh_get dh_r2)) := by
    have z := (Bool.and_eq_true _ _ ▸ dh_x9)
    exact ⟨dh_eq_ok z.1, dh_eq_ok z.2⟩
  have zx_rQ : rQ (dh_h L xs (dh_get dh_r2)) := by
    have z := (Bool.and_eq_true _ _ ▸ dh_xb)
    have z' := (Bool.and_eq_true _ _ ▸ z.1)
    refine ⟨dh_z_int z.2, 0, dh_z_int z'.1, dh_z_int z'.2, fun p hp => ?_, fun p _ hp => ?_⟩
    · rw [show (0 : Int32).toInt = 0 by decide] at hp
      omega
    · have y := (Bool.and_eq_true _ _ ▸ List.all_eq_true.1 dh_xc p (List.mem_range.2 hp))
      exact ⟨dh_z_int y.1, dh_z_int y.2⟩
  have zx_rY : rY (dh_h L xs (dh_get dh_r2)) := rY_start dh_n2.1 dv_q1 dv_q2 dv_q3 dv_q4 (dh_z_int dv_q4) zx_rbV
  have zx_rG : rG (dh_h L xs (dh_get dh_r2)) := rG_start (dh_z_int dh_xg)
  have n1 : (dh_h L xs (dh_get dh_r2)).1 = 130 := Eq.trans (dh_h1 _) dh_n2.1
  have n2 : (dh_h L xs (dh_get dh_r2)).2.1 = 67768 := Eq.trans (dh_h2 _) dh_n2.2
  have n0 : (dh_h L xs (dh_get dh_r1)).1 = 78 := Eq.trans (dh_h1 _) dh_n1
  have iv : L ≤ 100000 → cq_Inv none (dh_h L xs (dh_get dh_r2)) := fun hL => dh_inv_ok hL dh_i2
  have l0 : ((dh_h L xs (dh_get dh_r2)).2.2.1 0).2.2 = L := dh_h3 dh_l2
  have a1 : dh_h L xs (dh_gn (dh_new (40, 0, [], []) (0, 11, am_N 11) (am_N 11))) = am_mk (am_h0 L xs) (0, 11, am_N 11) (am_N 11) (fun j => defaultValue (am_ty 11 j)) := by
    rw [e1]
    rfl
  have c1 := lw_c1 (L := L) (xs := xs)
  have c2 := lw_c2 (L := L) (xs := xs)
  generalize dh_h L xs (dh_get dh_r1) = A2 at *
  generalize dh_h L xs (dh_get dh_r2) = B2 at *
  exact ⟨_, A2, _, B2, a1, c1, n0, e2, c2, iv, l0, zz, zx_rT, zx_rp_P, zx_rp_C, zx_rL, zx_rbV, zx_rD, zx_rB, zx_rQ, zx_rY, zx_rG, n1, n2⟩
theorem lw_all (hL : L ≤ 3072) : ∃ h' : am_H, am_ev 1300 0 0 (am_ent [.ref 0] 4) [] (am_h0 L xs) (some (.int 1), h') ∧ h'.1 ≤ 601064 ∧ h'.2.1 ≤ 7293034 := by
  obtain ⟨A1, A2, B1, B2, a1, a2, a3, b1, b2, I, sl, TT, X0_, X1_, X2_, X3_, X4_, X5_, X6_, X7_, X8_, X9_, n1, n2⟩ := lw_st0 (L := L) (xs := xs)
  obtain ⟨x, ev, fx⟩ := lw_loop hL 3079 0 B2 1300 (by decide) (I (by omega)) sl (by decide) (by decide) (by decide) TT X0_ X1_ X2_ X3_ X4_ X5_ X6_ X7_ X8_ X9_ (by rw [n1]; decide) (by rw [n2]; decide)
  obtain ⟨xv, xh⟩ := x
  obtain ⟨f1, f2, f3⟩ := fx
  have f1 : xv = some (.int 1) := f1
  subst f1
  refine ⟨xh, ?_, f2, f3⟩
  refine am_ev.step (pc' := 3) (ls' := am_ent [.ref 0] 4) (st' := [.ref 40]) (h' := A1) rfl (by rw [a1]; rfl) ?_
  refine am_ev.step (pc' := 4) (ls' := am_ent [.ref 0] 4) (st' := [.ref 40, .ref 40]) (h' := A1) rfl rfl ?_
  refine am_ev.call (d := 1299) (as := [.ref 40]) (rr := [.ref 40]) (v := none) (h2 := A2) rfl (Or.inr (Or.inr ⟨_, rfl⟩)) (by decide) rfl rfl (by decide) rfl (by decide) a2 rfl ?_
  refine am_ev.step (pc' := 8) (ls' := [.ref 0, .ref 40, am_ph, am_ph]) (st' := []) (h' := A2) rfl rfl ?_
  refine am_ev.step (pc' := 11) (ls' := [.ref 0, .ref 40, am_ph, am_ph]) (st' := [.ref 78]) (h' := B1) rfl (by rw [b1, ← a3]; rfl) ?_
  refine am_ev.step (pc' := 12) (ls' := [.ref 0, .ref 40, am_ph, am_ph]) (st' := [.ref 78, .ref 78]) (h' := B1) rfl rfl ?_
  refine am_ev.call (d := 1299) (as := [.ref 78]) (rr := [.ref 78]) (v := none) (h2 := B2) rfl (Or.inr (Or.inr ⟨_, rfl⟩)) (by decide) rfl rfl (by decide) rfl (by decide) b2 rfl ?_
  refine am_ev.step (pc' := 16) (ls' := [.ref 0, .ref 40, .ref 78, am_ph]) (st' := []) (h' := B2) rfl rfl ?_
  refine am_ev.step (pc' := 17) (ls' := [.ref 0, .ref 40, .ref 78, am_ph]) (st' := [.int 0]) (h' := B2) rfl rfl ?_
  exact am_ev.step (pc' := 18) (ls' := [.ref 0, .ref 40, .ref 78, .int 0]) (st' := []) (h' := B2) rfl rfl ev
end LWS
