/-! THE CALL EDITION, with what it leaves -/
section OE2
variable {h : am_H} {d : Nat}
theorem op_ed2 (I : cq_Inv none h) (X : rT h) (P : rp_P h) (Q : rQ h) (T : tT h (41, 1, 78, 2)) (p1 : Int32) : ∃ (a : Int32) (h1 h2 : am_H), am_ev (d + 10) 43 0 (am_ent [.ref 40, .int p1] (am_in 43).2.2.1) [] h (some (.int a), h1) ∧ am_ev (d + 10) 189 0 (am_ent [.ref 78, .int p1] (am_in 189).2.2.1) [] h1 (some (.int a), h2) ∧ cq_Inv none h1 ∧ cq_Inv none h2 ∧ cq_Fr ct_43.2.2.2.1 h h1 ∧ cq_Fr ct_189.2.2.2.1 h1 h2 ∧ (∀ q ∈ [((41 : Nat), (1 : Nat), (78 : Nat), (2 : Nat))], tT h2 q) ∧ rQ h2 ∧ (rF h → rF h2) ∧ (rK h → rbV h → rWW h → rWW h2) ∧ h2.1 ≤ h.1 + 12 ∧ h2.2.1 ≤ h.2.1 + 624 := by
  obtain ⟨L, hL, v1, v2⟩ := tT_nat I T
  obtain ⟨b, hb, hB⟩ := tb_b I
  obtain ⟨z56, pm, m1, m2, QP, QN⟩ := Q
  obtain ⟨pm', m1', -, -, PD⟩ := P
  rw [m1] at m1'
  cases m1'
  have bp := rp_bm I m1
  have lo := I.lo
  have S := fS.of I
  obtain ⟨r, h1, ev1, T1', I1, F1, A1, B1⟩ := sp_ap1 (A := 4) (B := 312) ok_43 rfl rfl (by decide +kernel) I (d := d + 10) (Nat.le_trans (by decide +kernel) (Nat.le_add_left 10 d)) p1
  obtain ⟨r', h2, ev2, T2', I2, F2, A2, B2⟩ := sp_ap1 (A := 0) (B := 0) ok_189 rfl rfl (by decide +kernel) I1 (d := d + 10) (Nat.le_trans (by decide +kernel) (Nat.le_add_left 10 d)) p1
  have lo1 := I1.lo
  have S1 := fS.of I1
  have k2 : h1.2.2.2 78 2 = iv L := by rw [lw_frF F1 lo (by decide) (by decide +kernel), v2]
  have k16 : h1.2.2.2 78 16 = .int pm := by rw [lw_frF F1 lo (by decide) (by decide +kernel), m2]
  have k80 := lw_frA F1 lo (c := 80) (by decide) (by decide +kernel)
  have kA : ∀ c, 86 ≤ c → c ≤ 92 → ∀ j, h1.2.2.2 c j = h.2.2.2 c j := fun c a1 a2 => by
    have hc : c = 86 ∨ c = 87 ∨ c = 88 ∨ c = 89 ∨ c = 90 ∨ c = 91 ∨ c = 92 := by omega
    rcases hc with rfl | rfl | rfl | rfl | rfl | rfl | rfl <;> exact lw_frA F1 lo (by decide) (by decide +kernel)
  have kA2 : ∀ c, 86 ≤ c → c ≤ 91 → ∀ j, h2.2.2.2 c j = h1.2.2.2 c j := fun c a1 a2 => by
    have hc : c = 86 ∨ c = 87 ∨ c = 88 ∨ c = 89 ∨ c = 90 ∨ c = 91 := by omega
    rcases hc with rfl | rfl | rfl | rfl | rfl | rfl <;> exact lw_frA F2 lo1 (by decide) (by decide +kernel)
  have f2c : ∀ c, c < 78 → ∀ j, h2.2.2.2 c j = h1.2.2.2 c j := fun c a j => F2.vl c (by omega) j (by
    unfold cq_inW
    rw [List.any_eq_false]
    intro w hw
    have z : (ct_189.2.2.2.1.all fun w => !w.1 && Nat.ble 78 w.2.1) = true := by decide +kernel
    have y := (Bool.and_eq_true _ _ ▸ List.all_eq_true.1 z w hw)
    have y1 : w.1 = false := by simpa using y.1
    have y2 := Nat.le_of_ble_eq_true y.2
    rw [y1, dh_bne (show w.2.1 ≠ c by omega)]
    simp)
  have f2d : ∀ c, 130 ≤ c → c < h1.1 → ∀ j, h2.2.2.2 c j = h1.2.2.2 c j := fun c a a' j => F2.vl c a' j (by
    unfold cq_inW
    rw [List.any_eq_false]
    intro w hw
    have z : (ct_189.2.2.2.1.all fun w => !w.1 && Nat.blt w.2.1 130) = true := by decide +kernel
    have y := (Bool.and_eq_true _ _ ▸ List.all_eq_true.1 z w hw)
    have y1 : w.1 = false := by simpa using y.1
    have y2 : w.2.1 < 130 := Nat.le_of_ble_eq_true y.2
    rw [y1, dh_bne (show w.2.1 ≠ c by omega)]
    simp)
  have O78' : am_isO (am_put (am_put (am_put h1 78 3 (iv ((L : Int)))) 78 2 (iv 0)) 78 5 (iv 0)) 78 13 = true := fO (fO (fO (S1.ob rfl)))
  have k16' : ((am_put (am_put (am_put h1 78 3 (iv ((L : Int)))) 78 2 (iv 0)) 78 5 (iv 0)) : am_H).2.2.2 78 16 = .int pm := ax_put_o (Or.inr (by decide)) (ax_put_o (Or.inr (by decide)) (ax_put_o (Or.inr (by decide)) k16))
  -- poems whose counts and objects are as they were
  have same : h1.2.2.2 56 0 = .int (Int32.ofInt 0) → (∀ p s, 73 = 73 → (p : Nat) < 40 → h.2.2.2 73 p = .ref s → ∀ j, j ≤ 6 → h1.2.2.2 s j = h.2.2.2 s j) → (∀ j, h2.2.2.2 92 j = h1.2.2.2 92 j) → rQ h2 := fun z1 z2 z3 => by
    have g73 : ∀ j, h2.2.2.2 73 j = h.2.2.2 73 j := fun j => (f2c 73 (by decide) j).trans (lw_frA F1 lo (by decide) (by decide +kernel) j)
    refine ⟨(f2c 56 (by decide) 0).trans z1, pm, ?_, ?_, fun p hp => ?_, fun p a1 a2 => ?_⟩
    · rw [f2c 40 (by decide) 8, lw_frF F1 lo (by decide) (by decide +kernel), m1]
    · rw [lw_frF F2 lo1 (by decide) (by decide +kernel), k16]
    · obtain ⟨s, k1, k2⟩ := QP p hp
      obtain ⟨o1, o2, o3⟩ := rp_obj I (p := p) (by omega) k1
      refine ⟨s, (g73 p).trans k1, fun j hj => ?_⟩
      rw [f2d s o1 (Nat.lt_of_lt_of_le o2 F1.nx) j, z2 p s rfl (by omega) k1 j hj, k2 j hj]
      by_cases e : j = 6
      · subst e
        exact ((z3 p).trans (kA 92 (by decide) (by decide) p)).symm
      · exact ((kA2 (86 + j) (by omega) (by omega) p).trans (kA (86 + j) (by omega) (by omega) p)).symm
    · rw [kA2 91 (by decide) (by decide), kA 91 (by decide) (by decide), z3, kA 92 (by decide) (by decide)]
      exact QN p a1 a2
  have tie : h1.2.2.2 41 1 = iv 0 → h2.2.2.2 78 2 = iv 0 → ∀ q ∈ [((41 : Nat), (1 : Nat), (78 : Nat), (2 : Nat))], tT h2 q := fun z1 z2 q hq => by
    rw [List.mem_singleton.1 hq]
    exact ⟨Int32.ofInt 0, (f2c 41 (by decide) 1).trans z1, z2⟩
  by_cases hp : 0 ≤ p1.toInt ∧ p1.toInt < pm.toInt
  · obtain ⟨P, hP⟩ : ∃ P : Nat, p1.toInt = (P : Int) := ⟨p1.toInt.toNat, by omega⟩
    have hP' : p1.toInt.toNat = P := by omega
    have hP39 : P ≤ 39 := by omega
    obtain ⟨s, s1, sf⟩ := QP P (by omega)
    have ko := rp_obj I (p := P) (by omega) s1
    have Os := ax_kO ko
    obtain ⟨o1, o2, o3⟩ := ko
    obtain ⟨x6, ex6, c0, c3⟩ : ∃ x : Int32, h.2.2.2 s 6 = .int x ∧ (0 : Int) ≤ x.toInt ∧ x.toInt ≤ 3 := ax_fd I ⟨o1, o2, o3⟩ (j := 6) (t := (1, 0, 3, 0, 0, 0)) (by decide +kernel) (by decide +kernel)
    obtain ⟨c, hc⟩ : ∃ c : Nat, x6.toInt = (c : Int) := ⟨x6.toInt.toNat, by omega⟩
    have v6 : h.2.2.2 s 6 = iv c := by rw [ex6, fx_of x6, hc]
    have g92 : h1.2.2.2 92 P = iv c := by rw [kA 92 (by decide) (by decide), ← sf 6 (by decide), v6]
    have H42 := (po_42 (d := d + 9) I m1 bp).1 hp
    rw [hP', s1] at H42
    have H188 : am_ev (d + 9) 188 0 (am_ent [.ref 78, iv P] 2) [] (am_put (am_put (am_put h1 78 3 (iv ((L : Int)))) 78 2 (iv 0)) 78 5 (iv 0)) (some (iv 1), (am_put (am_put (am_put h1 78 3 (iv ((L : Int)))) 78 2 (iv 0)) 78 5 (iv 0))) := by
      have z := (po_188 (p := p1) (d := d + 8) O78' k16' bp).1 hp
      rw [fx_of p1, hP] at z
      exact z
    by_cases hc2 : c ≤ 2
    · obtain ⟨w0, hw0, -⟩ := ax_in I1 (c := 78) (j := 7) (l := -2147483648) (u := 2147483647) (by decide +kernel) (by decide +kernel)
      have hw0 := hw0.trans (fx_of w0)
      obtain ⟨s0, e0, kk, vv, t0⟩ := tz_t_ex (b := b) (Nat.zero_le L)
      have Bm : tb h1 80 b L := fun i hi => by rw [k80 i, ← X.1 i (by omega)]; exact hB i (by omega)
      obtain ⟨K0, CK, ⟨y4, y5, yf⟩, st1⟩ := et_s (d := d + 3) (k := kk) hb hL S (fun i hi => hB i (by omega)) v1 z56 t0
      obtain ⟨G0, MG, g96, gf, st2⟩ := eq_190s (d := d + 3) S1 Bm k2 hw0 (kT_of I1) t0
      have TC0 : tC K0 G0 0 0 1 (fun _ => 0) := tC_0 CK.2.2.2.2.2.2.2.2.2.2.2.2.1 y4 y5 g96
      obtain ⟨H, M, ⟨p', s', e', l, v', w', st, x1, x2, hl, CH, MH, TC⟩ | ⟨f, s2, x1, x2, CX, MX⟩⟩ := et_all (d := d + 3) (x1 := am_ph) hb hL CK MG TC0
      · obtain ⟨SH, -, -, -, -, -, f3, f4, g3, -, -, -, h56, szH, frH⟩ := CH
        obtain ⟨SM, -, -, -, -, -, -, -, -, -, f8, f9, zM, gl, ktM, frM⟩ := MH
        -- the program's call 44 by its contract
        obtain ⟨r44, h44, ev44, -, I44, F44, A44, B44⟩ := sp_apR (A := 0) (B := 0) ok_44 rfl rfl (by decide +kernel) I (d := d + 9) (Nat.le_trans (by decide +kernel) (Nat.le_add_left 9 d))
        have z44 := st1 _ x1
        have e44 := (Prod.mk.inj (ax_det ev44 z44)).2
        rw [e44] at I44 F44
        obtain ⟨E, K, ev47, kE, I47, F47, A47, B47⟩ := sp_apE ok_47 rfl rfl rfl I44 (d := d + 9) (Nat.le_trans (by decide +kernel) (Nat.le_add_left 9 d))
        have SK := fS.of I47
        have o2H : s < H.1 := by rw [szH.1]; exact o2
        have lo44 := I44.lo
        have fH : ∀ s j, 130 ≤ s → H.2.2.2 s j = h.2.2.2 s j := fun s j hs => frH s j (by omega) (by omega) (by omega) (by omega)
        have fK : ∀ s, 130 ≤ s → s < h.1 → h.2.2.1 s = (0, 6, 9) → ∀ j, K.2.2.2 s j = h.2.2.2 s j := fun s a1 a2 a3 j => (lw_frK F47 (k := 6) a1 (by rw [szH.1]; exact a2) (by rw [szH.2]; exact a3) (by decide +kernel) j).trans (fH s j a1)
        have oK : K.2.2.1 s = (0, 6, 9) := by rw [F47.sh s o2H, szH.2]; exact o3
        have kK : cq_kOk K s (0, 6, 0) := ⟨o1, Nat.lt_of_lt_of_le o2H F47.nx, oK⟩
        have OsK := ax_kO kK
        have v6K : K.2.2.2 s 6 = iv c := by rw [fK s o1 o2 o3, v6]
        obtain ⟨D, v7K, kD⟩ : ∃ D, K.2.2.2 s 7 = .ref D ∧ cq_kOk K D (1, 7, 4) := ax_fd I47 kK (j := 7) (t := (6, 0, 0, 7, 4, 0)) (by decide +kernel) (by decide +kernel)
        obtain ⟨d1, d2, d3, d4, d5⟩ := kD
        have sD : K.2.2.1 D = (1, 7, 3) := Prod.ext d3 (Prod.ext d4 (by rcases d5 with z | z; cases z; exact Nat.succ.inj z))
        have hne : s ≠ D := fun z => by
          rw [← z, oK] at sD
          cases sD
        have OE := ax_kO kE
        obtain ⟨k1, k2', k3⟩ := kE
        have wr : am_isO K E (K.2.2.1 E).2.1 = true ∧ am_isA ((K.2.2.1 E).2.1 + 4) = true ∧ am_wr K D (Int32.ofInt (c : Int)) ((K.2.2.1 E).2.1 + 4) (.ref E) = some (am_put K D c (.ref E)) := by
          rw [k3]
          refine ⟨OE, by decide +kernel, ?_⟩
          have z := fx_ti (e := (c : Int)) (by omega)
          rw [ax_wrv (h := K) (a := D) (n := 3) (tc := 7) d2 sD (by rw [z]; omega) (by rw [z]; omega), z, Int.toNat_natCast]
        have z50 := ep_50 (d := d + 9) SK OsK v6K hc2 v7K hne wr
        have SK2 : fS (am_put (am_put K D c (.ref E)) s 6 (iv ((c : Int) + 1))) := (SK.pd d1).pd o1
        have y1 := ep_43s (d := d + 3) S H42 Os v6 hc2 z44 SH ev47 OsK z50 SK2
        have g92M : M.2.2.2 92 P = iv c := (frM 92 P (Or.inl (by decide)) (Or.inl (by decide)) (Or.inl (by decide))).trans (ax_put_o (Or.inl (by decide)) (ax_put_o (Or.inl (by decide)) (ax_put_o (Or.inl (by decide)) (ax_put_o (Or.inl (by decide)) (ax_put_o (Or.inl (by decide)) (ax_put_o (Or.inl (by decide)) (ax_put_o (Or.inl (by decide)) (ax_put_o (Or.inl (by decide)) (ax_put_o (Or.inl (by decide)) (g92))))))))))
        obtain ⟨G2, q9, vG⟩ := eq_v (d := d + 9) (x2 := am_ph) (x3 := am_ph) (x4 := am_ph) hP39 hc2 SM ktM g92M gl
        have g92' : G2.2.2.2 92 P = iv ((c : Int) + 1) := (vG 92 P).trans (if_pos ⟨rfl, rfl⟩)
        have fr92 : ∀ c' j, (c' < 92 ∨ 97 < c' ∨ (c' = 92 ∧ j ≠ P)) → G2.2.2.2 c' j = M.2.2.2 c' j := fun c' j n => by
          rw [vG, if_neg (by omega), cV_o (by omega) (by omega)]
          exact ax_put_o (Or.inl (by omega)) rfl
        obtain ⟨T0, T1, T2, T3, T4, -, t, u, T6, T7, T8, -, T10, T11⟩ := TC
        obtain ⟨Kg, r47, k47⟩ := ed_47 (d := d + 6) (st := st) (t := t) (u := u) (w := st l) SH hl.2.1 (by omega) g3 T6 T7 T2 rfl (fun j hj => ax_ty I44 (c := 55) (j := j) (t := (2, 0, 0, 0, 0, 0)) (by
          rw [show Nat.blt j (cq_fix 55).2.2 = true from Nat.ble_eq_true_of_le (by show j + 1 ≤ 240; omega)]
          decide +kernel) (by
          unfold cq_ty
          rw [show cq_isA 55 = true by decide +kernel, show ((Nat.beq 55 81 || Nat.beq 55 83) && Nat.beq j 1) = false from rfl]
          show cq_ar 55 = _
          decide +kernel))
        obtain ⟨r1, r2⟩ := Prod.mk.inj (ax_det ev47 r47)
        rw [← r2] at k47
        have eE : E = H.1 := Value.ref.inj (Option.some.inj r1)
        have k7 : h.2.2.2 s 7 = .ref D := (fK s o1 o2 o3 7).symm.trans v7K
        have y2 := eq_189n (d := d) S1 Bm hb hL k2 hw0 hP39 g92 hc2 H188 t0 SM (st2 _ x2) q9
        rw [← hP, ← fx_of p1] at y2
        obtain ⟨z1, z2⟩ := Prod.mk.inj (ax_det ev1 y1)
        obtain ⟨z3, z4⟩ := Prod.mk.inj (ax_det ev2 y2)
        have h1K : ∀ a j, (a ≠ 41 ∨ j ≠ 1) → (a ≠ s ∨ j ≠ 6) → a ≠ D → h1.2.2.2 a j = K.2.2.2 a j := fun a j n1 n2 n3 => by
          rw [z2]
          exact ax_put_o n1 (ax_put_o n2 (ax_put_o (Or.inl n3) rfl))
        have f41 : ∀ j, K.2.2.2 41 j = H.2.2.2 41 j := fun j => lw_frA F47 lo44 (by decide) (by decide +kernel) j
        have fG : ∀ a j, (a < 92 ∨ 97 < a ∨ (a = 92 ∧ j ≠ P)) → h2.2.2.2 a j = M.2.2.2 a j := fun a j n => by
          rw [z4]
          exact fr92 a j n
        have u92 : ∀ j, j ≠ P → h2.2.2.2 92 j = h.2.2.2 92 j := fun j hj => (fG 92 j (Or.inr (Or.inr ⟨rfl, hj⟩))).trans ((frM 92 j (Or.inl (by decide)) (Or.inl (by decide)) (Or.inl (by decide))).trans ((ax_put_o (Or.inl (by decide)) (ax_put_o (Or.inl (by decide)) (ax_put_o (Or.inl (by decide)) (ax_put_o (Or.inl (by decide)) (ax_put_o (Or.inl (by decide)) (ax_put_o (Or.inl (by decide)) (ax_put_o (Or.inl (by decide)) (ax_put_o (Or.inl (by decide)) (ax_put_o (Or.inl (by decide)) (rfl)))))))))).trans (kA 92 (by decide) (by decide) j)))
        have n92 : h2.2.2.2 92 P = iv ((c : Int) + 1) := by rw [z4]; exact g92'
        have g73 : ∀ j, h2.2.2.2 73 j = h.2.2.2 73 j := fun j => (f2c 73 (by decide) j).trans (lw_frA F1 lo (by decide) (by decide +kernel) j)
        refine ⟨Int32.ofInt c, h1, h2, by rw [← z1]; exact ev1, by rw [← z3]; exact ev2, I1, I2, F1, F2, tie (by rw [z2]; exact ax_put_s _ _ _) ((fG 78 2 (Or.inl (by decide))).trans zM), ⟨?_, pm, ?_, ?_, fun p hp => ?_, fun p a1 a2 => ?_⟩, fun _ => ⟨?_, ?_⟩, fun RK XB XW => ed_ok XW RK XB I I1 I2 F1 F2 (by omega) I44 szH frH F44 T0 T1 T3 T4 T8 T10 T11 k47 (by rw [z2, eE]) ⟨hl.1, hl.2.1⟩ m1 (by omega) s1 k7 v6 hc2 (fun c j n1 n2 n3 => (frM c j (Or.inl n1) n2 n3).trans (ax_put_o (Or.inl n1) (ax_put_o (Or.inl n1) (ax_put_o (Or.inl n1) (ax_put_o (Or.inl n1) (ax_put_o (Or.inl n1) (ax_put_o (Or.inl n1) (ax_put_o (Or.inl n1) (ax_put_o (Or.inl n1) (ax_put_o (Or.inl n1) rfl)))))))))) (by rw [z4]; exact vG), by omega, by omega⟩
        · rw [f2c 56 (by decide) 0, h1K 56 0 (by omega) (by omega) (by omega), lw_frA F47 lo44 (by decide) (by decide +kernel) 0]
          exact h56
        · rw [f2c 40 (by decide) 8, lw_frF F1 lo (by decide) (by decide +kernel), m1]
        · rw [lw_frF F2 lo1 (by decide) (by decide +kernel), k16]
        · by_cases ep : p = P
          · subst ep
            refine ⟨s, (g73 p).trans s1, fun j hj => ?_⟩
            rw [f2d s o1 (Nat.lt_of_lt_of_le o2 F1.nx) j]
            by_cases e : j = 6
            · subst e
              rw [n92, z2]
              exact ax_put_o (Or.inl (by omega)) (ax_put_s _ _ _)
            · rw [h1K s j (by omega) (Or.inr e) hne, fK s o1 o2 o3, sf j hj]
              exact ((kA2 (86 + j) (by omega) (by omega) p).trans (kA (86 + j) (by omega) (by omega) p)).symm
          · obtain ⟨s', l1, l2⟩ := QP p hp
            obtain ⟨b1, b2', b3⟩ := rp_obj I (p := p) (by omega) l1
            have ne : s' ≠ s := fun z => by
              have l0 := l1
              rw [z, ← s1] at l0
              rcases Nat.lt_or_gt_of_ne ep with y | y
              · exact PD p P y (by omega) l0
              · exact PD P p y hp l0.symm
            have nD : s' ≠ D := fun z => by
              have w := F47.sh s' (by rw [szH.1]; exact b2')
              rw [z, sD, szH.2, ← z, b3] at w
              cases w
            refine ⟨s', (g73 p).trans l1, fun j hj => ?_⟩
            rw [f2d s' b1 (Nat.lt_of_lt_of_le b2' F1.nx) j, h1K s' j (by omega) (Or.inl ne) nD, fK s' b1 b2' b3, l2 j hj]
            by_cases e : j = 6
            · subst e
              exact (u92 p ep).symm
            · exact ((kA2 (86 + j) (by omega) (by omega) p).trans (kA (86 + j) (by omega) (by omega) p)).symm
        · rw [kA2 91 (by decide) (by decide), kA 91 (by decide) (by decide), u92 p (by omega)]
          exact QN p a1 a2
        · rw [f2c 41 (by decide) 3, h1K 41 3 (by omega) (by omega) (by omega), f41, f3, fG 78 8 (Or.inl (by decide)), f8]
        · rw [f2c 41 (by decide) 4, h1K 41 4 (by omega) (by omega) (by omega), f41, f4, fG 78 9 (Or.inl (by decide)), f9]
      · obtain ⟨SH, f3, f4, h56, szH, frH⟩ := CX
        obtain ⟨SM, f8, f9, zM, frM⟩ := MX
        have y1 := ep_43f (d := d + 3) S H42 Os v6 hc2 (st1 _ x1) SH
        have y2 := eq_189t (d := d) S1 Bm hb hL k2 hw0 hP39 g92 hc2 H188 t0 SM (st2 _ x2)
        rw [← hP, ← fx_of p1] at y2
        obtain ⟨z1, z2⟩ := Prod.mk.inj (ax_det ev1 y1)
        obtain ⟨z3, z4⟩ := Prod.mk.inj (ax_det ev2 y2)
        refine ⟨Int32.ofInt (-1), h1, h2, by rw [← z1]; exact ev1, by rw [← z3]; exact ev2, I1, I2, F1, F2, tie (by rw [z2]; exact ax_put_s _ _ _) (by rw [z4]; exact zM), same ?_ (fun p s _ hp k j hj => ?_) (fun j => ?_), fun _ => ⟨?_, ?_⟩, fun _ XB XW => ed_ns XW XB I I1 I2 F1 F2 (by rw [z2]; exact szH.1) (by omega) (fun c j n1 n2 n3 n4 => by rw [z2]; exact ax_put_o (Or.inl n1) (frH c j n1 n2 n3 n4)) (fun c j n1 n2 n3 => by rw [z4]; exact (frM c j (Or.inl n1) n2 n3).trans (ax_put_o (Or.inl n1) (ax_put_o (Or.inl n1) (ax_put_o (Or.inl n1) (ax_put_o (Or.inl n1) (ax_put_o (Or.inl n1) (ax_put_o (Or.inl n1) (ax_put_o (Or.inl n1) (ax_put_o (Or.inl n1) (ax_put_o (Or.inl n1) rfl)))))))))), by omega, by omega⟩
        · rw [z2]
          exact ax_put_o (Or.inl (by decide)) h56
        · obtain ⟨b1, -, -⟩ := rp_obj I (p := p) hp k
          rw [z2]
          exact ax_put_o (Or.inl (by omega)) (frH s j (by omega) (by omega) (by omega) (by omega))
        · rw [z4]
          exact (frM 92 j (Or.inl (by decide)) (Or.inl (by decide)) (Or.inl (by decide))).trans (ax_put_o (Or.inl (by decide)) (ax_put_o (Or.inl (by decide)) (ax_put_o (Or.inl (by decide)) (ax_put_o (Or.inl (by decide)) (ax_put_o (Or.inl (by decide)) (ax_put_o (Or.inl (by decide)) (ax_put_o (Or.inl (by decide)) (ax_put_o (Or.inl (by decide)) (ax_put_o (Or.inl (by decide)) (rfl))))))))))
        · rw [f2c 41 (by decide) 3, z4, f8, z2]
          exact ax_put_o (Or.inr (by decide)) f3
        · rw [f2c 41 (by decide) 4, z4, f9, z2]
          exact ax_put_o (Or.inr (by decide)) f4
    · have y1 := ep_43t (d := d + 3) S H42 Os v6 (by omega)
      have y2 := eq_189f (d := d + 7) S1 k2 hP39 g92 (by omega) H188
      rw [← hP, ← fx_of p1] at y2
      obtain ⟨z1, z2⟩ := Prod.mk.inj (ax_det ev1 y1)
      obtain ⟨z3, z4⟩ := Prod.mk.inj (ax_det ev2 y2)
      have u : ∀ c j, (c ≠ 41 ∨ j ≠ 1) → (c ≠ 78 ∨ (j ≠ 2 ∧ j ≠ 3 ∧ j ≠ 5)) → h2.2.2.2 c j = h.2.2.2 c j := fun c j n1 n2 => by
        rw [z4, z2]
        exact ax_put_o (by omega) (ax_put_o (by omega) (ax_put_o (by omega) (ax_put_o (by omega) rfl)))
      refine ⟨Int32.ofInt (-3), h1, h2, by rw [← z1]; exact ev1, by rw [← z3]; exact ev2, I1, I2, F1, F2, tie (by rw [z2]; exact ax_put_s _ _ _) (by rw [z4]; exact ax_put_o (Or.inr (by decide)) (ax_put_s _ _ _)), same ?_ (fun p s _ hp k j hj => ?_) (fun j => ?_), fun XF => ⟨(u 41 3 (by omega) (by omega)).trans (XF.1.trans (u 78 8 (by omega) (by omega)).symm), (u 41 4 (by omega) (by omega)).trans (XF.2.trans (u 78 9 (by omega) (by omega)).symm)⟩, fun _ XB XW => ed_ns XW XB I I1 I2 F1 F2 (by rw [z2]; rfl) (by omega) (fun c j n1 n2 n3 n4 => by rw [z2]; exact ax_put_o (Or.inl n1) rfl) (fun c j n1 n2 n3 => by rw [z4]; exact (ax_put_o (Or.inl n1) (ax_put_o (Or.inl n1) (ax_put_o (Or.inl n1) rfl)))), by omega, by omega⟩
      · rw [z2]
        exact ax_put_o (Or.inl (by decide)) z56
      · obtain ⟨b1, -, -⟩ := rp_obj I (p := p) hp k
        rw [z2]
        exact ax_put_o (Or.inl (by omega)) rfl
      · rw [z4]
        exact ax_put_o (Or.inl (by decide)) (ax_put_o (Or.inl (by decide)) (ax_put_o (Or.inl (by decide)) rfl))
  · have H42 := (po_42 (d := d + 9) I m1 bp).2 hp
    have H188 : am_ev (d + 9) 188 0 (am_ent [.ref 78, .int p1] 2) [] (am_put (am_put (am_put h1 78 3 (iv ((L : Int)))) 78 2 (iv 0)) 78 5 (iv 0)) (some (iv 0), (am_put (am_put (am_put h1 78 3 (iv ((L : Int)))) 78 2 (iv 0)) 78 5 (iv 0))) := (po_188 (d := d + 8) O78' k16' bp).2 hp
    have y1 := ep_43n (d := d + 3) S H42
    have y2 := eq_189r (d := d + 7) (pp := p1) S1 k2 H188
    obtain ⟨z1, z2⟩ := Prod.mk.inj (ax_det ev1 y1)
    obtain ⟨z3, z4⟩ := Prod.mk.inj (ax_det ev2 y2)
    have u : ∀ c j, (c ≠ 41 ∨ j ≠ 1) → (c ≠ 78 ∨ (j ≠ 2 ∧ j ≠ 3 ∧ j ≠ 5)) → h2.2.2.2 c j = h.2.2.2 c j := fun c j n1 n2 => by
      rw [z4, z2]
      exact ax_put_o (by omega) (ax_put_o (by omega) (ax_put_o (by omega) (ax_put_o (by omega) rfl)))
    refine ⟨Int32.ofInt (-2), h1, h2, by rw [← z1]; exact ev1, by rw [← z3]; exact ev2, I1, I2, F1, F2, tie (by rw [z2]; exact ax_put_s _ _ _) (by rw [z4]; exact ax_put_o (Or.inr (by decide)) (ax_put_s _ _ _)), same ?_ (fun p s _ hp k j hj => ?_) (fun j => ?_), fun XF => ⟨(u 41 3 (by omega) (by omega)).trans (XF.1.trans (u 78 8 (by omega) (by omega)).symm), (u 41 4 (by omega) (by omega)).trans (XF.2.trans (u 78 9 (by omega) (by omega)).symm)⟩, fun _ XB XW => ed_ns XW XB I I1 I2 F1 F2 (by rw [z2]; rfl) (by omega) (fun c j n1 n2 n3 n4 => by rw [z2]; exact ax_put_o (Or.inl n1) rfl) (fun c j n1 n2 n3 => by rw [z4]; exact (ax_put_o (Or.inl n1) (ax_put_o (Or.inl n1) (ax_put_o (Or.inl n1) rfl)))), by omega, by omega⟩
    · rw [z2]
      exact ax_put_o (Or.inl (by decide)) z56
    · obtain ⟨b1, -, -⟩ := rp_obj I (p := p) hp k
      rw [z2]
      exact ax_put_o (Or.inl (by omega)) rfl
    · rw [z4]
      exact ax_put_o (Or.inl (by decide)) (ax_put_o (Or.inl (by decide)) (ax_put_o (Or.inl (by decide)) rfl))
/-- a new poem has rows of its own, and no edition -/
theorem po_keep (I : cq_Inv none h) {h1 : am_H} {a b c e r : Int32} (F1 : cq_Fr ct_38.2.2.2.1 h h1) (S : eS h h1) (ev : am_ev (d + 2) 38 0 (am_ent [.ref 40, .int a, .int b, .int c, .int e] (am_in 38).2.2.1) [] h (some (.int r), h1)) {m0 : Int32} (m1 : h.2.2.2 40 8 = .int m0) : (rZ h → rZ h1) ∧ (rX h → rX h1) := by
  have lo := I.lo
  have bm := rp_bm I m1
  by_cases q : po_ok a b c e
  · by_cases hm : m0.toInt < 40
    · obtain ⟨g, w1, w2, w3, w4, w5, w6, w7, w8⟩ := pc_38d (d := d) I q m1 ⟨bm.1, hm⟩
      have e3 := (Prod.mk.inj (ax_det ev w1)).2
      have mp := ax_p1 (m := m0) ⟨bm.1, by omega⟩
      obtain ⟨-, -, -, -, y6, y7, y8, -⟩ := w8
      rw [← e3] at w2 w3 y6 y7 y8
      have w6 : ∀ j, j ≠ m0.toInt.toNat → h1.2.2.2 73 j = h.2.2.2 73 j := fun j n => by rw [e3]; exact w6 j n
      have w7 : ∀ s j, 130 ≤ s → s < h.1 → h1.2.2.2 s j = h.2.2.2 s j := fun s j n n2 => by rw [e3]; exact w7 s j n n2
      have at_ : ∀ (k : Int32) (p : Nat), h1.2.2.2 40 8 = .int k → (p : Int) < k.toInt → p = m0.toInt.toNat ∨ (p : Int) < m0.toInt := fun k p v hp => by
        rw [w2] at v
        have v : m0 + Int32.ofInt 1 = k := Value.int.inj v
        rw [← v, mp] at hp
        omega
      have nw : ∀ s : Nat, h1.2.2.2 73 m0.toInt.toNat = .ref s → s = h.1 := fun s v => by
        rw [w3] at v
        exact (Value.ref.inj v).symm
      -- rows of a poem of before
      have rw_ : ∀ p s : Nat, (p : Int) < m0.toInt → h1.2.2.2 73 p = .ref s → h.2.2.2 73 p = .ref s ∧ (130 ≤ s ∧ s < h.1) ∧ (∃ q : Nat, h.2.2.2 s 7 = .ref q ∧ q < h.1) ∧ ∃ q : Nat, h.2.2.2 s 8 = .ref q ∧ q < h.1 := fun p s hp v => by
        rw [w6 p (by omega)] at v
        have ks := rp_obj I (p := p) (by omega) v
        obtain ⟨q7, z7, -, z7', -⟩ := po_q I (p := p) (by omega) v
        obtain ⟨q8, z8, k8⟩ : ∃ q : Nat, h.2.2.2 s 8 = .ref q ∧ cq_kOk h q (1, 0, 4) := ax_fd I ks (j := 8) (t := (6, 0, 0, 0, 4, 0)) (by decide +kernel) (by decide +kernel)
        exact ⟨v, ⟨ks.1, ks.2.1⟩, ⟨q7, z7, z7'⟩, ⟨q8, z8, k8.2.1⟩⟩
      refine ⟨fun Z k p p' s s' v8 hp hp' n e e' => ?_, fun X k p s qq v8 hp es e7 x cc e6 hcc hec => ?_⟩
      · rcases at_ k p v8 hp with h3 | h3
        · rw [h3] at e
          have es := nw s e
          rcases at_ k p' v8 hp' with h4 | h4
          · omega
          · obtain ⟨-, b1, ⟨q7, z7, l7⟩, q8, z8, l8⟩ := rw_ p' s' h4 e'
            rw [es, y7, y8, w7 s' 7 b1.1 b1.2, w7 s' 8 b1.1 b1.2, z7, z8]
            refine ⟨fun z => ?_, fun z => ?_⟩
            · have z : h.1 + 1 = q7 := Value.ref.inj z
              omega
            · have z : h.1 + 1 + 1 = q8 := Value.ref.inj z
              omega
        · obtain ⟨u1, b1, ⟨q7, z7, l7⟩, q8, z8, l8⟩ := rw_ p s h3 e
          rcases at_ k p' v8 hp' with h4 | h4
          · rw [h4] at e'
            have es := nw s' e'
            rw [es, y7, y8, w7 s 7 b1.1 b1.2, w7 s 8 b1.1 b1.2, z7, z8]
            refine ⟨fun z => ?_, fun z => ?_⟩
            · have z : q7 = h.1 + 1 := Value.ref.inj z
              omega
            · have z : q8 = h.1 + 1 + 1 := Value.ref.inj z
              omega
          · obtain ⟨u2, b2, -, -⟩ := rw_ p' s' h4 e'
            rw [w7 s 7 b1.1 b1.2, w7 s 8 b1.1 b1.2, w7 s' 7 b2.1 b2.2, w7 s' 8 b2.1 b2.2]
            exact Z m0 p p' s s' m1 h3 h4 n u1 u2
      · rcases at_ k p v8 hp with h3 | h3
        · exfalso
          rw [h3] at es
          have es := nw s es
          rw [es, y6] at e6
          have z := congrArg (fun v => match v with | Value.int x => x.toInt | _ => 0) e6
          have z : (Int32.ofInt 0).toInt = (Int32.ofInt (cc : Int)).toInt := z
          rw [fx_ti (by omega), fx_ti (by omega)] at z
          omega
        · obtain ⟨u1, b1, -, -⟩ := rw_ p s h3 es
          rw [w7 s 7 b1.1 b1.2] at e7
          rw [w7 s 6 b1.1 b1.2] at e6
          obtain ⟨E, l, t, u, st, x1, x2⟩ := X m0 p s qq m1 h3 u1 e7 x cc e6 hcc hec
          obtain ⟨q', k7, q1, q2, -⟩ := po_q I (p := p) (by omega) u1
          have eq2 : q' = qq := by
            rw [k7] at e7
            exact Value.ref.inj e7
          rw [eq2] at q1 q2
          refine ⟨E, l, t, u, st, (w7 qq x q1 q2).trans x1, x2.s S fun c j c1 c2 _ _ _ => ?_⟩
          have hc : c = 93 ∨ c = 94 ∨ c = 95 ∨ c = 96 ∨ c = 97 := by omega
          rcases hc with rfl | rfl | rfl | rfl | rfl <;> exact lw_frA F1 lo (by decide) (by decide +kernel) j
    · have w1 := pc_38u (d := d + 1) I q m1 (by omega)
      have e3 := (Prod.mk.inj (ax_det ev w1)).2
      rw [e3]
      exact ⟨fun z => z, fun z => z⟩
  · have w1 := pc_38f (h := h) (d := d + 1) q
    have e3 := (Prod.mk.inj (ax_det ev w1)).2
    rw [e3]
    exact ⟨fun z => z, fun z => z⟩
end OE2
