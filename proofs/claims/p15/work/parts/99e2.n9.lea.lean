/-! THE CALL LEAVE AT THE LAW -/
/-- the relation where nothing that it speaks of has changed -/
theorem rL_same {h h2 : am_H} {n : Nat} (I : cq_Inv none h) (hn : h.1 ≤ n) (E : ∀ c j, c ≠ 41 → (c ≠ 78 ∨ 10 ≤ j) → c ≠ 85 → (c < 104 ∨ 110 < c ∨ j ≠ 80) → c < n → h2.2.2.2 c j = h.2.2.2 c j) (X : rL h) : rL h2 := by
  have lo := I.lo
  obtain ⟨x, e1, e2, P, D⟩ := X
  have bx := rL_bm I e1
  have f49 : ∀ k, h2.2.2.2 49 k = h.2.2.2 49 k := fun k => E 49 k (by decide) (Or.inl (by decide)) (by decide) (Or.inl (by decide)) (by omega)
  refine ⟨x, by rw [E 48 1 (by decide) (Or.inl (by decide)) (by decide) (Or.inl (by decide)) (by omega), e1], by rw [E 78 35 (by decide) (Or.inr (by decide)) (by decide) (Or.inl (by decide)) (by omega), e2], fun k hk => ?_, fun k l h1 h2 => by rw [f49, f49]; exact D k l h1 h2⟩
  obtain ⟨s, z⟩ := P k hk
  obtain ⟨o1, o2, o3⟩ := rL_ob I (k := k) (by omega) z.1
  exact ⟨s, rL1_fr (fun j _ => E s j (by omega) (Or.inl (by omega)) (by omega) (Or.inr (Or.inl (by omega))) (by omega)) (f49 k) (fun c c1 c2 => E c k (by omega) (Or.inl (by omega)) (by omega) (Or.inr (Or.inr (by omega))) (by omega)) z⟩
/-- a number of the heap, as a natural number -/
theorem iv_nat {h : am_H} {c j n : Nat} {x : Int32} (e : h.2.2.2 c j = .int x) (b : 0 ≤ x.toInt) (hn : x.toInt.toNat = n) : h.2.2.2 c j = iv n := by
  rw [e, fx_of x]
  exact congrArg iv (by omega)
theorem ol_int {M H h1 : am_H} {Φ : Nat → Value} {q j : Nat} (a : M.2.2.2 (102 + j) 80 = Φ j) (c : H.2.2.2 q j = Φ j) (I1 : cq_Inv none h1) (e : h1.2.2.2 q j = H.2.2.2 q j) (kO : q < h1.1 ∧ h1.2.2.1 q = (0, 4, am_N 4)) (hq : 130 ≤ q) (j1 : 2 ≤ j) (j2 : j ≤ 8) : ∃ u : Int32, M.2.2.2 (102 + j) 80 = .int u := by
  have K : cq_kOk h1 q (0, 4, 0) := ⟨hq, kO.1, kO.2⟩
  have hj : j = 2 ∨ j = 3 ∨ j = 4 ∨ j = 5 ∨ j = 6 ∨ j = 7 ∨ j = 8 := by omega
  have x : ∃ x : Int32, h1.2.2.2 q j = .int x := by
    rcases hj with rfl | rfl | rfl | rfl | rfl | rfl | rfl
    · obtain ⟨x, ex, -⟩ : ∃ x : Int32, h1.2.2.2 q 2 = .int x ∧ (cq_cl 4 2).2.1 ≤ x.toInt ∧ x.toInt ≤ (cq_cl 4 2).2.2.1 := ax_fd I1 K (j := 2) (t := (1, (cq_cl 4 2).2.1, (cq_cl 4 2).2.2.1, 0, 0, 0)) (by decide +kernel) (by decide +kernel)
      exact ⟨x, ex⟩
    · obtain ⟨x, ex, -⟩ : ∃ x : Int32, h1.2.2.2 q 3 = .int x ∧ (cq_cl 4 3).2.1 ≤ x.toInt ∧ x.toInt ≤ (cq_cl 4 3).2.2.1 := ax_fd I1 K (j := 3) (t := (1, (cq_cl 4 3).2.1, (cq_cl 4 3).2.2.1, 0, 0, 0)) (by decide +kernel) (by decide +kernel)
      exact ⟨x, ex⟩
    · obtain ⟨x, ex, -⟩ : ∃ x : Int32, h1.2.2.2 q 4 = .int x ∧ (cq_cl 4 4).2.1 ≤ x.toInt ∧ x.toInt ≤ (cq_cl 4 4).2.2.1 := ax_fd I1 K (j := 4) (t := (1, (cq_cl 4 4).2.1, (cq_cl 4 4).2.2.1, 0, 0, 0)) (by decide +kernel) (by decide +kernel)
      exact ⟨x, ex⟩
    · obtain ⟨x, ex, -⟩ : ∃ x : Int32, h1.2.2.2 q 5 = .int x ∧ (cq_cl 4 5).2.1 ≤ x.toInt ∧ x.toInt ≤ (cq_cl 4 5).2.2.1 := ax_fd I1 K (j := 5) (t := (1, (cq_cl 4 5).2.1, (cq_cl 4 5).2.2.1, 0, 0, 0)) (by decide +kernel) (by decide +kernel)
      exact ⟨x, ex⟩
    · obtain ⟨x, ex, -⟩ : ∃ x : Int32, h1.2.2.2 q 6 = .int x ∧ (cq_cl 4 6).2.1 ≤ x.toInt ∧ x.toInt ≤ (cq_cl 4 6).2.2.1 := ax_fd I1 K (j := 6) (t := (1, (cq_cl 4 6).2.1, (cq_cl 4 6).2.2.1, 0, 0, 0)) (by decide +kernel) (by decide +kernel)
      exact ⟨x, ex⟩
    · obtain ⟨x, ex, -⟩ : ∃ x : Int32, h1.2.2.2 q 7 = .int x ∧ (cq_cl 4 7).2.1 ≤ x.toInt ∧ x.toInt ≤ (cq_cl 4 7).2.2.1 := ax_fd I1 K (j := 7) (t := (1, (cq_cl 4 7).2.1, (cq_cl 4 7).2.2.1, 0, 0, 0)) (by decide +kernel) (by decide +kernel)
      exact ⟨x, ex⟩
    · obtain ⟨x, ex, -⟩ : ∃ x : Int32, h1.2.2.2 q 8 = .int x ∧ (cq_cl 4 8).2.1 ≤ x.toInt ∧ x.toInt ≤ (cq_cl 4 8).2.2.1 := ax_fd I1 K (j := 8) (t := (1, (cq_cl 4 8).2.1, (cq_cl 4 8).2.2.1, 0, 0, 0)) (by decide +kernel) (by decide +kernel)
      exact ⟨x, ex⟩
  obtain ⟨x, ex⟩ := x
  exact ⟨x, by rw [a, ← c, ← e, ex]⟩
section OPL
variable {h : am_H} {d : Nat}
/-- the program's reading of a new leave begins -/
theorem ol_C {k : am_H} {b : Nat → Int} {L q : Nat} {pp cc : Int32} (Sk : fS k) (Ok : am_isO k q 4 = true) (hq : 130 ≤ q) (B : tb k 42 b L) (v1 : k.2.2.2 41 1 = iv L) : ∃ K : am_H, K = (am_put (am_put (am_put (am_put (am_put (am_put (am_put (am_put (am_put (am_put (am_put k q 2 (iv 0)) q 3 (iv 29999)) q 4 (iv 0)) q 5 (iv 2)) q 6 (iv 0)) q 7 (iv (-1))) q 8 (iv 0)) q 9 (iv (-1))) q 10 (iv (-1))) q 0 (.int pp)) q 1 (.int cc)) ∧ lC (am_put (am_put (am_put K 41 6 (iv 0)) 41 3 (iv 0)) 41 4 (iv (-1))) K q b L 0 lv_0 ∧ K.2.2.2 q 0 = .int pp ∧ K.2.2.2 q 1 = .int cc ∧ K.2.2.2 q 9 = iv (-1) ∧ K.2.2.2 q 10 = iv (-1) ∧ (K.1 = k.1 ∧ K.2.2.1 = k.2.2.1) ∧ (∀ c j, c ≠ q → K.2.2.2 c j = k.2.2.2 c j) ∧ fS K := by
  obtain ⟨K, eK, F, a0, a1, a9, a10, sz, fr⟩ := ll_75v (h := k) (q := q) (pp := pp) (cc := cc)
  have SK : fS K := by
    rw [eK]
    exact (((((((((((Sk.pd hq).pd hq).pd hq).pd hq).pd hq).pd hq).pd hq).pd hq).pd hq).pd hq).pd hq)
  have OK : am_isO K q 4 = true := by
    unfold am_isO at Ok ⊢
    rw [sz.1, sz.2]
    exact Ok
  refine ⟨K, eK, ⟨((SK.po rfl rfl).po rfl rfl).po rfl rfl, (((show tb K 42 b L from fun i hi => (fr 42 i (by omega)).trans (B i hi)).put (by decide)).put (by decide)).put (by decide), ax_put_o (Or.inr (by decide)) (ax_put_o (Or.inr (by decide)) (ax_put_o (Or.inr (by decide)) ((fr 41 1 (by omega)).trans v1))), ax_put_o (Or.inr (by decide)) (ax_put_o (Or.inr (by decide)) (ax_put_s _ _ _)), ax_put_o (Or.inr (by decide)) (ax_put_s _ _ _), ax_put_s _ _ _, ⟨rfl, rfl⟩, fO (fO (fO OK)), hq, fun c j n1 n2 => ax_put_o (Or.inl n1) (ax_put_o (Or.inl n1) (ax_put_o (Or.inl n1) rfl)), fun j a c => ax_put_o (Or.inl (by omega)) (ax_put_o (Or.inl (by omega)) (ax_put_o (Or.inl (by omega)) (F j a c))), fun j a => ax_put_o (Or.inl (by omega)) (ax_put_o (Or.inl (by omega)) (ax_put_o (Or.inl (by omega)) rfl))⟩, a0, a1, a9, a10, sz, fr, SK⟩
theorem op_lea (I : cq_Inv none h) (X : rT h) (P : rp_P h) (R : rL h) (T : tT h (41, 1, 78, 2)) (Tc : tT h (40, 9, 78, 15)) (p1 : Int32) : ∃ (a : Int32) (h1 h2 : am_H), am_ev (d + 10) 74 0 (am_ent [.ref 40, .int p1] (am_in 74).2.2.1) [] h (some (.int a), h1) ∧ am_ev (d + 10) 208 0 (am_ent [.ref 78, .int p1] (am_in 208).2.2.1) [] h1 (some (.int a), h2) ∧ cq_Inv none h1 ∧ cq_Inv none h2 ∧ cq_Fr ct_74.2.2.2.1 h h1 ∧ cq_Fr ct_208.2.2.2.1 h1 h2 ∧ (∀ q ∈ [((41 : Nat), (1 : Nat), (78 : Nat), (2 : Nat))], tT h2 q) ∧ rL h2 ∧ (rF h → rF h2) ∧ h2.1 ≤ h.1 + 12 ∧ h2.2.1 ≤ h.2.1 + 624 := by
  obtain ⟨L, hL, v1, v2⟩ := tT_nat I T
  obtain ⟨b, hb, hB⟩ := tb_b I
  obtain ⟨cc, c1, c2⟩ := Tc
  have c1 : h.2.2.2 40 9 = .int cc := c1
  have c2 : h.2.2.2 78 15 = .int cc := c2
  obtain ⟨pm, m1, m2, PP, PD⟩ := P
  have bp := rp_bm I m1
  have R0 := R
  obtain ⟨mm, e1, e2, RP, RD⟩ := R
  have bm := rL_bm I e1
  obtain ⟨m, hm⟩ : ∃ m : Nat, mm.toInt.toNat = m := ⟨_, rfl⟩
  have i1 := iv_nat e1 bm.1 hm
  have i2 := iv_nat e2 bm.1 hm
  have lo := I.lo
  have S := fS.of I
  obtain ⟨r, h1, ev1, T1', I1, F1, A1, B1⟩ := sp_ap1 (A := 1) (B := 11) ok_74 rfl rfl (by decide +kernel) I (d := d + 10) (by show 9 ≤ d + 10; omega) p1
  obtain ⟨r', h2, ev2, T2', I2, F2, A2, B2⟩ := sp_ap1 (A := 0) (B := 0) ok_208 rfl rfl (by decide +kernel) I1 (d := d + 10) (by show _ ≤ d + 10; exact Nat.le_add_left _ _) p1
  have lo1 := I1.lo
  have S1 := fS.of I1
  have k2 : h1.2.2.2 78 2 = iv L := by rw [lw_frF F1 lo (by decide) (by decide +kernel), v2]
  have k16 : h1.2.2.2 78 16 = .int pm := by rw [lw_frF F1 lo (by decide) (by decide +kernel), m2]
  have k35 : h1.2.2.2 78 35 = iv m := by rw [lw_frF F1 lo (by decide) (by decide +kernel), i2]
  have k15 : h1.2.2.2 78 15 = .int cc := by rw [lw_frF F1 lo (by decide) (by decide +kernel), c2]
  have k80 := lw_frA F1 lo (c := 80) (by decide) (by decide +kernel)
  have kM : ∀ c, 103 ≤ c → c ≤ 113 → ∀ j, h1.2.2.2 c j = h.2.2.2 c j := fun c a1 a2 => by
    have hc : c = 103 ∨ c = 104 ∨ c = 105 ∨ c = 106 ∨ c = 107 ∨ c = 108 ∨ c = 109 ∨ c = 110 ∨ c = 111 ∨ c = 112 ∨ c = 113 := by omega
    rcases hc with rfl | rfl | rfl | rfl | rfl | rfl | rfl | rfl | rfl | rfl | rfl <;> exact lw_frA F1 lo (by decide) (by decide +kernel)
  have f2c : ∀ c, c < 78 → ∀ j, h2.2.2.2 c j = h1.2.2.2 c j := fun c a j => F2.vl c (by omega) j (by
    unfold cq_inW
    rw [List.any_eq_false]
    intro w hw
    have z : (ct_208.2.2.2.1.all fun w => !w.1 && Nat.ble 78 w.2.1) = true := by decide +kernel
    have y := (Bool.and_eq_true _ _ ▸ List.all_eq_true.1 z w hw)
    have y1 : w.1 = false := by simpa using y.1
    have y2 := Nat.le_of_ble_eq_true y.2
    rw [y1, dh_bne (show w.2.1 ≠ c by omega)]
    simp)
  have f2d : ∀ c, 130 ≤ c → c < h1.1 → ∀ j, h2.2.2.2 c j = h1.2.2.2 c j := fun c a a' j => F2.vl c a' j (by
    unfold cq_inW
    rw [List.any_eq_false]
    intro w hw
    have z : (ct_208.2.2.2.1.all fun w => !w.1 && Nat.blt w.2.1 130) = true := by decide +kernel
    have y := (Bool.and_eq_true _ _ ▸ List.all_eq_true.1 z w hw)
    have y1 : w.1 = false := by simpa using y.1
    have y2 : w.2.1 < 130 := Nat.le_of_ble_eq_true y.2
    rw [y1, dh_bne (show w.2.1 ≠ c by omega)]
    simp)
  have O78' : am_isO (am_put (am_put (am_put h1 78 3 (iv ((L : Int)))) 78 2 (iv 0)) 78 5 (iv 0)) 78 13 = true := fO (fO (fO (S1.ob rfl)))
  have k16' : ((am_put (am_put (am_put h1 78 3 (iv ((L : Int)))) 78 2 (iv 0)) 78 5 (iv 0)) : am_H).2.2.2 78 16 = .int pm := ax_put_o (Or.inr (by decide)) (ax_put_o (Or.inr (by decide)) (ax_put_o (Or.inr (by decide)) k16))
  have tie : h1.2.2.2 41 1 = iv 0 → h2.2.2.2 78 2 = iv 0 → ∀ q ∈ [((41 : Nat), (1 : Nat), (78 : Nat), (2 : Nat))], tT h2 q := fun z1 z2 q hq => by
    rw [List.mem_singleton.1 hq]
    exact ⟨Int32.ofInt 0, (f2c 41 (by decide) 1).trans z1, z2⟩
  by_cases hp : 0 ≤ p1.toInt ∧ p1.toInt < pm.toInt
  · obtain ⟨s, t, w, s1, -⟩ := PP p1.toInt.toNat (by omega)
    have H42 := (po_42 (d := d + 9) I m1 bp).1 hp
    rw [s1] at H42
    have H188 : am_ev (d + 9) 188 0 (am_ent [.ref 78, .int p1] 2) [] (am_put (am_put (am_put h1 78 3 (iv ((L : Int)))) 78 2 (iv 0)) 78 5 (iv 0)) (some (iv 1), (am_put (am_put (am_put h1 78 3 (iv ((L : Int)))) 78 2 (iv 0)) 78 5 (iv 0))) := (po_188 (d := d + 8) O78' k16' bp).1 hp
    by_cases hf : m < 80
    · obtain ⟨k, hk⟩ : ∃ k : am_H, k = am_mk h (0, 4, am_N 4) (am_N 4) (fun j => defaultValue (am_ty 4 j)) := ⟨_, rfl⟩
      have k1 : k.1 = h.1 + 1 := by rw [hk]; rfl
      have kc : ∀ c j, c ≠ h.1 → k.2.2.2 c j = h.2.2.2 c j := fun c j n => by
        rw [hk]
        exact if_neg n
      have ka : k.2.2.1 h.1 = (0, 4, am_N 4) := by
        rw [hk]
        exact if_pos rfl
      have Sk : fS k := by rw [hk]; exact S.mk
      have Ok : am_isO k h.1 4 = true := by
        unfold am_isO
        rw [ka, k1, show Nat.blt h.1 (h.1 + 1) = true from Nat.ble_eq_true_of_le (Nat.le_refl _)]
        rfl
      obtain ⟨K, eK, CK, a0, a1, a9, a10, szK, frK, SK⟩ := ol_C (pp := p1) (cc := cc) (b := b) (L := L) Sk Ok lo (fun i hi => (kc 42 i (by omega)).trans (hB i (by omega))) ((kc 41 1 (by omega)).trans v1)
      obtain ⟨w0, hw0, -⟩ := ax_in I1 (c := 78) (j := 7) (l := -2147483648) (u := 2147483647) (by decide +kernel) (by decide +kernel)
      have hw0 := hw0.trans (fx_of w0)
      obtain ⟨s0, e0, kk, vv, t0⟩ := tz_t_ex (b := b) (Nat.zero_le L)
      have Bm : tb h1 80 b L := fun i hi => by rw [k80 i, ← X.1 i (by omega)]; exact hB i (by omega)
      obtain ⟨Gm, MG, st⟩ := ll_209 (d := d + 9) (h := (am_put (am_put (am_put (am_put (am_put (am_put (am_put (am_put (am_put h1 78 3 (iv ((L : Int)))) 78 2 (iv 0)) 78 5 (iv 0)) 78 8 (iv 0)) 78 9 (iv (-1))) 78 4 (iv ((s0 : Int)))) 78 7 (iv ((tV b L s0 w0.toInt)))) 78 5 (iv ((e0 : Int)))) 78 6 (iv ((tH kk))))) (((((((((S1.po rfl rfl).po rfl rfl).po rfl rfl).po rfl rfl).po rfl rfl).po rfl rfl).po rfl rfl).po rfl rfl).po rfl rfl) (((((((((Bm.put (by decide)).put (by decide)).put (by decide)).put (by decide)).put (by decide)).put (by decide)).put (by decide)).put (by decide)).put (by decide)) (ax_put_o (Or.inr (by decide)) (ax_put_o (Or.inr (by decide)) (ax_put_o (Or.inr (by decide)) (ax_put_o (Or.inr (by decide)) (ax_put_o (Or.inr (by decide)) (ax_put_o (Or.inr (by decide)) (ax_put_o (Or.inr (by decide)) (ax_put_o (Or.inr (by decide)) (ax_put_s _ _ _))))))))) (ax_put_o (Or.inr (by decide)) (ax_put_o (Or.inr (by decide)) (ax_put_o (Or.inr (by decide)) (ax_put_s _ _ _)))) (ax_put_o (Or.inr (by decide)) (ax_put_s _ _ _)) (ax_put_s _ _ _) (ax_put_o (Or.inr (by decide)) (ax_put_o (Or.inr (by decide)) (ax_put_s _ _ _))) (ax_put_o (Or.inr (by decide)) (ax_put_o (Or.inr (by decide)) (ax_put_o (Or.inr (by decide)) (ax_put_o (Or.inr (by decide)) (ax_put_o (Or.inr (by decide)) (ax_put_s _ _ _)))))) (ax_put_o (Or.inr (by decide)) (ax_put_o (Or.inr (by decide)) (ax_put_o (Or.inr (by decide)) (ax_put_o (Or.inr (by decide)) (ax_put_s _ _ _))))) (ax_put_o (Or.inr (by decide)) (ax_put_o (Or.inr (by decide)) (ax_put_o (Or.inr (by decide)) (ax_put_o (Or.inr (by decide)) (ax_put_o (Or.inr (by decide)) (ax_put_o (Or.inr (by decide)) (ax_put_o (Or.inr (by decide)) (ax_put_s _ _ _)))))))) t0 (t0.v _)
      have top : ∀ x, am_ev (d + 10) 74 37 [.ref 40, .int p1, iv (-1), am_ph] [.ref h.1] k x → am_ev (d + 10) 74 0 (am_ent [.ref 40, .int p1] (am_in 74).2.2.1) [] h x := fun x q9 => ll_74a (d := d + 9) S H42 i1 hf (by
        refine am_ev.step (pc' := 37) (h' := k) rfl (by rw [hk]; rfl) ?_
        exact q9)
      have c9 : k.2.2.2 40 9 = .int cc := (kc 40 9 (by omega)).trans c1
      obtain ⟨H, M, ⟨p2, s2, e2', p2', k3, v3, w3, τ, Φ, x1, x2, CH, MH⟩ | ⟨f, s2, x1, x2, CH, MH⟩⟩ := lr_loop (d := d) hb hL 7 0 0 s0 e0 (Int32.ofInt 0) kk vv _ (fun _ => 0) lv_0 _ Gm am_ph (iv 7) (by omega) rfl (fun i _ => Or.inl rfl) (fun i hi => by rw [bt_0 i (by omega)]; exact ⟨fun z => Bool.noConfusion z, fun z => absurd (show (0 : Int) = 1 from z) (by decide)⟩) (fun _ => rfl) CK MG
      · obtain ⟨SH, -, -, -, f3, f4, szH, OH, -, frH, FH, FH2⟩ := CH
        have hs : H.2.2.1 h.1 = (0, 4, am_N 4) := by rw [szH.2, szK.2, ka]
        have g1 : H.2.2.2 48 1 = iv m := by rw [frH 48 1 (by decide) (by omega), frK 48 1 (by omega), kc 48 1 (by omega), i1]
        have y1 := top _ (ll_74y (d := d + 1) (q := h.1) Sk Ok lo c9 (eK ▸ ll_76 (d := d + 1) SK x1) SH OH g1 hf hs)
        obtain ⟨SM, -, -, -, -, -, -, -, -, -, f8, f9, zM, -, FM', frM⟩ := MH
        have g35 : M.2.2.2 78 35 = iv m := (frM 78 35 (Or.inr (by decide)) (by decide) (Or.inl (by decide))).trans ((ax_put_o (Or.inr (by decide)) (ax_put_o (Or.inr (by decide)) (ax_put_o (Or.inr (by decide)) (ax_put_o (Or.inr (by decide)) (ax_put_o (Or.inr (by decide)) (ax_put_o (Or.inr (by decide)) (ax_put_o (Or.inr (by decide)) (ax_put_o (Or.inr (by decide)) (ax_put_o (Or.inr (by decide)) k35))))))))))
        have g15 : M.2.2.2 78 15 = .int cc := (frM 78 15 (Or.inr (by decide)) (by decide) (Or.inl (by decide))).trans ((ax_put_o (Or.inr (by decide)) (ax_put_o (Or.inr (by decide)) (ax_put_o (Or.inr (by decide)) (ax_put_o (Or.inr (by decide)) (ax_put_o (Or.inr (by decide)) (ax_put_o (Or.inr (by decide)) (ax_put_o (Or.inr (by decide)) (ax_put_o (Or.inr (by decide)) (ax_put_o (Or.inr (by decide)) k15))))))))))
        have iM : ∀ j, 2 ≤ j → j ≤ 8 → ∃ u : Int32, M.2.2.2 (102 + j) 80 = .int u := fun j j1 j2 => ol_int (FM' j j1 j2) (FH j j1 j2) I1 (q := h.1) (h1 := h1) (by
          have q1 := (Prod.mk.inj (ax_det ev1 y1)).2
          rw [q1]
          exact ax_put_o (Or.inl (by omega)) (ax_put_o (Or.inl (by omega)) (ax_put_o (Or.inl (by omega)) rfl))) (by
          have q1 := (Prod.mk.inj (ax_det ev1 y1)).2
          rw [q1]
          exact ⟨by show h.1 < H.1; rw [szH.1, szK.1, k1]; omega, hs⟩) lo j1 j2
        obtain ⟨u2, w2'⟩ := iM 2 (by decide) (by decide)
        obtain ⟨u3, w3'⟩ := iM 3 (by decide) (by decide)
        obtain ⟨u4, w4'⟩ := iM 4 (by decide) (by decide)
        obtain ⟨u5, w5'⟩ := iM 5 (by decide) (by decide)
        obtain ⟨u6, w6'⟩ := iM 6 (by decide) (by decide)
        obtain ⟨u7, w7'⟩ := iM 7 (by decide) (by decide)
        obtain ⟨u8, w8'⟩ := iM 8 (by decide) (by decide)
        have y2 := ll_208n (d := d) (pp := p1) S1 Bm hb hL k2 hw0 k35 hf H188 t0 SM (st _ x2) (ll_208e (d := d + 10) SM g35 hf g15 w2' w3' w4' w5' w6' w7' w8')
        obtain ⟨z1, z2⟩ := Prod.mk.inj (ax_det ev1 y1)
        obtain ⟨z3, z4⟩ := Prod.mk.inj (ax_det ev2 y2)
        have hq1 : h.1 < h1.1 := by
          rw [z2]
          show h.1 < H.1
          rw [szH.1, szK.1, k1]
          omega
        have qH : ∀ j, h2.2.2.2 h.1 j = H.2.2.2 h.1 j := fun j => (f2d h.1 lo hq1 j).trans (by
          rw [z2]
          exact ax_put_o (Or.inl (by omega)) (ax_put_o (Or.inl (by omega)) (ax_put_o (Or.inl (by omega)) rfl)))
        have oH : ∀ s j, 130 ≤ s → s < h.1 → h2.2.2.2 s j = h.2.2.2 s j := fun s j a1 a2 => (f2d s a1 (by omega) j).trans (by
          rw [z2]
          exact ax_put_o (Or.inl (by omega)) (ax_put_o (Or.inl (by omega)) (ax_put_o (Or.inl (by omega)) ((frH s j (by omega) (by omega)).trans ((frK s j (by omega)).trans (kc s j (by omega)))))))
        have o49 : ∀ j, j ≠ m → h2.2.2.2 49 j = h.2.2.2 49 j := fun j hj => (f2c 49 (by decide) j).trans (by
          rw [z2]
          exact ax_put_o (Or.inl (by decide)) (ax_put_o (Or.inl (by decide)) (ax_put_o (Or.inr hj) ((frH 49 j (by decide) (by omega)).trans ((frK 49 j (by omega)).trans (kc 49 j (by omega)))))))
        have n49 : h2.2.2.2 49 m = .ref h.1 := (f2c 49 (by decide) m).trans (by
          rw [z2]
          exact ax_put_o (Or.inl (by decide)) (ax_put_o (Or.inl (by decide)) (ax_put_s _ _ _)))
        have oA : ∀ c j, 103 ≤ c → c ≤ 113 → j < m → h2.2.2.2 c j = h.2.2.2 c j := fun c j a1 a2 a3 => by
          rw [z4]
          refine Eq.trans (ax_put_o (by omega) (ax_put_o (by omega) (ax_put_o (by omega) (ax_put_o (by omega) (ax_put_o (by omega) (ax_put_o (by omega) (ax_put_o (by omega) (ax_put_o (by omega) (ax_put_o (by omega) (ax_put_o (by omega) (ax_put_o (by omega) rfl))))))))))) ((frM c j (Or.inl (by omega)) (by omega) (by omega)).trans (Eq.trans (ax_put_o (by omega) (ax_put_o (by omega) (ax_put_o (by omega) (ax_put_o (by omega) (ax_put_o (by omega) (ax_put_o (by omega) (ax_put_o (by omega) (ax_put_o (by omega) (ax_put_o (by omega) rfl))))))))) (kM c a1 a2 j)))
        have em : (Int32.ofInt ((m : Int) + 1)).toInt = (m : Int) + 1 := fx_ti (by omega)
        have u3 : h1.2.2.2 41 3 = iv 0 := by
          rw [z2]
          exact ax_put_o (by omega) (ax_put_o (by omega) (ax_put_o (by omega) f3))
        have u4 : h1.2.2.2 41 4 = iv (-1) := by
          rw [z2]
          exact ax_put_o (by omega) (ax_put_o (by omega) (ax_put_o (by omega) f4))
        have u8 : h2.2.2.2 78 8 = iv 0 := by
          rw [z4]
          exact (ax_put_o (by omega) (ax_put_o (by omega) (ax_put_o (by omega) (ax_put_o (by omega) (ax_put_o (by omega) (ax_put_o (by omega) (ax_put_o (by omega) (ax_put_o (by omega) (ax_put_o (by omega) (ax_put_o (by omega) (ax_put_o (by omega) f8)))))))))))
        have u9 : h2.2.2.2 78 9 = iv (-1) := by
          rw [z4]
          exact (ax_put_o (by omega) (ax_put_o (by omega) (ax_put_o (by omega) (ax_put_o (by omega) (ax_put_o (by omega) (ax_put_o (by omega) (ax_put_o (by omega) (ax_put_o (by omega) (ax_put_o (by omega) (ax_put_o (by omega) (ax_put_o (by omega) f9)))))))))))
        have uF : rF h → rF h2 := fun _ => ⟨(f2c 41 (by decide) 3).trans (u3.trans u8.symm), (f2c 41 (by decide) 4).trans (u4.trans u9.symm)⟩
        refine ⟨Int32.ofInt m, h1, h2, by rw [← z1]; exact ev1, by rw [← z3]; exact ev2, I1, I2, F1, F2, tie (by rw [z2]; exact ax_put_s _ _ _) (by rw [z4]; exact (ax_put_o (Or.inr (by decide)) (ax_put_o (Or.inl (by decide)) (ax_put_o (Or.inl (by decide)) (ax_put_o (Or.inl (by decide)) (ax_put_o (Or.inl (by decide)) (ax_put_o (Or.inl (by decide)) (ax_put_o (Or.inl (by decide)) (ax_put_o (Or.inl (by decide)) (ax_put_o (Or.inl (by decide)) (ax_put_o (Or.inl (by decide)) (ax_put_o (Or.inl (by decide)) zM)))))))))))), ⟨Int32.ofInt ((m : Int) + 1), ?_, ?_, fun k' hk' => ?_, fun k' l' a1 a2 => ?_⟩, uF, by omega, by omega⟩
        · rw [f2c 48 (by decide) 1, z2]
          exact ax_put_o (Or.inl (by decide)) (ax_put_s _ _ _)
        · rw [z4]
          exact (ax_put_s _ _ _)
        · rw [em] at hk'
          by_cases ek : k' = m
          · subst ek
            refine ⟨h.1, n49, ?_, ?_, fun j j1 j2 => ?_, Or.inl ⟨?_, ?_⟩⟩
            · rw [qH, FH2 0 (Or.inl (by decide)), a0, z4]
              exact ((ax_put_o (Or.inl (by decide)) (ax_put_o (Or.inl (by decide)) (ax_put_o (Or.inl (by decide)) (ax_put_o (Or.inl (by decide)) (ax_put_o (Or.inl (by decide)) (ax_put_o (Or.inl (by decide)) (ax_put_o (Or.inl (by decide)) (ax_put_o (Or.inl (by decide)) (ax_put_o (Or.inl (by decide)) (ax_put_o (Or.inl (by decide)) (ax_put_s _ _ _)))))))))))).symm
            · rw [qH, FH2 1 (Or.inl (by decide)), a1, z4]
              exact ((ax_put_o (Or.inl (by decide)) (ax_put_o (Or.inl (by decide)) (ax_put_s _ _ _)))).symm
            · rw [qH, FH j j1 j2, ← FM' j j1 j2, z4]
              have hj : j = 2 ∨ j = 3 ∨ j = 4 ∨ j = 5 ∨ j = 6 ∨ j = 7 ∨ j = 8 := by omega
              rcases hj with rfl | rfl | rfl | rfl | rfl | rfl | rfl
              · exact w2'.trans ((ax_put_o (Or.inl (by decide)) (ax_put_o (Or.inl (by decide)) (ax_put_o (Or.inl (by decide)) (ax_put_o (Or.inl (by decide)) (ax_put_o (Or.inl (by decide)) (ax_put_o (Or.inl (by decide)) (ax_put_o (Or.inl (by decide)) (ax_put_o (Or.inl (by decide)) (ax_put_o (Or.inl (by decide)) (ax_put_s _ _ _))))))))))).symm
              · exact w3'.trans ((ax_put_o (Or.inl (by decide)) (ax_put_o (Or.inl (by decide)) (ax_put_o (Or.inl (by decide)) (ax_put_o (Or.inl (by decide)) (ax_put_o (Or.inl (by decide)) (ax_put_o (Or.inl (by decide)) (ax_put_o (Or.inl (by decide)) (ax_put_o (Or.inl (by decide)) (ax_put_s _ _ _)))))))))).symm
              · exact w4'.trans ((ax_put_o (Or.inl (by decide)) (ax_put_o (Or.inl (by decide)) (ax_put_o (Or.inl (by decide)) (ax_put_o (Or.inl (by decide)) (ax_put_o (Or.inl (by decide)) (ax_put_o (Or.inl (by decide)) (ax_put_o (Or.inl (by decide)) (ax_put_s _ _ _))))))))).symm
              · exact w5'.trans ((ax_put_o (Or.inl (by decide)) (ax_put_o (Or.inl (by decide)) (ax_put_o (Or.inl (by decide)) (ax_put_o (Or.inl (by decide)) (ax_put_o (Or.inl (by decide)) (ax_put_o (Or.inl (by decide)) (ax_put_s _ _ _)))))))).symm
              · exact w6'.trans ((ax_put_o (Or.inl (by decide)) (ax_put_o (Or.inl (by decide)) (ax_put_o (Or.inl (by decide)) (ax_put_o (Or.inl (by decide)) (ax_put_o (Or.inl (by decide)) (ax_put_s _ _ _))))))).symm
              · exact w7'.trans ((ax_put_o (Or.inl (by decide)) (ax_put_o (Or.inl (by decide)) (ax_put_o (Or.inl (by decide)) (ax_put_o (Or.inl (by decide)) (ax_put_s _ _ _)))))).symm
              · exact w8'.trans ((ax_put_o (Or.inl (by decide)) (ax_put_o (Or.inl (by decide)) (ax_put_o (Or.inl (by decide)) (ax_put_s _ _ _))))).symm
            · rw [qH, FH2 9 (Or.inr (by decide)), a9]
            · rw [z4]
              exact (ax_put_o (Or.inl (by decide)) (ax_put_s _ _ _))
          · obtain ⟨s', z⟩ := RP k' (by omega)
            obtain ⟨o1, o2, o3⟩ := rL_ob I (k := k') (by omega) z.1
            exact ⟨s', rL1_fr (fun j _ => oH s' j o1 o2) (o49 k' ek) (fun c c1 c2 => oA c k' c1 c2 (by omega)) z⟩
        · rw [em] at a2
          by_cases el : l' = m
          · obtain ⟨s', z⟩ := RP k' (by omega)
            obtain ⟨o1, o2, o3⟩ := rL_ob I (k := k') (by omega) z.1
            rw [el, n49, o49 k' (by omega), z.1]
            intro y
            cases y
            omega
          · rw [o49 k' (by omega), o49 l' el]
            exact RD k' l' a1 (by omega)
      · obtain ⟨SH, f3, f4, szH, -, frH⟩ := CH
        have hs : H.2.2.1 h.1 = (0, 4, am_N 4) := by rw [szH.2, szK.2, ka]
        have OH : am_isO H h.1 4 = true := by
          unfold am_isO at Ok ⊢
          rw [show H.1 = k.1 from szH.1.trans szK.1, show H.2.2.1 = k.2.2.1 from szH.2.trans szK.2]
          exact Ok
        have g1 : H.2.2.2 48 1 = iv m := by rw [frH 48 1 (by decide) (by omega), frK 48 1 (by omega), kc 48 1 (by omega), i1]
        have y1 := top _ (ll_74n (d := d + 1) (q := h.1) Sk Ok lo c9 (eK ▸ ll_76 (d := d + 1) SK x1) SH OH g1 hf hs)
        have y2 := ll_208t (d := d) (pp := p1) S1 Bm hb hL k2 hw0 k35 hf H188 t0 MH.1 (st _ x2)
        obtain ⟨z1, z2⟩ := Prod.mk.inj (ax_det ev1 y1)
        obtain ⟨z3, z4⟩ := Prod.mk.inj (ax_det ev2 y2)
        have u3 : h1.2.2.2 41 3 = iv f := by
          rw [z2]
          exact ax_put_o (by omega) f3
        have u4 : h1.2.2.2 41 4 = iv s2 := by
          rw [z2]
          exact ax_put_o (by omega) f4
        have u8 : h2.2.2.2 78 8 = iv f := by
          rw [z4]
          exact MH.2.1
        have u9 : h2.2.2.2 78 9 = iv s2 := by
          rw [z4]
          exact MH.2.2.1
        have uF : rF h → rF h2 := fun _ => ⟨(f2c 41 (by decide) 3).trans (u3.trans u8.symm), (f2c 41 (by decide) 4).trans (u4.trans u9.symm)⟩
        refine ⟨Int32.ofInt (-1), h1, h2, by rw [← z1]; exact ev1, by rw [← z3]; exact ev2, I1, I2, F1, F2, tie (by rw [z2]; exact ax_put_s _ _ _) (by rw [z4]; exact MH.2.2.2.1), rL_same I (Nat.le_refl _) (fun c j n1 n2 n3 n4 n5 => ?_) R0, uF, by omega, by omega⟩
        rw [z4]
        refine (MH.2.2.2.2 c j n2 n3 n4).trans (Eq.trans (ax_put_o (by omega) (ax_put_o (by omega) (ax_put_o (by omega) (ax_put_o (by omega) (ax_put_o (by omega) (ax_put_o (by omega) (ax_put_o (by omega) (ax_put_o (by omega) (ax_put_o (by omega) rfl))))))))) ?_)
        rw [z2]
        exact ax_put_o (Or.inl n1) ((frH c j n1 (by omega)).trans ((frK c j (by omega)).trans (kc c j (by omega))))
    · have y1 := ll_74f (d := d + 9) S H42 i1 (by omega)
      have y2 := ll_208f (d := d + 7) (pp := p1) S1 k2 k35 (by omega) H188
      obtain ⟨z1, z2⟩ := Prod.mk.inj (ax_det ev1 y1)
      obtain ⟨z3, z4⟩ := Prod.mk.inj (ax_det ev2 y2)
      have u : ∀ c j, (c ≠ 41 ∨ j ≠ 1) → (c ≠ 78 ∨ (j ≠ 2 ∧ j ≠ 3 ∧ j ≠ 5)) → h2.2.2.2 c j = h.2.2.2 c j := fun c j n1 n2 => by
        rw [z4, z2]
        exact ax_put_o (by omega) (ax_put_o (by omega) (ax_put_o (by omega) (ax_put_o (by omega) rfl)))
      have uF : rF h → rF h2 := fun XF => ⟨(u 41 3 (by omega) (by omega)).trans (XF.1.trans (u 78 8 (by omega) (by omega)).symm), (u 41 4 (by omega) (by omega)).trans (XF.2.trans (u 78 9 (by omega) (by omega)).symm)⟩
      refine ⟨Int32.ofInt (-3), h1, h2, by rw [← z1]; exact ev1, by rw [← z3]; exact ev2, I1, I2, F1, F2, tie (by rw [z2]; exact ax_put_s _ _ _) (by rw [z4]; exact ax_put_o (Or.inr (by decide)) (ax_put_s _ _ _)), rL_same I (Nat.le_refl _) (fun c j n1 n2 n3 n4 n5 => ?_) R0, uF, by omega, by omega⟩
      rw [z4, z2]
      exact ax_put_o (by omega) (ax_put_o (by omega) (ax_put_o (by omega) (ax_put_o (Or.inl n1) rfl)))
  · have H42 := (po_42 (d := d + 9) I m1 bp).2 hp
    have H188 : am_ev (d + 9) 188 0 (am_ent [.ref 78, .int p1] 2) [] (am_put (am_put (am_put h1 78 3 (iv ((L : Int)))) 78 2 (iv 0)) 78 5 (iv 0)) (some (iv 0), (am_put (am_put (am_put h1 78 3 (iv ((L : Int)))) 78 2 (iv 0)) 78 5 (iv 0))) := (po_188 (d := d + 8) O78' k16' bp).2 hp
    have y1 := ll_74r (d := d + 9) S H42
    have y2 := ll_208r (d := d + 7) (pp := p1) S1 k2 H188
    obtain ⟨z1, z2⟩ := Prod.mk.inj (ax_det ev1 y1)
    obtain ⟨z3, z4⟩ := Prod.mk.inj (ax_det ev2 y2)
    have u : ∀ c j, (c ≠ 41 ∨ j ≠ 1) → (c ≠ 78 ∨ (j ≠ 2 ∧ j ≠ 3 ∧ j ≠ 5)) → h2.2.2.2 c j = h.2.2.2 c j := fun c j n1 n2 => by
      rw [z4, z2]
      exact ax_put_o (by omega) (ax_put_o (by omega) (ax_put_o (by omega) (ax_put_o (by omega) rfl)))
    have uF : rF h → rF h2 := fun XF => ⟨(u 41 3 (by omega) (by omega)).trans (XF.1.trans (u 78 8 (by omega) (by omega)).symm), (u 41 4 (by omega) (by omega)).trans (XF.2.trans (u 78 9 (by omega) (by omega)).symm)⟩
    refine ⟨Int32.ofInt (-2), h1, h2, by rw [← z1]; exact ev1, by rw [← z3]; exact ev2, I1, I2, F1, F2, tie (by rw [z2]; exact ax_put_s _ _ _) (by rw [z4]; exact ax_put_o (Or.inr (by decide)) (ax_put_s _ _ _)), rL_same I (Nat.le_refl _) (fun c j n1 n2 n3 n4 n5 => ?_) R0, uF, by omega, by omega⟩
    rw [z4, z2]
    exact ax_put_o (by omega) (ax_put_o (by omega) (ax_put_o (by omega) (ax_put_o (Or.inl n1) rfl)))
end OPL
