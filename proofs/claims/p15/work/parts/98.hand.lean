/-! BY HAND, 18: order: its contract -/
/-- isMade -/
theorem hd_246 {hc : am_H} {d : Nat} (Ic : cq_Inv none hc) : am_ev d 246 0 (am_ent [.ref 78] (am_in 246).2.2.1) [] hc (none, am_put (am_put (am_put hc 78 75 (.int (Int32.ofInt 0))) 78 80 (.int (Int32.ofInt 0))) 78 81 (.int (Int32.ofInt 0))) ∧ cq_Inv none (am_put (am_put (am_put hc 78 75 (.int (Int32.ofInt 0))) 78 80 (.int (Int32.ofInt 0))) 78 81 (.int (Int32.ofInt 0))) := by
  have I1 := hd_I78 Ic (b := 75) (x := Int32.ofInt 0) 0 1 (by decide +kernel) (by decide) (by decide)
  have I2 := hd_I78 I1 (b := 80) (x := Int32.ofInt 0) 0 14 (by decide +kernel) (by decide) (by decide)
  have I3 := hd_I78 I2 (b := 81) (x := Int32.ofInt 0) (-2147483648) 2147483647 (by decide +kernel) (by decide) (by decide)
  refine ⟨?_, I3⟩
  refine am_ev.step rfl rfl ?_
  refine am_ev.step rfl rfl ?_
  refine am_ev.step rfl (hd_pf (cq_o78 Ic) rfl) ?_
  refine am_ev.step rfl rfl ?_
  refine am_ev.step rfl rfl ?_
  refine am_ev.step rfl (hd_pf (cq_o78 I1) rfl) ?_
  refine am_ev.step rfl rfl ?_
  refine am_ev.step rfl rfl ?_
  refine am_ev.step rfl (hd_pf (cq_o78 I2) rfl) ?_
  exact am_ev.retv rfl rfl
def hd_mO : cq_W := [(false, 118, 0, 0), (false, 124, 0, 0), (false, 78, 56, 0), (false, 78, 76, 0), (false, 78, 81, 0), (false, 78, 82, 0)]
theorem hd_O.fr {hB hc : am_H} (O : hd_O hB hc) : cq_Fr hd_mO hB hc := by
  refine ⟨by rw [O.1.1]; exact Nat.le_refl _, fun c _ => by rw [O.1.2.2], fun c _ j hw => O.2 c j (fun z => ?_) (fun z => ?_) (fun z => ?_)⟩
  · rw [z] at hw; cases hw
  · rw [z] at hw; cases hw
  · rw [z.1, z.2] at hw; cases hw
/-- order from where all are known to stand -/
theorem hd_order {hB : am_H} {ss nn : Int32} {n d : Nat} (I : cq_Inv none hB) (n10 : n ≤ 10) (en : nn.toInt = n) (v3 v4 v5 v6 v7 v8 : Value) : ∃ (r : Int32) (h' : am_H), am_ev (d + 3) 239 106 [.ref 78, .int ss, .int nn, v3, v4, v5, v6, v7, v8] [] hB (some (.int r), h') ∧ cq_Inv none h' ∧ cq_Fr hd_mO hB h' ∧ h'.1 ≤ hB.1 ∧ h'.2.1 ≤ hB.2.1 := by
  obtain ⟨ea, hA, pcA, bA⟩ := hd_alls en n10
  have eA := hd_ofNI hA
  obtain ⟨hc, u4, u5, u6, u7, Ic, O, S, Q⟩ := hd_or1 (hB := hB) (d := d) (ss := ss) (aa := Int32.ofNat (2 ^ n - 1)) n10 en hA eA v8 (2 ^ n - 1 + 1) 0 (Int32.ofInt 0) v5 v6 v7 hB (by omega) (by decide) I hd_O.rf (fun L' i' _ h2 => absurd h2 (Nat.not_lt_zero _))
  obtain ⟨be, i9, hb, Q2⟩ := hd_best (d := d) (ss := ss) (aa := Int32.ofNat (2 ^ n - 1)) n10 en hA eA Ic u6 u7 v8 n 0 (Int32.ofInt 0) hd_NV (by omega) (by decide) (Or.inl rfl)
  have go : ∀ x, am_ev (d + 3) 239 264 [.ref 78, .int ss, .int nn, .int (Int32.ofNat (2 ^ n - 1)), .int be, .int i9, u6, u7, v8] [.int hd_NV, .int be] hc x → am_ev (d + 3) 239 106 [.ref 78, .int ss, .int nn, v3, v4, v5, v6, v7, v8] [] hB x := fun x q => by
    refine am_ev.step rfl rfl ?_
    refine am_ev.step rfl rfl ?_
    refine am_ev.step rfl rfl ?_
    refine am_ev.step rfl rfl ?_
    refine am_ev.step (pc' := 111) (ls' := [.ref 78, .int ss, .int nn, v3, v4, v5, v6, v7, v8]) (st' := [.int (Int32.ofNat (2 ^ n - 1))]) (h' := hB) rfl (by rw [← ea]; rfl) ?_
    refine am_ev.step rfl rfl ?_
    refine am_ev.step rfl rfl ?_
    refine am_ev.step rfl rfl ?_
    refine Q x ?_
    refine am_ev.step rfl rfl ?_
    refine am_ev.step rfl rfl ?_
    refine am_ev.step rfl rfl ?_
    refine am_ev.step rfl rfl ?_
    refine Q2 x ?_
    refine am_ev.step rfl rfl ?_
    exact am_ev.step rfl rfl q
  by_cases c : be < hd_NV
  · rcases hb with z | ⟨W, hW, eW⟩
    · exfalso
      rw [z] at c
      exact hd_nle c (Int32.le_iff_toInt_le.2 (Int.le_refl _))
    · obtain ⟨i2, i3, a1, a2, a3, Q3⟩ := hd_first (d := d) (ss := ss) (nn := nn) (aa := Int32.ofNat (2 ^ n - 1)) (be := be) hA eA Ic u6 u7 v8 (show W < 10 by omega) eW W 0 (Int32.ofInt 0) (by omega) (by decide)
      have h10 : i2 < 10 := by omega
      obtain ⟨bt1, bt2⟩ := hd_bits hA h10 eA a2
      obtain ⟨n1, n2, n3⟩ := hd_nats hA h10
      obtain ⟨p1, p2⟩ := n3 (bA i2 (by omega))
      have I1 := hd_I78 Ic (b := 55) (x := Int32.ofInt 0) 0 14 (by decide +kernel) (by decide) (by decide)
      have O1 : hd_O hB (am_put hc 78 55 (.int (Int32.ofInt 0))) := O.p55
      obtain ⟨rm, m0, m1⟩ := hd_mem I1 h10 a2
      obtain ⟨evA, IA, rA⟩ := hd_245 (d := d + 2) I1 hd_pe (by decide) (by decide) m0 m1
      have f65 := hd_f78 I1 65 123 (by decide +kernel) (by decide +kernel)
      have K : ∀ q, hd_i (am_put (am_put (am_put hc 78 55 (.int (Int32.ofInt 0))) 118 (Int32.ofInt 0).toInt.toNat (.int (hd_i (am_put hc 78 55 (.int (Int32.ofInt 0))) 123 i2))) 78 55 (.int (Int32.ofInt 0 + Int32.ofInt 1))) 124 q = hd_i hc 124 q := fun q => by rw [hd_iv (by omega), hd_iv (by omega), hd_iv (by omega)]
      have r1 : (Int32.ofInt 0 + Int32.ofInt 1).toInt = 1 := by decide
      obtain ⟨hd, w5, w6, w7, w8, Id, Od, Q4⟩ := hd_back (hB := hB) (d := d) (ss := ss) (nn := nn) (aa := Int32.ofNat (2 ^ n - 1)) (be := be) n10 1023 (hd_clr (2 ^ n - 1) i2) i2 i3 (Int32.ofNat (hd_clr (2 ^ n - 1) i2)) be (Int32.ofInt 0 + Int32.ofInt 1) v8 _ (by omega) (by omega) (by omega) (hd_ofNI (by omega)) a2 IA O1.row (fun L' i' h1 h2 => (S L' i' h1 (by omega)).eq K) (by rw [K]; exact a3) c hd_pe (by decide) (by rw [r1]; omega)
      obtain ⟨evM, IM⟩ := hd_246 (d := d + 2) Id
      refine ⟨be, _, go _ ?_, IM, ?_, by show hd.1 ≤ hB.1; rw [Od.1.1]; exact Nat.le_refl _, by show hd.2.1 ≤ hB.2.1; rw [Od.1.2.1]; exact Nat.le_refl _⟩
      · refine am_ev.step (pc' := 269) (ls' := [.ref 78, .int ss, .int nn, .int (Int32.ofNat (2 ^ n - 1)), .int be, .int i9, u6, u7, v8]) (st' := []) (h' := hc) rfl (if_pos c) ?_
        refine am_ev.step rfl rfl ?_
        refine am_ev.step rfl rfl ?_
        refine Q3 _ ?_
        refine am_ev.step rfl rfl ?_
        refine am_ev.step rfl rfl ?_
        refine am_ev.step rfl rfl ?_
        refine am_ev.step rfl rfl ?_
        refine am_ev.step rfl rfl ?_
        refine am_ev.step rfl rfl ?_
        refine am_ev.step (pc' := 310) (ls' := [.ref 78, .int ss, .int nn, .int (Int32.ofNat (2 ^ n - 1)), .int be, .int i3, u6, u7, v8]) (st' := [.int (Int32.ofNat (hd_clr (2 ^ n - 1) i2))]) (h' := hc) rfl (by rw [← bt2]; rfl) ?_
        refine am_ev.step rfl rfl ?_
        refine am_ev.step rfl rfl ?_
        refine am_ev.step rfl rfl ?_
        refine am_ev.step rfl rfl ?_
        refine am_ev.step rfl rfl ?_
        refine am_ev.step rfl (hd_pf (cq_o78 Ic) rfl) ?_
        refine am_ev.step rfl rfl ?_
        refine am_ev.step rfl rfl ?_
        refine am_ev.step rfl (hd_gf (cq_o78 I1) f65) ?_
        refine am_ev.step rfl rfl ?_
        refine am_ev.step rfl (hd_ia rm) ?_
        refine hd_cvv 245 (as := [.ref 78, .int (hd_i (am_put hc 78 55 (.int (Int32.ofInt 0))) 123 i2)]) (rr := []) rfl (Or.inr (Or.inl ⟨_, rfl⟩)) rfl (by decide) rfl rfl (by decide) (cq_o78 I1) (Nat.le_of_ble_eq_true rfl) evA ?_
        refine Q4 _ ?_
        refine am_ev.step rfl rfl ?_
        refine hd_cvv 246 (as := [.ref 78]) (rr := []) rfl (Or.inr (Or.inl ⟨_, rfl⟩)) rfl (by decide) rfl rfl (by decide) (cq_o78 Id) (Nat.le_of_ble_eq_true rfl) evM ?_
        refine am_ev.step rfl rfl ?_
        exact am_ev.reti rfl rfl rfl
      · refine cq_Fr_tr Od.fr (mc := hd_mO) ⟨Nat.le_refl _, fun _ _ => rfl, fun c' _ j hw => ?_⟩ (fun _ z => z)
        have q1 : ¬ (c' = 78 ∧ j = 81) := fun z => by rw [z.1, z.2] at hw; cases hw
        have q2 : ¬ (c' = 78 ∧ j = 80) := fun z => by rw [z.1, z.2] at hw; cases hw
        have q3 : ¬ (c' = 78 ∧ j = 75) := fun z => by rw [z.1, z.2] at hw; cases hw
        rw [hd_pv q1, hd_pv q2, hd_pv q3]
  · refine ⟨Int32.ofInt (-1), hc, go _ ?_, Ic, O.fr, by rw [O.1.1]; exact Nat.le_refl _, by rw [O.1.2.1]; exact Nat.le_refl _⟩
    refine am_ev.step (pc' := 267) (ls' := [.ref 78, .int ss, .int nn, .int (Int32.ofNat (2 ^ n - 1)), .int be, .int i9, u6, u7, v8]) (st' := []) (h' := hc) rfl (if_neg c) ?_
    refine am_ev.step rfl rfl ?_
    exact am_ev.reti rfl rfl rfl
def cq_ck106 (Z : cq_Z) : Bool := match Z with
  | (_, _, [(5, _, k), (1, _, _), (1, fn, _), _, _, _, _, _, _], [], [], db, S) => Nat.beq k 78 && cq_inE S.P fn 0 10 && S.U.isNone && Nat.beq S.ac 0 && Nat.beq S.al 0 && Nat.ble 3 db
  | _ => false
theorem ok_239 : cq_CT 239 ct_239 := by
  refine cq_methN (f := 100000) (nx := cq_nxo 239 106 cq_ck106 (cq_nx ct_239.2.2.2.1 (cq_ckx ct_239) (cq_cl0 ct_239.2.2.2.1 (cq_ckx ct_239) tb_239p))) (lps := lp_239p) wf_239 (by decide +kernel) (fun h ρ as M g => cq_nxo_ok ?_ (cq_NX_of wf_239 ((cq_tc_ok wf_235 ok_235 (cq_tc_ok wf_240 ok_240 (cq_tc_ok wf_243 ok_243 cq_t0_ok))) h (cq_Inv0 wf_239 M)))) (by decide +kernel)
  intro Z ρ1 ls st h2 d a hn hc R hd
  obtain ⟨y, pc, als, ast, fr, db, S⟩ := Z
  unfold cq_ck106 at hc
  split at hc
  · rename_i y' pc' ff k fs ks fn kn v3 v4 v5 v6 v7 v8 db' S' heq
    cases heq
    have c1 := (Bool.and_eq_true _ _ ▸ hc)
    have c2 := (Bool.and_eq_true _ _ ▸ c1.1)
    have c3 := (Bool.and_eq_true _ _ ▸ c2.1)
    have c4 := (Bool.and_eq_true _ _ ▸ c3.1)
    have c5 := (Bool.and_eq_true _ _ ▸ c4.1)
    obtain ⟨D, g1, g2, -⟩ := R ρ1 cq_ag.rf
    dsimp only at D g1 g2
    obtain ⟨u0, r0, e0, G0, g1⟩ := cq_gs_cons g1
    obtain ⟨u1, r1, e1, G1, g1⟩ := cq_gs_cons g1
    obtain ⟨u2, r2, e2, G2, g1⟩ := cq_gs_cons g1
    obtain ⟨u3, r3, e3, G3, g1⟩ := cq_gs_cons g1
    obtain ⟨u4, r4, e4, G4, g1⟩ := cq_gs_cons g1
    obtain ⟨u5, r5, e5, G5, g1⟩ := cq_gs_cons g1
    obtain ⟨u6, r6, e6, G6, g1⟩ := cq_gs_cons g1
    obtain ⟨u7, r7, e7, G7, g1⟩ := cq_gs_cons g1
    obtain ⟨u8, r8, e8, G8, g1⟩ := cq_gs_cons g1
    have e9 := cq_gs_nil g1
    have e10 := cq_gs_nil g2
    subst e0 e1 e2 e3 e4 e5 e6 e7 e8 e9 e10
    have G0 : u0 = .ref k := G0
    rw [am_beq c5.1] at G0
    obtain ⟨ss, es, -⟩ := G1
    obtain ⟨nn, en, hn1⟩ := G2
    subst G0 es en
    have bn := cq_inE_ok D.P c5.2
    have I : cq_Inv none h2 := by
      have I := D.I
      rw [Option.isNone_iff_eq_none.1 c4.2] at I
      exact I
    have A := D.A
    rw [am_beq c3.2, am_beq c2.2] at A
    have hd1 := Nat.le_of_ble_eq_true c1.2
    dsimp only at hd
    obtain ⟨d, rfl⟩ : ∃ d', d = d' + 3 := ⟨d - 3, by omega⟩
    obtain ⟨r, h', ev, I', F', A1, A2⟩ := hd_order (ss := ss) (nn := nn) (n := nn.toInt.toNat) (d := d) I (by omega) (by omega) u3 u4 u5 u6 u7 u8
    refine ⟨_, ev, _, List.mem_cons_self, fun s => if s < 1 then ρ s else r.toInt, fun s hs => if_pos hs, cq_Md_s ⟨fun b hb => ?_, fun _ z => (by cases z)⟩ I' (cq_Fr_tr D.F F' (cq_sub1_ok (by decide +kernel))) ⟨by have := A.1; show h'.1 ≤ h.1 + 0; omega, by have := A.2; show h'.2.1 ≤ h.2.1 + 0; omega⟩, Or.inl ⟨rfl, rfl, ⟨r, rfl, ?_⟩, trivial⟩⟩
    · rw [List.mem_singleton.1 hb]
      have z1 := r.le_toInt
      have z2 := r.toInt_lt
      exact ⟨by show (-2147483648 : Int) ≤ r.toInt; omega, by show r.toInt ≤ 2147483647; omega⟩
    · exact (cq_s_e (fun s => if s < 1 then ρ s else r.toInt) 1).symm
  · cases hc
