/-! THE LAW'S LOOP, 3: all turns -/
def lw_T (h : am_H) (q : Nat × Nat × Nat × Nat) : Prop := ∃ t : Int32, h.2.2.2 q.1 q.2.1 = .int t ∧ h.2.2.2 q.2.2.1 q.2.2.2 = .int t
theorem lw_tie_ok {m : cq_W} {h0 h2 : am_H} {ρ : Nat → Int} {S : cq_S} (D : cq_Md m h0 ρ S h2) {q : Nat × Nat × Nat × Nat} (z : lw_tie S q = true) : lw_T h2 q := by
  unfold lw_tie at z
  split at z
  · rename_i f kf g kg hf hg
    have z := (Bool.and_eq_true _ _ ▸ z)
    have p1 := cq_en_ok D.P z.1
    have p2 := cq_en_ok D.P z.2
    rw [cq_sub_e] at p1 p2
    obtain ⟨x1, ex1, hx1⟩ := D.T _ (cq_tl_ok hf)
    obtain ⟨x2, ex2, hx2⟩ := D.T _ (cq_tl_ok hg)
    have ex1 : h2.2.2.2 q.1 (cq_e ρ (cq_c (q.2.1 : Int))).toNat = .int x1 := ex1
    have ex2 : h2.2.2.2 q.2.2.1 (cq_e ρ (cq_c (q.2.2.2 : Int))).toNat = .int x2 := ex2
    rw [cq_c_e, Int.toNat_natCast] at ex1 ex2
    have ex : x1 = x2 := Int32.toInt_inj.1 (by rw [hx1, hx2]; omega)
    subst ex
    exact ⟨x1, ex1, ex2⟩
  · cases z
theorem lw_tie_in {h : am_H} {c j lo hi : Nat} {t : Int32} (q : h.2.2.2 c j = .int t) (k : ∃ x : Int32, h.2.2.2 c j = .int x ∧ (lo : Int) ≤ x.toInt ∧ x.toInt ≤ hi) : (lo : Int) ≤ t.toInt ∧ t.toInt ≤ hi := by
  obtain ⟨x, e, a, b⟩ := k
  rw [q] at e
  cases e
  exact ⟨a, b⟩
theorem lw_loop {L : Nat} (hL : L ≤ 3072) : ∀ (k : Nat) (i : Int32) (h : am_H) (d : Nat), 100 ≤ d → cq_Inv none h → (h.2.2.1 0).2.2 = L → 0 ≤ i.toInt → i.toInt ≤ 3078 → 3078 - i.toInt < k → (∀ q ∈ lw_ps, lw_T h q) → (h.1 : Int) ≤ 130 + 2 * i.toInt → (h.2.1 : Int) ≤ 67768 + 104 * i.toInt → ∃ x, am_ev d 0 18 [.ref 0, .ref 40, .ref 78, .int i] [] h x ∧ lw_Fn x
  | 0, _, _, _, _, _, _, _, _, hk, _, _, _ => by omega
  | k + 1, i, h, d, hd, I, hl, i0, i1, hk, TT, n1, n2 => by
    have ln : am_len h 0 = some L := by
      unfold am_len
      rw [show Nat.blt 0 h.1 = true from Nat.ble_eq_true_of_le (Nat.le_trans (by decide) I.lo), I.sc.1, hl]
      rfl
    have eL : (Int32.ofNat L).toInt = (L : Int) := Int32.toInt_ofNat_of_lt (by omega)
    have e6 : (Int32.ofNat L - 6).toInt = (L : Int) - 6 := by
      rw [Int32.toInt_sub, eL, show (6 : Int32).toInt = 6 by decide, Int.bmod_eq_of_le (by omega) (by omega)]
    have T : ∀ x, am_ev d 0 24 [.ref 0, .ref 40, .ref 78, .int i] [.int (Int32.ofNat L - 6), .int i] h x → am_ev d 0 18 [.ref 0, .ref 40, .ref 78, .int i] [] h x := fun x q =>
      am_ev.step rfl rfl (am_ev.step rfl rfl (am_ev.step (pc' := 21) (ls' := [.ref 0, .ref 40, .ref 78, .int i]) (st' := [.int (Int32.ofNat L), .int i]) (h' := h) rfl (by dsimp only [am_st]; rw [ln]; rfl) (am_ev.step rfl rfl (am_ev.step rfl rfl q))))
    by_cases c : Int32.ofNat L - 6 < i
    · refine ⟨(some (.int 1), h), T _ ?_, rfl, by show h.1 ≤ _; omega, by show h.2.1 ≤ _; omega⟩
      refine am_ev.step (pc' := 1300) (ls' := [.ref 0, .ref 40, .ref 78, .int i]) (st' := []) (h' := h) rfl (if_pos c) ?_
      refine am_ev.step rfl rfl ?_
      exact am_ev.reti rfl rfl rfl
    · have c6 : i.toInt + 6 ≤ L := by
        have := mt Int32.lt_iff_toInt_lt.2 c
        omega
      have E : ∀ x, am_ev d 0 27 [.ref 0, .ref 40, .ref 78, .int i] [] h x → am_ev d 0 18 [.ref 0, .ref 40, .ref 78, .int i] [] h x := fun x q => T x (am_ev.step (pc' := 27) (ls' := [.ref 0, .ref 40, .ref 78, .int i]) (st' := []) (h' := h) rfl (if_neg c) q)
      have sv : ∀ k : Nat, k < 6 → ∃ v : Int32, h.2.2.2 0 (i.toInt.toNat + k) = .int v := fun k hk => I.sc.2.2.2 (i.toInt.toNat + k) (by rw [hl]; omega)
      obtain ⟨v1, hv1⟩ := sv 1 (by decide)
      obtain ⟨v2, hv2⟩ := sv 2 (by decide)
      obtain ⟨v3, hv3⟩ := sv 3 (by decide)
      obtain ⟨v4, hv4⟩ := sv 4 (by decide)
      obtain ⟨v5, hv5⟩ := sv 5 (by decide)
      obtain ⟨t', t1, t2⟩ := TT (41, 1, 78, 2) (by decide)
      obtain ⟨c', c1, c2⟩ := TT (40, 9, 78, 15) (by decide)
      obtain ⟨p', p1, p2⟩ := TT (40, 8, 78, 16) (by decide)
      obtain ⟨d', d1, d2⟩ := TT (48, 5, 78, 36) (by decide)
      dsimp only at t1 t2 c1 c2 p1 p2 d1 d2
      have bt := lw_tie_in (lo := 0) (hi := 1600) t2 (cq_i78 I (b := 2) 0 1600 (by decide +kernel) (by decide +kernel))
      have bc := lw_tie_in (lo := 0) (hi := 29999) c2 (cq_i78 I (b := 15) 0 29999 (by decide +kernel) (by decide +kernel))
      have bp := lw_tie_in (lo := 0) (hi := 40) p2 (cq_i78 I (b := 16) 0 40 (by decide +kernel) (by decide +kernel))
      have bd := lw_tie_in (lo := 0) (hi := 60) d2 (cq_i78 I (b := 36) 0 60 (by decide +kernel) (by decide +kernel))
      let ρ : Nat → Int := fun s => match s with
        | 0 => i.toInt
        | 1 => t'.toInt
        | 2 => (L : Int)
        | 3 => v1.toInt
        | 4 => v2.toInt
        | 5 => v3.toInt
        | 6 => v4.toInt
        | 7 => v5.toInt
        | 8 => c'.toInt
        | 9 => p'.toInt
        | _ => d'.toInt
      have M0 : ∀ ρ', cq_ag 11 ρ' ρ → cq_Md lw_m h ρ' lw_S h := fun ρ' a => by
        have a0 : ρ' 0 = i.toInt := a 0 (by decide)
        have a1 : ρ' 1 = t'.toInt := a 1 (by decide)
        have a2 : ρ' 2 = (L : Int) := a 2 (by decide)
        have a3 : ρ' 3 = v1.toInt := a 3 (by decide)
        have a4 : ρ' 4 = v2.toInt := a 4 (by decide)
        have a5 : ρ' 5 = v3.toInt := a 5 (by decide)
        have a6 : ρ' 6 = v4.toInt := a 6 (by decide)
        have a7 : ρ' 7 = v5.toInt := a 7 (by decide)
        have a8 : ρ' 8 = c'.toInt := a 8 (by decide)
        have a9 : ρ' 9 = p'.toInt := a 9 (by decide)
        have a10 : ρ' 10 = d'.toInt := a 10 (by decide)
        have full : ∀ (s : Nat) (v : Int32), ρ' s = v.toInt → -2147483648 ≤ ρ' s ∧ ρ' s ≤ 2147483647 := fun s v e => by
          have r1 := v.le_toInt
          have r2 := v.toInt_lt
          omega
        have tp : ∀ (c j s : Nat) (v : Int32), h.2.2.2 c j = .int v → ρ' s = v.toInt → ∃ x : Int32, h.2.2.2 c j = .int x ∧ x.toInt = cq_e ρ' ((0, [(s, 1)]) : cq_F) := fun c j s v e es => ⟨v, e, by rw [show ((0, [(s, 1)]) : cq_F) = cq_s s from rfl, cq_s_e, es]⟩
        have scp : ∀ (k s : Nat) (v : Int32), h.2.2.2 0 (i.toInt.toNat + k) = .int v → ρ' s = v.toInt → ∃ x : Int32, h.2.2.2 0 (cq_e ρ' (((k : Int), [(0, 1)]) : cq_F)).toNat = .int x ∧ x.toInt = cq_e ρ' ((0, [(s, 1)]) : cq_F) := fun k s v e es => by
          have : (cq_e ρ' (((k : Int), [(0, 1)]) : cq_F)).toNat = i.toInt.toNat + k := by
            simp only [cq_e, cq_eT]
            omega
          rw [this]
          exact tp 0 _ s v e es
        refine ⟨⟨fun b hb => ?_, fun g hg => ?_⟩, fun _ z => (by cases z), fun _ z => (by cases z), fun _ z => (by cases z), fun e he => ?_, fun e he => ?_, fun _ z => (by cases z), I, ⟨Nat.le_refl _, fun _ _ => rfl, fun _ _ _ _ => rfl⟩, ⟨Nat.le_refl _, Nat.le_refl _⟩, fun _ z => (by cases z)⟩
        · simp only [lw_S, cq_mk, cq_S.P, List.mem_cons, List.not_mem_nil, or_false] at hb
          rcases hb with rfl | rfl | rfl | rfl | rfl | rfl | rfl | rfl | rfl | rfl | rfl
          · show 0 ≤ ρ' 0 ∧ ρ' 0 ≤ 3078
            omega
          · show 0 ≤ ρ' 1 ∧ ρ' 1 ≤ 1600
            omega
          · show 0 ≤ ρ' 2 ∧ ρ' 2 ≤ 3072
            omega
          · exact full 3 v1 a3
          · exact full 4 v2 a4
          · exact full 5 v3 a5
          · exact full 6 v4 a6
          · exact full 7 v5 a7
          · show 0 ≤ ρ' 8 ∧ ρ' 8 ≤ 29999
            omega
          · show 0 ≤ ρ' 9 ∧ ρ' 9 ≤ 40
            omega
          · show 0 ≤ ρ' 10 ∧ ρ' 10 ≤ 60
            omega
        · have hg : g = ((-6), [(0, (-1)), (2, 1)]) := List.mem_singleton.1 hg
          rw [hg]
          simp only [cq_e, cq_eT]
          omega
        · simp only [lw_S, cq_mk, cq_S.T, List.mem_cons, List.not_mem_nil, or_false] at he
          rcases he with rfl | rfl | rfl | rfl | rfl | rfl | rfl | rfl | rfl | rfl | rfl | rfl | rfl
          · exact tp 41 1 1 t' t1 a1
          · exact tp 78 2 1 t' t2 a1
          · exact tp 40 9 8 c' c1 a8
          · exact tp 78 15 8 c' c2 a8
          · exact tp 40 8 9 p' p1 a9
          · exact tp 78 16 9 p' p2 a9
          · exact tp 48 5 10 d' d1 a10
          · exact tp 78 36 10 d' d2 a10
          · exact scp 1 3 v1 hv1 a3
          · exact scp 2 4 v2 hv2 a4
          · exact scp 3 5 v3 hv3 a5
          · exact scp 4 6 v4 hv4 a6
          · exact scp 5 7 v5 hv5 a7
        · have he : e = ((false, 0), (0, [(2, 1)])) := List.mem_singleton.1 he
          rw [he]
          show cq_e ρ' (cq_s 2) = (cq_len h 0 : Int)
          rw [cq_s_e, a2, ← hl]
          rfl
      have HE := lw_HE (m := lw_m) (h := h) (ρ := ρ) (n0 := 11) (by omega) (by omega)
      have NX := cq_nxo_ok (y0 := 0) (pc0 := 1297) (chk := lw_chk) (m := lw_m) (h0 := h) (ρ0 := ρ) (n0 := 11) (Fin := lw_Fn) (nx := cq_nx lw_m lw_ck (cq_cl0 lw_m lw_ck lw_t)) (fun Z ρ1 ls st h2 d2 a hn hc R hd2 => by
        obtain ⟨y, pc, als, ast, fr, db, S⟩ := Z
        unfold lw_chk at hc
        split at hc
        · rename_i y' pc' ff0 k0 ff1 k1 ff2 k2 fi kk db' S' heq
          cases heq
          have c0 := (Bool.and_eq_true _ _ ▸ hc)
          have c1 := (Bool.and_eq_true _ _ ▸ c0.1)
          have c2 := (Bool.and_eq_true _ _ ▸ c1.1)
          have c3 := (Bool.and_eq_true _ _ ▸ c2.1)
          have c4 := (Bool.and_eq_true _ _ ▸ c3.1)
          have c5 := (Bool.and_eq_true _ _ ▸ c4.1)
          have c7 := (Bool.and_eq_true _ _ ▸ c5.1)
          have c8 := (Bool.and_eq_true _ _ ▸ c7.1)
          have c9 := (Bool.and_eq_true _ _ ▸ c8.1)
          obtain ⟨D, g1, g2, -⟩ := R ρ1 cq_ag.rf
          dsimp only at D g1 g2 hd2
          obtain ⟨u0, r0, e0, G0, g1⟩ := cq_gs_cons g1
          obtain ⟨u1, r1, e1, G1, g1⟩ := cq_gs_cons g1
          obtain ⟨u2, r2, e2, G2, g1⟩ := cq_gs_cons g1
          obtain ⟨u3, r3, e3, G3, g1⟩ := cq_gs_cons g1
          have e7 := cq_gs_nil g1
          have e8 := cq_gs_nil g2
          subst e0 e1 e2 e3 e7 e8
          have G0 : u0 = .ref k0 := G0
          have G1 : u1 = .ref k1 := G1
          have G2 : u2 = .ref k2 := G2
          rw [am_beq c9.1] at G0
          rw [am_beq c9.2] at G1
          rw [am_beq c8.2] at G2
          obtain ⟨j, ej, hj⟩ := G3
          subst G0 G1 G2 ej
          have a0 : ρ1 0 = i.toInt := a 0 (by decide)
          rw [cq_fe_ok c7.2, cq_ac_e, cq_s_e, a0] at hj
          have I2 : cq_Inv none h2 := by
            have I := D.I
            rw [Option.isNone_iff_eq_none.1 c5.2] at I
            exact I
          have A := D.A
          have A1 := Nat.le_of_ble_eq_true c4.2
          have A2 := Nat.le_of_ble_eq_true c3.2
          have hdb := Nat.le_of_ble_eq_true c2.2
          have F := D.F
          have sh : (h2.2.2.1 0).2.2 = L := by rw [F.sh 0 (Nat.lt_of_lt_of_le (by decide) I.lo), hl]
          have TT2 : ∀ q ∈ lw_ps, lw_T h2 q := fun q hq => lw_tie_ok D (List.all_eq_true.1 c0.2 q hq)
          obtain ⟨x, ev, fx⟩ := lw_loop hL k j h2 d2 (Nat.le_trans hdb hd2) I2 sh (by omega) (by omega) (by omega) TT2 (by have := A.1; omega) (by have := A.2; omega)
          exact ⟨x, am_ev.step rfl rfl ev, fx⟩
        · cases hc) (fun _ _ _ _ _ _ _ _ a hn hq H hd K => cq_nx_ok HE (cq_HC_g HE (lw_t_ok h I)) a hn hq H hd K)
      obtain ⟨x, ev, fx⟩ := cq_exec_ok (Fin := lw_Fn) (n0 := 11) (ρ0 := ρ) (fun a hn hq H hd K => NX _ _ _ _ _ _ _ _ a hn hq H hd K) 100000 [] lw_z ρ [.ref 0, .ref 40, .ref 78, .int i] [] h [] d lw_ex cq_ag.rf (Nat.le_refl _) (fun ρ' a' => ⟨M0 ρ' a', ⟨rfl, rfl, rfl, ⟨i, rfl, by rw [cq_s_e, a' 0 (by decide)]; rfl⟩, trivial⟩, trivial, trivial⟩) hd (fun R hR => by cases hR)
      exact ⟨x, E x ev, fx⟩
