/-! BY HAND, 11: edition: its contract -/
/-- from where the text has been read to the end -/
theorem hd_ed {hB : am_H} {p e n : Int32} {d : Nat} (I : cq_Inv none hB) (hp : 0 ≤ p.toInt ∧ p.toInt ≤ 39) (h92 : hB.2.2.2 92 p.toInt.toNat = .int e) (e0 : 0 ≤ e.toInt) (e2 : e.toInt ≤ 2) (h93 : hB.2.2.2 93 120 = .int n) (n0 : 1 ≤ n.toInt) (s1 : hB.2.2.2 96 3600 = .int 1) (u2 u3 u4 : Value) : ∃ (r : Int32) (h' : am_H), am_ev (d + 1) 189 42 [.ref 78, .int p, u2, u3, u4] [] hB (some (.int r), h') ∧ cq_Inv none h' ∧ cq_Fr [(false, 92, 0, 0), (false, 93, 0, 0), (false, 94, 0, 0), (false, 95, 0, 0), (false, 96, 0, 0), (false, 97, 0, 0)] hB h' ∧ h'.1 ≤ hB.1 ∧ h'.2.1 ≤ hB.2.1 := by
  have F := hd_F_ok I
  have O := cq_o78 I
  have tx : (Int32.ofInt 3 * p + e).toInt = 3 * p.toInt + e.toInt := hd_l3 (by omega) (by omega) (by omega) (by omega)
  have k93 := cq_tA I (c := 93) (j := 120) (by decide) (by decide) (by decide +kernel) (by decide) (by decide +kernel)
  rw [show cq_ar 93 = (1, 0, 30, 0, 0, 0) by decide +kernel, h93] at k93
  obtain ⟨n', en', -, n1⟩ := k93
  have en' := Value.int.inj en'
  subst en'
  have hT0 : hd_T hB (am_put hB 93 (Int32.ofInt 3 * p + e).toInt.toNat (.int n)) (Int32.ofInt 3 * p + e).toInt.toNat := by
    refine ⟨⟨rfl, rfl, rfl⟩, fun c j hc => hd_pv (by omega), fun j hj => hd_pv (by omega), fun j hj => ?_, fun j hj => ?_, ⟨fun j hj => ?_, fun j hj => hd_pv (by omega)⟩, fun j hj => ?_⟩
    · rw [hd_pv (by omega)]
      have k := cq_tA I (c := 94) (j := j) (by decide) (by decide) (by decide +kernel) (by decide) (by rw [show (cq_fix 94).2.2 = 3630 by decide +kernel]; exact hj)
      rw [show cq_ar 94 = (1, 0, 8, 0, 0, 0) by decide +kernel] at k
      exact k
    · rw [hd_pv (by omega)]
      have k := cq_tA I (c := 95) (j := j) (by decide) (by decide) (by decide +kernel) (by decide) (by rw [show (cq_fix 95).2.2 = 29040 by decide +kernel]; exact hj)
      rw [show cq_ar 95 = (2, 0, 0, 0, 0, 0) by decide +kernel] at k
      exact k
    · rw [hd_pv (by omega)]
      have k := cq_tA I (c := 96) (j := j) (by decide) (by decide) (by decide +kernel) (by decide) (by rw [show (cq_fix 96).2.2 = 3630 by decide +kernel]; exact hj)
      rw [show cq_ar 96 = (1, 0, 1, 0, 0, 0) by decide +kernel] at k
      exact k
    · rw [hd_pv (by omega)]
      have k := cq_tA I (c := 97) (j := j) (by decide) (by decide) (by decide +kernel) (by decide) (by rw [show (cq_fix 97).2.2 = 3630 by decide +kernel]; exact hj)
      rw [show cq_ar 97 = (1, 0, 1, 0, 0, 0) by decide +kernel] at k
      exact k
  obtain ⟨hc, i', v, T, q1, q2, Q⟩ := hd_text (p := p) (tt := Int32.ofInt 3 * p + e) (d := d) I (t := (Int32.ofInt 3 * p + e).toInt.toNat) (by omega) (by omega) s1 30 0 0 u4 _ rfl (by decide) hT0 (fun z => by omega)
  rw [hd_pe] at q1
  obtain ⟨m1, m2⟩ := T.sh I (c := 92) (tc := 0) (ln := 40) (by decide) (by decide) (by decide +kernel)
  have v92 : hc.2.2.2 92 p.toInt.toNat = .int e := by rw [T.2.1 92 _ (by omega)]; exact h92
  have rd : am_rd hc 92 p (fun c => Nat.beq c 0) = some (.int e) := by
    rw [hd_rdS m1 m2 (by decide) (by omega) (by omega), v92]
  have wr := hd_wrS (v := .int (e + Int32.ofInt 1)) m1 m2 (i := p) (by omega) (by omega)
  have ee : (e + Int32.ofInt 1).toInt = e.toInt + 1 := by
    rw [hd_toA (by omega) (by omega) (by decide) (by decide), show (Int32.ofInt 1).toInt = 1 by decide]
  have rd2 : am_rd (am_put hc 92 p.toInt.toNat (.int (e + Int32.ofInt 1))) 92 p (fun c => Nat.beq c 0) = some (.int (e + Int32.ofInt 1)) := by
    rw [hd_rdS (show 92 < (am_put hc 92 p.toInt.toNat (.int (e + Int32.ofInt 1))).1 from m1) (show (am_put hc 92 p.toInt.toNat (.int (e + Int32.ofInt 1))).2.2.1 92 = (1, 0, 40) from m2) (by decide) (by omega) (by omega), hd_pe]
  have If := hd_last I (pp := p.toInt.toNat) (e := e) (by omega) e0 e2 (by omega) h92 T q1 n0 n1 q2 ee
  have O2 : am_isO (am_put hc 92 p.toInt.toNat (.int (e + Int32.ofInt 1))) 78 13 = true := cq_o78 If
  refine ⟨e + Int32.ofInt 1 - Int32.ofInt 1, am_put hc 92 p.toInt.toNat (.int (e + Int32.ofInt 1)), ?_, If, ?_, by show hc.1 ≤ hB.1; rw [T.1.1]; exact Nat.le_refl _, by show hc.2.1 ≤ hB.2.1; rw [T.1.2.1]; exact Nat.le_refl _⟩
  · obtain ⟨r1, r2⟩ : 92 < hB.1 ∧ hB.2.2.1 92 = (1, 0, 40) := ⟨by have := I.lo; omega, by rw [I.fx 92 (by decide) (by decide)]; decide +kernel⟩
    obtain ⟨w1, w2⟩ : 93 < hB.1 ∧ hB.2.2.1 93 = (1, 0, 121) := ⟨by have := I.lo; omega, by rw [I.fx 93 (by decide) (by decide)]; decide +kernel⟩
    have rd0 : am_rd hB 92 p (fun c => Nat.beq c 0) = some (.int e) := by
      rw [hd_rdS r1 r2 (by decide) (by omega) (by omega), h92]
    have rd3 : am_rd hB 93 (Int8.ofInt 120).toInt32 (fun c => Nat.beq c 0) = some (.int n) := by
      rw [hd_rdS w1 w2 (by decide) (by decide) (by decide), show ((Int8.ofInt 120).toInt32).toInt.toNat = 120 by decide, h93]
    have wr3 := hd_wrS (v := .int n) w1 w2 (i := Int32.ofInt 3 * p + e) (by omega) (by omega)
    refine am_ev.step rfl rfl ?_
    refine am_ev.step rfl rfl ?_
    refine am_ev.step rfl (hd_gf O F.1) ?_
    refine am_ev.step rfl rfl ?_
    refine am_ev.step rfl (hd_ia rd0) ?_
    refine hd_cv 194 (as := [.int p, .int e]) (rr := []) rfl (Or.inl ⟨_, rfl⟩) rfl (by decide) rfl rfl (Nat.le_of_ble_eq_true rfl) rfl (Nat.le_of_ble_eq_true rfl) hd_194 ?_
    refine am_ev.step rfl rfl ?_
    refine am_ev.step rfl rfl ?_
    refine am_ev.step rfl (hd_gf O F.2.1) ?_
    refine am_ev.step rfl rfl ?_
    refine am_ev.step rfl rfl ?_
    refine am_ev.step rfl (hd_gf O F.2.1) ?_
    refine am_ev.step rfl rfl ?_
    refine am_ev.step rfl (hd_ia rd3) ?_
    refine am_ev.step rfl (hd_is wr3) ?_
    refine am_ev.step rfl rfl ?_
    refine am_ev.step rfl rfl ?_
    refine Q _ ?_
    refine am_ev.step rfl rfl ?_
    refine am_ev.step rfl (hd_gf (T.o I) (T.f F.1)) ?_
    refine am_ev.step rfl rfl ?_
    refine am_ev.step rfl rfl ?_
    refine am_ev.step rfl (hd_ia rd) ?_
    refine am_ev.step rfl rfl ?_
    refine am_ev.step rfl rfl ?_
    refine am_ev.step rfl (hd_is wr) ?_
    refine am_ev.step rfl rfl ?_
    refine am_ev.step rfl (hd_gf O2 (show (am_put hc 92 p.toInt.toNat (.int (e + Int32.ofInt 1))).2.2.2 78 23 = .ref 92 by rw [hd_pv (by omega)]; exact T.f F.1)) ?_
    refine am_ev.step rfl rfl ?_
    refine am_ev.step rfl (hd_ia rd2) ?_
    refine am_ev.step rfl rfl ?_
    refine am_ev.step rfl rfl ?_
    exact am_ev.reti rfl rfl rfl
  · refine ⟨by show hB.1 ≤ hc.1; rw [T.1.1]; exact Nat.le_refl _, fun c _ => by show hc.2.2.1 c = _; rw [T.1.2.2], fun c hc1 j hw => ?_⟩
    by_cases hcc : c < 92 ∨ 97 < c
    · rw [hd_pv (by omega)]
      exact T.2.1 c j (by omega)
    · exfalso
      rcases (show c = 92 ∨ c = 93 ∨ c = 94 ∨ c = 95 ∨ c = 96 ∨ c = 97 by omega) with z | z | z | z | z | z <;> subst z <;> cases hw
def cq_ck42 (Z : cq_Z) : Bool := match Z with
  | (_, _, [(5, _, k), (1, fp, _), _, _, _], [], [], db, S) => Nat.beq k 78 && cq_inE S.P fp 0 39 && (match cq_tl (false, 92) fp S.T with
      | some (1, fe, _) => cq_en S.P (cq_ac (cq_neg fe) 2)
      | _ => false) && (match cq_tl (false, 93) (cq_c 120) S.T with
      | some (1, fn, _) => cq_en S.P (cq_ac fn (-1))
      | _ => false) && (match cq_tl (false, 96) (cq_c 3600) S.T with
      | some (1, f1, _) => cq_fe f1 (cq_c 1)
      | _ => false) && S.U.isNone && Nat.beq S.ac 0 && Nat.beq S.al 0 && Nat.ble 1 db && (match cq_tl (false, 78) (cq_c 2) S.T with
      | some (1, f0, _) => cq_fe f0 (cq_c 0)
      | _ => false)
  | _ => false
theorem ok_189 : cq_CT 189 ct_189 := by
  refine cq_methN (f := 100000) (nx := cq_nxo 189 42 cq_ck42 (cq_nx ct_189.2.2.2.1 (cq_ckx ct_189) (cq_cl0 ct_189.2.2.2.1 (cq_ckx ct_189) tb_189p))) (lps := fun _ => none) wf_189 (by decide +kernel) (fun h ρ as M g => cq_nxo_ok ?_ (cq_NX_of wf_189 ((cq_tc_ok wf_170 ok_170 (cq_tc_ok wf_190 ok_190 cq_t0_ok)) h (cq_Inv0 wf_189 M)))) (by decide +kernel)
  intro Z ρ1 ls st h2 d a hn hc R hd
  obtain ⟨y, pc, als, ast, fr, db, S⟩ := Z
  unfold cq_ck42 at hc
  split at hc
  · rename_i y' pc' ff k fp kk v4 v5 v6 db' S' heq
    cases heq
    have c0 := (Bool.and_eq_true _ _ ▸ hc)
    have c1 := (Bool.and_eq_true _ _ ▸ c0.1)
    have c2 := (Bool.and_eq_true _ _ ▸ c1.1)
    have c3 := (Bool.and_eq_true _ _ ▸ c2.1)
    have c4 := (Bool.and_eq_true _ _ ▸ c3.1)
    have c5 := (Bool.and_eq_true _ _ ▸ c4.1)
    have c6 := (Bool.and_eq_true _ _ ▸ c5.1)
    have c7 := (Bool.and_eq_true _ _ ▸ c6.1)
    have c8 := (Bool.and_eq_true _ _ ▸ c7.1)
    obtain ⟨D, g1, g2, -⟩ := R ρ1 cq_ag.rf
    dsimp only at D g1 g2
    obtain ⟨u0, r0, e0, G0, g1⟩ := cq_gs_cons g1
    obtain ⟨u1, r1, e1, G1, g1⟩ := cq_gs_cons g1
    obtain ⟨u2, r2, e2, G2, g1⟩ := cq_gs_cons g1
    obtain ⟨u3, r3, e3, G3, g1⟩ := cq_gs_cons g1
    obtain ⟨u4, r4, e4, G4, g1⟩ := cq_gs_cons g1
    have e7 := cq_gs_nil g1
    have e8 := cq_gs_nil g2
    subst e0 e1 e2 e3 e4 e7 e8
    have G0 : u0 = .ref k := G0
    rw [am_beq c8.1] at G0
    obtain ⟨p, en, hp⟩ := G1
    subst G0 en
    have bp := cq_inE_ok D.P c8.2
    have I : cq_Inv none h2 := by
      have I := D.I
      rw [Option.isNone_iff_eq_none.1 c4.2] at I
      exact I
    have A := D.A
    rw [am_beq c3.2, am_beq c2.2] at A
    have hd1 := Nat.le_of_ble_eq_true c1.2
    dsimp only at hd
    have zq := c0.2
    split at zq
    case h_2 => cases zq
    rename_i f02 k02 h02
    have t02 := D.T _ (cq_tl_ok h02)
    obtain ⟨xq, exq, hxq⟩ := t02
    have exq : h2.2.2.2 78 (cq_e ρ1 (cq_c 2)).toNat = .int xq := exq
    rw [cq_c_e] at exq
    have exq : h2.2.2.2 78 2 = .int xq := exq
    rw [cq_fe_ok zq, cq_c_e] at hxq
    have z92 := c7.2
    split at z92
    · rename_i fe ke h92
      have t92 := D.T _ (cq_tl_ok h92)
      obtain ⟨e, ee, he⟩ := t92
      have ee : h2.2.2.2 92 (cq_e ρ1 fp).toNat = .int e := ee
      have l2 := cq_en_ok D.P z92
      rw [cq_ac_e, cq_neg_e, ← he] at l2
      rw [← hp] at ee bp
      have k92 := cq_tA I (c := 92) (j := p.toInt.toNat) (by decide) (by decide) (by decide +kernel) (by decide) (by rw [show (cq_fix 92).2.2 = 40 by decide +kernel]; omega)
      rw [show cq_ar 92 = (1, 0, 3, 0, 0, 0) by decide +kernel, ee] at k92
      obtain ⟨e', ex', e0', -⟩ := k92
      have ex' := Value.int.inj ex'
      subst ex'
      have z93 := c6.2
      split at z93
      · rename_i fn kn h93
        have t93 := D.T _ (cq_tl_ok h93)
        obtain ⟨n, en, hn1⟩ := t93
        have en : h2.2.2.2 93 (cq_e ρ1 (cq_c 120)).toNat = .int n := en
        rw [cq_c_e] at en
        have n1 := cq_en_ok D.P z93
        rw [cq_ac_e, ← hn1] at n1
        have z96 := c5.2
        split at z96
        · rename_i f1 k1 h96
          have t96 := D.T _ (cq_tl_ok h96)
          obtain ⟨s, es, hs⟩ := t96
          have es : h2.2.2.2 96 (cq_e ρ1 (cq_c 3600)).toNat = .int s := es
          rw [cq_c_e] at es
          rw [cq_fe_ok z96, cq_c_e] at hs
          have s1 : s = 1 := Int32.toInt_inj.1 (by rw [hs]; decide)
          subst s1
          cases d with
          | zero => omega
          | succ d =>
            obtain ⟨r, h', ev, I', F', A1, A2⟩ := hd_ed (d := d) I bp ee e0' (by omega) en (by omega) es u2 u3 u4
            refine ⟨_, ev, _, List.mem_cons_self, fun s => if s < 1 then ρ s else r.toInt, fun s hs => if_pos hs, cq_Md_t ⟨fun b hb => ?_, fun _ z => (by cases z)⟩ (fun e he => by rw [List.mem_singleton.1 he]; exact ⟨xq, (F'.vl 78 (by have := I.lo; omega) 2 rfl).trans exq, by rw [hxq]; exact (cq_c_e _ 0).symm⟩) I' (cq_Fr_tr D.F F' (cq_sub1_ok (by decide +kernel))) ⟨by have := A.1; show h'.1 ≤ h.1 + 0; omega, by have := A.2; show h'.2.1 ≤ h.2.1 + 0; omega⟩, Or.inl ⟨rfl, rfl, ⟨r, rfl, ?_⟩, trivial⟩⟩
            · rw [List.mem_singleton.1 hb]
              have z1 := r.le_toInt
              have z2 := r.toInt_lt
              exact ⟨by show (-2147483648 : Int) ≤ r.toInt; omega, by show r.toInt ≤ 2147483647; omega⟩
            · exact (cq_s_e (fun s => if s < 1 then ρ s else r.toInt) 1).symm
        · cases z96
      · cases z93
    · cases z92
  · cases hc
