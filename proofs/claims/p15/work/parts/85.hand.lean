/-! BY HAND, 8: lay, all of it -/
def cq_z247 : cq_Z := (247, 78, [cq_rc 78, cq_i (cq_s 1), cq_u, cq_u, cq_u, cq_u, cq_u], [], [], 7, ct_247m.2.2.1)
theorem ex_247m : cq_exec (cq_nxa cq_tpZ (cq_nx ct_247m.2.2.2.1 (cq_ckx ct_247m) (cq_cl0 ct_247m.2.2.2.1 (cq_ckx ct_247m) tb_247m))) lp_247m 247 100000 [] cq_z247 = true := by decide +kernel
/-- lay behind its first loop -/
theorem hd_lay2 {h : am_H} {n k : Int32} {d : Nat} (I : cq_Inv none h) (hn : 1 ≤ n.toInt ∧ n.toInt ≤ 14) (h53 : h.2.2.2 78 53 = .int k) (hk : 0 ≤ k.toInt ∧ k.toInt ≤ 14) (hd : 7 ≤ d) (V : hd_V h n.toInt k.toInt) (a b c e f : Value) : ∃ (r : Int32) (h' : am_H), am_ev d 247 78 [.ref 78, .int n, a, b, c, e, f] [] h (some (.int r), h') ∧ cq_Inv none h' ∧ cq_Fr ct_247m.2.2.2.1 h h' ∧ h'.1 ≤ h.1 ∧ h'.2.1 ≤ h.2.1 := by
  let ρ : Nat → Int := fun s => match s with
    | 0 => k.toInt
    | _ => n.toInt
  have M0 : cq_Md ct_247m.2.2.2.1 h ρ ct_247m.2.2.1 h := by
    refine cq_Md_p ⟨fun b hb => ?_, fun _ z => (by cases z)⟩ (fun e he => ?_) (fun _ z => (by cases z)) I
    · simp only [List.mem_cons, List.not_mem_nil, or_false] at hb
      rcases hb with rfl | rfl
      · exact hk
      · exact hn
    · rw [List.mem_singleton.1 he]
      exact ⟨k, h53, (cq_s_e ρ 0).symm⟩
  have NX := cq_nxa_ok (cq_tpZ_ok (m := ct_247m.2.2.2.1) (h0 := h) (ρ0 := ρ) (by decide +kernel) I.lo V hk.2) (cq_NX_of (c := ct_247m) (ρ := ρ) wf_247m (tk_247m h I))
  have w1 := (Bool.and_eq_true _ _ ▸ wf_247m)
  have w0 := (Bool.and_eq_true _ _ ▸ w1.1)
  have w2 := (Bool.and_eq_true _ _ ▸ w0.1)
  have G := cq_exec_ok (Fin := cq_Fin ct_247m h ρ) (n0 := 2) (ρ0 := ρ) (fun a hn hq H hd K => NX _ _ _ _ _ _ _ _ a hn hq H hd K) 100000 [] cq_z247 ρ [.ref 78, .int n, a, b, c, e, f] [] h [] d ex_247m cq_ag.rf (Nat.le_refl _) (fun ρ' a' => ⟨cq_wf_ag w2.1 a' M0, ⟨rfl, ⟨n, rfl, by rw [cq_s_e, a' 1 (by decide)]; rfl⟩, trivial, trivial, trivial, trivial, trivial, trivial⟩, trivial, trivial⟩) hd (fun R hR => by cases hR)
  obtain ⟨⟨r, h'⟩, ev, x, hx, ρ', a', Mx, hr⟩ := G
  have hx := List.mem_singleton.1 hx
  subst hx
  rcases hr with ⟨q1, q2, q3⟩ | ⟨q1, -⟩
  · cases r with
    | none => exact q3.elim
    | some w =>
      obtain ⟨v, e1, e2⟩ := q3.1
      subst e1
      exact ⟨v, h', ev, Mx.I, Mx.F, Mx.A⟩
  · cases q1
def cq_ck28 (Z : cq_Z) : Bool := match Z with
  | (_, _, [(5, _, k), (1, fn, _), (1, _, _), (1, f3, _), _, _, _], [], [], db, S) => Nat.beq k 78 && cq_inE S.P fn 1 14 && cq_fe f3 (cq_c 0) && S.U.isNone && Nat.beq S.ac 0 && Nat.beq S.al 0 && Nat.ble 7 db && (match cq_tl (false, 78) (cq_c 2) S.T with
      | some (1, f0, _) => cq_fe f0 (cq_c 0)
      | _ => false)
  | _ => false
theorem ok_247 : cq_CT 247 ct_247 := by
  refine cq_methN (f := 100000) (nx := cq_nxo 247 28 cq_ck28 (cq_nx ct_247.2.2.2.1 (cq_ckx ct_247) (cq_cl0 ct_247.2.2.2.1 (cq_ckx ct_247) cq_t0))) (lps := fun _ => none) wf_247 (by decide +kernel) (fun h ρ as M g => cq_nxo_ok ?_ (cq_NX_of wf_247 (cq_t0_ok h (cq_Inv0 wf_247 M)))) (by decide +kernel)
  intro Z ρ1 ls st h2 d a hn hc R hd
  obtain ⟨y, pc, als, ast, fr, db, S⟩ := Z
  unfold cq_ck28 at hc
  split at hc
  · rename_i y' pc' ff k fn kk f2 kk2 f3 kk3 v4 v5 v6 db' S' heq
    cases heq
    have c0 := (Bool.and_eq_true _ _ ▸ hc)
    have c1 := (Bool.and_eq_true _ _ ▸ c0.1)
    have c2 := (Bool.and_eq_true _ _ ▸ c1.1)
    have c3 := (Bool.and_eq_true _ _ ▸ c2.1)
    have c4 := (Bool.and_eq_true _ _ ▸ c3.1)
    have c5 := (Bool.and_eq_true _ _ ▸ c4.1)
    have c6 := (Bool.and_eq_true _ _ ▸ c5.1)
    obtain ⟨D, g1, g2, -⟩ := R ρ1 cq_ag.rf
    dsimp only at D g1 g2
    obtain ⟨u0, r0, e0, G0, g1⟩ := cq_gs_cons g1
    obtain ⟨u1, r1, e1, G1, g1⟩ := cq_gs_cons g1
    obtain ⟨u2, r2, e2, G2, g1⟩ := cq_gs_cons g1
    obtain ⟨u3, r3, e3, G3, g1⟩ := cq_gs_cons g1
    obtain ⟨u4, r4, e4, G4, g1⟩ := cq_gs_cons g1
    obtain ⟨u5, r5, e5, G5, g1⟩ := cq_gs_cons g1
    obtain ⟨u6, r6, e6, G6, g1⟩ := cq_gs_cons g1
    have e7 := cq_gs_nil g1
    have e8 := cq_gs_nil g2
    subst e0 e1 e2 e3 e4 e5 e6 e7 e8
    have G0 : u0 = .ref k := G0
    rw [am_beq c6.1] at G0
    obtain ⟨n, en, hn1⟩ := G1
    obtain ⟨s, es, -⟩ := G2
    obtain ⟨i, ei, hi⟩ := G3
    subst G0 en es ei
    have bn := cq_inE_ok D.P c6.2
    rw [cq_fe_ok c5.2, cq_c_e] at hi
    have I : cq_Inv none h2 := by
      have I := D.I
      rw [Option.isNone_iff_eq_none.1 c4.2] at I
      exact I
    have A := D.A
    rw [am_beq c3.2, am_beq c2.2] at A
    have hd7 := Nat.le_of_ble_eq_true c1.2
    dsimp only at hd
    obtain ⟨kk, h53, k1, k2⟩ := cq_i78 I (b := 53) 0 14 (by decide +kernel) (by decide +kernel)
    have z2 := c0.2
    split at z2
    case h_2 => cases z2
    rename_i f02 k02 h02
    have t02 := D.T _ (cq_tl_ok h02)
    obtain ⟨x02, ex02, hx02⟩ := t02
    have ex02 : h2.2.2.2 78 (cq_e ρ1 (cq_c 2)).toNat = .int x02 := ex02
    rw [cq_c_e] at ex02
    have ex02 : h2.2.2.2 78 2 = .int x02 := ex02
    rw [cq_fe_ok z2, cq_c_e] at hx02
    cases d with
    | zero => omega
    | succ d =>
      refine hd_lay (n := n) (k := kk) (d := d) (G := cq_Fin ct_247 h ρ) I (by omega) h53 ⟨k1, k2⟩ (by omega) (fun h1 E => ?_) (fun h1 E V a b c e f => ?_) n.toInt.toNat 0 i s u4 u5 u6 h2 (by omega) (by rw [hi]; rfl) (hd_E.rf I) (fun i' hi' => by omega)
      · refine ⟨_, List.mem_cons_self, fun _ => -1, fun s hs => (by cases hs), cq_Md_t ⟨fun b hb => ?_, fun _ z => (by cases z)⟩ (fun e he => by rw [List.mem_singleton.1 he]; exact ⟨x02, (E.v I (by decide) 2).trans ex02, by rw [hx02]; exact (cq_c_e _ 0).symm⟩) E.1 (cq_Fr_tr D.F E.2.1 (fun _ z => by cases z)) ⟨Nat.le_trans E.2.2.1 A.1, Nat.le_trans E.2.2.2 A.2⟩, Or.inl ⟨rfl, rfl, ⟨-1, rfl, ?_⟩, trivial⟩⟩
        · rw [List.mem_singleton.1 hb]
          exact ⟨by show (-2147483648 : Int) ≤ -1; omega, by show (-1 : Int) ≤ 2147483647; omega⟩
        · rw [show cq_e (fun _ => (-1 : Int)) ((0, [(0, 1)]) : cq_F) = -1 from cq_s_e _ 0]
          decide
      · have V1 : hd_V h1 n.toInt kk.toInt := fun i hi => by
          obtain ⟨x, ex, hx⟩ := V i hi
          exact ⟨x, by rw [E.v I (by decide)]; exact ex, hx⟩
        obtain ⟨r, h', ev, I', F', A1, A2⟩ := hd_lay2 (n := n) (k := kk) (d := d + 1) E.1 (by omega) (by rw [E.v I (by decide)]; exact h53) ⟨k1, k2⟩ (by omega) V1 a b c e f
        refine ⟨_, ev, _, List.mem_cons_self, fun _ => r.toInt, fun s hs => (by cases hs), cq_Md_t ⟨fun b hb => ?_, fun _ z => (by cases z)⟩ (fun e he => by rw [List.mem_singleton.1 he]; exact ⟨x02, (F'.vl 78 (by have := E.1.lo; omega) 2 rfl).trans ((E.v I (by decide) 2).trans ex02), by rw [hx02]; exact (cq_c_e _ 0).symm⟩) I' (cq_Fr_tr (cq_Fr_tr D.F E.2.1 (fun _ z => by cases z)) F' (cq_sub1_ok (by decide +kernel))) ⟨by have := E.2.2.1; have := A.1; show h'.1 ≤ h.1 + 0; omega, by have := E.2.2.2; have := A.2; show h'.2.1 ≤ h.2.1 + 0; omega⟩, Or.inl ⟨rfl, rfl, ⟨r, rfl, ?_⟩, trivial⟩⟩
        · rw [List.mem_singleton.1 hb]
          have z1 := r.le_toInt
          have z2 := r.toInt_lt
          exact ⟨by show (-2147483648 : Int) ≤ r.toInt; omega, by show r.toInt ≤ 2147483647; omega⟩
        · rw [show cq_e (fun _ => r.toInt) ((0, [(0, 1)]) : cq_F) = r.toInt from cq_s_e _ 0]
  · cases hc
