/-! BY HAND, 6: the lines of what is printed; steps whose stores are filled up first -/
theorem hd_230 {h : am_H} {p : Int32} (I : cq_Inv none h) (hp : 0 ≤ p.toInt ∧ p.toInt ≤ 39) : cq_U h 230 p.toInt < cq_n h 92 p.toInt.toNat ∧ cq_U h 230 p.toInt ≤ 2 ∨ cq_U h 230 p.toInt < 0 := by
  have t92 := cq_tA I (c := 92) (j := p.toInt.toNat) (by decide) (by decide) (by decide +kernel) (by decide) (by rw [show (cq_fix 92).2.2 = 40 by decide +kernel]; omega)
  rw [show cq_ar 92 = (1, 0, 3, 0, 0, 0) by decide +kernel] at t92
  obtain ⟨n, en, n0, n1⟩ := t92
  let ρ : Nat → Int := fun s => match s with
    | 0 => p.toInt
    | _ => n.toInt
  have gg : cq_gs ρ ct_230e.2.1 [.ref 78, .int p] := ⟨rfl, ⟨p, rfl, (cq_s_e ρ 0).symm⟩, trivial⟩
  have M0 : cq_Md ct_230e.2.2.2.1 h ρ ct_230e.2.2.1 h := by
    refine cq_Md_p ⟨fun b hb => ?_, fun _ z => (by cases z)⟩ (fun e he => ?_) (fun _ z => (by cases z)) I
    · simp only [List.mem_cons, List.not_mem_nil, or_false] at hb
      rcases hb with rfl | rfl
      · exact hp
      · exact ⟨n0, n1⟩
    · rw [List.mem_singleton.1 he]
      show cq_g ρ (1, (0, [(1, 1)]), 0) (h.2.2.2 92 (cq_e ρ ((0, [(0, 1)]) : cq_F)).toNat)
      rw [show cq_e ρ ((0, [(0, 1)]) : cq_F) = p.toInt from cq_s_e ρ 0, en]
      exact ⟨n, rfl, (cq_s_e ρ 1).symm⟩
  obtain ⟨r, h', ev, x, hx, ρ', a', Mx, hr⟩ := ok_230e ct_230e.1 h ρ _ (Nat.le_refl _) M0 gg
  have hx := List.mem_singleton.1 hx
  subst hx
  have bx : (-1 : Int) ≤ ρ' 2 ∧ ρ' 2 ≤ 2 := Mx.P.1 (2, -1, 2) List.mem_cons_self
  have f1 := Mx.P.2 _ List.mem_cons_self
  have e4 : cq_e ρ' (((-1), [(1, 1), (2, (-1))]) : cq_F) = ρ' 1 - ρ' 2 - 1 := by
    simp only [cq_e, cq_eT]
    omega
  rw [e4, a' 1 (by decide)] at f1
  have f1 : 0 ≤ n.toInt - ρ' 2 - 1 := f1
  rcases hr with ⟨q1, q2, q3⟩ | ⟨q1, -⟩
  · cases r with
    | none => exact q3.elim
    | some w =>
      obtain ⟨v, e1, e2⟩ := q3.1
      subst e1
      have e2 : v.toInt = cq_e ρ' (cq_s 2) := e2
      rw [cq_s_e] at e2
      have ha : ni_L [.ref 78, .int p] := fun v hv a ea => by
        simp only [List.mem_cons, List.not_mem_nil, or_false] at hv
        rcases hv with rfl | rfl <;> cases ea
        rfl
      have eA := ni_An_of (by decide) I ha (by decide) ev
      have eU : cq_U h 230 p.toInt = v.toInt := by
        unfold cq_U cq_U0
        rw [show Nat.blt 230 2000 = true by decide, show Nat.blt 230 1000 = true by decide]
        simp only [cond_true]
        rw [show (am_in 230).2.1 - 1 = 1 by decide +kernel, cq_dg1 (a := p) hp.1 (by omega) rfl]
        exact eA
      rw [eU, e2, cq_n_int en]
      omega
  · cases q1
theorem ok_233n : cq_CT 233 ct_233n := by
  intro d h ρ as hd M g
  have I : cq_Inv none h := M.I
  have b0 : (0 : Int) ≤ ρ 0 ∧ ρ 0 ≤ 39 := M.P.1 (0, 0, 39) List.mem_cons_self
  have b1 : (0 : Int) ≤ ρ 1 ∧ ρ 1 ≤ 2147483647 := M.P.1 (1, 0, 2147483647) (List.mem_cons_of_mem _ List.mem_cons_self)
  have m1 := cq_mOk_un (M.M _ List.mem_cons_self) 230 (by decide)
  rw [show cq_e ρ ((0, [(1, 1)]) : cq_F) = ρ 1 from cq_s_e ρ 1, show cq_e ρ ((0, [(0, 1)]) : cq_F) = ρ 0 from cq_s_e ρ 0] at m1
  obtain ⟨v0, r0, e0, g0, g1⟩ := cq_gs_cons g
  obtain ⟨v1, r1, e1, g2, g3⟩ := cq_gs_cons g1
  have e2 := cq_gs_nil g3
  subst e0 e1 e2
  have g0 : v0 = .ref 78 := g0
  obtain ⟨p, ep, hp⟩ := g2
  have hp : p.toInt = cq_e ρ (cq_s 0) := hp
  rw [cq_s_e] at hp
  subst g0 ep
  rw [← hp] at m1 b0
  have k := hd_230 I b0
  have s5 := I.s5 (3 * p.toInt.toNat + (ρ 1).toNat) (by omega)
  rw [show (3 * p.toInt.toNat + (ρ 1).toNat) % 3 = (ρ 1).toNat by omega, show (3 * p.toInt.toNat + (ρ 1).toNat) / 3 = p.toInt.toNat by omega] at s5
  have s5 := s5 (by omega)
  have t93 := cq_tA I (c := 93) (j := 3 * p.toInt.toNat + (ρ 1).toNat) (by decide) (by decide) (by decide +kernel) (by decide) (by rw [show (cq_fix 93).2.2 = 121 by decide +kernel]; omega)
  rw [show cq_ar 93 = (1, 0, 30, 0, 0, 0) by decide +kernel] at t93
  obtain ⟨n, en, n0, n1⟩ := t93
  rw [cq_n_int en] at s5
  let ρs : Nat → Int := fun s => match s with
    | 0 => p.toInt
    | 1 => ρ 1
    | _ => n.toInt
  have M0 : cq_Md ct_233s.2.2.2.1 h ρs ct_233s.2.2.1 h := by
    refine cq_Md_p ⟨fun b hb => ?_, fun _ z => (by cases z)⟩ (fun e he => ?_) (fun e he => ?_) I
    · simp only [List.mem_cons, List.not_mem_nil, or_false] at hb
      rcases hb with rfl | rfl | rfl
      · exact b0
      · exact ⟨b1.1, by show ρ 1 ≤ 2; omega⟩
      · exact ⟨s5, n1⟩
    · rw [List.mem_singleton.1 he]
      have ej : (cq_e ρs ((0, [(0, 3), (1, 1)]) : cq_F)).toNat = 3 * p.toInt.toNat + (ρ 1).toNat := by
        simp only [cq_e, cq_eT]
        show (0 + (3 * p.toInt + (1 * ρ 1 + 0))).toNat = _
        omega
      show cq_g ρs (1, (0, [(2, 1)]), 0) (h.2.2.2 93 (cq_e ρs ((0, [(0, 3), (1, 1)]) : cq_F)).toNat)
      rw [ej, en]
      exact ⟨n, rfl, (cq_s_e ρs 2).symm⟩
    · rw [List.mem_singleton.1 he]
      refine cq_mOk_tag 230 (by decide) ?_
      rw [show cq_e ρs ((0, [(1, 1)]) : cq_F) = ρ 1 from cq_s_e ρs 1, show cq_e ρs ((0, [(0, 1)]) : cq_F) = p.toInt from cq_s_e ρs 0]
      exact m1
  obtain ⟨r, h', ev, x, hx, ρ', a', Mx, hr⟩ := ok_233s d h ρs [.ref 78, .int p] hd M0 ⟨rfl, ⟨p, rfl, (cq_s_e ρs 0).symm⟩, trivial⟩
  have hx := List.mem_singleton.1 hx
  subst hx
  refine ⟨r, h', ev, _, List.mem_cons_self, fun s => if s < 2 then ρ s else n.toInt, fun s hs => if_pos hs, cq_Md_s ⟨fun b hb => ?_, fun _ z => (by cases z)⟩ Mx.I Mx.F Mx.A, ?_⟩
  · rw [List.mem_singleton.1 hb]
    exact ⟨s5, n1⟩
  · rcases hr with ⟨q1, q2, q3⟩ | ⟨q1, -⟩
    · refine Or.inl ⟨rfl, q2, ?_⟩
      obtain ⟨v, rr, e, g1, g2⟩ := cq_gs_cons q3
      rw [e, cq_gs_nil g2]
      obtain ⟨z, ez, hz⟩ := g1
      refine ⟨⟨z, ez, ?_⟩, trivial⟩
      have hz : z.toInt = cq_e ρ' (cq_s 2) := hz
      rw [cq_s_e, a' 2 (by decide)] at hz
      rw [hz]
      exact (cq_s_e _ 2).symm
    · cases q1
/-- a store that is filled up ahead of a step -/
def cq_nxa (aug : cq_Z → cq_Z) (nx : cq_Z → Option (List cq_Z)) (Z : cq_Z) : Option (List cq_Z) := nx (aug Z)
def cq_HA (m : cq_W) (h0 : am_H) (ρ0 : Nat → Int) (n0 : Nat) (aug : cq_Z → cq_Z) : Prop := ∀ (Z : cq_Z) (ρ : Nat → Int) (ls st : List Value) (h : am_H) (fs : List cq_Fm), cq_ag n0 ρ ρ0 → n0 ≤ Z.2.2.2.2.2.2.n → cq_Rz m h0 ρ Z ls st h fs → ∃ ρ', cq_ag Z.2.2.2.2.2.2.n ρ' ρ ∧ Z.2.2.2.2.2.2.n ≤ (aug Z).2.2.2.2.2.2.n ∧ (aug Z).1 = Z.1 ∧ (aug Z).2.1 = Z.2.1 ∧ (aug Z).2.2.2.2.2.1 = Z.2.2.2.2.2.1 ∧ cq_Rz m h0 ρ' (aug Z) ls st h fs
theorem cq_nxa_ok {m : cq_W} {h0 : am_H} {ρ0 : Nat → Int} {n0 : Nat} {Fin : Option Value × am_H → Prop} {nx : cq_Z → Option (List cq_Z)} {aug : cq_Z → cq_Z} (HA : cq_HA m h0 ρ0 n0 aug) (N : cq_NX m h0 ρ0 n0 Fin nx) : cq_NX m h0 ρ0 n0 Fin (cq_nxa aug nx) := by
  intro Z out ρ ls st h fs d a hn q H hd K
  obtain ⟨ρ', a', n1, e1, e2, e3, R⟩ := HA Z ρ ls st h fs a hn H
  have g := N (aug Z) out ρ' ls st h fs d ((a'.lt hn).tr a) (Nat.le_trans hn n1) q R (by rw [e3]; exact hd) (fun Z' hZ' ρ1 ls1 st1 h1 fs1 d1 a1 n2 R1 d2 => K Z' hZ' ρ1 ls1 st1 h1 fs1 d1 ((a1.lt n1).tr a') (Nat.le_trans n1 n2) R1 d2)
  rw [e1, e2] at g
  exact g
/-- the poem at a place of the row may be printed -/
def cq_rwT (S : cq_S) (p rw : cq_F) : Bool := S.T.any fun e => !e.1.1 && Nat.beq e.1.2 117 && Nat.beq e.2.2.1 1 && cq_fe e.2.2.2.1 p && S.T.any fun e2 => !e2.1.1 && Nat.beq e2.1.2 118 && Nat.beq e2.2.2.1 1 && cq_fe e2.2.2.2.1 e.2.1 && cq_en S.P e2.2.1 && cq_en S.P (cq_ac (cq_sub rw e2.2.1) (-1))
def cq_rwS (S : cq_S) (st : List cq_A) : cq_S := match st, cq_tl (false, 78) (cq_c 55) S.T, cq_fm (cq_c 0) (1000000002000, []) S.M with
  | (1, p, _) :: _, some (1, rw, _), some s => bif cq_en S.P (cq_ac s (-1)) && cq_sm S.n p && Nat.beq S.ac 0 && S.U.isNone && cq_rwT S p rw then (S.fb 0 2147483647).aM (p, (1000000000230, []), cq_s S.n) else S
  | _, _, _ => S
def cq_rwZ (Z : cq_Z) : cq_Z := bif Nat.beq Z.1 258 && (Nat.beq Z.2.1 58 || Nat.beq Z.2.1 98) && Z.2.2.2.2.1.isEmpty then (Z.1, Z.2.1, Z.2.2.1, Z.2.2.2.1, Z.2.2.2.2.1, Z.2.2.2.2.2.1, cq_rwS Z.2.2.2.2.2.2 Z.2.2.2.1) else Z
theorem cq_rwS_ok {m : cq_W} {h0 : am_H} {ρ : Nat → Int} {S : cq_S} {ast : List cq_A} {h : am_H} (hm : ni_W m = true) (I0 : cq_Inv none h0) (H : ∀ ρ', cq_ag S.n ρ' ρ → cq_Md m h0 ρ' S h) : S.n ≤ (cq_rwS S ast).n ∧ ∃ ρ1, cq_ag S.n ρ1 ρ ∧ ∀ ρ', cq_ag (cq_rwS S ast).n ρ' ρ1 → cq_Md m h0 ρ' (cq_rwS S ast) h := by
  unfold cq_rwS
  split
  · rename_i p k1 rest rw k2 s hT hM
    rw [cond_eq_ite]
    split
    · rename_i hb
      have b1 := (Bool.and_eq_true _ _ ▸ hb)
      have b2 := (Bool.and_eq_true _ _ ▸ b1.1)
      have b3 := (Bool.and_eq_true _ _ ▸ b2.1)
      have b4 := (Bool.and_eq_true _ _ ▸ b3.1)
      have D := H ρ cq_ag.rf
      have I : cq_Inv none h := by
        have I := D.I
        rw [Option.isNone_iff_eq_none.1 b2.2] at I
        exact I
      have A := D.A.1
      rw [am_beq b3.2] at A
      have R := ni_R_of hm D.F (by have := D.F.nx; omega)
      have s1 := cq_en_ok D.P b4.1
      rw [cq_ac_e] at s1
      have ms := cq_mOk_un (D.M _ (cq_fm_ok hM)) 2000 (by decide)
      have RW0 : cq_RW h0 := by
        rcases cq_U_rw (h := h0) (x := cq_e ρ (cq_c 0)) with ⟨-, u⟩ | ⟨u, -⟩
        · exact u
        · rw [u] at ms; omega
      have t55 : ∃ x : Int32, h.2.2.2 78 55 = .int x ∧ x.toInt = cq_e ρ rw := by
        have t := D.T _ (cq_tl_ok hT)
        obtain ⟨x, ex, hx⟩ := t
        have e55 : (cq_e ρ (cq_c 55)).toNat = 55 := by rw [cq_c_e]; rfl
        dsimp only at ex
        rw [e55] at ex
        exact ⟨x, ex, hx⟩
      obtain ⟨r55, h55, hr55⟩ := t55
      obtain ⟨e, he, hz⟩ := List.any_eq_true.1 b1.2
      have c1 := (Bool.and_eq_true _ _ ▸ hz)
      have c2 := (Bool.and_eq_true _ _ ▸ c1.1)
      have c3 := (Bool.and_eq_true _ _ ▸ c2.1)
      have c4 := (Bool.and_eq_true _ _ ▸ c3.1)
      obtain ⟨e2, he2, hz2⟩ := List.any_eq_true.1 c1.2
      have d1 := (Bool.and_eq_true _ _ ▸ hz2)
      have d2 := (Bool.and_eq_true _ _ ▸ d1.1)
      have d3 := (Bool.and_eq_true _ _ ▸ d2.1)
      have d4 := (Bool.and_eq_true _ _ ▸ d3.1)
      have d5 := (Bool.and_eq_true _ _ ▸ d4.1)
      have t117 := D.T e he
      have t118 := D.T e2 he2
      have ec1 : cq_ce ρ e.1 = 117 := by unfold cq_ce; rw [cq_nb c4.1]; exact am_beq c4.2
      have ec2 : cq_ce ρ e2.1 = 118 := by unfold cq_ce; rw [cq_nb d5.1]; exact am_beq d5.2
      rw [ec1, cq_tag c3.2] at t117
      rw [ec2, cq_tag d4.2] at t118
      obtain ⟨vp, evp, hvp⟩ := t117
      obtain ⟨va, eva, hva⟩ := t118
      rw [cq_fe_ok c2.2] at hvp
      rw [cq_fe_ok d3.2] at hva
      have i0 := cq_en_ok D.P d2.2
      have i1 := cq_en_ok D.P d1.2
      rw [cq_ac_e, cq_sub_e] at i1
      have al := RW0 (cq_e ρ e2.2.1).toNat (by rw [← ni_n78 I0 R (j := 55) (by decide), cq_n_int h55]; omega)
      rw [← ni_n I0 R (c := 118) (by decide) (by decide) (by decide), cq_n_int eva, hva, ← ni_n I0 R (c := 117) (by decide) (by decide) (by decide), cq_n_int evp, hvp] at al
      have u0 : 0 ≤ cq_U h0 230 (cq_e ρ p) := by
        rw [cq_U_lo h0 230 _ (by decide)]
        exact al.1
      refine ⟨Nat.le_succ _, cq_up ρ S.n (cq_U h0 230 (cq_e ρ p)), cq_up_g, fun ρ' a => ?_⟩
      obtain ⟨D', ev⟩ := cq_fb_ok H u0 (cq_U_rng h0 230 (cq_e ρ p)).2 ρ' a
      refine ⟨D'.1, D'.2.1, D'.2.2.1, D'.2.2.2.1, D'.2.2.2.2.1, D'.2.2.2.2.2.1, ?_, D'.2.2.2.2.2.2.2⟩
      intro q hq
      rcases List.mem_cons.1 hq with z | z
      · subst z
        refine cq_mOk_tag 230 (by decide) ?_
        rw [cq_s_e, ev, cq_sm_e b4.2 (cq_up_a a)]
      · exact D'.M q z
    · exact ⟨Nat.le_refl _, ρ, cq_ag.rf, H⟩
  · exact ⟨Nat.le_refl _, ρ, cq_ag.rf, H⟩
theorem cq_rwZ_ok {m : cq_W} {h0 : am_H} {ρ0 : Nat → Int} {n0 : Nat} (hm : ni_W m = true) (I0 : cq_Inv none h0) : cq_HA m h0 ρ0 n0 cq_rwZ := by
  intro Z ρ ls st h fs a hn R
  unfold cq_rwZ
  rw [cond_eq_ite]
  split
  · obtain ⟨n1, ρ1, a1, k1⟩ := cq_rwS_ok (ast := Z.2.2.2.1) hm I0 (fun ρ' a => (R ρ' a).1)
    refine ⟨ρ1, a1, n1, rfl, rfl, rfl, fun ρ' a' => ?_⟩
    have a2 : cq_ag Z.2.2.2.2.2.2.n ρ' ρ := (cq_ag.lt a' n1).tr a1
    exact ⟨k1 ρ' a', (R ρ' a2).2⟩
  · exact ⟨ρ, cq_ag.rf, Nat.le_refl _, rfl, rfl, rfl, R⟩
theorem cq_methL {y f : Nat} {c : cq_Ct} {cts : Nat → Option cq_Ct} {lps : Nat → Option (Option (Nat × Nat) × cq_Lp)} (HT : ∀ h, cq_Inv none h → cq_TK c.2.2.2.1 h cts) (wf : cq_wfC c = true) (hm : ni_W c.2.2.2.1 = true) (q0 : (cq_no0 c.2.1 && c.2.1.all (cq_sma c.2.2.1.n)) = true) (q : cq_exec (cq_nxa cq_rwZ (cq_nx c.2.2.2.1 (cq_ckx c) (cq_cl0 c.2.2.2.1 (cq_ckx c) cts))) lps y f [] (y, 0, cq_ent0 c.2.1 (am_in y).2.2.1, [], [], c.1, c.2.2.1) = true) : cq_CT y c := cq_methN wf q0 (fun _ _ _ M _ => cq_nxa_ok (cq_rwZ_ok hm (cq_Inv0 wf M)) (cq_NX_of wf (HT _ (cq_Inv0 wf M)))) q
