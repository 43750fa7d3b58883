/-! arguments out of one number, for contracts; a step that also compares the stanzas' places -/
theorem cq_dec1 {ρ : Nat → Int} {as : List Value} {l u : Int} (g : cq_gs ρ [(5, (0, []), 78), (1, (0, [(0, 1)]), 0)] as) (b : l ≤ ρ 0 ∧ ρ 0 ≤ u) (h1 : 0 ≤ l) (h2 : u < 65536) : as = .ref 78 :: cq_dg 1 (cq_e ρ (0, [(0, 1)])) := by
  obtain ⟨v, r, e, g1, g2⟩ := cq_gs_cons g
  obtain ⟨w, r2, e2, g3, g4⟩ := cq_gs_cons g2
  have e3 := cq_gs_nil g4
  subst e e2 e3
  have g1 : v = .ref 78 := g1
  obtain ⟨x, ex, hx⟩ := g3
  have hx : x.toInt = cq_e ρ (cq_s 0) := hx
  rw [cq_s_e] at hx
  rw [g1, ex, cq_dg1 (a := x) (by omega) (by omega)]
  show cq_e ρ (cq_s 0) = _
  rw [cq_s_e, hx]
theorem cq_dec2 {ρ : Nat → Int} {as : List Value} {l u l' u' : Int} (g : cq_gs ρ [(5, (0, []), 78), (1, (0, [(0, 1)]), 0), (1, (0, [(1, 1)]), 0)] as) (b : l ≤ ρ 0 ∧ ρ 0 ≤ u) (b' : l' ≤ ρ 1 ∧ ρ 1 ≤ u') (h1 : 0 ≤ l) (h2 : u < 65536) (h3 : 0 ≤ l') (h4 : u' < 65536) : as = .ref 78 :: cq_dg 2 (cq_e ρ (0, [(0, 1), (1, 65536)])) := by
  obtain ⟨v, r, e, g1, g2⟩ := cq_gs_cons g
  obtain ⟨w, r2, e2, g3, g4⟩ := cq_gs_cons g2
  obtain ⟨w', r3, e4, g5, g6⟩ := cq_gs_cons g4
  have e3 := cq_gs_nil g6
  subst e e2 e4 e3
  have g1 : v = .ref 78 := g1
  obtain ⟨x, ex, hx⟩ := g3
  obtain ⟨y, ey, hy⟩ := g5
  have hx : x.toInt = cq_e ρ (cq_s 0) := hx
  have hy : y.toInt = cq_e ρ (cq_s 1) := hy
  rw [cq_s_e] at hx hy
  rw [g1, ex, ey, cq_dg2 (a := x) (b := y) (by omega) (by omega) (by omega) (by omega)]
  simp only [cq_e, cq_eT]
  omega
def cq_rfP (P : cq_P) (j a : cq_F) : List (cq_C × cq_F × cq_A) → cq_P
  | [] => P
  | e :: r => bif !e.1.1 && Nat.beq e.1.2 96 && Nat.beq e.2.2.1 1 && cq_fe e.2.2.2.1 (cq_c 1) && cq_en P (cq_sub j e.2.1) then (match cq_asm P (cq_ac (cq_add (cq_sub j e.2.1) a) (-1)) with
      | some P' => P'
      | none => P) else cq_rfP P j a r
def cq_rfS (S : cq_S) : cq_S := match S.T with
  | e :: r => bif !e.1.1 && Nat.beq e.1.2 96 && Nat.beq e.2.2.1 1 && cq_nn S.P.1 e.2.2.2.1 then S.sP (cq_rfP S.P e.2.1 e.2.2.2.1 r) else S
  | [] => S
def cq_rfZ (Z : cq_Z) : cq_Z := match Z with
  | (y, pc, ls, st, fr, db, S) => (y, pc, ls, st, fr, db, cq_rfS S)
theorem cq_rfP_ok {ρ : Nat → Int} {h : am_H} {P : cq_P} {j a : cq_F} {x : Int32} (hP : cq_pOk ρ P) (hj : h.2.2.2 96 (cq_e ρ j).toNat = .int x) (hx : x.toInt = cq_e ρ a) (h0 : 0 ≤ cq_e ρ a) : ∀ (T : List (cq_C × cq_F × cq_A)), (∀ e ∈ T, cq_g ρ e.2.2 (h.2.2.2 (cq_ce ρ e.1) (cq_e ρ e.2.1).toNat)) → cq_pOk ρ (cq_rfP P j a T)
  | [], _ => hP
  | e :: r, hT => by
    unfold cq_rfP
    cases hb : !e.1.1 && Nat.beq e.1.2 96 && Nat.beq e.2.2.1 1 && cq_fe e.2.2.2.1 (cq_c 1) && cq_en P (cq_sub j e.2.1) with
    | false => exact cq_rfP_ok hP hj hx h0 r (fun q hq => hT q (List.mem_cons_of_mem _ hq))
    | true =>
      simp only [cond_true]
      have b1 := (Bool.and_eq_true _ _ ▸ hb)
      have b2 := (Bool.and_eq_true _ _ ▸ b1.1)
      have b3 := (Bool.and_eq_true _ _ ▸ b2.1)
      have b4 := (Bool.and_eq_true _ _ ▸ b3.1)
      have g := hT e List.mem_cons_self
      have ec : cq_ce ρ e.1 = 96 := by
        unfold cq_ce
        rw [cq_nb b4.1]
        exact am_beq b4.2
      rw [ec, cq_tag b3.2] at g
      obtain ⟨z, ez, hz⟩ := g
      rw [cq_fe_ok b2.2, cq_c_e] at hz
      have d0 := cq_en_ok hP b1.2
      have fact : 0 ≤ cq_e ρ (cq_ac (cq_add (cq_sub j e.2.1) a) (-1)) := by
        rw [cq_ac_e, cq_add_e]
        rw [cq_sub_e] at d0 ⊢
        by_cases eq : cq_e ρ j = cq_e ρ e.2.1
        · rw [eq, ez] at hj
          have := Value.int.inj hj
          subst this
          omega
        · omega
      obtain ⟨P', e1, hP'⟩ := cq_asm_ok hP fact
      rw [e1]
      exact hP'
theorem cq_rfS_ok {m : cq_W} {h0 : am_H} {ρ : Nat → Int} {S : cq_S} {h : am_H} (D : cq_Md m h0 ρ S h) : cq_Md m h0 ρ (cq_rfS S) h := by
  unfold cq_rfS
  split
  · rename_i e r hT
    cases hb : !e.1.1 && Nat.beq e.1.2 96 && Nat.beq e.2.2.1 1 && cq_nn S.P.1 e.2.2.2.1 with
    | false => exact D
    | true =>
      have b1 := (Bool.and_eq_true _ _ ▸ hb)
      have b2 := (Bool.and_eq_true _ _ ▸ b1.1)
      have b3 := (Bool.and_eq_true _ _ ▸ b2.1)
      have g := D.T e (by rw [hT]; exact List.mem_cons_self)
      have ec : cq_ce ρ e.1 = 96 := by
        unfold cq_ce
        rw [cq_nb b3.1]
        exact am_beq b3.2
      rw [ec, cq_tag b2.2] at g
      obtain ⟨x, ex, hx⟩ := g
      exact D.sP (cq_rfP_ok D.P ex hx (cq_nn_ok D.P.1 b1.2) r (fun q hq => D.T q (by rw [hT]; exact List.mem_cons_of_mem _ hq)))
  · exact D
theorem cq_rfS_n (S : cq_S) : (cq_rfS S).n = S.n := by
  unfold cq_rfS
  split
  · rw [cond_eq_ite]
    split <;> rfl
  · rfl
def cq_nxr (nx : cq_Z → Option (List cq_Z)) (Z : cq_Z) : Option (List cq_Z) := match nx Z with
  | some out => some (out.map cq_rfZ)
  | none => none
theorem cq_nxr_ok {m : cq_W} {h0 : am_H} {ρ0 : Nat → Int} {n0 : Nat} {Fin : Option Value × am_H → Prop} {nx : cq_Z → Option (List cq_Z)} (N : cq_NX m h0 ρ0 n0 Fin nx) : cq_NX m h0 ρ0 n0 Fin (cq_nxr nx) := by
  intro Z out ρ ls st h fs d a hn q H hd K
  unfold cq_nxr at q
  split at q
  · rename_i out' hq
    have q := Option.some.inj q
    subst q
    refine N Z out' ρ ls st h fs d a hn hq H hd fun Z' hZ' ρ1 ls1 st1 h1 fs1 d1 a1 n1 R1 d2 => ?_
    have k := K (cq_rfZ Z') (List.mem_map_of_mem hZ') ρ1 ls1 st1 h1 fs1 d1 a1
    obtain ⟨y, pc, als, ast, fr, db, S⟩ := Z'
    refine k (by rw [show (cq_rfZ (y, pc, als, ast, fr, db, S)).2.2.2.2.2.2.n = S.n from cq_rfS_n S]; exact n1) (fun ρ' a' => ?_) d2
    have a' : cq_ag (cq_rfS S).n ρ' ρ1 := a'
    rw [cq_rfS_n] at a'
    obtain ⟨r1, r2, r3, r4⟩ := R1 ρ' a'
    exact ⟨cq_rfS_ok r1, r2, r3, r4⟩
  · cases q
/-- steps by contracts -/
theorem cq_NX_of {c : cq_Ct} {cts : Nat → Option cq_Ct} {h : am_H} {ρ : Nat → Int} (wf : cq_wfC c = true) (HT : cq_TK c.2.2.2.1 h cts) : cq_NX c.2.2.2.1 h ρ c.2.2.1.n (cq_Fin c h ρ) (cq_nx c.2.2.2.1 (cq_ckx c) (cq_cl0 c.2.2.2.1 (cq_ckx c) cts)) := fun _ _ _ _ _ _ _ _ a hn hq H hd K => cq_nx_ok (cq_HE_ok wf) (cq_HC_ok wf HT) a hn hq H hd K
theorem cq_Inv0 {c : cq_Ct} {h : am_H} {ρ : Nat → Int} (wf : cq_wfC c = true) (M : cq_Md c.2.2.2.1 h ρ c.2.2.1 h) : cq_Inv none h := by
  have w1 := (Bool.and_eq_true _ _ ▸ wf)
  have w0 := (Bool.and_eq_true _ _ ▸ w1.1)
  have w2 := (Bool.and_eq_true _ _ ▸ w0.1)
  have x1 := (Bool.and_eq_true _ _ ▸ w2.1)
  have eU : c.2.2.1.U = none := Option.isNone_iff_eq_none.1 x1.2
  have I := M.I
  rw [eU] at I
  exact I
theorem cq_methR {y f : Nat} {c : cq_Ct} {cts : Nat → Option cq_Ct} {lps : Nat → Option (Option (Nat × Nat) × cq_Lp)} (HT : ∀ h, cq_Inv none h → cq_TK c.2.2.2.1 h cts) (wf : cq_wfC c = true) (q0 : (cq_no0 c.2.1 && c.2.1.all (cq_sma c.2.2.1.n)) = true) (q : cq_exec (cq_nxr (cq_nx c.2.2.2.1 (cq_ckx c) (cq_cl0 c.2.2.2.1 (cq_ckx c) cts))) lps y f [] (y, 0, cq_ent0 c.2.1 (am_in y).2.2.1, [], [], c.1, c.2.2.1) = true) : cq_CT y c := cq_methN wf q0 (fun _ _ _ M _ => cq_nxr_ok (cq_NX_of wf (HT _ (cq_Inv0 wf M)))) q
