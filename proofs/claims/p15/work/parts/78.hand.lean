/-! BY HAND, 5: isRowAllowed and compareFirst -/
theorem hd_ia {l b w pc z : Nat} {t : Int} {ls r : List Value} {h : am_H} {v : Value} {a : Nat} {i : Int32} (hr : am_rd h a i (fun c => Nat.beq c 0) = some v) : am_st (.iaload, l, t, z, b, w) pc ls (.int i :: .ref a :: r) h = some (pc + 1, ls, v :: r, h) := by
  dsimp only [am_st]
  rw [hr]
theorem hd_rd {h : am_H} {c : Nat} {i : Int32} {ok : Nat → Bool} (I : cq_Inv none h) (h1 : 40 ≤ c) (h2 : c < 130) (hf : (cq_fix c).1 = 1) (ht : ok (cq_fix c).2.1 = true) (i0 : 0 ≤ i.toInt) (i1 : i.toInt < ((cq_fix c).2.2 : Nat)) : am_rd h c i ok = some (h.2.2.2 c i.toInt.toNat) := by
  unfold am_rd
  rw [I.fx c h1 h2, hf, ht, show Nat.blt c h.1 = true from Nat.ble_eq_true_of_le (Nat.lt_of_lt_of_le h2 I.lo)]
  simp only [Nat.beq_refl, Bool.true_or, Bool.and_self, cond_true]
  have e : i.toNatClampNeg = i.toInt.toNat := rfl
  rw [if_neg]
  · rw [e]
  · rintro (z | z)
    · have := Int32.lt_iff_toInt_lt.1 z
      have e0 : (0 : Int32).toInt = 0 := by decide
      omega
    · rw [e] at z
      omega
theorem hd_inc {i : Int32} {k : Nat} (e : i.toInt = k) (hk : k < 100000) : (i + Int32.ofInt 1).toInt = ((k + 1 : Nat) : Int) := by
  rw [Int32.toInt_add, e, show (Int32.ofInt 1).toInt = 1 by decide]
  rw [Int.bmod_eq_of_le (by omega) (by omega)]
  omega
theorem cq_U_lo (h : am_H) (k : Nat) (x : Int) (h2 : Nat.blt k 2000 = true) : cq_U h k x = cq_U0 h k x := by
  unfold cq_U
  rw [h2]
  rfl
theorem cq_U_rw {h : am_H} {x : Int} : (cq_U h 2000 x = 1 ∧ cq_RW h) ∨ (cq_U h 2000 x = 0 ∧ ¬ cq_RW h) := by
  unfold cq_U
  rw [show Nat.blt 2000 2000 = false by decide]
  simp only [cond_false]
  have ex : ∃ r : Int32, (r = 1 ∧ cq_RW h) ∨ (r = 0 ∧ ¬ cq_RW h) := by
    by_cases q : cq_RW h
    · exact ⟨1, Or.inl ⟨rfl, q⟩⟩
    · exact ⟨0, Or.inr ⟨rfl, q⟩⟩
  have sp := Classical.epsilon_spec ex
  rcases sp with ⟨e, q⟩ | ⟨e, q⟩
  · rw [e]; exact Or.inl ⟨by decide, q⟩
  · rw [e]; exact Or.inr ⟨by decide, q⟩
/-- isAllowed, as a fact of heaps -/
theorem hd_228 {h : am_H} {p : Int32} {d : Nat} (I : cq_Inv none h) (hp : 0 ≤ p.toInt ∧ p.toInt ≤ 39) (hd : 6 ≤ d) : ∃ (r : Int32) (h' : am_H), am_ev d 228 0 (am_ent [.ref 78, .int p] (am_in 228).2.2.1) [] h (some (.int r), h') ∧ (r = 0 ∨ (r = 1 ∧ cq_AL h p.toInt)) ∧ cq_Inv none h' ∧ cq_Fr [(false, 98, 0, 0), (false, 99, 0, 0)] h h' ∧ h'.1 ≤ h.1 ∧ h'.2.1 ≤ h.2.1 := by
  obtain ⟨ck, h15, k1, k2⟩ := cq_i78 I (b := 15) 0 29999 (by decide +kernel) (by decide +kernel)
  let ρ : Nat → Int := fun s => match s with
    | 0 => p.toInt
    | 1 => ck.toInt
    | 2 => cq_U h 230 p.toInt
    | 3 => cq_U h 231 p.toInt
    | _ => cq_U h 222 (p.toInt + 65536 * ck.toInt)
  have gg : cq_gs ρ ct_228g.2.1 [.ref 78, .int p] := ⟨rfl, ⟨p, rfl, (cq_s_e ρ 0).symm⟩, trivial⟩
  have M0 : cq_Md ct_228g.2.2.2.1 h ρ ct_228g.2.2.1 h := by
    refine cq_Md_p ⟨fun b hb => ?_, fun _ z => (by cases z)⟩ (fun e he => ?_) (fun e he => ?_) I
    · simp only [List.mem_cons, List.not_mem_nil, or_false] at hb
      rcases hb with rfl | rfl | rfl | rfl | rfl
      · exact hp
      · exact ⟨k1, k2⟩
      · exact cq_U_rng h 230 p.toInt
      · exact cq_U_rng h 231 p.toInt
      · exact cq_U_rng h 222 _
    · rw [List.mem_singleton.1 he]
      exact ⟨ck, h15, (cq_s_e ρ 1).symm⟩
    · simp only [List.mem_cons, List.not_mem_nil, or_false] at he
      rcases he with rfl | rfl | rfl
      · refine cq_mOk_tag 230 (by decide) ?_
        rw [show cq_e ρ ((0, [(2, 1)]) : cq_F) = ρ 2 from cq_s_e ρ 2, show cq_e ρ ((0, [(0, 1)]) : cq_F) = ρ 0 from cq_s_e ρ 0]
        rfl
      · refine cq_mOk_tag 231 (by decide) ?_
        rw [show cq_e ρ ((0, [(3, 1)]) : cq_F) = ρ 3 from cq_s_e ρ 3, show cq_e ρ ((0, [(0, 1)]) : cq_F) = ρ 0 from cq_s_e ρ 0]
        rfl
      · refine cq_mOk_tag 222 (by decide) ?_
        have : cq_e ρ ((0, [(0, 1), (1, 65536)]) : cq_F) = p.toInt + 65536 * ck.toInt := by
          simp only [cq_e, cq_eT]
          show 0 + (1 * p.toInt + (65536 * ck.toInt + 0)) = _
          omega
        rw [show cq_e ρ ((0, [(4, 1)]) : cq_F) = ρ 4 from cq_s_e ρ 4, this]
        rfl
  obtain ⟨r, h', ev, x, hx, ρ', a', Mx, hr⟩ := ok_228g d h ρ _ hd M0 gg
  simp only [ct_228g, List.mem_cons, List.not_mem_nil, or_false] at hx
  rcases hr with ⟨q1, q2, q3⟩ | ⟨q1, -⟩
  · rcases hx with rfl | rfl
    · cases r with
      | none => exact q3.elim
      | some w =>
        obtain ⟨v, e1, e2⟩ := q3.1
        subst e1
        have e2 : v.toInt = 0 := by rw [e2]; exact cq_c_e ρ' 0
        exact ⟨v, h', ev, Or.inl (Int32.toInt_inj.1 (by rw [e2]; decide)), Mx.I, Mx.F, Mx.A⟩
    · cases r with
      | none => exact q3.elim
      | some w =>
        obtain ⟨v, e1, e2⟩ := q3.1
        subst e1
        have e2 : v.toInt = 1 := by rw [e2]; exact cq_c_e ρ' 1
        have f1 := Mx.P.2 (0, [(2, 1)]) List.mem_cons_self
        have f2 := Mx.P.2 (0, [(3, 1), (4, 1)]) (List.mem_cons_of_mem _ List.mem_cons_self)
        rw [show cq_e ρ' ((0, [(2, 1)]) : cq_F) = ρ' 2 from cq_s_e ρ' 2, a' 2 (by decide)] at f1
        have e4 : cq_e ρ' ((0, [(3, 1), (4, 1)]) : cq_F) = ρ' 3 + ρ' 4 := by
          simp only [cq_e, cq_eT]
          omega
        rw [e4, a' 3 (by decide), a' 4 (by decide)] at f2
        refine ⟨v, h', ev, Or.inr ⟨Int32.toInt_inj.1 (by rw [e2]; decide), ?_, ?_⟩, Mx.I, Mx.F, Mx.A⟩
        · rw [← cq_U_lo h 230 _ (by decide)]
          exact f1
        · rw [← cq_U_lo h 231 _ (by decide), ← cq_U_lo h 222 _ (by decide), cq_n_int h15]
          exact f2
  · rcases hx with rfl | rfl <;> cases q1
def hd_X : cq_W := [(false, 98, 0, 0), (false, 99, 0, 0)]
theorem hd_XR {h h' : am_H} (F : cq_Fr hd_X h h') (e : h'.1 ≤ h.1) : ni_R h h' := ni_R_of (by decide) F (by have := F.nx; omega)
theorem hd_Xtr {h h1 h2 : am_H} (F : cq_Fr hd_X h h1) (G : cq_Fr hd_X h1 h2) : cq_Fr hd_X h h2 := cq_Fr_tr F G (fun _ z => z)
/-- isRowAllowed's loop -/
theorem hd_row {h : am_H} {bu rw : Int32} {d : Nat} (I : cq_Inv none h) (h55 : h.2.2.2 78 55 = .int rw) (hr : 0 ≤ rw.toInt ∧ rw.toInt ≤ 14) (hd : 6 ≤ d) : ∀ (n k : Nat) (i : Int32) (h1 : am_H), ((n + k : Nat) : Int) = rw.toInt → i.toInt = k → cq_Inv none h1 → cq_Fr hd_X h h1 → h1.1 ≤ h.1 → h1.2.1 ≤ h.2.1 → ∃ (r : Int32) (h' : am_H), am_ev (d + 1) 249 2 [.ref 78, .int bu, .int i] [] h1 (some (.int r), h') ∧ (r = 0 ∨ (r = 1 ∧ ∀ j : Nat, k ≤ j → (j : Int) < rw.toInt → (j : Int) ≠ bu.toInt → cq_AL h (cq_n h 117 (cq_n h 118 j).toNat))) ∧ cq_Inv none h' ∧ cq_Fr hd_X h h' ∧ h'.1 ≤ h.1 ∧ h'.2.1 ≤ h.2.1 := by
  intro n
  induction n with
  | zero =>
    intro k i h1 hk ei I1 F1 A1 A2
    have R := hd_XR F1 A1
    have O := cq_o78 I1
    have g55 : h1.2.2.2 78 55 = .int rw := by rw [← R.2.2 78 (by have := I.lo; omega) (by decide) 55 (by omega)]; exact h55
    refine ⟨1, h1, ?_, Or.inr ⟨rfl, fun j j1 j2 => by omega⟩, I1, F1, A1, A2⟩
    refine am_ev.step rfl rfl ?_
    refine am_ev.step rfl rfl ?_
    refine am_ev.step rfl (hd_gf O g55) ?_
    refine am_ev.step (pc' := 41) (ls' := [.ref 78, .int bu, .int i]) (st' := []) (h' := h1) rfl (if_pos (Int32.le_iff_toInt_le.2 (by omega))) ?_
    refine am_ev.step rfl rfl ?_
    exact am_ev.reti rfl rfl rfl
  | succ n ih =>
    intro k i h1 hk ei I1 F1 A1 A2
    have R := hd_XR F1 A1
    have O := cq_o78 I1
    have g55 : h1.2.2.2 78 55 = .int rw := by rw [← R.2.2 78 (by have := I.lo; omega) (by decide) 55 (by omega)]; exact h55
    have g56 : h1.2.2.2 78 56 = .ref 117 := by
      have t := cq_t78 I1 (b := 56) (by decide +kernel)
      rw [show cq_cl 13 56 = (3, 0, 0, 117, 0, 0) by decide +kernel] at t
      exact t
    have g57 : h1.2.2.2 78 57 = .ref 118 := by
      have t := cq_t78 I1 (b := 57) (by decide +kernel)
      rw [show cq_cl 13 57 = (3, 0, 0, 118, 0, 0) by decide +kernel] at t
      exact t
    have t118 := cq_tA I1 (c := 118) (j := k) (by decide) (by decide) (by decide +kernel) (by decide) (by rw [show (cq_fix 118).2.2 = 14 by decide +kernel]; omega)
    rw [show cq_ar 118 = (1, 0, 13, 0, 0, 0) by decide +kernel] at t118
    obtain ⟨a, ea, a0, a1⟩ := t118
    have t117 := cq_tA I1 (c := 117) (j := a.toInt.toNat) (by decide) (by decide) (by decide +kernel) (by decide) (by rw [show (cq_fix 117).2.2 = 14 by decide +kernel]; omega)
    rw [show cq_ar 117 = (1, 0, 39, 0, 0, 0) by decide +kernel] at t117
    obtain ⟨p, epp, p0, p1⟩ := t117
    have r118 : am_rd h1 118 i (fun c => Nat.beq c 0) = some (.int a) := by
      rw [hd_rd I1 (by decide) (by decide) (by decide +kernel) (by decide +kernel) (by omega) (by rw [show (cq_fix 118).2.2 = 14 by decide +kernel]; omega)]
      rw [show i.toInt.toNat = k by omega, ea]
    have r117 : am_rd h1 117 a (fun c => Nat.beq c 0) = some (.int p) := by
      rw [hd_rd I1 (by decide) (by decide) (by decide +kernel) (by decide +kernel) (by omega) (by rw [show (cq_fix 117).2.2 = 14 by decide +kernel]; omega)]
      rw [epp]
    have ni : ¬ (rw ≤ i) := fun z => by
      have := Int32.le_iff_toInt_le.1 z
      omega
    have head : ∀ x, (i = bu → am_ev (d + 1) 249 35 [.ref 78, .int bu, .int i] [] h1 x) → (i ≠ bu → am_ev (d + 1) 249 27 [.ref 78, .int bu, .int i] [.int p, .ref 78] h1 x) → am_ev (d + 1) 249 2 [.ref 78, .int bu, .int i] [] h1 x := fun x c1 c2 => by
      refine am_ev.step rfl rfl ?_
      refine am_ev.step rfl rfl ?_
      refine am_ev.step rfl (hd_gf O g55) ?_
      refine am_ev.step (pc' := 10) (ls' := [.ref 78, .int bu, .int i]) (st' := []) (h' := h1) rfl (if_neg ni) ?_
      refine am_ev.step rfl rfl ?_
      refine am_ev.step rfl rfl ?_
      by_cases e : i = bu
      · exact am_ev.step (pc' := 35) (ls' := [.ref 78, .int bu, .int i]) (st' := []) (h' := h1) rfl (if_pos e) (c1 e)
      · refine am_ev.step (pc' := 15) (ls' := [.ref 78, .int bu, .int i]) (st' := []) (h' := h1) rfl (if_neg e) ?_
        refine am_ev.step rfl rfl ?_
        refine am_ev.step rfl rfl ?_
        refine am_ev.step rfl (hd_gf O g56) ?_
        refine am_ev.step rfl rfl ?_
        refine am_ev.step rfl (hd_gf O g57) ?_
        refine am_ev.step rfl rfl ?_
        refine am_ev.step rfl (hd_ia r118) ?_
        refine am_ev.step rfl (hd_ia r117) ?_
        exact c2 e
    have ei2 := hd_inc ei (by omega)
    have tail : ∀ h2 x, am_ev (d + 1) 249 2 [.ref 78, .int bu, .int (i + Int32.ofInt 1)] [] h2 x → am_ev (d + 1) 249 35 [.ref 78, .int bu, .int i] [] h2 x := fun h2 x q => by
      refine am_ev.step rfl rfl ?_
      exact am_ev.step rfl rfl q
    by_cases e : i = bu
    · obtain ⟨r, h', ev, hr', K⟩ := ih (k + 1) _ h1 (by omega) ei2 I1 F1 A1 A2
      refine ⟨r, h', head _ (fun _ => tail _ _ ev) (fun z => absurd e z), ?_, K⟩
      rcases hr' with z | ⟨z1, z2⟩
      · exact Or.inl z
      · refine Or.inr ⟨z1, fun j j1 j2 j3 => ?_⟩
        by_cases ej : j = k
        · exfalso
          rw [← e] at j3
          omega
        · exact z2 j (by omega) j2 j3
    · obtain ⟨w, h2, ev2, hw, I2, F2, B1, B2⟩ := hd_228 (d := d) I1 (p := p) ⟨p0, p1⟩ hd
      have F2' : cq_Fr hd_X h h2 := hd_Xtr F1 F2
      have call : ∀ x, am_ev (d + 1) 249 30 [.ref 78, .int bu, .int i] [.int w] h2 x → am_ev (d + 1) 249 27 [.ref 78, .int bu, .int i] [.int p, .ref 78] h1 x := fun x q => hd_cv 228 (as := [.ref 78, .int p]) (rr := []) rfl (Or.inr (Or.inl ⟨_, rfl⟩)) rfl (by decide) rfl rfl (by decide) O (Nat.le_of_ble_eq_true rfl) ev2 q
      rcases hw with z | ⟨z, al⟩
      · subst z
        refine ⟨0, h2, head _ (fun q => absurd q e) (fun _ => call _ ?_), Or.inl rfl, I2, F2', by omega, by omega⟩
        refine am_ev.step (pc' := 33) (ls' := [.ref 78, .int bu, .int i]) (st' := []) (h' := h2) rfl rfl ?_
        refine am_ev.step rfl rfl ?_
        exact am_ev.reti rfl rfl rfl
      · subst z
        obtain ⟨r, h', ev, hr', K⟩ := ih (k + 1) _ h2 (by omega) ei2 I2 F2' (by omega) (by omega)
        refine ⟨r, h', head _ (fun q => absurd q e) (fun _ => call _ ?_), ?_, K⟩
        · exact am_ev.step (pc' := 35) (ls' := [.ref 78, .int bu, .int i]) (st' := []) (h' := h2) rfl rfl (tail _ _ ev)
        · rcases hr' with z | ⟨z1, z2⟩
          · exact Or.inl z
          · refine Or.inr ⟨z1, fun j j1 j2 j3 => ?_⟩
            by_cases ej : j = k
            · subst ej
              have e1 : cq_n h 118 j = a.toInt := by
                rw [← ni_n I R (by decide) (by decide) (by decide)]
                exact cq_n_int ea
              have e2 : cq_n h 117 a.toInt.toNat = p.toInt := by
                rw [← ni_n I R (by decide) (by decide) (by decide)]
                exact cq_n_int epp
              rw [e1, e2]
              exact (ni_AL I I1 R _).1 al
            · exact z2 j (by omega) j2 j3
theorem ok_249g : cq_CT 249 ct_249g := by
  intro d h ρ as hd M g
  have I : cq_Inv none h := M.I
  obtain ⟨v0, r0, e0, g0, g1⟩ := cq_gs_cons g
  obtain ⟨v1, r1, e1, g2, g3⟩ := cq_gs_cons g1
  have e2 := cq_gs_nil g3
  subst e0 e1 e2
  have g0 : v0 = .ref 78 := g0
  obtain ⟨bu, ep, hp⟩ := g2
  have hp : bu.toInt = cq_e ρ (cq_s 0) := hp
  rw [cq_s_e] at hp
  subst g0 ep
  have b0 : (-1 : Int) ≤ ρ 0 ∧ ρ 0 ≤ 13 := M.P.1 (0, -1, 13) List.mem_cons_self
  obtain ⟨rw1, h55, k1, k2⟩ := cq_i78 I (b := 55) 0 14 (by decide +kernel) (by decide +kernel)
  have m1 := cq_mOk_un (M.M _ List.mem_cons_self) 2000 (by decide)
  rw [show cq_e ρ ((0, [(1, 1)]) : cq_F) = ρ 1 from cq_s_e ρ 1] at m1
  cases d with
  | zero => exact absurd hd (by decide)
  | succ d =>
    have hd5 : 6 ≤ d := Nat.le_of_succ_le_succ hd
    obtain ⟨r, h', ev, hr, I', F', A1, A2⟩ := hd_row (bu := bu) I h55 ⟨k1, k2⟩ hd5 rw1.toInt.toNat 0 0 h (by omega) (by decide) I cq_Fr_rf (Nat.le_refl _) (Nat.le_refl _)
    have ev2 : am_ev (d + 1) 249 0 (am_ent [.ref 78, .int bu] (am_in 249).2.2.1) [] h (some (.int r), h') := by
      refine am_ev.step rfl rfl ?_
      exact am_ev.step rfl rfl ev
    rcases hr with hr | ⟨hr, r1⟩
    · subst hr
      exact ⟨_, h', ev2, _, List.mem_cons_self, ρ, cq_ag.rf, cq_Md_s ⟨fun _ z => (by cases z), fun _ z => (by cases z)⟩ I' F' ⟨A1, A2⟩, Or.inl ⟨rfl, rfl, ⟨0, rfl, by rw [show cq_e ρ ((0, []) : cq_F) = 0 from cq_c_e ρ 0]; decide⟩, trivial⟩⟩
    · subst hr
      refine ⟨_, h', ev2, _, List.mem_cons_of_mem _ List.mem_cons_self, ρ, cq_ag.rf, cq_Md_s ⟨fun _ z => (by cases z), fun gg hg => ?_⟩ I' F' ⟨A1, A2⟩, Or.inl ⟨rfl, rfl, ⟨1, rfl, by rw [show cq_e ρ ((1, []) : cq_F) = 1 from cq_c_e ρ 1]; decide⟩, trivial⟩⟩
      rw [List.mem_singleton.1 hg]
      have e4 : cq_e ρ ((0, [(0, 1), (1, 1)]) : cq_F) = ρ 0 + ρ 1 := by
        simp only [cq_e, cq_eT]
        omega
      rw [e4, m1]
      rcases cq_U_rw (h := h) (x := cq_e ρ ((0, []) : cq_F)) with ⟨u, -⟩ | ⟨u, nr⟩
      · rw [u]; omega
      · rw [u]
        by_cases eb : bu.toInt = -1
        · exfalso
          refine nr fun i hi => ?_
          rw [cq_n_int h55] at hi
          exact r1 i (Nat.zero_le _) hi (by omega)
        · omega
theorem ok_252g : cq_CT 252 ct_252g := by
  intro d h ρ as hd M g
  have I : cq_Inv none h := M.I
  have b0 : (0 : Int) ≤ ρ 0 ∧ ρ 0 ≤ 13 := M.P.1 (0, 0, 13) List.mem_cons_self
  have b1 : (0 : Int) ≤ ρ 1 ∧ ρ 1 ≤ 13 := M.P.1 (1, 0, 13) (List.mem_cons_of_mem _ List.mem_cons_self)
  have b3 : (1 : Int) ≤ ρ 3 ∧ ρ 3 ≤ 2147483647 := M.P.1 (3, 1, 2147483647) (List.mem_cons_of_mem _ (List.mem_cons_of_mem _ (List.mem_cons_of_mem _ List.mem_cons_self)))
  have c0 := M.P.2 _ List.mem_cons_self
  have c1 := M.P.2 _ (List.mem_cons_of_mem _ List.mem_cons_self)
  have ec0 : cq_e ρ (((-1), [(0, (-1)), (2, 1)]) : cq_F) = ρ 2 - ρ 0 - 1 := by
    simp only [cq_e, cq_eT]
    omega
  have ec1 : cq_e ρ (((-1), [(1, (-1)), (2, 1)]) : cq_F) = ρ 2 - ρ 1 - 1 := by
    simp only [cq_e, cq_eT]
    omega
  rw [ec0] at c0
  rw [ec1] at c1
  have t55 : ∃ x : Int32, h.2.2.2 78 55 = .int x ∧ x.toInt = cq_e ρ (cq_s 2) := M.T _ List.mem_cons_self
  obtain ⟨rw1, h55, hrw⟩ := t55
  rw [cq_s_e] at hrw
  have m1 := cq_mOk_un (M.M _ List.mem_cons_self) 2000 (by decide)
  rw [show cq_e ρ ((0, [(3, 1)]) : cq_F) = ρ 3 from cq_s_e ρ 3] at m1
  have RW : cq_RW h := by
    rcases cq_U_rw (h := h) (x := cq_e ρ ((0, []) : cq_F)) with ⟨-, u⟩ | ⟨u, -⟩
    · exact u
    · rw [u] at m1; omega
  have look : ∀ i : Int, 0 ≤ i → i < rw1.toInt → ∃ a p : Int32, h.2.2.2 118 i.toNat = .int a ∧ 0 ≤ a.toInt ∧ a.toInt ≤ 13 ∧ h.2.2.2 117 a.toInt.toNat = .int p ∧ 0 ≤ p.toInt ∧ p.toInt ≤ 39 ∧ 0 ≤ cq_U h 230 p.toInt := fun i i0 i1 => by
    have t118 := cq_tA I (c := 118) (j := i.toNat) (by decide) (by decide) (by decide +kernel) (by decide) (by rw [show (cq_fix 118).2.2 = 14 by decide +kernel]; obtain ⟨x, ex, x1, x2⟩ := cq_i78 I (b := 55) 0 14 (by decide +kernel) (by decide +kernel); rw [h55] at ex; have ex := Value.int.inj ex; subst ex; omega)
    rw [show cq_ar 118 = (1, 0, 13, 0, 0, 0) by decide +kernel] at t118
    obtain ⟨a, ea, a0, a1⟩ := t118
    have t117 := cq_tA I (c := 117) (j := a.toInt.toNat) (by decide) (by decide) (by decide +kernel) (by decide) (by rw [show (cq_fix 117).2.2 = 14 by decide +kernel]; omega)
    rw [show cq_ar 117 = (1, 0, 39, 0, 0, 0) by decide +kernel] at t117
    obtain ⟨p, epp, p0, p1⟩ := t117
    refine ⟨a, p, ea, a0, a1, epp, p0, p1, ?_⟩
    have al := (RW i.toNat (by rw [cq_n_int h55]; omega)).1
    rw [cq_n_int ea, cq_n_int epp] at al
    rw [cq_U_lo h 230 _ (by decide)]
    exact al
  obtain ⟨a, p, ea, a0, a1, epp, p0, p1, up⟩ := look (ρ 0) b0.1 (by omega)
  obtain ⟨b, q, eb, bb0, bb1, eqq, q0, q1, uq⟩ := look (ρ 1) b1.1 (by omega)
  let ρs : Nat → Int := fun s => match s with
    | 0 => ρ 0
    | 1 => ρ 1
    | 2 => a.toInt
    | 3 => b.toInt
    | 4 => p.toInt
    | 5 => q.toInt
    | 6 => cq_U h 230 p.toInt
    | _ => cq_U h 230 q.toInt
  have M0 : cq_Md ct_252s.2.2.2.1 h ρs ct_252s.2.2.1 h := by
    refine cq_Md_p ⟨fun b hb => ?_, fun _ z => (by cases z)⟩ (fun e he => ?_) (fun e he => ?_) I
    · simp only [List.mem_cons, List.not_mem_nil, or_false] at hb
      rcases hb with rfl | rfl | rfl | rfl | rfl | rfl | rfl | rfl
      · exact b0
      · exact b1
      · exact ⟨a0, a1⟩
      · exact ⟨bb0, bb1⟩
      · exact ⟨p0, p1⟩
      · exact ⟨q0, q1⟩
      · exact ⟨up, (cq_U_rng h 230 p.toInt).2⟩
      · exact ⟨uq, (cq_U_rng h 230 q.toInt).2⟩
    · simp only [List.mem_cons, List.not_mem_nil, or_false] at he
      rcases he with rfl | rfl | rfl | rfl
      · show cq_g ρs (1, (0, [(2, 1)]), 0) (h.2.2.2 118 (cq_e ρs ((0, [(0, 1)]) : cq_F)).toNat)
        rw [show cq_e ρs ((0, [(0, 1)]) : cq_F) = ρ 0 from cq_s_e ρs 0, ea]
        exact ⟨a, rfl, (cq_s_e ρs 2).symm⟩
      · show cq_g ρs (1, (0, [(3, 1)]), 0) (h.2.2.2 118 (cq_e ρs ((0, [(1, 1)]) : cq_F)).toNat)
        rw [show cq_e ρs ((0, [(1, 1)]) : cq_F) = ρ 1 from cq_s_e ρs 1, eb]
        exact ⟨b, rfl, (cq_s_e ρs 3).symm⟩
      · show cq_g ρs (1, (0, [(4, 1)]), 0) (h.2.2.2 117 (cq_e ρs ((0, [(2, 1)]) : cq_F)).toNat)
        rw [show cq_e ρs ((0, [(2, 1)]) : cq_F) = a.toInt from cq_s_e ρs 2, epp]
        exact ⟨p, rfl, (cq_s_e ρs 4).symm⟩
      · show cq_g ρs (1, (0, [(5, 1)]), 0) (h.2.2.2 117 (cq_e ρs ((0, [(3, 1)]) : cq_F)).toNat)
        rw [show cq_e ρs ((0, [(3, 1)]) : cq_F) = b.toInt from cq_s_e ρs 3, eqq]
        exact ⟨q, rfl, (cq_s_e ρs 5).symm⟩
    · simp only [List.mem_cons, List.not_mem_nil, or_false] at he
      rcases he with rfl | rfl
      · refine cq_mOk_tag 230 (by decide) ?_
        rw [show cq_e ρs ((0, [(6, 1)]) : cq_F) = ρs 6 from cq_s_e ρs 6, show cq_e ρs ((0, [(4, 1)]) : cq_F) = ρs 4 from cq_s_e ρs 4]
        rfl
      · refine cq_mOk_tag 230 (by decide) ?_
        rw [show cq_e ρs ((0, [(7, 1)]) : cq_F) = ρs 7 from cq_s_e ρs 7, show cq_e ρs ((0, [(5, 1)]) : cq_F) = ρs 5 from cq_s_e ρs 5]
        rfl
  have g0 : cq_gs ρs ct_252s.2.1 as := by
    obtain ⟨v, r, e, g1, g2⟩ := cq_gs_cons g
    obtain ⟨w, r2, e2, g3, g4⟩ := cq_gs_cons g2
    obtain ⟨w2, r3, e3, g5, g6⟩ := cq_gs_cons g4
    rw [e, e2, e3, cq_gs_nil g6]
    obtain ⟨x, ex, hx⟩ := g3
    obtain ⟨x2, ex2, hx2⟩ := g5
    refine ⟨g1, ⟨x, ex, ?_⟩, ⟨x2, ex2, ?_⟩, trivial⟩
    · rw [hx]
      exact (cq_s_e ρ 0).trans (cq_s_e ρs 0).symm
    · rw [hx2]
      exact (cq_s_e ρ 1).trans (cq_s_e ρs 1).symm
  obtain ⟨r, h', ev, x, hx, ρ', a', Mx, hr⟩ := ok_252s d h ρs as hd M0 g0
  have hx := List.mem_singleton.1 hx
  subst hx
  have bx : (-13 : Int) ≤ ρ' 8 ∧ ρ' 8 ≤ 13 := Mx.P.1 (8, -13, 13) List.mem_cons_self
  refine ⟨r, h', ev, _, List.mem_cons_self, fun s => if s < 4 then ρ s else ρ' 8, fun s hs => if_pos hs, cq_Md_s ⟨fun b hb => ?_, fun _ z => (by cases z)⟩ Mx.I Mx.F Mx.A, ?_⟩
  · rw [List.mem_singleton.1 hb]
    exact ⟨by show (-2147483648 : Int) ≤ ρ' 8; omega, by show ρ' 8 ≤ 2147483647; omega⟩
  · rcases hr with ⟨q1, q2, q3⟩ | ⟨q1, -⟩
    · refine Or.inl ⟨rfl, q2, ?_⟩
      obtain ⟨v, rr, e, g1, g2⟩ := cq_gs_cons q3
      rw [e, cq_gs_nil g2]
      obtain ⟨z, ez, hz⟩ := g1
      refine ⟨⟨z, ez, ?_⟩, trivial⟩
      rw [hz]
      rfl
    · cases q1
