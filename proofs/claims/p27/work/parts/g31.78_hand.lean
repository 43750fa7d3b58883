section
/-! BY HAND, 5: isRowAllowed and compareFirst -/
theorem hd_ia {l b w pc z : Nat} {t : Int} {ls r : List Value} {h : am_H} {v : Value} {a : Nat} {i : Int32} (hr : am_rd h a i (fun c => Nat.beq c 0) = some v) : am_st (.iaload, l, t, z, b, w) pc ls (.int i :: .ref a :: r) h = some (pc + 1, ls, v :: r, h) := by
  dsimp only [am_st]
  rw [hr]
theorem hd_rd {h : am_H} {c : Nat} {i : Int32} {ok : Nat → Bool} (I : cq_Inv none h) (h1 : 40 ≤ c) (h2 : c < 130) (hf : (cq_fix c).1 = 1) (ht : ok (cq_fix c).2.1 = true) (i0 : 0 ≤ i.toInt) (i1 : i.toInt < ((cq_fix c).2.2 : Nat)) : am_rd h c i ok = some (h.2.2.2 c i.toInt.toNat) := by
  unfold am_rd
  rw [I.fx c h1 h2, hf, ht, show Nat.blt c h.1 = true from Nat.ble_eq_true_of_le (Nat.lt_of_lt_of_le h2 I.lo)]
  simp only [Nat.beq_refl, Bool.true_or, Bool.and_self, cond_true]
  have e : i.toNatClampNeg = i.toInt.toNat := rfl
  rw [if_neg]
  · rw [e]
  · rintro (z | z)
    · have := Int32.lt_iff_toInt_lt.1 z
      have e0 : (0 : Int32).toInt = 0 := by decide
      omega
    · rw [e] at z
      omega
theorem hd_inc {i : Int32} {k : Nat} (e : i.toInt = k) (hk : k < 100000) : (i + Int32.ofInt 1).toInt = ((k + 1 : Nat) : Int) := by
  rw [Int32.toInt_add, e, show (Int32.ofInt 1).toInt = 1 by decide]
  rw [Int.bmod_eq_of_le (by omega) (by omega)]
  omega
theorem cq_U_lo (h : am_H) (k : Nat) (x : Int) (h2 : Nat.blt k 2000 = true) : cq_U h k x = cq_U0 h k x := by
  unfold cq_U
  rw [h2]
  rfl
theorem cq_U_rw {h : am_H} {x : Int} : (cq_U h 2000 x = 1 ∧ cq_RW h) ∨ (cq_U h 2000 x = 0 ∧ ¬ cq_RW h) := by
  unfold cq_U
  rw [show Nat.blt 2000 2000 = false by decide]
  simp only [cond_false]
  have ex : ∃ r : Int32, (r = 1 ∧ cq_RW h) ∨ (r = 0 ∧ ¬ cq_RW h) := by
    by_cases q : cq_RW h
    · exact ⟨1, Or.inl ⟨rfl, q⟩⟩
    · exact ⟨0, Or.inr ⟨rfl, q⟩⟩
  have sp := Classical.epsilon_spec ex
  rcases sp with ⟨e, q⟩ | ⟨e, q⟩
  · rw [e]; exact Or.inl ⟨by decide, q⟩
  · rw [e]; exact Or.inr ⟨by decide, q⟩
/-- isAllowed, as a fact of heaps -/
theorem hd_228 {h : am_H} {p : Int32} {d : Nat} (I : cq_Inv none h) (hp : 0 ≤ p.toInt ∧ p.toInt ≤ 39) (hd : 6 ≤ d) : ∃ (r : Int32) (h' : am_H), am_ev d 228 0 (am_ent [.ref 78, .int p] (am_in 228).2.2.1) [] h (some (.int r), h') ∧ (r = 0 ∨ (r = 1 ∧ cq_AL h p.toInt)) ∧ cq_Inv none h' ∧ cq_Fr [(false, 98, 0, 0), (false, 99, 0, 0)] h h' ∧ h'.1 ≤ h.1 ∧ h'.2.1 ≤ h.2.1 := by
  obtain ⟨ck, h15, k1, k2⟩ := cq_i78 I (b := 15) 0 29999 (by decide +kernel) (by decide +kernel)
  let ρ : Nat → Int := fun s => match s with
    | 0 => p.toInt
    | 1 => ck.toInt
    | 2 => cq_U h 230 p.toInt
    | 3 => cq_U h 231 p.toInt
    | _ => cq_U h 222 (p.toInt + 65536 * ck.toInt)
  have gg : cq_gs ρ ct_228g.2.1 [.ref 78, .int p] := ⟨rfl, ⟨p, rfl, (cq_s_e ρ 0).symm⟩, trivial⟩
  have M0 : cq_Md ct_228g.2.2.2.1 h ρ ct_228g.2.2.1 h := by
    refine cq_Md_p ⟨fun b hb => ?_, fun _ z => (by cases z)⟩ (fun e he => ?_) (fun e he => ?_) I
    · simp only [List.mem_cons, List.not_mem_nil, or_false] at hb
      rcases hb with rfl | rfl | rfl | rfl | rfl
      · exact hp
      · exact ⟨k1, k2⟩
      · exact cq_U_rng h 230 p.toInt
      · exact cq_U_rng h 231 p.toInt
      · exact cq_U_rng h 222 _
    · rw [List.mem_singleton.1 he]
      exact ⟨ck, h15, (cq_s_e ρ 1).symm⟩
    · simp only [List.mem_cons, List.not_mem_nil, or_false] at he
      rcases he with rfl | rfl | rfl
      · refine cq_mOk_tag 230 (by decide) ?_
        rw [show cq_e ρ ((0, [(2, 1)]) : cq_F) = ρ 2 from cq_s_e ρ 2, show cq_e ρ ((0, [(0, 1)]) : cq_F) = ρ 0 from cq_s_e ρ 0]
        rfl
      · refine cq_mOk_tag 231 (by decide) ?_
        rw [show cq_e ρ ((0, [(3, 1)]) : cq_F) = ρ 3 from cq_s_e ρ 3, show cq_e ρ ((0, [(0, 1)]) : cq_F) = ρ 0 from cq_s_e ρ 0]
        rfl
      · refine cq_mOk_tag 222 (by decide) ?_
        have : cq_e ρ ((0, [(0, 1), (1, 65536)]) : cq_F) = p.toInt + 65536 * ck.toInt := by
          simp only [cq_e, cq_eT]
          show 0 + (1 * p.toInt + (65536 * ck.toInt + 0)) = _
          omega
        rw [show cq_e ρ ((0, [(4, 1)]) : cq_F) = ρ 4 from cq_s_e ρ 4, this]
        rfl
  obtain ⟨r, h', ev, x, hx, ρ', a', Mx, hr⟩ := ok_228g d h ρ _ hd M0 gg
  simp only [ct_228g, List.mem_cons, List.not_mem_nil, or_false] at hx
  rcases hr with ⟨q1, q2, q3⟩ | ⟨q1, -⟩
  · rcases hx with rfl | rfl
    · cases r with
      | none => exact q3.elim
      | some w =>
        obtain ⟨v, e1, e2⟩ := q3.1
        subst e1
        have e2 : v.toInt = 0 := by rw [e2]; exact cq_c_e ρ' 0
        exact ⟨v, h', ev, Or.inl (Int32.toInt_inj.1 (by rw [e2]; decide)), Mx.I, Mx.F, Mx.A⟩
    · cases r with
      | none => exact q3.elim
      | some w =>
        obtain ⟨v, e1, e2⟩ := q3.1
        subst e1
        have e2 : v.toInt = 1 := by rw [e2]; exact cq_c_e ρ' 1
        have f1 := Mx.P.2 (0, [(2, 1)]) List.mem_cons_self
        have f2 := Mx.P.2 (0, [(3, 1), (4, 1)]) (List.mem_cons_of_mem _ List.mem_cons_self)
        rw [show cq_e ρ' ((0, [(2, 1)]) : cq_F) = ρ' 2 from cq_s_e ρ' 2, a' 2 (by decide)] at f1
        have e4 : cq_e ρ' ((0, [(3, 1), (4, 1)]) : cq_F) = ρ' 3 + ρ' 4 := by
          simp only [cq_e, cq_eT]
          omega
        rw [e4, a' 3 (by decide), a' 4 (by decide)] at f2
        refine ⟨v, h', ev, Or.inr ⟨Int32.toInt_inj.1 (by rw [e2]; decide), ?_, ?_⟩, Mx.I, Mx.F, Mx.A⟩
        · rw [← cq_U_lo h 230 _ (by decide)]
          exact f1
        · rw [← cq_U_lo h 231 _ (by decide), ← cq_U_lo h 222 _ (by decide), cq_n_int h15]
          exact f2
  · rcases hx with rfl | rfl <;> cases q1
def hd_X : cq_W := [(false, 98, 0, 0), (false, 99, 0, 0)]
theorem hd_XR {h h' : am_H} (F : cq_Fr hd_X h h') (e : h'.1 ≤ h.1) : ni_R h h' := ni_R_of (by decide) F (by have := F.nx; omega)
theorem hd_Xtr {h h1 h2 : am_H} (F : cq_Fr hd_X h h1) (G : cq_Fr hd_X h1 h2) : cq_Fr hd_X h h2 := cq_Fr_tr F G (fun _ z => z)
/-- isRowAllowed's loop -/
theorem hd_row {h : am_H} {bu rw : Int32} {d : Nat} (I : cq_Inv none h) (h55 : h.2.2.2 78 55 = .int rw) (hr : 0 ≤ rw.toInt ∧ rw.toInt ≤ 14) (hd : 6 ≤ d) : ∀ (n k : Nat) (i : Int32) (h1 : am_H), ((n + k : Nat) : Int) = rw.toInt → i.toInt = k → cq_Inv none h1 → cq_Fr hd_X h h1 → h1.1 ≤ h.1 → h1.2.1 ≤ h.2.1 → ∃ (r : Int32) (h' : am_H), am_ev (d + 1) 249 2 [.ref 78, .int bu, .int i] [] h1 (some (.int r), h') ∧ (r = 0 ∨ (r = 1 ∧ ∀ j : Nat, k ≤ j → (j : Int) < rw.toInt → (j : Int) ≠ bu.toInt → cq_AL h (cq_n h 117 (cq_n h 118 j).toNat))) ∧ cq_Inv none h' ∧ cq_Fr hd_X h h' ∧ h'.1 ≤ h.1 ∧ h'.2.1 ≤ h.2.1 := by
  intro n
  induction n with
  | zero =>
    intro k i h1 hk ei I1 F1 A1 A2
    have R := hd_XR F1 A1
    have O := cq_o78 I1
    have g55 : h1.2.2.2 78 55 = .int rw := by rw [← R.2.2 78 (by have := I.lo; omega) (by decide) 55 (by omega)]; exact h55
    refine ⟨1, h1, ?_, Or.inr ⟨rfl, fun j j1 j2 => by omega⟩, I1, F1, A1, A2⟩
    refine am_ev.step rfl rfl ?_
    refine am_ev.step rfl rfl ?_
    refine am_ev.step rfl (hd_gf O g55) ?_
    refine am_ev.step (pc' := 41) (ls' := [.ref 78, .int bu, .int i]) (st' := []) (h' := h1) rfl (if_pos (Int32.le_iff_toInt_le.2 (by omega))) ?_
    refine am_ev.step rfl rfl ?_
    exact am_ev.reti rfl rfl rfl
  | succ n ih =>
    intro k i h1 hk ei I1 F1 A1 A2
    have R := hd_XR F1 A1
    have O := cq_o78 I1
    have g55 : h1.2.2.2 78 55 = .int rw := by rw [← R.2.2 78 (by have := I.lo; omega) (by decide) 55 (by omega)]; exact h55
    have g56 : h1.2.2.2 78 56 = .ref 117 := by
      have t := cq_t78 I1 (b := 56) (by decide +kernel)
      rw [show cq_cl 13 56 = (3, 0, 0, 117, 0, 0) by decide +kernel] at t
      exact t
    have g57 : h1.2.2.2 78 57 = .ref 118 := by
      have t := cq_t78 I1 (b := 57) (by decide +kernel)
      rw [show cq_cl 13 57 = (3, 0, 0, 118, 0, 0) by decide +kernel] at t
      exact t
    have t118 := cq_tA I1 (c := 118) (j := k) (by decide) (by decide) (by decide +kernel) (by decide) (by rw [show (cq_fix 118).2.2 = 14 by decide +kernel]; omega)
    rw [show cq_ar 118 = (1, 0, 13, 0, 0, 0) by decide +kernel] at t118
    obtain ⟨a, ea, a0, a1⟩ := t118
    have t117 := cq_tA I1 (c := 117) (j := a.toInt.toNat) (by decide) (by decide) (by decide +kernel) (by decide) (by rw [show (cq_fix 117).2.2 = 14 by decide +kernel]; omega)
    rw [show cq_ar 117 = (1, 0, 39, 0, 0, 0) by decide +kernel] at t117
    obtain ⟨p, epp, p0, p1⟩ := t117
    have r118 : am_rd h1 118 i (fun c => Nat.beq c 0) = some (.int a) := by
      rw [hd_rd I1 (by decide) (by decide) (by decide +kernel) (by decide +kernel) (by omega) (by rw [show (cq_fix 118).2.2 = 14 by decide +kernel]; omega)]
      rw [show i.toInt.toNat = k by omega, ea]
    have r117 : am_rd h1 117 a (fun c => Nat.beq c 0) = some (.int p) := by
      rw [hd_rd I1 (by decide) (by decide) (by decide +kernel) (by decide +kernel) (by omega) (by rw [show (cq_fix 117).2.2 = 14 by decide +kernel]; omega)]
      rw [epp]
    have ni : ¬ (rw ≤ i) := fun z => by
      have := Int32.le_iff_toInt_le.1 z
      omega
    have head : ∀ x, (i = bu → am_ev (d + 1) 249 35 [.ref 78, .int bu, .int i] [] h1 x) → (i ≠ bu → am_ev (d + 1) 249 27 [.ref 78, .int bu, .int i] [.int p, .ref 78] h1 x) → am_ev (d + 1) 249 2 [.ref 78, .int bu, .int i] [] h1 x := fun x c1 c2 => by
      refine am_ev.step rfl rfl ?_
      refine am_ev.step rfl rfl ?_
      refine am_ev.step rfl (hd_gf O g55) ?_
      refine am_ev.step (pc' := 10) (ls' := [.ref 78, .int bu, .int i]) (st' := []) (h' := h1) rfl (if_neg ni) ?_
      refine am_ev.step rfl rfl ?_
      refine am_ev.step rfl rfl ?_
      by_cases e : i = bu
      · exact am_ev.step (pc' := 35) (ls' := [.ref 78, .int bu, .int i]) (st' := []) (h' := h1) rfl (if_pos e) (c1 e)
      · refine am_ev.step (pc' := 15) (ls' := [.ref 78, .int bu, .int i]) (st' := []) (h' := h1) rfl (if_neg e) ?_
        refine am_ev.step rfl rfl ?_
        refine am_ev.step rfl rfl ?_
        refine am_ev.step rfl (hd_gf O g56) ?_
        refine am_ev.step rfl rfl ?_
        refine am_ev.step rfl (hd_gf O g57) ?_
        refine am_ev.step rfl rfl ?_
        refine am_ev.step rfl (hd_ia r118) ?_
        refine am_ev.step rfl (hd_ia r117) ?_
        exact c2 e
    have ei2 := hd_inc ei (by omega)
    have tail : ∀ h2 x, am_ev (d + 1) 249 2 [.ref 78, .int bu, .int (i + Int32.ofInt 1)] [] h2 x → am_ev (d + 1) 249 35 [.ref 78, .int bu, .int i] [] h2 x := fun h2 x q => by
      refine am_ev.step rfl rfl ?_
      exact am_ev.step rfl rfl q
    by_cases e : i = bu
    · obtain ⟨r, h', ev, hr', K⟩ := ih (k + 1) _ h1 (by omega) ei2 I1 F1 A1 A2
      refine ⟨r, h', head _ (fun _ => tail _ _ ev) (fun z => absurd e z), ?_, K⟩
      rcases hr' with z | ⟨z1, z2⟩
      · exact Or.inl z
      · refine Or.inr ⟨z1, fun j j1 j2 j3 => ?_⟩
        by_cases ej : j = k
        · exfalso
          rw [← e] at j3
          omega
        · exact z2 j (by omega) j2 j3
    · obtain ⟨w, h2, ev2, hw, I2, F2, B1, B2⟩ := hd_228 (d := d) I1 (p := p) ⟨p0, p1⟩ hd
      have F2' : cq_Fr hd_X h h2 := hd_Xtr F1 F2
      have call : ∀ x, am_ev (d + 1) 249 30 [.ref 78, .int bu, .int i] [.int w] h2 x → am_ev (d + 1) 249 27 [.ref 78, .int bu, .int i] [.int p, .ref 78] h1 x := fun x q => hd_cv 228 (as := [.ref 78, .int p]) (rr := []) rfl (Or.inr (Or.inl ⟨_, rfl⟩)) rfl (by decide) rfl rfl (by decide) O (Nat.le_of_ble_eq_true rfl) ev2 q
      rcases hw with z | ⟨z, al⟩
      · subst z
        refine ⟨0, h2, head _ (fun q => absurd q e) (fun _ => call _ ?_), Or.inl rfl, I2, F2', by omega, by omega⟩
        refine am_ev.step (pc' := 33) (ls' := [.ref 78, .int bu, .int i]) (st' := []) (h' := h2) rfl rfl ?_
        refine am_ev.step rfl rfl ?_
        exact am_ev.reti rfl rfl rfl
      · subst z
        obtain ⟨r, h', ev, hr', K⟩ := ih (k + 1) _ h2 (by omega) ei2 I2 F2' (by omega) (by omega)
        refine ⟨r, h', head _ (fun q => absurd q e) (fun _ => call _ ?_), ?_, K⟩
        · exact am_ev.step (pc' := 35) (ls' := [.ref 78, .int bu, .int i]) (st' := []) (h' := h2) rfl rfl (tail _ _ ev)
        · rcases hr' with z | ⟨z1, z2⟩
          · exact Or.inl z
          · refine Or.inr ⟨z1, fun j j1 j2 j3 => ?_⟩
            by_cases ej : j = k
            · subst ej
              have e1 : cq_n h 118 j = a.toInt := by
                rw [← ni_n I R (by decide) (by decide) (by decide)]
                exact cq_n_int ea
              have e2 : cq_n h 117 a.toInt.toNat = p.toInt := by
                rw [← ni_n I R (by decide) (by decide) (by decide)]
                exact cq_n_int epp
              rw [e1, e2]
              exact (ni_AL I I1 R _).1 al
            · exact z2 j (by omega) j2 j3
theorem ok_249g : cq_CT 249 ct_249g := by
  intro d h ρ as hd M g
  have I : cq_Inv none h := M.I
  obtain ⟨v0, r0, e0, g0, g1⟩ := cq_gs_cons g
  obtain ⟨v1, r1, e1, g2, g3⟩ := cq_gs_cons g1
  have e2 := cq_gs_nil g3
  subst e0 e1 e2
  have g0 : v0 = .ref 78 := g0
  obtain ⟨bu, ep, hp⟩ := g2
  have hp : bu.toInt = cq_e ρ (cq_s 0) := hp
  rw [cq_s_e] at hp
  subst g0 ep
  have b0 : (-1 : Int) ≤ ρ 0 ∧ ρ 0 ≤ 13 := M.P.1 (0, -1, 13) List.mem_cons_self
  obtain ⟨rw1, h55, k1, k2⟩ := cq_i78 I (b := 55) 0 14 (by decide +kernel) (by decide +kernel)
  have m1 := cq_mOk_un (M.M _ List.mem_cons_self) 2000 (by decide)
  rw [show cq_e ρ ((0, [(1, 1)]) : cq_F) = ρ 1 from cq_s_e ρ 1] at m1
  cases d with
  | zero => exact absurd hd (by decide)
  | succ d =>
    have hd5 : 6 ≤ d := Nat.le_of_succ_le_succ hd
    obtain ⟨r, h', ev, hr, I', F', A1, A2⟩ := hd_row (bu := bu) I h55 ⟨k1, k2⟩ hd5 rw1.toInt.toNat 0 0 h (by omega) (by decide) I cq_Fr_rf (Nat.le_refl _) (Nat.le_refl _)
    have ev2 : am_ev (d + 1) 249 0 (am_ent [.ref 78, .int bu] (am_in 249).2.2.1) [] h (some (.int r), h') := by
      refine am_ev.step rfl rfl ?_
      exact am_ev.step rfl rfl ev
    rcases hr with hr | ⟨hr, r1⟩
    · subst hr
      exact ⟨_, h', ev2, _, List.mem_cons_self, ρ, cq_ag.rf, cq_Md_s ⟨fun _ z => (by cases z), fun _ z => (by cases z)⟩ I' F' ⟨A1, A2⟩, Or.inl ⟨rfl, rfl, ⟨0, rfl, by rw [show cq_e ρ ((0, []) : cq_F) = 0 from cq_c_e ρ 0]; decide⟩, trivial⟩⟩
    · subst hr
      refine ⟨_, h', ev2, _, List.mem_cons_of_mem _ List.mem_cons_self, ρ, cq_ag.rf, cq_Md_s ⟨fun _ z => (by cases z), fun gg hg => ?_⟩ I' F' ⟨A1, A2⟩, Or.inl ⟨rfl, rfl, ⟨1, rfl, by rw [show cq_e ρ ((1, []) : cq_F) = 1 from cq_c_e ρ 1]; decide⟩, trivial⟩⟩
      rw [List.mem_singleton.1 hg]
      have e4 : cq_e ρ ((0, [(0, 1), (1, 1)]) : cq_F) = ρ 0 + ρ 1 := by
        simp only [cq_e, cq_eT]
        omega
      rw [e4, m1]
      rcases cq_U_rw (h := h) (x := cq_e ρ ((0, []) : cq_F)) with ⟨u, -⟩ | ⟨u, nr⟩
      · rw [u]; omega
      · rw [u]
        by_cases eb : bu.toInt = -1
        · exfalso
          refine nr fun i hi => ?_
          rw [cq_n_int h55] at hi
          exact r1 i (Nat.zero_le _) hi (by omega)
        · omega
theorem ok_252g : cq_CT 252 ct_252g := by
  intro d h ρ as hd M g
  have I : cq_Inv none h := M.I
  have b0 : (0 : Int) ≤ ρ 0 ∧ ρ 0 ≤ 13 := M.P.1 (0, 0, 13) List.mem_cons_self
  have b1 : (0 : Int) ≤ ρ 1 ∧ ρ 1 ≤ 13 := M.P.1 (1, 0, 13) (List.mem_cons_of_mem _ List.mem_cons_self)
  have b3 : (1 : Int) ≤ ρ 3 ∧ ρ 3 ≤ 2147483647 := M.P.1 (3, 1, 2147483647) (List.mem_cons_of_mem _ (List.mem_cons_of_mem _ (List.mem_cons_of_mem _ List.mem_cons_self)))
  have c0 := M.P.2 _ List.mem_cons_self
  have c1 := M.P.2 _ (List.mem_cons_of_mem _ List.mem_cons_self)
  have ec0 : cq_e ρ (((-1), [(0, (-1)), (2, 1)]) : cq_F) = ρ 2 - ρ 0 - 1 := by
    simp only [cq_e, cq_eT]
    omega
  have ec1 : cq_e ρ (((-1), [(1, (-1)), (2, 1)]) : cq_F) = ρ 2 - ρ 1 - 1 := by
    simp only [cq_e, cq_eT]
    omega
  rw [ec0] at c0
  rw [ec1] at c1
  have t55 : ∃ x : Int32, h.2.2.2 78 55 = .int x ∧ x.toInt = cq_e ρ (cq_s 2) := M.T _ List.mem_cons_self
  obtain ⟨rw1, h55, hrw⟩ := t55
  rw [cq_s_e] at hrw
  have m1 := cq_mOk_un (M.M _ List.mem_cons_self) 2000 (by decide)
  rw [show cq_e ρ ((0, [(3, 1)]) : cq_F) = ρ 3 from cq_s_e ρ 3] at m1
  have RW : cq_RW h := by
    rcases cq_U_rw (h := h) (x := cq_e ρ ((0, []) : cq_F)) with ⟨-, u⟩ | ⟨u, -⟩
    · exact u
    · rw [u] at m1; omega
  have look : ∀ i : Int, 0 ≤ i → i < rw1.toInt → ∃ a p : Int32, h.2.2.2 118 i.toNat = .int a ∧ 0 ≤ a.toInt ∧ a.toInt ≤ 13 ∧ h.2.2.2 117 a.toInt.toNat = .int p ∧ 0 ≤ p.toInt ∧ p.toInt ≤ 39 ∧ 0 ≤ cq_U h 230 p.toInt := fun i i0 i1 => by
    have t118 := cq_tA I (c := 118) (j := i.toNat) (by decide) (by decide) (by decide +kernel) (by decide) (by rw [show (cq_fix 118).2.2 = 14 by decide +kernel]; obtain ⟨x, ex, x1, x2⟩ := cq_i78 I (b := 55) 0 14 (by decide +kernel) (by decide +kernel); rw [h55] at ex; have ex := Value.int.inj ex; subst ex; omega)
    rw [show cq_ar 118 = (1, 0, 13, 0, 0, 0) by decide +kernel] at t118
    obtain ⟨a, ea, a0, a1⟩ := t118
    have t117 := cq_tA I (c := 117) (j := a.toInt.toNat) (by decide) (by decide) (by decide +kernel) (by decide) (by rw [show (cq_fix 117).2.2 = 14 by decide +kernel]; omega)
    rw [show cq_ar 117 = (1, 0, 39, 0, 0, 0) by decide +kernel] at t117
    obtain ⟨p, epp, p0, p1⟩ := t117
    refine ⟨a, p, ea, a0, a1, epp, p0, p1, ?_⟩
    have al := (RW i.toNat (by rw [cq_n_int h55]; omega)).1
    rw [cq_n_int ea, cq_n_int epp] at al
    rw [cq_U_lo h 230 _ (by decide)]
    exact al
  obtain ⟨a, p, ea, a0, a1, epp, p0, p1, up⟩ := look (ρ 0) b0.1 (by omega)
  obtain ⟨b, q, eb, bb0, bb1, eqq, q0, q1, uq⟩ := look (ρ 1) b1.1 (by omega)
  let ρs : Nat → Int := fun s => match s with
    | 0 => ρ 0
    | 1 => ρ 1
    | 2 => a.toInt
    | 3 => b.toInt
    | 4 => p.toInt
    | 5 => q.toInt
    | 6 => cq_U h 230 p.toInt
    | _ => cq_U h 230 q.toInt
  have M0 : cq_Md ct_252s.2.2.2.1 h ρs ct_252s.2.2.1 h := by
    refine cq_Md_p ⟨fun b hb => ?_, fun _ z => (by cases z)⟩ (fun e he => ?_) (fun e he => ?_) I
    · simp only [List.mem_cons, List.not_mem_nil, or_false] at hb
      rcases hb with rfl | rfl | rfl | rfl | rfl | rfl | rfl | rfl
      · exact b0
      · exact b1
      · exact ⟨a0, a1⟩
      · exact ⟨bb0, bb1⟩
      · exact ⟨p0, p1⟩
      · exact ⟨q0, q1⟩
      · exact ⟨up, (cq_U_rng h 230 p.toInt).2⟩
      · exact ⟨uq, (cq_U_rng h 230 q.toInt).2⟩
    · simp only [List.mem_cons, List.not_mem_nil, or_false] at he
      rcases he with rfl | rfl | rfl | rfl
      · show cq_g ρs (1, (0, [(2, 1)]), 0) (h.2.2.2 118 (cq_e ρs ((0, [(0, 1)]) : cq_F)).toNat)
        rw [show cq_e ρs ((0, [(0, 1)]) : cq_F) = ρ 0 from cq_s_e ρs 0, ea]
        exact ⟨a, rfl, (cq_s_e ρs 2).symm⟩
      · show cq_g ρs (1, (0, [(3, 1)]), 0) (h.2.2.2 118 (cq_e ρs ((0, [(1, 1)]) : cq_F)).toNat)
        rw [show cq_e ρs ((0, [(1, 1)]) : cq_F) = ρ 1 from cq_s_e ρs 1, eb]
        exact ⟨b, rfl, (cq_s_e ρs 3).symm⟩
      · show cq_g ρs (1, (0, [(4, 1)]), 0) (h.2.2.2 117 (cq_e ρs ((0, [(2, 1)]) : cq_F)).toNat)
        rw [show cq_e ρs ((0, [(2, 1)]) : cq_F) = a.toInt from cq_s_e ρs 2, epp]
        exact ⟨p, rfl, (cq_s_e ρs 4).symm⟩
      · show cq_g ρs (1, (0, [(5, 1)]), 0) (h.2.2.2 117 (cq_e ρs ((0, [(3, 1)]) : cq_F)).toNat)
        rw [show cq_e ρs ((0, [(3, 1)]) : cq_F) = b.toInt from cq_s_e ρs 3, eqq]
        exact ⟨q, rfl, (cq_s_e ρs 5).symm⟩
    · simp only [List.mem_cons, List.not_mem_nil, or_false] at he
      rcases he with rfl | rfl
      · refine cq_mOk_tag 230 (by decide) ?_
        rw [show cq_e ρs ((0, [(6, 1)]) : cq_F) = ρs 6 from cq_s_e ρs 6, show cq_e ρs ((0, [(4, 1)]) : cq_F) = ρs 4 from cq_s_e ρs 4]
        rfl
      · refine cq_mOk_tag 230 (by decide) ?_
        rw [show cq_e ρs ((0, [(7, 1)]) : cq_F) = ρs 7 from cq_s_e ρs 7, show cq_e ρs ((0, [(5, 1)]) : cq_F) = ρs 5 from cq_s_e ρs 5]
        rfl
  have g0 : cq_gs ρs ct_252s.2.1 as := by
    obtain ⟨v, r, e, g1, g2⟩ := cq_gs_cons g
    obtain ⟨w, r2, e2, g3, g4⟩ := cq_gs_cons g2
    obtain ⟨w2, r3, e3, g5, g6⟩ := cq_gs_cons g4
    rw [e, e2, e3, cq_gs_nil g6]
    obtain ⟨x, ex, hx⟩ := g3
    obtain ⟨x2, ex2, hx2⟩ := g5
    refine ⟨g1, ⟨x, ex, ?_⟩, ⟨x2, ex2, ?_⟩, trivial⟩
    · rw [hx]
      exact (cq_s_e ρ 0).trans (cq_s_e ρs 0).symm
    · rw [hx2]
      exact (cq_s_e ρ 1).trans (cq_s_e ρs 1).symm
  obtain ⟨r, h', ev, x, hx, ρ', a', Mx, hr⟩ := ok_252s d h ρs as hd M0 g0
  have hx := List.mem_singleton.1 hx
  subst hx
  have bx : (-13 : Int) ≤ ρ' 8 ∧ ρ' 8 ≤ 13 := Mx.P.1 (8, -13, 13) List.mem_cons_self
  refine ⟨r, h', ev, _, List.mem_cons_self, fun s => if s < 4 then ρ s else ρ' 8, fun s hs => if_pos hs, cq_Md_s ⟨fun b hb => ?_, fun _ z => (by cases z)⟩ Mx.I Mx.F Mx.A, ?_⟩
  · rw [List.mem_singleton.1 hb]
    exact ⟨by show (-2147483648 : Int) ≤ ρ' 8; omega, by show ρ' 8 ≤ 2147483647; omega⟩
  · rcases hr with ⟨q1, q2, q3⟩ | ⟨q1, -⟩
    · refine Or.inl ⟨rfl, q2, ?_⟩
      obtain ⟨v, rr, e, g1, g2⟩ := cq_gs_cons q3
      rw [e, cq_gs_nil g2]
      obtain ⟨z, ez, hz⟩ := g1
      refine ⟨⟨z, ez, ?_⟩, trivial⟩
      rw [hz]
      rfl
    · cases q1
end
section
/-! CONTRACTS: 233n -/
def ct_233n : cq_Ct := (4, [(5, (0, []), 78), (1, (0, [(0, 1)]), 0)], cq_mk 2 ([(0, 0, 39), (1, 0, 2147483647)], []) [] [] [] [] [] [((0, [(0, 1)]), (1000000000230, []), (0, [(1, 1)]))] none 0 0, [], [(false, [(1, (0, [(2, 1)]), 0)], cq_mk 3 ([(2, 1, 30)], []) [] [] [] [] [] [] none 0 0)])
theorem wf_233n : cq_wfC ct_233n = true := by decide +kernel
end
section
/-! BY HAND, 6: the lines of what is printed; steps whose stores are filled up first -/
theorem hd_230 {h : am_H} {p : Int32} (I : cq_Inv none h) (hp : 0 ≤ p.toInt ∧ p.toInt ≤ 39) : cq_U h 230 p.toInt < cq_n h 92 p.toInt.toNat ∧ cq_U h 230 p.toInt ≤ 2 ∨ cq_U h 230 p.toInt < 0 := by
  have t92 := cq_tA I (c := 92) (j := p.toInt.toNat) (by decide) (by decide) (by decide +kernel) (by decide) (by rw [show (cq_fix 92).2.2 = 40 by decide +kernel]; omega)
  rw [show cq_ar 92 = (1, 0, 3, 0, 0, 0) by decide +kernel] at t92
  obtain ⟨n, en, n0, n1⟩ := t92
  let ρ : Nat → Int := fun s => match s with
    | 0 => p.toInt
    | _ => n.toInt
  have gg : cq_gs ρ ct_230e.2.1 [.ref 78, .int p] := ⟨rfl, ⟨p, rfl, (cq_s_e ρ 0).symm⟩, trivial⟩
  have M0 : cq_Md ct_230e.2.2.2.1 h ρ ct_230e.2.2.1 h := by
    refine cq_Md_p ⟨fun b hb => ?_, fun _ z => (by cases z)⟩ (fun e he => ?_) (fun _ z => (by cases z)) I
    · simp only [List.mem_cons, List.not_mem_nil, or_false] at hb
      rcases hb with rfl | rfl
      · exact hp
      · exact ⟨n0, n1⟩
    · rw [List.mem_singleton.1 he]
      show cq_g ρ (1, (0, [(1, 1)]), 0) (h.2.2.2 92 (cq_e ρ ((0, [(0, 1)]) : cq_F)).toNat)
      rw [show cq_e ρ ((0, [(0, 1)]) : cq_F) = p.toInt from cq_s_e ρ 0, en]
      exact ⟨n, rfl, (cq_s_e ρ 1).symm⟩
  obtain ⟨r, h', ev, x, hx, ρ', a', Mx, hr⟩ := ok_230e ct_230e.1 h ρ _ (Nat.le_refl _) M0 gg
  have hx := List.mem_singleton.1 hx
  subst hx
  have bx : (-1 : Int) ≤ ρ' 2 ∧ ρ' 2 ≤ 2 := Mx.P.1 (2, -1, 2) List.mem_cons_self
  have f1 := Mx.P.2 _ List.mem_cons_self
  have e4 : cq_e ρ' (((-1), [(1, 1), (2, (-1))]) : cq_F) = ρ' 1 - ρ' 2 - 1 := by
    simp only [cq_e, cq_eT]
    omega
  rw [e4, a' 1 (by decide)] at f1
  have f1 : 0 ≤ n.toInt - ρ' 2 - 1 := f1
  rcases hr with ⟨q1, q2, q3⟩ | ⟨q1, -⟩
  · cases r with
    | none => exact q3.elim
    | some w =>
      obtain ⟨v, e1, e2⟩ := q3.1
      subst e1
      have e2 : v.toInt = cq_e ρ' (cq_s 2) := e2
      rw [cq_s_e] at e2
      have ha : ni_L [.ref 78, .int p] := fun v hv a ea => by
        simp only [List.mem_cons, List.not_mem_nil, or_false] at hv
        rcases hv with rfl | rfl <;> cases ea
        rfl
      have eA := ni_An_of (by decide) I ha (by decide) ev
      have eU : cq_U h 230 p.toInt = v.toInt := by
        unfold cq_U cq_U0
        rw [show Nat.blt 230 2000 = true by decide, show Nat.blt 230 1000 = true by decide]
        simp only [cond_true]
        rw [show (am_in 230).2.1 - 1 = 1 by decide +kernel, cq_dg1 (a := p) hp.1 (by omega) rfl]
        exact eA
      rw [eU, e2, cq_n_int en]
      omega
  · cases q1
theorem ok_233n : cq_CT 233 ct_233n := by
  intro d h ρ as hd M g
  have I : cq_Inv none h := M.I
  have b0 : (0 : Int) ≤ ρ 0 ∧ ρ 0 ≤ 39 := M.P.1 (0, 0, 39) List.mem_cons_self
  have b1 : (0 : Int) ≤ ρ 1 ∧ ρ 1 ≤ 2147483647 := M.P.1 (1, 0, 2147483647) (List.mem_cons_of_mem _ List.mem_cons_self)
  have m1 := cq_mOk_un (M.M _ List.mem_cons_self) 230 (by decide)
  rw [show cq_e ρ ((0, [(1, 1)]) : cq_F) = ρ 1 from cq_s_e ρ 1, show cq_e ρ ((0, [(0, 1)]) : cq_F) = ρ 0 from cq_s_e ρ 0] at m1
  obtain ⟨v0, r0, e0, g0, g1⟩ := cq_gs_cons g
  obtain ⟨v1, r1, e1, g2, g3⟩ := cq_gs_cons g1
  have e2 := cq_gs_nil g3
  subst e0 e1 e2
  have g0 : v0 = .ref 78 := g0
  obtain ⟨p, ep, hp⟩ := g2
  have hp : p.toInt = cq_e ρ (cq_s 0) := hp
  rw [cq_s_e] at hp
  subst g0 ep
  rw [← hp] at m1 b0
  have k := hd_230 I b0
  have s5 := I.s5 (3 * p.toInt.toNat + (ρ 1).toNat) (by omega)
  rw [show (3 * p.toInt.toNat + (ρ 1).toNat) % 3 = (ρ 1).toNat by omega, show (3 * p.toInt.toNat + (ρ 1).toNat) / 3 = p.toInt.toNat by omega] at s5
  have s5 := s5 (by omega)
  have t93 := cq_tA I (c := 93) (j := 3 * p.toInt.toNat + (ρ 1).toNat) (by decide) (by decide) (by decide +kernel) (by decide) (by rw [show (cq_fix 93).2.2 = 121 by decide +kernel]; omega)
  rw [show cq_ar 93 = (1, 0, 30, 0, 0, 0) by decide +kernel] at t93
  obtain ⟨n, en, n0, n1⟩ := t93
  rw [cq_n_int en] at s5
  let ρs : Nat → Int := fun s => match s with
    | 0 => p.toInt
    | 1 => ρ 1
    | _ => n.toInt
  have M0 : cq_Md ct_233s.2.2.2.1 h ρs ct_233s.2.2.1 h := by
    refine cq_Md_p ⟨fun b hb => ?_, fun _ z => (by cases z)⟩ (fun e he => ?_) (fun e he => ?_) I
    · simp only [List.mem_cons, List.not_mem_nil, or_false] at hb
      rcases hb with rfl | rfl | rfl
      · exact b0
      · exact ⟨b1.1, by show ρ 1 ≤ 2; omega⟩
      · exact ⟨s5, n1⟩
    · rw [List.mem_singleton.1 he]
      have ej : (cq_e ρs ((0, [(0, 3), (1, 1)]) : cq_F)).toNat = 3 * p.toInt.toNat + (ρ 1).toNat := by
        simp only [cq_e, cq_eT]
        show (0 + (3 * p.toInt + (1 * ρ 1 + 0))).toNat = _
        omega
      show cq_g ρs (1, (0, [(2, 1)]), 0) (h.2.2.2 93 (cq_e ρs ((0, [(0, 3), (1, 1)]) : cq_F)).toNat)
      rw [ej, en]
      exact ⟨n, rfl, (cq_s_e ρs 2).symm⟩
    · rw [List.mem_singleton.1 he]
      refine cq_mOk_tag 230 (by decide) ?_
      rw [show cq_e ρs ((0, [(1, 1)]) : cq_F) = ρ 1 from cq_s_e ρs 1, show cq_e ρs ((0, [(0, 1)]) : cq_F) = p.toInt from cq_s_e ρs 0]
      exact m1
  obtain ⟨r, h', ev, x, hx, ρ', a', Mx, hr⟩ := ok_233s d h ρs [.ref 78, .int p] hd M0 ⟨rfl, ⟨p, rfl, (cq_s_e ρs 0).symm⟩, trivial⟩
  have hx := List.mem_singleton.1 hx
  subst hx
  refine ⟨r, h', ev, _, List.mem_cons_self, fun s => if s < 2 then ρ s else n.toInt, fun s hs => if_pos hs, cq_Md_s ⟨fun b hb => ?_, fun _ z => (by cases z)⟩ Mx.I Mx.F Mx.A, ?_⟩
  · rw [List.mem_singleton.1 hb]
    exact ⟨s5, n1⟩
  · rcases hr with ⟨q1, q2, q3⟩ | ⟨q1, -⟩
    · refine Or.inl ⟨rfl, q2, ?_⟩
      obtain ⟨v, rr, e, g1, g2⟩ := cq_gs_cons q3
      rw [e, cq_gs_nil g2]
      obtain ⟨z, ez, hz⟩ := g1
      refine ⟨⟨z, ez, ?_⟩, trivial⟩
      have hz : z.toInt = cq_e ρ' (cq_s 2) := hz
      rw [cq_s_e, a' 2 (by decide)] at hz
      rw [hz]
      exact (cq_s_e _ 2).symm
    · cases q1
/-- a store that is filled up ahead of a step -/
def cq_nxa (aug : cq_Z → cq_Z) (nx : cq_Z → Option (List cq_Z)) (Z : cq_Z) : Option (List cq_Z) := nx (aug Z)
def cq_HA (m : cq_W) (h0 : am_H) (ρ0 : Nat → Int) (n0 : Nat) (aug : cq_Z → cq_Z) : Prop := ∀ (Z : cq_Z) (ρ : Nat → Int) (ls st : List Value) (h : am_H) (fs : List cq_Fm), cq_ag n0 ρ ρ0 → n0 ≤ Z.2.2.2.2.2.2.n → cq_Rz m h0 ρ Z ls st h fs → ∃ ρ', cq_ag Z.2.2.2.2.2.2.n ρ' ρ ∧ Z.2.2.2.2.2.2.n ≤ (aug Z).2.2.2.2.2.2.n ∧ (aug Z).1 = Z.1 ∧ (aug Z).2.1 = Z.2.1 ∧ (aug Z).2.2.2.2.2.1 = Z.2.2.2.2.2.1 ∧ cq_Rz m h0 ρ' (aug Z) ls st h fs
theorem cq_nxa_ok {m : cq_W} {h0 : am_H} {ρ0 : Nat → Int} {n0 : Nat} {Fin : Option Value × am_H → Prop} {nx : cq_Z → Option (List cq_Z)} {aug : cq_Z → cq_Z} (HA : cq_HA m h0 ρ0 n0 aug) (N : cq_NX m h0 ρ0 n0 Fin nx) : cq_NX m h0 ρ0 n0 Fin (cq_nxa aug nx) := by
  intro Z out ρ ls st h fs d a hn q H hd K
  obtain ⟨ρ', a', n1, e1, e2, e3, R⟩ := HA Z ρ ls st h fs a hn H
  have g := N (aug Z) out ρ' ls st h fs d ((a'.lt hn).tr a) (Nat.le_trans hn n1) q R (by rw [e3]; exact hd) (fun Z' hZ' ρ1 ls1 st1 h1 fs1 d1 a1 n2 R1 d2 => K Z' hZ' ρ1 ls1 st1 h1 fs1 d1 ((a1.lt n1).tr a') (Nat.le_trans n1 n2) R1 d2)
  rw [e1, e2] at g
  exact g
/-- the poem at a place of the row may be printed -/
def cq_rwT (S : cq_S) (p rw : cq_F) : Bool := S.T.any fun e => !e.1.1 && Nat.beq e.1.2 117 && Nat.beq e.2.2.1 1 && cq_fe e.2.2.2.1 p && S.T.any fun e2 => !e2.1.1 && Nat.beq e2.1.2 118 && Nat.beq e2.2.2.1 1 && cq_fe e2.2.2.2.1 e.2.1 && cq_en S.P e2.2.1 && cq_en S.P (cq_ac (cq_sub rw e2.2.1) (-1))
def cq_rwS (S : cq_S) (st : List cq_A) : cq_S := match st, cq_tl (false, 78) (cq_c 55) S.T, cq_fm (cq_c 0) (1000000002000, []) S.M with
  | (1, p, _) :: _, some (1, rw, _), some s => bif cq_en S.P (cq_ac s (-1)) && cq_sm S.n p && Nat.beq S.ac 0 && S.U.isNone && cq_rwT S p rw then (S.fb 0 2147483647).aM (p, (1000000000230, []), cq_s S.n) else S
  | _, _, _ => S
def cq_rwZ (Z : cq_Z) : cq_Z := bif Nat.beq Z.1 258 && (Nat.beq Z.2.1 58 || Nat.beq Z.2.1 98) && Z.2.2.2.2.1.isEmpty then (Z.1, Z.2.1, Z.2.2.1, Z.2.2.2.1, Z.2.2.2.2.1, Z.2.2.2.2.2.1, cq_rwS Z.2.2.2.2.2.2 Z.2.2.2.1) else Z
theorem cq_rwS_ok {m : cq_W} {h0 : am_H} {ρ : Nat → Int} {S : cq_S} {ast : List cq_A} {h : am_H} (hm : ni_W m = true) (I0 : cq_Inv none h0) (H : ∀ ρ', cq_ag S.n ρ' ρ → cq_Md m h0 ρ' S h) : S.n ≤ (cq_rwS S ast).n ∧ ∃ ρ1, cq_ag S.n ρ1 ρ ∧ ∀ ρ', cq_ag (cq_rwS S ast).n ρ' ρ1 → cq_Md m h0 ρ' (cq_rwS S ast) h := by
  unfold cq_rwS
  split
  · rename_i p k1 rest rw k2 s hT hM
    rw [cond_eq_ite]
    split
    · rename_i hb
      have b1 := (Bool.and_eq_true _ _ ▸ hb)
      have b2 := (Bool.and_eq_true _ _ ▸ b1.1)
      have b3 := (Bool.and_eq_true _ _ ▸ b2.1)
      have b4 := (Bool.and_eq_true _ _ ▸ b3.1)
      have D := H ρ cq_ag.rf
      have I : cq_Inv none h := by
        have I := D.I
        rw [Option.isNone_iff_eq_none.1 b2.2] at I
        exact I
      have A := D.A.1
      rw [am_beq b3.2] at A
      have R := ni_R_of hm D.F (by have := D.F.nx; omega)
      have s1 := cq_en_ok D.P b4.1
      rw [cq_ac_e] at s1
      have ms := cq_mOk_un (D.M _ (cq_fm_ok hM)) 2000 (by decide)
      have RW0 : cq_RW h0 := by
        rcases cq_U_rw (h := h0) (x := cq_e ρ (cq_c 0)) with ⟨-, u⟩ | ⟨u, -⟩
        · exact u
        · rw [u] at ms; omega
      have t55 : ∃ x : Int32, h.2.2.2 78 55 = .int x ∧ x.toInt = cq_e ρ rw := by
        have t := D.T _ (cq_tl_ok hT)
        obtain ⟨x, ex, hx⟩ := t
        have e55 : (cq_e ρ (cq_c 55)).toNat = 55 := by rw [cq_c_e]; rfl
        dsimp only at ex
        rw [e55] at ex
        exact ⟨x, ex, hx⟩
      obtain ⟨r55, h55, hr55⟩ := t55
      obtain ⟨e, he, hz⟩ := List.any_eq_true.1 b1.2
      have c1 := (Bool.and_eq_true _ _ ▸ hz)
      have c2 := (Bool.and_eq_true _ _ ▸ c1.1)
      have c3 := (Bool.and_eq_true _ _ ▸ c2.1)
      have c4 := (Bool.and_eq_true _ _ ▸ c3.1)
      obtain ⟨e2, he2, hz2⟩ := List.any_eq_true.1 c1.2
      have d1 := (Bool.and_eq_true _ _ ▸ hz2)
      have d2 := (Bool.and_eq_true _ _ ▸ d1.1)
      have d3 := (Bool.and_eq_true _ _ ▸ d2.1)
      have d4 := (Bool.and_eq_true _ _ ▸ d3.1)
      have d5 := (Bool.and_eq_true _ _ ▸ d4.1)
      have t117 := D.T e he
      have t118 := D.T e2 he2
      have ec1 : cq_ce ρ e.1 = 117 := by unfold cq_ce; rw [cq_nb c4.1]; exact am_beq c4.2
      have ec2 : cq_ce ρ e2.1 = 118 := by unfold cq_ce; rw [cq_nb d5.1]; exact am_beq d5.2
      rw [ec1, cq_tag c3.2] at t117
      rw [ec2, cq_tag d4.2] at t118
      obtain ⟨vp, evp, hvp⟩ := t117
      obtain ⟨va, eva, hva⟩ := t118
      rw [cq_fe_ok c2.2] at hvp
      rw [cq_fe_ok d3.2] at hva
      have i0 := cq_en_ok D.P d2.2
      have i1 := cq_en_ok D.P d1.2
      rw [cq_ac_e, cq_sub_e] at i1
      have al := RW0 (cq_e ρ e2.2.1).toNat (by rw [← ni_n78 I0 R (j := 55) (by decide), cq_n_int h55]; omega)
      rw [← ni_n I0 R (c := 118) (by decide) (by decide) (by decide), cq_n_int eva, hva, ← ni_n I0 R (c := 117) (by decide) (by decide) (by decide), cq_n_int evp, hvp] at al
      have u0 : 0 ≤ cq_U h0 230 (cq_e ρ p) := by
        rw [cq_U_lo h0 230 _ (by decide)]
        exact al.1
      refine ⟨Nat.le_succ _, cq_up ρ S.n (cq_U h0 230 (cq_e ρ p)), cq_up_g, fun ρ' a => ?_⟩
      obtain ⟨D', ev⟩ := cq_fb_ok H u0 (cq_U_rng h0 230 (cq_e ρ p)).2 ρ' a
      refine ⟨D'.1, D'.2.1, D'.2.2.1, D'.2.2.2.1, D'.2.2.2.2.1, D'.2.2.2.2.2.1, ?_, D'.2.2.2.2.2.2.2⟩
      intro q hq
      rcases List.mem_cons.1 hq with z | z
      · subst z
        refine cq_mOk_tag 230 (by decide) ?_
        rw [cq_s_e, ev, cq_sm_e b4.2 (cq_up_a a)]
      · exact D'.M q z
    · exact ⟨Nat.le_refl _, ρ, cq_ag.rf, H⟩
  · exact ⟨Nat.le_refl _, ρ, cq_ag.rf, H⟩
theorem cq_rwZ_ok {m : cq_W} {h0 : am_H} {ρ0 : Nat → Int} {n0 : Nat} (hm : ni_W m = true) (I0 : cq_Inv none h0) : cq_HA m h0 ρ0 n0 cq_rwZ := by
  intro Z ρ ls st h fs a hn R
  unfold cq_rwZ
  rw [cond_eq_ite]
  split
  · obtain ⟨n1, ρ1, a1, k1⟩ := cq_rwS_ok (ast := Z.2.2.2.1) hm I0 (fun ρ' a => (R ρ' a).1)
    refine ⟨ρ1, a1, n1, rfl, rfl, rfl, fun ρ' a' => ?_⟩
    have a2 : cq_ag Z.2.2.2.2.2.2.n ρ' ρ := (cq_ag.lt a' n1).tr a1
    exact ⟨k1 ρ' a', (R ρ' a2).2⟩
  · exact ⟨ρ, cq_ag.rf, Nat.le_refl _, rfl, rfl, rfl, R⟩
theorem cq_methL {y f : Nat} {c : cq_Ct} {cts : Nat → Option cq_Ct} {lps : Nat → Option (Option (Nat × Nat) × cq_Lp)} (HT : ∀ h, cq_Inv none h → cq_TK c.2.2.2.1 h cts) (wf : cq_wfC c = true) (hm : ni_W c.2.2.2.1 = true) (q0 : (cq_no0 c.2.1 && c.2.1.all (cq_sma c.2.2.1.n)) = true) (q : cq_exec (cq_nxa cq_rwZ (cq_nx c.2.2.2.1 (cq_ckx c) (cq_cl0 c.2.2.2.1 (cq_ckx c) cts))) lps y f [] (y, 0, cq_ent0 c.2.1 (am_in y).2.2.1, [], [], c.1, c.2.2.1) = true) : cq_CT y c := cq_methN wf q0 (fun _ _ _ M _ => cq_nxa_ok (cq_rwZ_ok hm (cq_Inv0 wf M)) (cq_NX_of wf (HT _ (cq_Inv0 wf M)))) q
end
section
/-! CONTRACTS: 226 235 234 238 251 253 258 -/
def ct_226 : cq_Ct := (7, [(5, (0, []), 78), (1, (0, [(0, 1)]), 0), (1, (0, [(1, 1)]), 0)], cq_mk 2 ([(0, (-2147483648), 2147483647), (1, (-2147483648), 2147483647)], []) [] [] [] [] [] [] none 0 0, [(false, 98, 0, 0), (false, 99, 0, 0)], [(false, [(1, (0, [(2, 1)]), 0)], cq_mk 3 ([(2, (-2147483648), 2147483647)], []) [] [] [] [] [] [] none 0 0)])
theorem wf_226 : cq_wfC ct_226 = true := by decide +kernel
def lp_226 (pc : Nat) : Option (Option (Nat × Nat) × cq_Lp) := none
theorem ok_226 : cq_CT 226 ct_226 := cq_meth (f := 100000) (cts := (cq_tc 228 ct_228g (cq_tc 229 ct_229 (cq_tc 230 ct_230 (cq_tc 232 ct_232g cq_t0))))) (lps := lp_226) (cq_tc_gh (ni_UT (by decide +kernel)) wf_228g ok_228g (cq_tc_ok wf_229 ok_229 (cq_tc_ok wf_230 ok_230 (cq_tc_gh (ni_UT (by decide +kernel)) wf_232g ok_232g cq_t0_ok)))) wf_226 (by decide +kernel) (by decide +kernel)
def ct_235 : cq_Ct := (7, [(5, (0, []), 78)], cq_mk 0 ([], []) [] [] [] [] [] [] none 0 0, [(false, 119, 0, 0), (false, 120, 0, 0), (false, 121, 0, 0), (false, 98, 0, 0), (false, 99, 0, 0)], [(false, [], cq_mk 0 ([], []) [] [] [] [] [] [] none 0 0)])
theorem wf_235 : cq_wfC ct_235 = true := by decide +kernel
def lp_235 (pc : Nat) : Option (Option (Nat × Nat) × cq_Lp) := bif Nat.beq pc 2 then some (none, ([(0, 1, 0, 0, 14)], [2], [(false, 119, 0, 0), (false, 120, 0, 0), (false, 121, 0, 0), (false, 98, 0, 0), (false, 99, 0, 0)], [(0, [(0, 1), (1, (-1))])], (0, true), [])) else none
theorem ok_235 : cq_CT 235 ct_235 := cq_meth (f := 100000) (cts := (cq_tc 228 ct_228g (cq_tc 229 ct_229 (cq_tc 232 ct_232g cq_t0)))) (lps := lp_235) (cq_tc_gh (ni_UT (by decide +kernel)) wf_228g ok_228g (cq_tc_ok wf_229 ok_229 (cq_tc_gh (ni_UT (by decide +kernel)) wf_232g ok_232g cq_t0_ok))) wf_235 (by decide +kernel) (by decide +kernel)
def ct_234 : cq_Ct := (8, [(5, (0, []), 78)], cq_mk 0 ([], []) [] [] [] [] [] [] none 0 0, [(false, 119, 0, 0), (false, 120, 0, 0), (false, 121, 0, 0), (false, 122, 0, 0), (false, 78, 55, 0), (false, 78, 63, 0), (false, 78, 64, 0), (false, 78, 65, 0), (false, 98, 0, 0), (false, 99, 0, 0)], [(false, [(1, (0, [(0, 1)]), 0)], cq_mk 1 ([(0, (-2147483648), 2147483647)], []) [] [] [] [] [] [] none 0 0)])
theorem wf_234 : cq_wfC ct_234 = true := by decide +kernel
def lp_234 (pc : Nat) : Option (Option (Nat × Nat) × cq_Lp) := bif Nat.beq pc 16 then some (none, ([(1, 78, 62, (-2147483648), 2147483647), (1, 78, 63, (-2147483648), 2147483647), (1, 78, 64, (-2147483648), 2147483647), (0, 1, 0, (-1), 16383), (0, 2, 0, (-2147483648), 2147483647), (0, 3, 0, (-2147483648), 2147483647), (0, 4, 0, (-2147483648), 2147483647), (0, 5, 0, 0, 16384)], [6], [(false, 122, 0, 0), (false, 78, 63, 0), (false, 78, 64, 0), (false, 78, 65, 0)], [(0, [(6, 1), (7, (-1))]), (0, [(14, 1), (15, (-1))])], (7, true), [])) else none
theorem ok_234 : cq_CT 234 ct_234 := cq_meth (f := 100000) (cts := (cq_tc 235 ct_235 (cq_tc 236 ct_236 cq_t0))) (lps := lp_234) (cq_tc_ok wf_235 ok_235 (cq_tc_ok wf_236 ok_236 cq_t0_ok)) wf_234 (by decide +kernel) (by decide +kernel)
def ct_238 : cq_Ct := (8, [(5, (0, []), 78), (1, (0, [(0, 1)]), 0)], cq_mk 1 ([(0, (-2147483648), 2147483647)], []) [] [] [] [] [] [] none 0 0, [(false, 119, 0, 0), (false, 120, 0, 0), (false, 121, 0, 0), (false, 122, 0, 0), (false, 78, 63, 0), (false, 78, 64, 0), (false, 78, 65, 0), (false, 98, 0, 0), (false, 99, 0, 0)], [(false, [(1, (0, [(1, 1)]), 0)], cq_mk 2 ([(1, (-2147483648), 2147483647)], []) [] [] [] [] [] [] none 0 0)])
theorem wf_238 : cq_wfC ct_238 = true := by decide +kernel
def lp_238 (pc : Nat) : Option (Option (Nat × Nat) × cq_Lp) := none
theorem ok_238 : cq_CT 238 ct_238 := cq_meth (f := 100000) (cts := (cq_tc 235 ct_235 (cq_tc 236 ct_236 cq_t0))) (lps := lp_238) (cq_tc_ok wf_235 ok_235 (cq_tc_ok wf_236 ok_236 cq_t0_ok)) wf_238 (by decide +kernel) (by decide +kernel)
def ct_251 : cq_Ct := (8, [(5, (0, []), 78), (1, (0, [(0, 1)]), 0)], cq_mk 1 ([(0, (-2147483648), 2147483647)], []) [] [] [] [] [] [] none 0 0, [(false, 98, 0, 0), (false, 99, 0, 0)], [(false, [(1, (0, [(1, 1)]), 0)], cq_mk 2 ([(1, (-1), 13)], []) [] [] [] [] [] [] none 0 0)])
theorem wf_251 : cq_wfC ct_251 = true := by decide +kernel
def lp_251 (pc : Nat) : Option (Option (Nat × Nat) × cq_Lp) := bif Nat.beq pc 28 then some (none, ([(0, 2, 0, 0, 14)], [3, 4], [], [(0, [(0, 1), (1, (-1))])], (0, true), [])) else bif Nat.beq pc 41 then some (none, ([(0, 3, 0, (-2147483648), 2147483647), (0, 4, 0, 0, 14)], [], [], [(0, [(2, 1), (3, (-1))])], (1, true), [])) else none
theorem ok_251 : cq_CT 251 ct_251 := cq_meth (f := 100000) (cts := (cq_tc 249 ct_249g (cq_tc 252 ct_252g cq_t0))) (lps := lp_251) (cq_tc_gh (ni_UT (by decide +kernel)) wf_249g ok_249g (cq_tc_gh (ni_UT (by decide +kernel)) wf_252g ok_252g cq_t0_ok)) wf_251 (by decide +kernel) (by decide +kernel)
def ct_253 : cq_Ct := (8, [(5, (0, []), 78), (1, (0, [(0, 1)]), 0)], cq_mk 1 ([(0, (-2147483648), 2147483647)], []) [] [] [] [] [] [] none 0 0, [(false, 119, 0, 0), (false, 120, 0, 0), (false, 121, 0, 0), (false, 125, 0, 0), (false, 78, 69, 0), (false, 78, 70, 0), (false, 78, 71, 0), (false, 78, 72, 0), (false, 78, 73, 0), (false, 78, 74, 0), (false, 78, 75, 0), (false, 78, 76, 0), (false, 98, 0, 0), (false, 99, 0, 0)], [(false, [(1, (0, [(1, 1)]), 0)], cq_mk 2 ([(1, (-2147483648), 2147483647)], []) [] [] [] [] [] [] none 0 0)])
theorem wf_253 : cq_wfC ct_253 = true := by decide +kernel
def lp_253 (pc : Nat) : Option (Option (Nat × Nat) × cq_Lp) := bif Nat.beq pc 86 then some (none, ([(1, 78, 69, (-2147483648), 2147483647), (1, 78, 70, (-2147483648), 2147483647), (1, 78, 72, (-2147483648), 2147483647), (1, 78, 73, (-2147483648), 2147483647), (1, 78, 74, (-2147483648), 2147483647), (0, 5, 0, 0, 14)], [6], [(false, 78, 70, 0), (false, 78, 71, 0), (false, 78, 73, 0), (false, 78, 74, 0), (false, 78, 75, 0)], [(0, [(10, 1), (11, (-1))])], (5, true), [])) else bif Nat.beq pc 119 then some (none, ([(1, 78, 69, (-2147483648), 2147483647), (1, 78, 70, (-2147483648), 2147483647), (1, 78, 72, (-2147483648), 2147483647), (1, 78, 73, (-2147483648), 2147483647), (1, 78, 74, (-2147483648), 2147483647), (0, 6, 0, 0, 14)], [], [(false, 78, 70, 0), (false, 78, 71, 0), (false, 78, 73, 0), (false, 78, 74, 0), (false, 78, 75, 0)], [(0, [(10, 1), (11, (-1))])], (5, true), [])) else none
theorem ok_253 : cq_CT 253 ct_253 := cq_meth (f := 100000) (cts := (cq_tc 229 ct_229 (cq_tc 235 ct_235 (cq_tc 240 ct_240 (cq_tc 249 ct_249 (cq_tc 254 ct_254 (cq_tc 256 ct_256 cq_t0))))))) (lps := lp_253) (cq_tc_ok wf_229 ok_229 (cq_tc_ok wf_235 ok_235 (cq_tc_ok wf_240 ok_240 (cq_tc_ok wf_249 ok_249 (cq_tc_ok wf_254 ok_254 (cq_tc_ok wf_256 ok_256 cq_t0_ok)))))) wf_253 (by decide +kernel) (by decide +kernel)
def ct_258 : cq_Ct := (8, [(5, (0, []), 78), (1, (0, [(0, 1)]), 0)], cq_mk 1 ([(0, (-2147483648), 2147483647)], []) [] [] [] [] [] [] none 0 0, [(false, 126, 0, 0), (false, 127, 0, 0), (false, 128, 0, 0), (false, 98, 0, 0), (false, 99, 0, 0)], [(false, [(1, (0, [(1, 1)]), 0)], cq_mk 2 ([(1, (-4), 1)], []) [] [] [] [] [] [] none 0 0)])
theorem wf_258 : cq_wfC ct_258 = true := by decide +kernel
def lp_258 (pc : Nat) : Option (Option (Nat × Nat) × cq_Lp) := bif Nat.beq pc 37 then some (none, ([(0, 2, 0, 0, 420), (0, 3, 0, 0, 14)], [], [], [(0, [(0, 1), (1, (-1))]), (0, [(2, 1), (3, (-1))]), (0, [(0, (-1)), (2, 30)]), (0, [(0, 1), (2, (-1))])], (0, true), [])) else bif Nat.beq pc 74 then some (none, ([(0, 3, 0, (-2147483648), 2147483647), (0, 4, 0, 0, 14)], [5, 6], [(false, 127, 0, 0), (false, 128, 0, 0)], [(0, [(2, 1), (3, (-1))])], (1, true), [])) else bif Nat.beq pc 147 then some (none, ([(0, 3, 0, (-2147483648), 2147483647), (0, 4, 0, 0, 14)], [5], [(false, 127, 0, 0), (false, 128, 0, 0)], [(0, [(0, (-1)), (1, 1)])], (0, false), [])) else bif Nat.beq pc 157 then some (none, ([(0, 4, 0, 0, 13), (0, 5, 0, 1, 14)], [], [], [(0, [(0, 1), (1, (-1))]), (0, [(2, 1), (3, (-1))])], (1, true), [])) else bif Nat.beq pc 221 then some (none, ([(0, 4, 0, 0, 20)], [], [(false, 126, 0, 0)], [(0, [(0, 1), (1, (-1))])], (0, true), [])) else bif Nat.beq pc 245 then some (none, ([(0, 4, 0, 0, 14)], [5, 6], [(false, 126, 0, 0)], [(0, [(0, 1), (1, (-1))])], (0, true), [])) else none
theorem ok_258 : cq_CT 258 ct_258 := cq_methL (f := 100000) (cts := (cq_tc 233 ct_233n (cq_tc 249 ct_249g cq_t0))) (lps := lp_258) (cq_tc_gh (ni_UT (by decide +kernel)) wf_233n ok_233n (cq_tc_gh (ni_UT (by decide +kernel)) wf_249g ok_249g cq_t0_ok)) wf_258 (by decide +kernel) (by decide +kernel) (by decide +kernel)
end
section
/-! CONTRACTS: 247m 247 -/
def ct_247m : cq_Ct := (7, [(5, (0, []), 78), (1, (0, [(1, 1)]), 0)], cq_mk 2 ([(0, 0, 14), (1, 1, 14)], []) [] [] [] [((false, 78), (53, []), (1, (0, [(0, 1)]), 0))] [] [] none 0 0, [(false, 118, 0, 0), (false, 78, 56, 0), (false, 78, 76, 0), (false, 78, 81, 0), (false, 78, 82, 0), (false, 98, 0, 0), (false, 99, 0, 0)], [(false, [(1, (0, [(2, 1)]), 0)], cq_mk 3 ([(2, (-2147483648), 2147483647)], []) [] [] [] [] [] [] none 0 0)])
theorem wf_247m : cq_wfC ct_247m = true := by decide +kernel
def lp_247m (pc : Nat) : Option (Option (Nat × Nat) × cq_Lp) := bif Nat.beq pc 28 then some (none, ([], [2, 3, 4], [], [], (0, true), [])) else bif Nat.beq pc 80 then some (none, ([(0, 3, 0, 0, 14)], [], [(false, 98, 0, 0), (false, 99, 0, 0)], [(0, [(0, 1), (1, (-1))])], (0, true), [])) else bif Nat.beq pc 120 then some (none, ([(0, 3, 0, (-2147483648), 2147483647), (0, 4, 0, 1, 14)], [5, 6], [], [(0, [(2, 1), (3, (-1))])], (1, true), [])) else bif Nat.beq pc 190 then some (none, ([(1, 78, 55, 0, 14), (0, 4, 0, 0, 14)], [], [(false, 118, 0, 0), (false, 78, 56, 0)], [(0, [(0, 1), (1, (-1))]), (0, [(2, 1), (3, (-1))]), (0, [(0, (-1)), (2, 1)]), (0, [(0, 1), (2, (-1))])], (0, true), [])) else none
def tb_247m : Nat → Option cq_Ct := (cq_tc 228 ct_228 (cq_tc 241 ct_241 cq_t0))
theorem tk_247m : ∀ h, cq_Inv none h → cq_TK ct_247m.2.2.2.1 h tb_247m := (cq_tc_ok wf_228 ok_228 (cq_tc_ok wf_241 ok_241 cq_t0_ok))
def ct_247 : cq_Ct := (7, [(5, (0, []), 78)], cq_mk 0 ([], []) [] [] [] [] [] [] none 0 0, [(false, 118, 0, 0), (false, 78, 3, 0), (false, 78, 56, 0), (false, 78, 76, 0), (false, 78, 81, 0), (false, 78, 82, 0), (false, 98, 0, 0), (false, 99, 0, 0)], [(false, [(1, (0, [(0, 1)]), 0)], cq_mk 1 ([(0, (-2147483648), 2147483647)], []) [] [] [] [((false, 78), (2, []), (1, (0, []), 0))] [] [] none 0 0)])
theorem wf_247 : cq_wfC ct_247 = true := by decide +kernel
end
section
/-! BY HAND, 7: lay -/
/-- a place from which the hand goes on -/
def cq_nxo (y0 pc0 : Nat) (chk : cq_Z → Bool) (nx : cq_Z → Option (List cq_Z)) (Z : cq_Z) : Option (List cq_Z) := bif Nat.beq Z.1 y0 && Nat.beq Z.2.1 pc0 && Z.2.2.2.2.1.isEmpty then (bif chk Z then some [] else none) else nx Z
theorem cq_nxo_ok {m : cq_W} {h0 : am_H} {ρ0 : Nat → Int} {n0 y0 pc0 : Nat} {Fin : Option Value × am_H → Prop} {nx : cq_Z → Option (List cq_Z)} {chk : cq_Z → Bool} (HO : ∀ (Z : cq_Z) (ρ : Nat → Int) (ls st : List Value) (h : am_H) (d : Nat), cq_ag n0 ρ ρ0 → n0 ≤ Z.2.2.2.2.2.2.n → chk Z = true → cq_Rz m h0 ρ Z ls st h [] → Z.2.2.2.2.2.1 ≤ d → cq_Go Fin d y0 pc0 ls st h []) (N : cq_NX m h0 ρ0 n0 Fin nx) : cq_NX m h0 ρ0 n0 Fin (cq_nxo y0 pc0 chk nx) := by
  intro Z out ρ ls st h fs d a hn q H hd K
  unfold cq_nxo at q
  cases hb : Nat.beq Z.1 y0 && Nat.beq Z.2.1 pc0 && Z.2.2.2.2.1.isEmpty with
  | false =>
    rw [hb] at q
    exact N Z out ρ ls st h fs d a hn q H hd K
  | true =>
    rw [hb] at q
    have b1 := (Bool.and_eq_true _ _ ▸ hb)
    have b2 := (Bool.and_eq_true _ _ ▸ b1.1)
    simp only [cond_true] at q
    cases hc : chk Z with
    | false => rw [hc] at q; cases q
    | true =>
      have hfs : fs = [] := by
        have := (H ρ cq_ag.rf).2.2.2
        rw [List.isEmpty_iff.1 b1.2] at this
        cases fs with
        | nil => rfl
        | cons c cs => exact this.elim
      subst hfs
      rw [am_beq b2.1, am_beq b2.2]
      exact HO Z ρ ls st h d a hn hc H hd
/-- the tape's places, where they are known to be letters of candidates -/
def cq_tpS (S : cq_S) (st : List cq_A) : cq_S := match st with
  | (1, f, _) :: (5, _, k) :: _ => bif Nat.beq k 80 && cq_en S.P f && cq_en S.P (cq_ac (cq_sub (cq_s 1) f) (-1)) && cq_sm S.n f && (cq_tl (false, 80) f S.T).isNone then (match cq_asm (S.fb 65 78).P (cq_ac (cq_sub (cq_s 0) (cq_s S.n)) 64) with
      | some P => ((S.fb 65 78).sT (((false, 80), f, cq_i (cq_s S.n)) :: S.T)).sP P
      | none => S) else S
  | _ => S
def cq_tpZ (Z : cq_Z) : cq_Z := bif (Nat.beq Z.2.1 95 || Nat.beq Z.2.1 134 || Nat.beq Z.2.1 146 || Nat.beq Z.2.1 203) && Z.2.2.2.2.1.isEmpty then (Z.1, Z.2.1, Z.2.2.1, Z.2.2.2.1, Z.2.2.2.2.1, Z.2.2.2.2.2.1, cq_tpS Z.2.2.2.2.2.2 Z.2.2.2.1) else Z
theorem cq_inW_no {m : cq_W} {c : Nat} (hc : c < 130) (hm : m.all (fun w => w.1 || !Nat.beq w.2.1 c) = true) (sh : am_Sh) (j : Nat) : cq_inW m c sh j = false := by
  cases hb : cq_inW m c sh j with
  | false => rfl
  | true =>
    exfalso
    obtain ⟨w, hw, hz⟩ := List.any_eq_true.1 hb
    have k := List.all_eq_true.1 hm w hw
    cases h1 : w.1 with
    | true =>
      rw [h1] at hz
      simp only [cond_true] at hz
      have z1 := (Bool.and_eq_true _ _ ▸ hz)
      have z2 := (Bool.and_eq_true _ _ ▸ z1.1)
      have z3 := (Bool.and_eq_true _ _ ▸ z2.1)
      have := Nat.le_of_ble_eq_true z3.1
      omega
    | false =>
      rw [h1] at hz k
      simp only [cond_false, Bool.false_or] at hz k
      have z1 := (Bool.and_eq_true _ _ ▸ hz)
      have z2 := z1.1
      rw [z2] at k
      cases k
/-- every place of the tape below n is a candidate's letter -/
def hd_V (h : am_H) (n k : Int) : Prop := ∀ i : Nat, (i : Int) < n → ∃ x : Int32, h.2.2.2 80 i = .int x ∧ 65 ≤ x.toInt ∧ x.toInt ≤ 64 + k
theorem cq_tpS_ok {m : cq_W} {h0 : am_H} {ρ ρ0 : Nat → Int} {S : cq_S} {ast : List cq_A} {h : am_H} (hm : m.all (fun w => w.1 || !Nat.beq w.2.1 80) = true) (h130 : 130 ≤ h0.1) (V : hd_V h0 (ρ0 1) (ρ0 0)) (k14 : ρ0 0 ≤ 14) (a0 : cq_ag 2 ρ ρ0) (hn : 2 ≤ S.n) (H : ∀ ρ', cq_ag S.n ρ' ρ → cq_Md m h0 ρ' S h) : S.n ≤ (cq_tpS S ast).n ∧ ∃ ρ1, cq_ag S.n ρ1 ρ ∧ ∀ ρ', cq_ag (cq_tpS S ast).n ρ' ρ1 → cq_Md m h0 ρ' (cq_tpS S ast) h := by
  unfold cq_tpS
  split
  · rename_i f k1 ff k rest
    rw [cond_eq_ite]
    split
    · rename_i hb
      have b1 := (Bool.and_eq_true _ _ ▸ hb)
      have b2 := (Bool.and_eq_true _ _ ▸ b1.1)
      have b3 := (Bool.and_eq_true _ _ ▸ b2.1)
      have b4 := (Bool.and_eq_true _ _ ▸ b3.1)
      split
      · rename_i P hP
        have D := H ρ cq_ag.rf
        have i0 := cq_en_ok D.P b4.2
        have i1 := cq_en_ok D.P b3.2
        rw [cq_ac_e, cq_sub_e, cq_s_e, a0 1 (by decide)] at i1
        obtain ⟨x, ex, x1, x2⟩ := V (cq_e ρ f).toNat (by omega)
        have exh : h.2.2.2 80 (cq_e ρ f).toNat = .int x := by
          rw [D.F.vl 80 (by omega) _ (cq_inW_no (by decide) hm _ _)]
          exact ex
        refine ⟨Nat.le_succ _, cq_up ρ S.n x.toInt, cq_up_g, fun ρ' a => ?_⟩
        obtain ⟨D', ev⟩ := cq_fb_ok (l := 65) (u := 78) H x1 (by omega) ρ' a
        have fact : 0 ≤ cq_e ρ' (cq_ac (cq_sub (cq_s 0) (cq_s S.n)) 64) := by
          rw [cq_ac_e, cq_sub_e, cq_s_e, cq_s_e, ev, cq_up_a a 0 (by omega), a0 0 (by decide)]
          omega
        obtain ⟨P', e1, hP'⟩ := cq_asm_ok D'.P fact
        rw [hP] at e1
        have e1 := Option.some.inj e1
        subst e1
        refine (D'.sT fun e he => ?_).sP hP'
        rcases List.mem_cons.1 he with z | z
        · subst z
          have ef : cq_e ρ' f = cq_e ρ f := cq_sm_e b2.2 (cq_up_a a)
          show cq_g ρ' (cq_i (cq_s S.n)) (h.2.2.2 80 (cq_e ρ' f).toNat)
          rw [ef, exh]
          exact ⟨x, rfl, by rw [cq_s_e, ev]⟩
        · exact D'.T e z
      · exact ⟨Nat.le_refl _, ρ, cq_ag.rf, H⟩
    · exact ⟨Nat.le_refl _, ρ, cq_ag.rf, H⟩
  · exact ⟨Nat.le_refl _, ρ, cq_ag.rf, H⟩
theorem cq_tpZ_ok {m : cq_W} {h0 : am_H} {ρ0 : Nat → Int} (hm : m.all (fun w => w.1 || !Nat.beq w.2.1 80) = true) (h130 : 130 ≤ h0.1) (V : hd_V h0 (ρ0 1) (ρ0 0)) (k14 : ρ0 0 ≤ 14) : cq_HA m h0 ρ0 2 cq_tpZ := by
  intro Z ρ ls st h fs a hn R
  unfold cq_tpZ
  rw [cond_eq_ite]
  split
  · obtain ⟨n1, ρ1, a1, k1⟩ := cq_tpS_ok (ast := Z.2.2.2.1) hm h130 V k14 a hn (fun ρ' a => (R ρ' a).1)
    refine ⟨ρ1, a1, n1, rfl, rfl, rfl, fun ρ' a' => ?_⟩
    have a2 : cq_ag Z.2.2.2.2.2.2.n ρ' ρ := (cq_ag.lt a' n1).tr a1
    exact ⟨k1 ρ' a', (R ρ' a2).2⟩
  · exact ⟨ρ, cq_ag.rf, Nat.le_refl _, rfl, rfl, rfl, R⟩
theorem hd_ba {l b w pc z : Nat} {t : Int} {ls r : List Value} {h : am_H} {v : Value} {a : Nat} {i : Int32} (hr : am_rd h a i (fun c => Nat.beq c 1 || Nat.beq c 2) = some v) : am_st (.baload, l, t, z, b, w) pc ls (.int i :: .ref a :: r) h = some (pc + 1, ls, v :: r, h) := by
  dsimp only [am_st]
  rw [hr]
def hd_E (h h' : am_H) : Prop := cq_Inv none h' ∧ cq_Fr [] h h' ∧ h'.1 ≤ h.1 ∧ h'.2.1 ≤ h.2.1
theorem hd_E.v {h h' : am_H} (I : cq_Inv none h) (E : hd_E h h') {c : Nat} (hc : c < 130) (j : Nat) : h'.2.2.2 c j = h.2.2.2 c j := E.2.1.vl c (Nat.lt_of_lt_of_le hc I.lo) j rfl
theorem hd_E.tr {h h1 h2 : am_H} (A : hd_E h h1) (B : hd_E h1 h2) : hd_E h h2 := ⟨B.1, cq_Fr_tr A.2.1 B.2.1 (fun _ z => z), Nat.le_trans B.2.2.1 A.2.2.1, Nat.le_trans B.2.2.2 A.2.2.2⟩
theorem hd_E.rf {h : am_H} (I : cq_Inv none h) : hd_E h h := ⟨I, cq_Fr_rf, Nat.le_refl _, Nat.le_refl _⟩
/-- isCandidate -/
theorem hd_227 {h : am_H} {c k : Int32} {d : Nat} (I : cq_Inv none h) (h53 : h.2.2.2 78 53 = .int k) (hk : 0 ≤ k.toInt ∧ k.toInt ≤ 14) (hd : 1 ≤ d) : ∃ (r : Int32) (h' : am_H), am_ev d 227 0 (am_ent [.ref 78, .int c] (am_in 227).2.2.1) [] h (some (.int r), h') ∧ (r = 0 ∨ (r = 1 ∧ 0 ≤ c.toInt ∧ c.toInt < k.toInt)) ∧ hd_E h h' := by
  let ρ : Nat → Int := fun s => match s with
    | 0 => c.toInt
    | _ => k.toInt
  have z1 := c.le_toInt
  have z2 := c.toInt_lt
  have M0 : cq_Md ct_227c.2.2.2.1 h ρ ct_227c.2.2.1 h := by
    refine cq_Md_p ⟨fun b hb => ?_, fun _ z => (by cases z)⟩ (fun e he => ?_) (fun _ z => (by cases z)) I
    · simp only [List.mem_cons, List.not_mem_nil, or_false] at hb
      rcases hb with rfl | rfl
      · exact ⟨by show -2147483648 ≤ c.toInt; omega, by show c.toInt ≤ 2147483647; omega⟩
      · exact hk
    · rw [List.mem_singleton.1 he]
      exact ⟨k, h53, (cq_s_e ρ 1).symm⟩
  obtain ⟨r, h', ev, x, hx, ρ', a', Mx, hr⟩ := ok_227c d h ρ [.ref 78, .int c] hd M0 ⟨rfl, ⟨c, rfl, (cq_s_e ρ 0).symm⟩, trivial⟩
  simp only [ct_227c, List.mem_cons, List.not_mem_nil, or_false] at hx
  rcases hr with ⟨q1, q2, q3⟩ | ⟨q1, -⟩
  · rcases hx with rfl | rfl
    · cases r with
      | none => exact q3.elim
      | some w =>
        obtain ⟨v, e1, e2⟩ := q3.1
        subst e1
        have e2 : v.toInt = 1 := by rw [e2]; exact cq_c_e ρ' 1
        have f1 := Mx.P.2 (0, [(0, 1)]) List.mem_cons_self
        have f2 := Mx.P.2 ((-1), [(0, (-1)), (1, 1)]) (List.mem_cons_of_mem _ List.mem_cons_self)
        rw [show cq_e ρ' ((0, [(0, 1)]) : cq_F) = ρ' 0 from cq_s_e ρ' 0, a' 0 (by decide)] at f1
        have e4 : cq_e ρ' (((-1), [(0, (-1)), (1, 1)]) : cq_F) = ρ' 1 - ρ' 0 - 1 := by
          simp only [cq_e, cq_eT]
          omega
        rw [e4, a' 0 (by decide), a' 1 (by decide)] at f2
        have f2 : 0 ≤ k.toInt - c.toInt - 1 := f2
        exact ⟨v, h', ev, Or.inr ⟨Int32.toInt_inj.1 (by rw [e2]; decide), f1, by omega⟩, Mx.I, Mx.F, Mx.A⟩
    · cases r with
      | none => exact q3.elim
      | some w =>
        obtain ⟨v, e1, e2⟩ := q3.1
        subst e1
        have e2 : v.toInt = 0 := by rw [e2]; exact cq_c_e ρ' 0
        exact ⟨v, h', ev, Or.inl (Int32.toInt_inj.1 (by rw [e2]; decide)), Mx.I, Mx.F, Mx.A⟩
  · rcases hx with rfl | rfl <;> cases q1
/-- lay's first loop -/
theorem hd_lay {h : am_H} {n k : Int32} {d : Nat} {G : Option Value × am_H → Prop} (I : cq_Inv none h) (hn : 1 ≤ n.toInt ∧ n.toInt ≤ 14) (h53 : h.2.2.2 78 53 = .int k) (hk : 0 ≤ k.toInt ∧ k.toInt ≤ 14) (hd : 1 ≤ d) (g0 : ∀ h1, hd_E h h1 → G (some (.int (-1)), h1)) (g1 : ∀ h1, hd_E h h1 → hd_V h n.toInt k.toInt → ∀ a b c e f, ∃ x, am_ev (d + 1) 247 78 [.ref 78, .int n, a, b, c, e, f] [] h1 x ∧ G x) : ∀ (w j : Nat) (i s : Int32) (v4 v5 v6 : Value) (h1 : am_H), ((w + j : Nat) : Int) = n.toInt → i.toInt = j → hd_E h h1 → (∀ i' : Nat, i' < j → ∃ x : Int32, h.2.2.2 80 i' = .int x ∧ 65 ≤ x.toInt ∧ x.toInt ≤ 64 + k.toInt) → ∃ x, am_ev (d + 1) 247 28 [.ref 78, .int n, .int s, .int i, v4, v5, v6] [] h1 x ∧ G x := by
  intro w
  induction w with
  | zero =>
    intro j i s v4 v5 v6 h1 hj ei E ok
    obtain ⟨x, ev, gx⟩ := g1 h1 E (fun i' hi' => ok i' (by omega)) (.int s) (.int i) v4 v5 v6
    refine ⟨x, ?_, gx⟩
    refine am_ev.step rfl rfl ?_
    refine am_ev.step rfl rfl ?_
    exact am_ev.step (pc' := 78) (ls' := [.ref 78, .int n, .int s, .int i, v4, v5, v6]) (st' := []) (h' := h1) rfl (if_pos (Int32.le_iff_toInt_le.2 (by omega))) ev
  | succ w ih =>
    intro j i s v4 v5 v6 h1 hj ei E ok
    have I1 := E.1
    have O := cq_o78 I1
    have g53 : h1.2.2.2 78 53 = .int k := by rw [E.v I (by decide)]; exact h53
    have gT : h1.2.2.2 78 1 = .ref 80 := by
      have t := cq_t78 I1 (b := 1) (by decide +kernel)
      rw [show cq_cl 13 1 = (3, 0, 0, 80, 0, 0) by decide +kernel] at t
      exact t
    have t80 := cq_tA I1 (c := 80) (j := j) (by decide) (by decide) (by decide +kernel) (by decide) (by rw [show (cq_fix 80).2.2 = 1600 by decide +kernel]; omega)
    rw [show cq_ar 80 = (1, -128, 127, 0, 0, 0) by decide +kernel] at t80
    obtain ⟨a, ea, a0, a1⟩ := t80
    have r80 : am_rd h1 80 i (fun c => Nat.beq c 1 || Nat.beq c 2) = some (.int a) := by
      rw [hd_rd I1 (by decide) (by decide) (by decide +kernel) (by decide +kernel) (by omega) (by rw [show (cq_fix 80).2.2 = 1600 by decide +kernel]; omega)]
      rw [show i.toInt.toNat = j by omega, ea]
    have nle : ¬ (n ≤ i) := fun z => by
      have := Int32.le_iff_toInt_le.1 z
      omega
    obtain ⟨r, h2, ev2, hr, E2⟩ := hd_227 (c := a - (Int8.ofInt 65).toInt32) (d := d) I1 g53 hk hd
    have E3 := E.tr E2
    have head : ∀ x, am_ev (d + 1) 247 50 [.ref 78, .int n, .int s, .int i, .int (a - (Int8.ofInt 65).toInt32), v5, v6] [.int r] h2 x → am_ev (d + 1) 247 28 [.ref 78, .int n, .int s, .int i, v4, v5, v6] [] h1 x := fun x q => by
      refine am_ev.step rfl rfl ?_
      refine am_ev.step rfl rfl ?_
      refine am_ev.step (pc' := 33) (ls' := [.ref 78, .int n, .int s, .int i, v4, v5, v6]) (st' := []) (h' := h1) rfl (if_neg nle) ?_
      refine am_ev.step rfl rfl ?_
      refine am_ev.step rfl (hd_gf O gT) ?_
      refine am_ev.step rfl rfl ?_
      refine am_ev.step rfl (hd_ba r80) ?_
      refine am_ev.step rfl rfl ?_
      refine am_ev.step rfl rfl ?_
      refine am_ev.step rfl rfl ?_
      refine am_ev.step rfl rfl ?_
      refine am_ev.step rfl rfl ?_
      exact hd_cv 227 (as := [.ref 78, .int (a - (Int8.ofInt 65).toInt32)]) (rr := []) rfl (Or.inr (Or.inl ⟨_, rfl⟩)) rfl (by decide) rfl rfl (by decide) O (Nat.le_of_ble_eq_true rfl) ev2 q
    have bad : ∀ h3 (v : Value), am_ev (d + 1) 247 63 [.ref 78, .int n, .int s, .int i, v, v5, v6] [] h3 (some (.int (-1)), h3) := fun h3 v => by
      refine am_ev.step rfl rfl ?_
      exact am_ev.reti rfl rfl rfl
    rcases hr with z | ⟨z, c0, c1⟩
    · subst z
      refine ⟨_, head _ ?_, g0 h2 E3⟩
      exact am_ev.step (pc' := 63) (ls' := [.ref 78, .int n, .int s, .int i, .int (a - (Int8.ofInt 65).toInt32), v5, v6]) (st' := []) (h' := h2) rfl rfl (bad h2 _)
    · subst z
      have ac : (a - (Int8.ofInt 65).toInt32).toInt = a.toInt - 65 := by
        rw [Int32.toInt_sub, show ((Int8.ofInt 65).toInt32).toInt = 65 by decide, Int.bmod_eq_of_le (by omega) (by omega)]
      rw [ac] at c0 c1
      have to53 : ∀ x, am_ev (d + 1) 247 53 [.ref 78, .int n, .int s, .int i, .int (a - (Int8.ofInt 65).toInt32), v5, v6] [] h2 x → am_ev (d + 1) 247 50 [.ref 78, .int n, .int s, .int i, .int (a - (Int8.ofInt 65).toInt32), v5, v6] [.int 1] h2 x := fun x q => am_ev.step (pc' := 53) (ls' := [.ref 78, .int n, .int s, .int i, .int (a - (Int8.ofInt 65).toInt32), v5, v6]) (st' := []) (h' := h2) rfl rfl q
      by_cases hb : (s >>> ((a - (Int8.ofInt 65).toInt32) &&& 31)) &&& 1 = (1 : Int32)
      · refine ⟨_, head _ (to53 _ ?_), g0 h2 E3⟩
        refine am_ev.step rfl rfl ?_
        refine am_ev.step rfl rfl ?_
        refine am_ev.step rfl rfl ?_
        refine am_ev.step rfl rfl ?_
        refine am_ev.step rfl rfl ?_
        refine am_ev.step rfl rfl ?_
        exact am_ev.step (pc' := 63) (ls' := [.ref 78, .int n, .int s, .int i, .int (a - (Int8.ofInt 65).toInt32), v5, v6]) (st' := []) (h' := h2) rfl (if_pos hb) (bad h2 _)
      · obtain ⟨x, ev, gx⟩ := ih (j + 1) (i + Int32.ofInt 1) (s ||| ((1 : Int32) <<< ((a - (Int8.ofInt 65).toInt32) &&& 31))) (.int (a - (Int8.ofInt 65).toInt32)) v5 v6 h2 (by omega) (hd_inc ei (by omega)) E3 (fun i' hi' => by
          by_cases e : i' = j
          · subst e
            refine ⟨a, ?_, by omega, by omega⟩
            rw [← E.v I (by decide)]
            exact ea
          · exact ok i' (by omega))
        refine ⟨x, head _ (to53 _ ?_), gx⟩
        refine am_ev.step rfl rfl ?_
        refine am_ev.step rfl rfl ?_
        refine am_ev.step rfl rfl ?_
        refine am_ev.step rfl rfl ?_
        refine am_ev.step rfl rfl ?_
        refine am_ev.step rfl rfl ?_
        refine am_ev.step (pc' := 65) (ls' := [.ref 78, .int n, .int s, .int i, .int (a - (Int8.ofInt 65).toInt32), v5, v6]) (st' := []) (h' := h2) rfl (if_neg hb) ?_
        refine am_ev.step rfl rfl ?_
        refine am_ev.step rfl rfl ?_
        refine am_ev.step rfl rfl ?_
        refine am_ev.step rfl rfl ?_
        refine am_ev.step rfl rfl ?_
        refine am_ev.step rfl rfl ?_
        refine am_ev.step rfl rfl ?_
        exact am_ev.step rfl rfl ev
end
section
/-! BY HAND, 8: lay, all of it -/
def cq_z247 : cq_Z := (247, 78, [cq_rc 78, cq_i (cq_s 1), cq_u, cq_u, cq_u, cq_u, cq_u], [], [], 7, ct_247m.2.2.1)
theorem ex_247m : cq_exec (cq_nxa cq_tpZ (cq_nx ct_247m.2.2.2.1 (cq_ckx ct_247m) (cq_cl0 ct_247m.2.2.2.1 (cq_ckx ct_247m) tb_247m))) lp_247m 247 100000 [] cq_z247 = true := by decide +kernel
/-- lay behind its first loop -/
theorem hd_lay2 {h : am_H} {n k : Int32} {d : Nat} (I : cq_Inv none h) (hn : 1 ≤ n.toInt ∧ n.toInt ≤ 14) (h53 : h.2.2.2 78 53 = .int k) (hk : 0 ≤ k.toInt ∧ k.toInt ≤ 14) (hd : 7 ≤ d) (V : hd_V h n.toInt k.toInt) (a b c e f : Value) : ∃ (r : Int32) (h' : am_H), am_ev d 247 78 [.ref 78, .int n, a, b, c, e, f] [] h (some (.int r), h') ∧ cq_Inv none h' ∧ cq_Fr ct_247m.2.2.2.1 h h' ∧ h'.1 ≤ h.1 ∧ h'.2.1 ≤ h.2.1 := by
  let ρ : Nat → Int := fun s => match s with
    | 0 => k.toInt
    | _ => n.toInt
  have M0 : cq_Md ct_247m.2.2.2.1 h ρ ct_247m.2.2.1 h := by
    refine cq_Md_p ⟨fun b hb => ?_, fun _ z => (by cases z)⟩ (fun e he => ?_) (fun _ z => (by cases z)) I
    · simp only [List.mem_cons, List.not_mem_nil, or_false] at hb
      rcases hb with rfl | rfl
      · exact hk
      · exact hn
    · rw [List.mem_singleton.1 he]
      exact ⟨k, h53, (cq_s_e ρ 0).symm⟩
  have NX := cq_nxa_ok (cq_tpZ_ok (m := ct_247m.2.2.2.1) (h0 := h) (ρ0 := ρ) (by decide +kernel) I.lo V hk.2) (cq_NX_of (c := ct_247m) (ρ := ρ) wf_247m (tk_247m h I))
  have w1 := (Bool.and_eq_true _ _ ▸ wf_247m)
  have w0 := (Bool.and_eq_true _ _ ▸ w1.1)
  have w2 := (Bool.and_eq_true _ _ ▸ w0.1)
  have G := cq_exec_ok (Fin := cq_Fin ct_247m h ρ) (n0 := 2) (ρ0 := ρ) (fun a hn hq H hd K => NX _ _ _ _ _ _ _ _ a hn hq H hd K) 100000 [] cq_z247 ρ [.ref 78, .int n, a, b, c, e, f] [] h [] d ex_247m cq_ag.rf (Nat.le_refl _) (fun ρ' a' => ⟨cq_wf_ag w2.1 a' M0, ⟨rfl, ⟨n, rfl, by rw [cq_s_e, a' 1 (by decide)]; rfl⟩, trivial, trivial, trivial, trivial, trivial, trivial⟩, trivial, trivial⟩) hd (fun R hR => by cases hR)
  obtain ⟨⟨r, h'⟩, ev, x, hx, ρ', a', Mx, hr⟩ := G
  have hx := List.mem_singleton.1 hx
  subst hx
  rcases hr with ⟨q1, q2, q3⟩ | ⟨q1, -⟩
  · cases r with
    | none => exact q3.elim
    | some w =>
      obtain ⟨v, e1, e2⟩ := q3.1
      subst e1
      exact ⟨v, h', ev, Mx.I, Mx.F, Mx.A⟩
  · cases q1
def cq_ck28 (Z : cq_Z) : Bool := match Z with
  | (_, _, [(5, _, k), (1, fn, _), (1, _, _), (1, f3, _), _, _, _], [], [], db, S) => Nat.beq k 78 && cq_inE S.P fn 1 14 && cq_fe f3 (cq_c 0) && S.U.isNone && Nat.beq S.ac 0 && Nat.beq S.al 0 && Nat.ble 7 db && (match cq_tl (false, 78) (cq_c 2) S.T with
      | some (1, f0, _) => cq_fe f0 (cq_c 0)
      | _ => false)
  | _ => false
theorem ok_247 : cq_CT 247 ct_247 := by
  refine cq_methN (f := 100000) (nx := cq_nxo 247 28 cq_ck28 (cq_nx ct_247.2.2.2.1 (cq_ckx ct_247) (cq_cl0 ct_247.2.2.2.1 (cq_ckx ct_247) cq_t0))) (lps := fun _ => none) wf_247 (by decide +kernel) (fun h ρ as M g => cq_nxo_ok ?_ (cq_NX_of wf_247 (cq_t0_ok h (cq_Inv0 wf_247 M)))) (by decide +kernel)
  intro Z ρ1 ls st h2 d a hn hc R hd
  obtain ⟨y, pc, als, ast, fr, db, S⟩ := Z
  unfold cq_ck28 at hc
  split at hc
  · rename_i y' pc' ff k fn kk f2 kk2 f3 kk3 v4 v5 v6 db' S' heq
    cases heq
    have c0 := (Bool.and_eq_true _ _ ▸ hc)
    have c1 := (Bool.and_eq_true _ _ ▸ c0.1)
    have c2 := (Bool.and_eq_true _ _ ▸ c1.1)
    have c3 := (Bool.and_eq_true _ _ ▸ c2.1)
    have c4 := (Bool.and_eq_true _ _ ▸ c3.1)
    have c5 := (Bool.and_eq_true _ _ ▸ c4.1)
    have c6 := (Bool.and_eq_true _ _ ▸ c5.1)
    obtain ⟨D, g1, g2, -⟩ := R ρ1 cq_ag.rf
    dsimp only at D g1 g2
    obtain ⟨u0, r0, e0, G0, g1⟩ := cq_gs_cons g1
    obtain ⟨u1, r1, e1, G1, g1⟩ := cq_gs_cons g1
    obtain ⟨u2, r2, e2, G2, g1⟩ := cq_gs_cons g1
    obtain ⟨u3, r3, e3, G3, g1⟩ := cq_gs_cons g1
    obtain ⟨u4, r4, e4, G4, g1⟩ := cq_gs_cons g1
    obtain ⟨u5, r5, e5, G5, g1⟩ := cq_gs_cons g1
    obtain ⟨u6, r6, e6, G6, g1⟩ := cq_gs_cons g1
    have e7 := cq_gs_nil g1
    have e8 := cq_gs_nil g2
    subst e0 e1 e2 e3 e4 e5 e6 e7 e8
    have G0 : u0 = .ref k := G0
    rw [am_beq c6.1] at G0
    obtain ⟨n, en, hn1⟩ := G1
    obtain ⟨s, es, -⟩ := G2
    obtain ⟨i, ei, hi⟩ := G3
    subst G0 en es ei
    have bn := cq_inE_ok D.P c6.2
    rw [cq_fe_ok c5.2, cq_c_e] at hi
    have I : cq_Inv none h2 := by
      have I := D.I
      rw [Option.isNone_iff_eq_none.1 c4.2] at I
      exact I
    have A := D.A
    rw [am_beq c3.2, am_beq c2.2] at A
    have hd7 := Nat.le_of_ble_eq_true c1.2
    dsimp only at hd
    obtain ⟨kk, h53, k1, k2⟩ := cq_i78 I (b := 53) 0 14 (by decide +kernel) (by decide +kernel)
    have z2 := c0.2
    split at z2
    case h_2 => cases z2
    rename_i f02 k02 h02
    have t02 := D.T _ (cq_tl_ok h02)
    obtain ⟨x02, ex02, hx02⟩ := t02
    have ex02 : h2.2.2.2 78 (cq_e ρ1 (cq_c 2)).toNat = .int x02 := ex02
    rw [cq_c_e] at ex02
    have ex02 : h2.2.2.2 78 2 = .int x02 := ex02
    rw [cq_fe_ok z2, cq_c_e] at hx02
    cases d with
    | zero => omega
    | succ d =>
      refine hd_lay (n := n) (k := kk) (d := d) (G := cq_Fin ct_247 h ρ) I (by omega) h53 ⟨k1, k2⟩ (by omega) (fun h1 E => ?_) (fun h1 E V a b c e f => ?_) n.toInt.toNat 0 i s u4 u5 u6 h2 (by omega) (by rw [hi]; rfl) (hd_E.rf I) (fun i' hi' => by omega)
      · refine ⟨_, List.mem_cons_self, fun _ => -1, fun s hs => (by cases hs), cq_Md_t ⟨fun b hb => ?_, fun _ z => (by cases z)⟩ (fun e he => by rw [List.mem_singleton.1 he]; exact ⟨x02, (E.v I (by decide) 2).trans ex02, by rw [hx02]; exact (cq_c_e _ 0).symm⟩) E.1 (cq_Fr_tr D.F E.2.1 (fun _ z => by cases z)) ⟨Nat.le_trans E.2.2.1 A.1, Nat.le_trans E.2.2.2 A.2⟩, Or.inl ⟨rfl, rfl, ⟨-1, rfl, ?_⟩, trivial⟩⟩
        · rw [List.mem_singleton.1 hb]
          exact ⟨by show (-2147483648 : Int) ≤ -1; omega, by show (-1 : Int) ≤ 2147483647; omega⟩
        · rw [show cq_e (fun _ => (-1 : Int)) ((0, [(0, 1)]) : cq_F) = -1 from cq_s_e _ 0]
          decide
      · have V1 : hd_V h1 n.toInt kk.toInt := fun i hi => by
          obtain ⟨x, ex, hx⟩ := V i hi
          exact ⟨x, by rw [E.v I (by decide)]; exact ex, hx⟩
        obtain ⟨r, h', ev, I', F', A1, A2⟩ := hd_lay2 (n := n) (k := kk) (d := d + 1) E.1 (by omega) (by rw [E.v I (by decide)]; exact h53) ⟨k1, k2⟩ (by omega) V1 a b c e f
        refine ⟨_, ev, _, List.mem_cons_self, fun _ => r.toInt, fun s hs => (by cases hs), cq_Md_t ⟨fun b hb => ?_, fun _ z => (by cases z)⟩ (fun e he => by rw [List.mem_singleton.1 he]; exact ⟨x02, (F'.vl 78 (by have := E.1.lo; omega) 2 rfl).trans ((E.v I (by decide) 2).trans ex02), by rw [hx02]; exact (cq_c_e _ 0).symm⟩) I' (cq_Fr_tr (cq_Fr_tr D.F E.2.1 (fun _ z => by cases z)) F' (cq_sub1_ok (by decide +kernel))) ⟨by have := E.2.2.1; have := A.1; show h'.1 ≤ h.1 + 0; omega, by have := E.2.2.2; have := A.2; show h'.2.1 ≤ h.2.1 + 0; omega⟩, Or.inl ⟨rfl, rfl, ⟨r, rfl, ?_⟩, trivial⟩⟩
        · rw [List.mem_singleton.1 hb]
          have z1 := r.le_toInt
          have z2 := r.toInt_lt
          exact ⟨by show (-2147483648 : Int) ≤ r.toInt; omega, by show r.toInt ≤ 2147483647; omega⟩
        · rw [show cq_e (fun _ => r.toInt) ((0, [(0, 1)]) : cq_F) = r.toInt from cq_s_e _ 0]
  · cases hc
end
section
/-! CONTRACTS: 189p 189 -/
def ct_189p : cq_Ct := (4, [(5, (0, []), 78), (1, (0, [(0, 1)]), 0)], cq_mk 1 ([(0, (-2147483648), 2147483647)], []) [] [] [] [] [] [] none 0 0, [(false, 78, 10, 0), (false, 78, 3, 0), (false, 78, 4, 0), (false, 78, 5, 0), (false, 78, 6, 0), (false, 78, 7, 0), (false, 78, 8, 0), (false, 78, 9, 0), (false, 93, 0, 0), (false, 94, 0, 0), (false, 95, 0, 0), (false, 96, 0, 0), (false, 97, 0, 0)], [(false, [(1, (0, [(1, 1)]), 0)], cq_mk 2 ([(1, (-3), (-1))], []) [] [] [] [] [] [] none 0 0)])
theorem wf_189p : cq_wfC ct_189p = true := by decide +kernel
def lp_189p (pc : Nat) : Option (Option (Nat × Nat) × cq_Lp) := bif Nat.beq pc 68 then some (none, ([], [3, 4], [], [], (0, true), [])) else bif Nat.beq pc 140 then some (none, ([], [4], [], [], (0, true), [])) else none
def tb_189p : Nat → Option cq_Ct := (cq_tc 170 ct_170 (cq_tc 190 ct_190 cq_t0))
theorem tk_189p : ∀ h, cq_Inv none h → cq_TK ct_189p.2.2.2.1 h tb_189p := (cq_tc_ok wf_170 ok_170 (cq_tc_ok wf_190 ok_190 cq_t0_ok))
def ct_189 : cq_Ct := (4, [(5, (0, []), 78), (1, (0, [(0, 1)]), 0)], cq_mk 1 ([(0, (-2147483648), 2147483647)], []) [] [] [] [] [] [] none 0 0, [(false, 78, 10, 0), (false, 78, 3, 0), (false, 78, 4, 0), (false, 78, 5, 0), (false, 78, 6, 0), (false, 78, 7, 0), (false, 78, 8, 0), (false, 78, 9, 0), (false, 92, 0, 0), (false, 93, 0, 0), (false, 94, 0, 0), (false, 95, 0, 0), (false, 96, 0, 0), (false, 97, 0, 0)], [(false, [(1, (0, [(1, 1)]), 0)], cq_mk 2 ([(1, (-2147483648), 2147483647)], []) [] [] [] [((false, 78), (2, []), (1, (0, []), 0))] [] [] none 0 0)])
theorem wf_189 : cq_wfC ct_189 = true := by decide +kernel
end
section
/-! BY HAND, 9: edition, where the text is laid to its place -/
theorem hd_toA {a b : Int32} (h1 : -2000000 ≤ a.toInt) (h2 : a.toInt ≤ 2000000) (h3 : -2000000 ≤ b.toInt) (h4 : b.toInt ≤ 2000000) : (a + b).toInt = a.toInt + b.toInt := by
  rw [Int32.toInt_add, Int.bmod_eq_of_le (by omega) (by omega)]
theorem hd_toM {a b : Int32} {c : Int} (e : a.toInt * b.toInt = c) (h1 : -2000000 ≤ c) (h2 : c ≤ 2000000) : (a * b).toInt = c := by
  rw [Int32.toInt_mul, e, Int.bmod_eq_of_le (by omega) (by omega)]
/-- lineAt and textAt -/
theorem hd_191 {d : Nat} {h : am_H} {a b : Int32} : am_ev d 191 0 (am_ent [.int a, .int b] (am_in 191).2.2.1) [] h (some (.int ((Int8.ofInt 30).toInt32 * a + b)), h) := by
  refine am_ev.step rfl rfl ?_
  refine am_ev.step rfl rfl ?_
  refine am_ev.step rfl rfl ?_
  refine am_ev.step rfl rfl ?_
  refine am_ev.step rfl rfl ?_
  exact am_ev.reti rfl rfl rfl
theorem hd_194 {d : Nat} {h : am_H} {a b : Int32} : am_ev d 194 0 (am_ent [.int a, .int b] (am_in 194).2.2.1) [] h (some (.int (Int32.ofInt 3 * a + b)), h) := by
  refine am_ev.step rfl rfl ?_
  refine am_ev.step rfl rfl ?_
  refine am_ev.step rfl rfl ?_
  refine am_ev.step rfl rfl ?_
  refine am_ev.step rfl rfl ?_
  exact am_ev.reti rfl rfl rfl
theorem hd_l30 {a b : Int32} (h1 : 0 ≤ a.toInt) (h2 : a.toInt ≤ 1000) (h3 : 0 ≤ b.toInt) (h4 : b.toInt ≤ 1000) : ((Int8.ofInt 30).toInt32 * a + b).toInt = 30 * a.toInt + b.toInt := by
  have e : ((Int8.ofInt 30).toInt32 * a).toInt = 30 * a.toInt := hd_toM (by rw [show ((Int8.ofInt 30).toInt32).toInt = 30 by decide]) (by omega) (by omega)
  rw [hd_toA (by omega) (by omega) (by omega) (by omega), e]
theorem hd_l3 {a b : Int32} (h1 : 0 ≤ a.toInt) (h2 : a.toInt ≤ 1000) (h3 : 0 ≤ b.toInt) (h4 : b.toInt ≤ 1000) : (Int32.ofInt 3 * a + b).toInt = 3 * a.toInt + b.toInt := by
  have e : (Int32.ofInt 3 * a).toInt = 3 * a.toInt := hd_toM (by rw [show (Int32.ofInt 3).toInt = 3 by decide]) (by omega) (by omega)
  rw [hd_toA (by omega) (by omega) (by omega) (by omega), e]
theorem hd_l8 {a b : Int32} (h1 : 0 ≤ a.toInt) (h2 : a.toInt ≤ 10000) (h3 : 0 ≤ b.toInt) (h4 : b.toInt ≤ 1000) : ((Int8.ofInt 8).toInt32 * a + b).toInt = 8 * a.toInt + b.toInt := by
  have e : ((Int8.ofInt 8).toInt32 * a).toInt = 8 * a.toInt := hd_toM (by rw [show ((Int8.ofInt 8).toInt32).toInt = 8 by decide]) (by omega) (by omega)
  rw [hd_toA (by omega) (by omega) (by omega) (by omega), e]
/-- reading and writing, by shapes alone -/
theorem hd_rdS {h : am_H} {c tc ln : Nat} {i : Int32} {ok : Nat → Bool} (hl : c < h.1) (hs : h.2.2.1 c = (1, tc, ln)) (ht : ok tc = true) (i0 : 0 ≤ i.toInt) (i1 : i.toInt < (ln : Int)) : am_rd h c i ok = some (h.2.2.2 c i.toInt.toNat) := by
  unfold am_rd
  rw [hs, ht, show Nat.blt c h.1 = true from Nat.ble_eq_true_of_le hl]
  simp only [Nat.beq_refl, Bool.true_or, Bool.and_self, cond_true]
  have e : i.toNatClampNeg = i.toInt.toNat := rfl
  rw [if_neg]
  · rw [e]
  · rintro (z | z)
    · have := Int32.lt_iff_toInt_lt.1 z
      have e0 : (0 : Int32).toInt = 0 := by decide
      omega
    · rw [e] at z
      omega
theorem hd_wrS {h : am_H} {c tc ln : Nat} {i : Int32} {v : Value} (hl : c < h.1) (hs : h.2.2.1 c = (1, tc, ln)) (i0 : 0 ≤ i.toInt) (i1 : i.toInt < (ln : Int)) : am_wr h c i tc v = some (am_put h c i.toInt.toNat v) := by
  unfold am_wr
  rw [hs, show Nat.blt c h.1 = true from Nat.ble_eq_true_of_le hl]
  simp only [Nat.beq_refl, Bool.and_self, cond_true]
  have e : i.toNatClampNeg = i.toInt.toNat := rfl
  rw [if_neg]
  · rw [e]
  · rintro (z | z)
    · have := Int32.lt_iff_toInt_lt.1 z
      have e0 : (0 : Int32).toInt = 0 := by decide
      omega
    · rw [e] at z
      omega
theorem hd_is {l b w pc z : Nat} {t : Int} {ls r : List Value} {h h' : am_H} {x i : Int32} {a : Nat} (hr : am_wr h a i 0 (.int x) = some h') : am_st (.iastore, l, t, z, b, w) pc ls (.int x :: .int i :: .ref a :: r) h = some (pc + 1, ls, r, h') := by
  dsimp only [am_st]
  rw [hr]
theorem hd_bs {l b w pc z : Nat} {t : Int} {ls r : List Value} {h h' : am_H} {x i : Int32} {a : Nat} (h2 : Nat.beq (h.2.2.1 a).2.1 1 = false) (hr : am_wr h a i 2 (.int (x &&& 1)) = some h') : am_st (.bastore, l, t, z, b, w) pc ls (.int x :: .int i :: .ref a :: r) h = some (pc + 1, ls, r, h') := by
  dsimp only [am_st]
  rw [h2]
  simp only [cond_false]
  rw [hr]
theorem hd_la {l b w pc z : Nat} {t : Int} {ls r : List Value} {h : am_H} {v : Value} {a : Nat} {i : Int32} (hr : am_rd h a i (fun c => Nat.beq c 3) = some v) : am_st (.laload, l, t, z, b, w) pc ls (.int i :: .ref a :: r) h = some (pc + 1, ls, v :: r, h) := by
  dsimp only [am_st]
  rw [hr]
theorem hd_lss {l b w pc z : Nat} {t : Int} {ls r : List Value} {h h' : am_H} {x : Int64} {i : Int32} {a : Nat} (hr : am_wr h a i 3 (.long x) = some h') : am_st (.lastore, l, t, z, b, w) pc ls (.long x :: .int i :: .ref a :: r) h = some (pc + 1, ls, r, h') := by
  dsimp only [am_st]
  rw [hr]
theorem hd_pv {h : am_H} {c j c' j' : Nat} {v : Value} (n : ¬ (c' = c ∧ j' = j)) : (am_put h c j v).2.2.2 c' j' = h.2.2.2 c' j' := by
  show (if c' = c then (if j' = j then v else h.2.2.2 c' j') else h.2.2.2 c' j') = _
  by_cases e : c' = c
  · rw [if_pos e]
    by_cases e2 : j' = j
    · exact absurd ⟨e, e2⟩ n
    · rw [if_neg e2]
  · rw [if_neg e]
theorem hd_pe {h : am_H} {c j : Nat} {v : Value} : (am_put h c j v).2.2.2 c j = v := by
  show (if c = c then (if j = j then v else h.2.2.2 c j) else h.2.2.2 c j) = _
  rw [if_pos rfl, if_pos rfl]
/-- a heap while a text is laid to its place t -/
def hd_T (hB hc : am_H) (t : Nat) : Prop := (hc.1 = hB.1 ∧ hc.2.1 = hB.2.1 ∧ hc.2.2.1 = hB.2.2.1)
  ∧ (∀ c j, (c < 93 ∨ 97 < c) → hc.2.2.2 c j = hB.2.2.2 c j)
  ∧ (∀ j, j ≠ t → hc.2.2.2 93 j = hB.2.2.2 93 j)
  ∧ (∀ j, j < 3630 → ∃ x : Int32, hc.2.2.2 94 j = .int x ∧ 0 ≤ x.toInt ∧ x.toInt ≤ 8)
  ∧ (∀ j, j < 29040 → ∃ x : Int64, hc.2.2.2 95 j = .long x)
  ∧ ((∀ j, j < 3630 → ∃ x : Int32, hc.2.2.2 96 j = .int x ∧ 0 ≤ x.toInt ∧ x.toInt ≤ 1) ∧ (∀ j, j < 30 * t ∨ 30 * t + 30 ≤ j → hc.2.2.2 96 j = hB.2.2.2 96 j))
  ∧ (∀ j, j < 3630 → ∃ x : Int32, hc.2.2.2 97 j = .int x ∧ 0 ≤ x.toInt ∧ x.toInt ≤ 1)
section HDT
variable {hB hc : am_H} {t : Nat}
theorem hd_T.sh (T : hd_T hB hc t) (I : cq_Inv none hB) {c tc ln : Nat} (h1 : 40 ≤ c) (h2 : c < 130) (e : cq_fix c = (1, tc, ln)) : c < hc.1 ∧ hc.2.2.1 c = (1, tc, ln) := by
  refine ⟨by rw [T.1.1]; exact Nat.lt_of_lt_of_le h2 I.lo, ?_⟩
  rw [T.1.2.2, I.fx c h1 h2, e]
theorem hd_T.o (T : hd_T hB hc t) (I : cq_Inv none hB) : am_isO hc 78 13 = true := by
  have o := cq_o78 I
  unfold am_isO at o ⊢
  rw [T.1.1, T.1.2.2]
  exact o
theorem hd_T.f (T : hd_T hB hc t) {b k : Nat} (e : hB.2.2.2 78 b = .ref k) : hc.2.2.2 78 b = .ref k := by
  rw [T.2.1 78 b (by omega)]
  exact e
theorem hd_T.p94 (T : hd_T hB hc t) {j : Nat} {x : Int32} (h0 : 0 ≤ x.toInt) (h1 : x.toInt ≤ 8) : hd_T hB (am_put hc 94 j (.int x)) t := by
  obtain ⟨a1, a2, a3, a4, a5, ⟨a6, a7⟩, a8⟩ := T
  refine ⟨a1, fun c j' hc => by rw [hd_pv (by omega)]; exact a2 c j' hc, fun j' hj => by rw [hd_pv (by omega)]; exact a3 j' hj, fun j' hj => ?_, fun j' hj => by rw [hd_pv (by omega)]; exact a5 j' hj, ⟨fun j' hj => by rw [hd_pv (by omega)]; exact a6 j' hj, fun j' hj => by rw [hd_pv (by omega)]; exact a7 j' hj⟩, fun j' hj => by rw [hd_pv (by omega)]; exact a8 j' hj⟩
  by_cases e : j' = j
  · subst e
    exact ⟨x, hd_pe, h0, h1⟩
  · rw [hd_pv (by omega)]
    exact a4 j' hj
theorem hd_T.p95 (T : hd_T hB hc t) {j : Nat} {x : Int64} : hd_T hB (am_put hc 95 j (.long x)) t := by
  obtain ⟨a1, a2, a3, a4, a5, ⟨a6, a7⟩, a8⟩ := T
  refine ⟨a1, fun c j' hc => by rw [hd_pv (by omega)]; exact a2 c j' hc, fun j' hj => by rw [hd_pv (by omega)]; exact a3 j' hj, fun j' hj => by rw [hd_pv (by omega)]; exact a4 j' hj, fun j' hj => ?_, ⟨fun j' hj => by rw [hd_pv (by omega)]; exact a6 j' hj, fun j' hj => by rw [hd_pv (by omega)]; exact a7 j' hj⟩, fun j' hj => by rw [hd_pv (by omega)]; exact a8 j' hj⟩
  by_cases e : j' = j
  · subst e
    exact ⟨x, hd_pe⟩
  · rw [hd_pv (by omega)]
    exact a5 j' hj
theorem hd_T.p96 (T : hd_T hB hc t) {j : Nat} {x : Int32} (h0 : 0 ≤ x.toInt) (h1 : x.toInt ≤ 1) (j0 : 30 * t ≤ j) (j1 : j < 30 * t + 30) : hd_T hB (am_put hc 96 j (.int x)) t := by
  obtain ⟨a1, a2, a3, a4, a5, ⟨a6, a7⟩, a8⟩ := T
  refine ⟨a1, fun c j' hc => by rw [hd_pv (by omega)]; exact a2 c j' hc, fun j' hj => by rw [hd_pv (by omega)]; exact a3 j' hj, fun j' hj => by rw [hd_pv (by omega)]; exact a4 j' hj, fun j' hj => by rw [hd_pv (by omega)]; exact a5 j' hj, ⟨fun j' hj => ?_, fun j' hj => by rw [hd_pv (by omega)]; exact a7 j' hj⟩, fun j' hj => by rw [hd_pv (by omega)]; exact a8 j' hj⟩
  by_cases e : j' = j
  · subst e
    exact ⟨x, hd_pe, h0, h1⟩
  · rw [hd_pv (by omega)]
    exact a6 j' hj
theorem hd_T.p97 (T : hd_T hB hc t) {j : Nat} {x : Int32} (h0 : 0 ≤ x.toInt) (h1 : x.toInt ≤ 1) : hd_T hB (am_put hc 97 j (.int x)) t := by
  obtain ⟨a1, a2, a3, a4, a5, ⟨a6, a7⟩, a8⟩ := T
  refine ⟨a1, fun c j' hc => by rw [hd_pv (by omega)]; exact a2 c j' hc, fun j' hj => by rw [hd_pv (by omega)]; exact a3 j' hj, fun j' hj => by rw [hd_pv (by omega)]; exact a4 j' hj, fun j' hj => by rw [hd_pv (by omega)]; exact a5 j' hj, ⟨fun j' hj => by rw [hd_pv (by omega)]; exact a6 j' hj, fun j' hj => by rw [hd_pv (by omega)]; exact a7 j' hj⟩, fun j' hj => ?_⟩
  by_cases e : j' = j
  · subst e
    exact ⟨x, hd_pe, h0, h1⟩
  · rw [hd_pv (by omega)]
    exact a8 j' hj
end HDT
theorem hd_c1 {x : Int32} (h0 : 0 ≤ x.toInt) (h1 : x.toInt ≤ 1) : x &&& 1 = x := by
  rcases (show x.toInt = 0 ∨ x.toInt = 1 by omega) with z | z
  · rw [Int32.toInt_inj.1 (show x.toInt = (0 : Int32).toInt by rw [z]; decide)]; decide
  · rw [Int32.toInt_inj.1 (show x.toInt = (1 : Int32).toInt by rw [z]; decide)]; decide
theorem hd_k8 {k : Nat} (hk : k < 8) : ¬ ((8 : Int32) ≤ Int32.ofNat k) ∧ Int32.ofNat k + Int32.ofInt 1 = Int32.ofNat (k + 1) ∧ (Int32.ofNat k).toInt = k := by
  rcases (show k = 0 ∨ k = 1 ∨ k = 2 ∨ k = 3 ∨ k = 4 ∨ k = 5 ∨ k = 6 ∨ k = 7 by omega) with z | z | z | z | z | z | z | z <;> subst z <;> decide
section HDU
variable {hB : am_H} {t : Nat} {p tt : Int32} {d : Nat}
/-- the fields that are read -/
def hd_F (hB : am_H) : Prop := hB.2.2.2 78 23 = .ref 92 ∧ hB.2.2.2 78 24 = .ref 93 ∧ hB.2.2.2 78 25 = .ref 94 ∧ hB.2.2.2 78 26 = .ref 95 ∧ hB.2.2.2 78 27 = .ref 96 ∧ hB.2.2.2 78 28 = .ref 97
theorem hd_F_ok (I : cq_Inv none hB) : hd_F hB := by
  refine ⟨?_, ?_, ?_, ?_, ?_, ?_⟩
  · have z := cq_t78 I (b := 23) (by decide +kernel)
    rw [show cq_cl 13 23 = (3, 0, 0, 92, 0, 0) by decide +kernel] at z
    exact z
  · have z := cq_t78 I (b := 24) (by decide +kernel)
    rw [show cq_cl 13 24 = (3, 0, 0, 93, 0, 0) by decide +kernel] at z
    exact z
  · have z := cq_t78 I (b := 25) (by decide +kernel)
    rw [show cq_cl 13 25 = (3, 0, 0, 94, 0, 0) by decide +kernel] at z
    exact z
  · have z := cq_t78 I (b := 26) (by decide +kernel)
    rw [show cq_cl 13 26 = (3, 0, 0, 95, 0, 0) by decide +kernel] at z
    exact z
  · have z := cq_t78 I (b := 27) (by decide +kernel)
    rw [show cq_cl 13 27 = (3, 0, 0, 96, 0, 0) by decide +kernel] at z
    exact z
  · have z := cq_t78 I (b := 28) (by decide +kernel)
    rw [show cq_cl 13 28 = (3, 0, 0, 97, 0, 0) by decide +kernel] at z
    exact z
/-- the words of a line -/
theorem hd_words (I : cq_Inv none hB) (htt : tt.toInt = t) (t1 : t < 120) {i : Int32} (i0 : 0 ≤ i.toInt) (i1 : i.toInt < 30) : ∀ n k : Nat, n + k = 8 → ∀ hc, hd_T hB hc t → ∃ hc', hd_T hB hc' t ∧ hc'.2.2.2 93 t = hc.2.2.2 93 t ∧ hc'.2.2.2 96 (30 * t) = hc.2.2.2 96 (30 * t) ∧ ∀ x, am_ev (d + 1) 189 186 [.ref 78, .int p, .int tt, .int i, .int (Int32.ofNat 8)] [] hc' x → am_ev (d + 1) 189 140 [.ref 78, .int p, .int tt, .int i, .int (Int32.ofNat k)] [] hc x := by
  intro n
  induction n with
  | zero =>
    intro k hk hc T
    have : k = 8 := by omega
    subst this
    refine ⟨hc, T, rfl, rfl, fun x q => ?_⟩
    refine am_ev.step rfl rfl ?_
    refine am_ev.step rfl rfl ?_
    exact am_ev.step (pc' := 186) (ls' := [.ref 78, .int p, .int tt, .int i, .int (Int32.ofNat 8)]) (st' := []) (h' := hc) rfl rfl q
  | succ n ih =>
    intro k hk hc T
    obtain ⟨f1, f2, f3⟩ := hd_k8 (show k < 8 by omega)
    have F := hd_F_ok I
    have O := T.o I
    have g26 := T.f F.2.2.2.1
    obtain ⟨s1, s2⟩ := T.sh I (c := 95) (tc := 3) (ln := 29040) (by decide) (by decide) (by decide +kernel)
    have x1 : ((Int8.ofInt 30).toInt32 * tt + i).toInt = 30 * tt.toInt + i.toInt := hd_l30 (by omega) (by omega) i0 (by omega)
    have y1 : ((Int8.ofInt 8).toInt32 * ((Int8.ofInt 30).toInt32 * tt + i) + Int32.ofNat k).toInt = 8 * (30 * tt.toInt + i.toInt) + k := by rw [hd_l8 (by omega) (by omega) (by omega) (by omega), x1, f3]
    have x2 : ((Int8.ofInt 30).toInt32 * (Int8.ofInt 120).toInt32 + i).toInt = 30 * 120 + i.toInt := by
      rw [hd_l30 (by decide) (by decide) i0 (by omega), show ((Int8.ofInt 120).toInt32).toInt = 120 by decide]
    have y2 : ((Int8.ofInt 8).toInt32 * ((Int8.ofInt 30).toInt32 * (Int8.ofInt 120).toInt32 + i) + Int32.ofNat k).toInt = 8 * (30 * 120 + i.toInt) + k := by rw [hd_l8 (by omega) (by omega) (by omega) (by omega), x2, f3]
    obtain ⟨v, ev⟩ := T.2.2.2.2.1 (8 * (30 * 120 + i.toInt) + (k : Int)).toNat (by omega)
    have rd : am_rd hc 95 ((Int8.ofInt 8).toInt32 * ((Int8.ofInt 30).toInt32 * (Int8.ofInt 120).toInt32 + i) + Int32.ofNat k) (fun c => Nat.beq c 3) = some (.long v) := by
      rw [hd_rdS s1 s2 (by decide) (by omega) (by omega), y2, ev]
    have wr := hd_wrS (v := .long v) s1 s2 (i := (Int8.ofInt 8).toInt32 * ((Int8.ofInt 30).toInt32 * tt + i) + Int32.ofNat k) (by omega) (by omega)
    obtain ⟨hc', T', q1, q2, Q⟩ := ih (k + 1) (by omega) _ (T.p95 (j := ((Int8.ofInt 8).toInt32 * ((Int8.ofInt 30).toInt32 * tt + i) + Int32.ofNat k).toInt.toNat) (x := v))
    rw [hd_pv (by omega)] at q1 q2
    refine ⟨hc', T', q1, q2, fun x q => ?_⟩
    refine am_ev.step rfl rfl ?_
    refine am_ev.step rfl rfl ?_
    refine am_ev.step (pc' := 147) (ls' := [.ref 78, .int p, .int tt, .int i, .int (Int32.ofNat k)]) (st' := []) (h' := hc) rfl (if_neg f1) ?_
    refine am_ev.step rfl rfl ?_
    refine am_ev.step rfl (hd_gf O g26) ?_
    refine am_ev.step rfl rfl ?_
    refine am_ev.step rfl rfl ?_
    refine am_ev.step rfl rfl ?_
    refine hd_cv 191 (as := [.int tt, .int i]) (rr := [.int (Int8.ofInt 8).toInt32, .ref 95]) rfl (Or.inl ⟨_, rfl⟩) rfl (by decide) rfl rfl (Nat.le_of_ble_eq_true rfl) rfl (Nat.le_of_ble_eq_true rfl) hd_191 ?_
    refine am_ev.step rfl rfl ?_
    refine am_ev.step rfl rfl ?_
    refine am_ev.step rfl rfl ?_
    refine am_ev.step rfl rfl ?_
    refine am_ev.step rfl (hd_gf O g26) ?_
    refine am_ev.step rfl rfl ?_
    refine am_ev.step rfl rfl ?_
    refine am_ev.step rfl rfl ?_
    refine hd_cv 191 (as := [.int (Int8.ofInt 120).toInt32, .int i]) (rr := [.int (Int8.ofInt 8).toInt32, .ref 95, .int ((Int8.ofInt 8).toInt32 * ((Int8.ofInt 30).toInt32 * tt + i) + Int32.ofNat k), .ref 95]) rfl (Or.inl ⟨_, rfl⟩) rfl (by decide) rfl rfl (Nat.le_of_ble_eq_true rfl) rfl (Nat.le_of_ble_eq_true rfl) hd_191 ?_
    refine am_ev.step rfl rfl ?_
    refine am_ev.step rfl rfl ?_
    refine am_ev.step rfl rfl ?_
    refine am_ev.step rfl (hd_la rd) ?_
    refine am_ev.step rfl (hd_lss wr) ?_
    refine am_ev.step (pc' := 183) (ls' := [.ref 78, .int p, .int tt, .int i, .int (Int32.ofNat (k + 1))]) (st' := []) rfl (by rw [← f2]; rfl) ?_
    exact am_ev.step rfl rfl (Q x q)
end HDU
end
section
/-! BY HAND, 10: edition, all of it -/
theorem hd_k30 {i : Int32} {k : Nat} (e : i.toInt = k) (hk : k < 30) : ¬ ((Int8.ofInt 30).toInt32 ≤ i) := fun z => by
  have := Int32.le_iff_toInt_le.1 z
  rw [show ((Int8.ofInt 30).toInt32).toInt = 30 by decide] at this
  omega
section HDV
variable {hB : am_H} {t : Nat} {p tt : Int32} {d : Nat}
/-- the lines of a text -/
theorem hd_text (I : cq_Inv none hB) (htt : tt.toInt = t) (t1 : t < 120) (s1 : hB.2.2.2 96 3600 = .int 1) : ∀ (n k : Nat) (i : Int32) (v4 : Value) (hc : am_H), n + k = 30 → i.toInt = k → hd_T hB hc t → (1 ≤ k → hc.2.2.2 96 (30 * t) = .int 1) → ∃ (hc' : am_H) (i' : Int32) (v : Value), hd_T hB hc' t ∧ hc'.2.2.2 93 t = hc.2.2.2 93 t ∧ hc'.2.2.2 96 (30 * t) = .int 1 ∧ ∀ x, am_ev (d + 1) 189 192 [.ref 78, .int p, .int tt, .int i', v] [] hc' x → am_ev (d + 1) 189 68 [.ref 78, .int p, .int tt, .int i, v4] [] hc x := by
  intro n
  induction n with
  | zero =>
    intro k i v4 hc hk ei T S
    refine ⟨hc, i, v4, T, rfl, S (by omega), fun x q => ?_⟩
    refine am_ev.step rfl rfl ?_
    refine am_ev.step rfl rfl ?_
    exact am_ev.step (pc' := 192) (ls' := [.ref 78, .int p, .int tt, .int i, v4]) (st' := []) (h' := hc) rfl (if_pos (Int32.le_iff_toInt_le.2 (by rw [show ((Int8.ofInt 30).toInt32).toInt = 30 by decide]; omega))) q
  | succ n ih =>
    intro k i v4 hc hk ei T S
    have F := hd_F_ok I
    have nle := hd_k30 ei (by omega)
    have x1 : ((Int8.ofInt 30).toInt32 * tt + i).toInt = 30 * tt.toInt + i.toInt := hd_l30 (by omega) (by omega) (by omega) (by omega)
    have x2 : ((Int8.ofInt 30).toInt32 * (Int8.ofInt 120).toInt32 + i).toInt = 30 * 120 + i.toInt := by
      rw [hd_l30 (by decide) (by decide) (by omega) (by omega), show ((Int8.ofInt 120).toInt32).toInt = 120 by decide]
    -- the number of words
    obtain ⟨a, ea, a0, a1⟩ := T.2.2.2.1 (30 * 120 + i.toInt).toNat (by omega)
    obtain ⟨m1, m2⟩ := T.sh I (c := 94) (tc := 0) (ln := 3630) (by decide) (by decide) (by decide +kernel)
    have rdA : am_rd hc 94 ((Int8.ofInt 30).toInt32 * (Int8.ofInt 120).toInt32 + i) (fun c => Nat.beq c 0) = some (.int a) := by
      rw [hd_rdS m1 m2 (by decide) (by omega) (by omega), x2, ea]
    have wrA := hd_wrS (v := .int a) m1 m2 (i := (Int8.ofInt 30).toInt32 * tt + i) (by omega) (by omega)
    have TA := T.p94 (j := ((Int8.ofInt 30).toInt32 * tt + i).toInt.toNat) a0 a1
    -- the stanza
    obtain ⟨b, eb, b0, b1⟩ := TA.2.2.2.2.2.1.1 (30 * 120 + i.toInt).toNat (by omega)
    obtain ⟨n1, n2⟩ := TA.sh I (c := 96) (tc := 2) (ln := 3630) (by decide) (by decide) (by decide +kernel)
    have rdB : am_rd (am_put hc 94 ((Int8.ofInt 30).toInt32 * tt + i).toInt.toNat (.int a)) 96 ((Int8.ofInt 30).toInt32 * (Int8.ofInt 120).toInt32 + i) (fun c => Nat.beq c 1 || Nat.beq c 2) = some (.int b) := by
      rw [hd_rdS n1 n2 (by decide) (by omega) (by omega), x2, eb]
    have wrB := hd_wrS (v := .int (b &&& 1)) n1 n2 (i := (Int8.ofInt 30).toInt32 * tt + i) (by omega) (by omega)
    have TB := TA.p96 (j := ((Int8.ofInt 30).toInt32 * tt + i).toInt.toNat) (x := b &&& 1) (by rw [hd_c1 b0 b1]; exact b0) (by rw [hd_c1 b0 b1]; exact b1) (by omega) (by omega)
    -- the tie
    obtain ⟨c, ec, c0, c1⟩ := TB.2.2.2.2.2.2 (30 * 120 + i.toInt).toNat (by omega)
    obtain ⟨o1, o2⟩ := TB.sh I (c := 97) (tc := 2) (ln := 3630) (by decide) (by decide) (by decide +kernel)
    have rdC : am_rd (am_put (am_put hc 94 ((Int8.ofInt 30).toInt32 * tt + i).toInt.toNat (.int a)) 96 ((Int8.ofInt 30).toInt32 * tt + i).toInt.toNat (.int (b &&& 1))) 97 ((Int8.ofInt 30).toInt32 * (Int8.ofInt 120).toInt32 + i) (fun c => Nat.beq c 1 || Nat.beq c 2) = some (.int c) := by
      rw [hd_rdS o1 o2 (by decide) (by omega) (by omega), x2, ec]
    have wrC := hd_wrS (v := .int (c &&& 1)) o1 o2 (i := (Int8.ofInt 30).toInt32 * tt + i) (by omega) (by omega)
    have TC := TB.p97 (j := ((Int8.ofInt 30).toInt32 * tt + i).toInt.toNat) (x := c &&& 1) (by rw [hd_c1 c0 c1]; exact c0) (by rw [hd_c1 c0 c1]; exact c1)
    obtain ⟨hc1, T1, w1, w2, W⟩ := hd_words (p := p) (d := d) I htt t1 (i := i) (by omega) (by omega) 8 0 rfl _ TC
    have st1 : hc1.2.2.2 96 (30 * t) = .int 1 := by
      rw [w2, hd_pv (by omega)]
      by_cases e : k = 0
      · have ej : ((Int8.ofInt 30).toInt32 * tt + i).toInt.toNat = 30 * t := by omega
        rw [ej, hd_pe]
        have eb2 : b = 1 := by
          have z := eb
          rw [hd_pv (by omega), show (30 * 120 + i.toInt).toNat = 3600 by omega, T.2.2.2.2.2.1.2 3600 (by omega), s1] at z
          exact (Value.int.inj z).symm
        rw [eb2]
        rfl
      · rw [hd_pv (by omega), hd_pv (by omega)]
        exact S (by omega)
    obtain ⟨hc', i', v, T', q1, q2, Q⟩ := ih (k + 1) (i + Int32.ofInt 1) (.int (Int32.ofNat 8)) hc1 (by omega) (hd_inc ei (by omega)) T1 (fun _ => st1)
    refine ⟨hc', i', v, T', ?_, q2, fun x q => ?_⟩
    · rw [q1, w1, hd_pv (by omega), hd_pv (by omega), hd_pv (by omega)]
    refine am_ev.step rfl rfl ?_
    refine am_ev.step rfl rfl ?_
    refine am_ev.step (pc' := 74) (ls' := [.ref 78, .int p, .int tt, .int i, v4]) (st' := []) (h' := hc) rfl (if_neg nle) ?_
    refine am_ev.step rfl rfl ?_
    refine am_ev.step rfl (hd_gf (T.o I) (T.f F.2.2.1)) ?_
    refine am_ev.step rfl rfl ?_
    refine am_ev.step rfl rfl ?_
    refine hd_cv 191 (as := [.int tt, .int i]) (rr := [.ref 94]) rfl (Or.inl ⟨_, rfl⟩) rfl (by decide) rfl rfl (Nat.le_of_ble_eq_true rfl) rfl (Nat.le_of_ble_eq_true rfl) hd_191 ?_
    refine am_ev.step rfl rfl ?_
    refine am_ev.step rfl (hd_gf (T.o I) (T.f F.2.2.1)) ?_
    refine am_ev.step rfl rfl ?_
    refine am_ev.step rfl rfl ?_
    refine hd_cv 191 (as := [.int (Int8.ofInt 120).toInt32, .int i]) (rr := [.ref 94, .int ((Int8.ofInt 30).toInt32 * tt + i), .ref 94]) rfl (Or.inl ⟨_, rfl⟩) rfl (by decide) rfl rfl (Nat.le_of_ble_eq_true rfl) rfl (Nat.le_of_ble_eq_true rfl) hd_191 ?_
    refine am_ev.step rfl (hd_ia rdA) ?_
    refine am_ev.step rfl (hd_is wrA) ?_
    refine am_ev.step rfl rfl ?_
    refine am_ev.step rfl (hd_gf (TA.o I) (TA.f F.2.2.2.2.1)) ?_
    refine am_ev.step rfl rfl ?_
    refine am_ev.step rfl rfl ?_
    refine hd_cv 191 (as := [.int tt, .int i]) (rr := [.ref 96]) rfl (Or.inl ⟨_, rfl⟩) rfl (by decide) rfl rfl (Nat.le_of_ble_eq_true rfl) rfl (Nat.le_of_ble_eq_true rfl) hd_191 ?_
    refine am_ev.step rfl rfl ?_
    refine am_ev.step rfl (hd_gf (TA.o I) (TA.f F.2.2.2.2.1)) ?_
    refine am_ev.step rfl rfl ?_
    refine am_ev.step rfl rfl ?_
    refine hd_cv 191 (as := [.int (Int8.ofInt 120).toInt32, .int i]) (rr := [.ref 96, .int ((Int8.ofInt 30).toInt32 * tt + i), .ref 96]) rfl (Or.inl ⟨_, rfl⟩) rfl (by decide) rfl rfl (Nat.le_of_ble_eq_true rfl) rfl (Nat.le_of_ble_eq_true rfl) hd_191 ?_
    refine am_ev.step rfl (hd_ba rdB) ?_
    refine am_ev.step rfl (hd_bs (by rw [n2]; rfl) wrB) ?_
    refine am_ev.step rfl rfl ?_
    refine am_ev.step rfl (hd_gf (TB.o I) (TB.f F.2.2.2.2.2)) ?_
    refine am_ev.step rfl rfl ?_
    refine am_ev.step rfl rfl ?_
    refine hd_cv 191 (as := [.int tt, .int i]) (rr := [.ref 97]) rfl (Or.inl ⟨_, rfl⟩) rfl (by decide) rfl rfl (Nat.le_of_ble_eq_true rfl) rfl (Nat.le_of_ble_eq_true rfl) hd_191 ?_
    refine am_ev.step rfl rfl ?_
    refine am_ev.step rfl (hd_gf (TB.o I) (TB.f F.2.2.2.2.2)) ?_
    refine am_ev.step rfl rfl ?_
    refine am_ev.step rfl rfl ?_
    refine hd_cv 191 (as := [.int (Int8.ofInt 120).toInt32, .int i]) (rr := [.ref 97, .int ((Int8.ofInt 30).toInt32 * tt + i), .ref 97]) rfl (Or.inl ⟨_, rfl⟩) rfl (by decide) rfl rfl (Nat.le_of_ble_eq_true rfl) rfl (Nat.le_of_ble_eq_true rfl) hd_191 ?_
    refine am_ev.step rfl (hd_ba rdC) ?_
    refine am_ev.step rfl (hd_bs (by rw [o2]; rfl) wrC) ?_
    refine am_ev.step rfl rfl ?_
    refine am_ev.step rfl rfl ?_
    refine W x ?_
    refine am_ev.step rfl rfl ?_
    exact am_ev.step rfl rfl (Q x q)
/-- the heap behind it all is in order -/
theorem hd_last (I : cq_Inv none hB) {hc : am_H} {pp : Nat} {e : Int32} (hp : pp < 40) (e0 : 0 ≤ e.toInt) (e2 : e.toInt ≤ 2) (ht : (t : Int) = 3 * pp + e.toInt) (h92 : hB.2.2.2 92 pp = .int e) (T : hd_T hB hc t) {n : Int32} (hn : hc.2.2.2 93 t = .int n) (n0 : 1 ≤ n.toInt) (n1 : n.toInt ≤ 30) (hs : hc.2.2.2 96 (30 * t) = .int 1) {e' : Int32} (ee : e'.toInt = e.toInt + 1) : cq_Inv none (am_put hc 92 pp (.int e')) := by
  obtain ⟨⟨a1, a2, a3⟩, b1, b2, b3, b4, ⟨b5, b6⟩, b7⟩ := T
  have sh : (am_put hc 92 pp (.int e')).2.2.1 = hB.2.2.1 := a3
  have vv : ∀ c j, (c < 92 ∨ 97 < c) → (am_put hc 92 pp (.int e')).2.2.2 c j = hB.2.2.2 c j := fun c j hc => by
    rw [hd_pv (by omega)]
    exact b1 c j (by omega)
  have nn : ∀ c j, (c < 92 ∨ 97 < c) → cq_n (am_put hc 92 pp (.int e')) c j = cq_n hB c j := fun c j hc => by
    unfold cq_n
    rw [vv c j hc]
  have v92 : ∀ j, j ≠ pp → (am_put hc 92 pp (.int e')).2.2.2 92 j = hB.2.2.2 92 j := fun j hj => by
    rw [hd_pv (by omega)]
    exact b1 92 j (by omega)
  have arr : ∀ c, 92 ≤ c → c ≤ 97 → ∀ j, j < (cq_fix c).2.2 → cq_ht (am_put hc 92 pp (.int e')) j (cq_ar c) ((am_put hc 92 pp (.int e')).2.2.2 c j) := fun c h1 h2 j hj => by
    rcases (show c = 92 ∨ c = 93 ∨ c = 94 ∨ c = 95 ∨ c = 96 ∨ c = 97 by omega) with z | z | z | z | z | z <;> subst z
    · rw [show cq_ar 92 = (1, 0, 3, 0, 0, 0) by decide +kernel]
      by_cases ej : j = pp
      · subst ej
        rw [hd_pe]
        exact ⟨e', rfl, by omega, by omega⟩
      · rw [v92 j ej]
        have k := cq_tA I (c := 92) (j := j) (by decide) (by decide) (by decide +kernel) (by decide) hj
        rw [show cq_ar 92 = (1, 0, 3, 0, 0, 0) by decide +kernel] at k
        exact k
    · rw [show cq_ar 93 = (1, 0, 30, 0, 0, 0) by decide +kernel, hd_pv (by omega)]
      by_cases ej : j = t
      · subst ej
        rw [hn]
        exact ⟨n, rfl, by omega, n1⟩
      · rw [b2 j ej]
        have k := cq_tA I (c := 93) (j := j) (by decide) (by decide) (by decide +kernel) (by decide) hj
        rw [show cq_ar 93 = (1, 0, 30, 0, 0, 0) by decide +kernel] at k
        exact k
    · rw [show cq_ar 94 = (1, 0, 8, 0, 0, 0) by decide +kernel, hd_pv (by omega)]
      rw [show (cq_fix 94).2.2 = 3630 by decide +kernel] at hj
      exact b3 j hj
    · rw [show cq_ar 95 = (2, 0, 0, 0, 0, 0) by decide +kernel, hd_pv (by omega)]
      rw [show (cq_fix 95).2.2 = 29040 by decide +kernel] at hj
      exact b4 j hj
    · rw [show cq_ar 96 = (1, 0, 1, 0, 0, 0) by decide +kernel, hd_pv (by omega)]
      rw [show (cq_fix 96).2.2 = 3630 by decide +kernel] at hj
      exact b5 j hj
    · rw [show cq_ar 97 = (1, 0, 1, 0, 0, 0) by decide +kernel, hd_pv (by omega)]
      rw [show (cq_fix 97).2.2 = 3630 by decide +kernel] at hj
      exact b7 j hj
  have GR : cq_gr hB (am_put hc 92 pp (.int e')) := by
    refine ⟨fun a k q => ?_, by rw [nn 40 13 (by omega)]; exact Int.le_refl _⟩
    obtain ⟨u, x, y⟩ := k
    rcases u with _ | _ | u
    · show 130 ≤ a ∧ a < hc.1 ∧ hc.2.2.1 a = (0, x, am_N x)
      rw [a1, a3]
      exact q
    · show 130 ≤ a ∧ a < hc.1 ∧ (hc.2.2.1 a).1 = 1 ∧ (hc.2.2.1 a).2.1 = x ∧ (y = 0 ∨ (hc.2.2.1 a).2.2 + 1 = y)
      rw [a1, a3]
      exact q
    · exact q
  refine ⟨by show 130 ≤ hc.1; rw [a1]; exact I.lo, fun c h1 h2 => by rw [sh]; exact I.fx c h1 h2, fun c h1 h2 => ⟨by rw [sh]; exact (I.sv c h1 h2).1, fun j hj => by rw [vv c j (by omega)]; exact (I.sv c h1 h2).2 j hj⟩, ⟨by rw [sh]; exact I.sc.1, by rw [sh]; exact I.sc.2.1, by rw [sh]; exact I.sc.2.2.1, fun j hj => by rw [sh] at hj; rw [vv 0 j (by omega)]; exact I.sc.2.2.2 j hj⟩, fun c h1 h2 => by rw [sh]; exact I.dy c h1 (by rw [← a1]; exact h2), fun c h1 h2 nx j hj => ?_, fun t' ht' => ?_⟩
  · rw [sh] at hj ⊢
    by_cases hcc : c < 92 ∨ 97 < c
    · rw [vv c j hcc]
      refine cq_ht_gr (h := hB) GR (fun t11 _ hle => ?_) (I.ty c h1 (by rw [← a1]; exact h2) nx j hj)
      have h11 := cq_tyOf11 I h1 (show c < hB.1 by rw [← a1]; exact h2) hj
      rcases cq_pre11_c h11 t11 with ⟨z1, z2⟩ | ⟨z1, z2⟩
      · rw [z1, z2] at hle ⊢
        rw [nn 40 13 (by omega)]
        exact hle
      · rw [z1, z2] at hle ⊢
        rw [nn 48 1 (by omega)]
        exact hle
    · have h3 : 92 ≤ c ∧ c ≤ 97 := by omega
      have fx := I.fx c h1 (by omega)
      rw [fx] at hj ⊢
      have et : cq_tyOf c (cq_fix c) j = cq_ar c := by
        rcases (show c = 92 ∨ c = 93 ∨ c = 94 ∨ c = 95 ∨ c = 96 ∨ c = 97 by omega) with z | z | z | z | z | z <;> subst z <;> rfl
      rw [et]
      exact arr c h3.1 h3.2 j hj
  · have e96 : ∀ j, (am_put hc 92 pp (.int e')).2.2.2 96 j = hc.2.2.2 96 j := fun j => hd_pv (by omega)
    have e93 : ∀ j, cq_n (am_put hc 92 pp (.int e')) 93 j = cq_n hc 93 j := fun j => by
      unfold cq_n
      rw [hd_pv (by omega)]
    rw [e96, e93]
    by_cases et : t' = t
    · subst et
      rw [cq_n_int hn]
      exact ⟨fun _ => hs, fun _ => n0⟩
    · have e93b : cq_n hc 93 t' = cq_n hB 93 t' := by
        unfold cq_n
        rw [b2 t' et]
      rw [e93b, b6 (30 * t') (by omega)]
      refine ⟨(I.sx t' ht').1, fun hlt => (I.sx t' ht').2 ?_⟩
      by_cases ep : t' / 3 = pp
      · rw [ep] at hlt ⊢
        have e92 : cq_n (am_put hc 92 pp (.int e')) 92 pp = e'.toInt := by
          unfold cq_n
          rw [hd_pe]
        rw [e92] at hlt
        rw [cq_n_int h92]
        omega
      · have e92 : cq_n (am_put hc 92 pp (.int e')) 92 (t' / 3) = cq_n hB 92 (t' / 3) := by
          unfold cq_n
          rw [v92 _ ep]
        rw [e92] at hlt
        exact hlt
end HDV
end
section
/-! BY HAND, 11: edition: its contract -/
/-- from where the text has been read to the end -/
theorem hd_ed {hB : am_H} {p e n : Int32} {d : Nat} (I : cq_Inv none hB) (hp : 0 ≤ p.toInt ∧ p.toInt ≤ 39) (h92 : hB.2.2.2 92 p.toInt.toNat = .int e) (e0 : 0 ≤ e.toInt) (e2 : e.toInt ≤ 2) (h93 : hB.2.2.2 93 120 = .int n) (n0 : 1 ≤ n.toInt) (s1 : hB.2.2.2 96 3600 = .int 1) (u2 u3 u4 : Value) : ∃ (r : Int32) (h' : am_H), am_ev (d + 1) 189 42 [.ref 78, .int p, u2, u3, u4] [] hB (some (.int r), h') ∧ cq_Inv none h' ∧ cq_Fr [(false, 92, 0, 0), (false, 93, 0, 0), (false, 94, 0, 0), (false, 95, 0, 0), (false, 96, 0, 0), (false, 97, 0, 0)] hB h' ∧ h'.1 ≤ hB.1 ∧ h'.2.1 ≤ hB.2.1 := by
  have F := hd_F_ok I
  have O := cq_o78 I
  have tx : (Int32.ofInt 3 * p + e).toInt = 3 * p.toInt + e.toInt := hd_l3 (by omega) (by omega) (by omega) (by omega)
  have k93 := cq_tA I (c := 93) (j := 120) (by decide) (by decide) (by decide +kernel) (by decide) (by decide +kernel)
  rw [show cq_ar 93 = (1, 0, 30, 0, 0, 0) by decide +kernel, h93] at k93
  obtain ⟨n', en', -, n1⟩ := k93
  have en' := Value.int.inj en'
  subst en'
  have hT0 : hd_T hB (am_put hB 93 (Int32.ofInt 3 * p + e).toInt.toNat (.int n)) (Int32.ofInt 3 * p + e).toInt.toNat := by
    refine ⟨⟨rfl, rfl, rfl⟩, fun c j hc => hd_pv (by omega), fun j hj => hd_pv (by omega), fun j hj => ?_, fun j hj => ?_, ⟨fun j hj => ?_, fun j hj => hd_pv (by omega)⟩, fun j hj => ?_⟩
    · rw [hd_pv (by omega)]
      have k := cq_tA I (c := 94) (j := j) (by decide) (by decide) (by decide +kernel) (by decide) (by rw [show (cq_fix 94).2.2 = 3630 by decide +kernel]; exact hj)
      rw [show cq_ar 94 = (1, 0, 8, 0, 0, 0) by decide +kernel] at k
      exact k
    · rw [hd_pv (by omega)]
      have k := cq_tA I (c := 95) (j := j) (by decide) (by decide) (by decide +kernel) (by decide) (by rw [show (cq_fix 95).2.2 = 29040 by decide +kernel]; exact hj)
      rw [show cq_ar 95 = (2, 0, 0, 0, 0, 0) by decide +kernel] at k
      exact k
    · rw [hd_pv (by omega)]
      have k := cq_tA I (c := 96) (j := j) (by decide) (by decide) (by decide +kernel) (by decide) (by rw [show (cq_fix 96).2.2 = 3630 by decide +kernel]; exact hj)
      rw [show cq_ar 96 = (1, 0, 1, 0, 0, 0) by decide +kernel] at k
      exact k
    · rw [hd_pv (by omega)]
      have k := cq_tA I (c := 97) (j := j) (by decide) (by decide) (by decide +kernel) (by decide) (by rw [show (cq_fix 97).2.2 = 3630 by decide +kernel]; exact hj)
      rw [show cq_ar 97 = (1, 0, 1, 0, 0, 0) by decide +kernel] at k
      exact k
  obtain ⟨hc, i', v, T, q1, q2, Q⟩ := hd_text (p := p) (tt := Int32.ofInt 3 * p + e) (d := d) I (t := (Int32.ofInt 3 * p + e).toInt.toNat) (by omega) (by omega) s1 30 0 0 u4 _ rfl (by decide) hT0 (fun z => by omega)
  rw [hd_pe] at q1
  obtain ⟨m1, m2⟩ := T.sh I (c := 92) (tc := 0) (ln := 40) (by decide) (by decide) (by decide +kernel)
  have v92 : hc.2.2.2 92 p.toInt.toNat = .int e := by rw [T.2.1 92 _ (by omega)]; exact h92
  have rd : am_rd hc 92 p (fun c => Nat.beq c 0) = some (.int e) := by
    rw [hd_rdS m1 m2 (by decide) (by omega) (by omega), v92]
  have wr := hd_wrS (v := .int (e + Int32.ofInt 1)) m1 m2 (i := p) (by omega) (by omega)
  have ee : (e + Int32.ofInt 1).toInt = e.toInt + 1 := by
    rw [hd_toA (by omega) (by omega) (by decide) (by decide), show (Int32.ofInt 1).toInt = 1 by decide]
  have rd2 : am_rd (am_put hc 92 p.toInt.toNat (.int (e + Int32.ofInt 1))) 92 p (fun c => Nat.beq c 0) = some (.int (e + Int32.ofInt 1)) := by
    rw [hd_rdS (show 92 < (am_put hc 92 p.toInt.toNat (.int (e + Int32.ofInt 1))).1 from m1) (show (am_put hc 92 p.toInt.toNat (.int (e + Int32.ofInt 1))).2.2.1 92 = (1, 0, 40) from m2) (by decide) (by omega) (by omega), hd_pe]
  have If := hd_last I (pp := p.toInt.toNat) (e := e) (by omega) e0 e2 (by omega) h92 T q1 n0 n1 q2 ee
  have O2 : am_isO (am_put hc 92 p.toInt.toNat (.int (e + Int32.ofInt 1))) 78 13 = true := cq_o78 If
  refine ⟨e + Int32.ofInt 1 - Int32.ofInt 1, am_put hc 92 p.toInt.toNat (.int (e + Int32.ofInt 1)), ?_, If, ?_, by show hc.1 ≤ hB.1; rw [T.1.1]; exact Nat.le_refl _, by show hc.2.1 ≤ hB.2.1; rw [T.1.2.1]; exact Nat.le_refl _⟩
  · obtain ⟨r1, r2⟩ : 92 < hB.1 ∧ hB.2.2.1 92 = (1, 0, 40) := ⟨by have := I.lo; omega, by rw [I.fx 92 (by decide) (by decide)]; decide +kernel⟩
    obtain ⟨w1, w2⟩ : 93 < hB.1 ∧ hB.2.2.1 93 = (1, 0, 121) := ⟨by have := I.lo; omega, by rw [I.fx 93 (by decide) (by decide)]; decide +kernel⟩
    have rd0 : am_rd hB 92 p (fun c => Nat.beq c 0) = some (.int e) := by
      rw [hd_rdS r1 r2 (by decide) (by omega) (by omega), h92]
    have rd3 : am_rd hB 93 (Int8.ofInt 120).toInt32 (fun c => Nat.beq c 0) = some (.int n) := by
      rw [hd_rdS w1 w2 (by decide) (by decide) (by decide), show ((Int8.ofInt 120).toInt32).toInt.toNat = 120 by decide, h93]
    have wr3 := hd_wrS (v := .int n) w1 w2 (i := Int32.ofInt 3 * p + e) (by omega) (by omega)
    refine am_ev.step rfl rfl ?_
    refine am_ev.step rfl rfl ?_
    refine am_ev.step rfl (hd_gf O F.1) ?_
    refine am_ev.step rfl rfl ?_
    refine am_ev.step rfl (hd_ia rd0) ?_
    refine hd_cv 194 (as := [.int p, .int e]) (rr := []) rfl (Or.inl ⟨_, rfl⟩) rfl (by decide) rfl rfl (Nat.le_of_ble_eq_true rfl) rfl (Nat.le_of_ble_eq_true rfl) hd_194 ?_
    refine am_ev.step rfl rfl ?_
    refine am_ev.step rfl rfl ?_
    refine am_ev.step rfl (hd_gf O F.2.1) ?_
    refine am_ev.step rfl rfl ?_
    refine am_ev.step rfl rfl ?_
    refine am_ev.step rfl (hd_gf O F.2.1) ?_
    refine am_ev.step rfl rfl ?_
    refine am_ev.step rfl (hd_ia rd3) ?_
    refine am_ev.step rfl (hd_is wr3) ?_
    refine am_ev.step rfl rfl ?_
    refine am_ev.step rfl rfl ?_
    refine Q _ ?_
    refine am_ev.step rfl rfl ?_
    refine am_ev.step rfl (hd_gf (T.o I) (T.f F.1)) ?_
    refine am_ev.step rfl rfl ?_
    refine am_ev.step rfl rfl ?_
    refine am_ev.step rfl (hd_ia rd) ?_
    refine am_ev.step rfl rfl ?_
    refine am_ev.step rfl rfl ?_
    refine am_ev.step rfl (hd_is wr) ?_
    refine am_ev.step rfl rfl ?_
    refine am_ev.step rfl (hd_gf O2 (show (am_put hc 92 p.toInt.toNat (.int (e + Int32.ofInt 1))).2.2.2 78 23 = .ref 92 by rw [hd_pv (by omega)]; exact T.f F.1)) ?_
    refine am_ev.step rfl rfl ?_
    refine am_ev.step rfl (hd_ia rd2) ?_
    refine am_ev.step rfl rfl ?_
    refine am_ev.step rfl rfl ?_
    exact am_ev.reti rfl rfl rfl
  · refine ⟨by show hB.1 ≤ hc.1; rw [T.1.1]; exact Nat.le_refl _, fun c _ => by show hc.2.2.1 c = _; rw [T.1.2.2], fun c hc1 j hw => ?_⟩
    by_cases hcc : c < 92 ∨ 97 < c
    · rw [hd_pv (by omega)]
      exact T.2.1 c j (by omega)
    · exfalso
      rcases (show c = 92 ∨ c = 93 ∨ c = 94 ∨ c = 95 ∨ c = 96 ∨ c = 97 by omega) with z | z | z | z | z | z <;> subst z <;> cases hw
def cq_ck42 (Z : cq_Z) : Bool := match Z with
  | (_, _, [(5, _, k), (1, fp, _), _, _, _], [], [], db, S) => Nat.beq k 78 && cq_inE S.P fp 0 39 && (match cq_tl (false, 92) fp S.T with
      | some (1, fe, _) => cq_en S.P (cq_ac (cq_neg fe) 2)
      | _ => false) && (match cq_tl (false, 93) (cq_c 120) S.T with
      | some (1, fn, _) => cq_en S.P (cq_ac fn (-1))
      | _ => false) && (match cq_tl (false, 96) (cq_c 3600) S.T with
      | some (1, f1, _) => cq_fe f1 (cq_c 1)
      | _ => false) && S.U.isNone && Nat.beq S.ac 0 && Nat.beq S.al 0 && Nat.ble 1 db && (match cq_tl (false, 78) (cq_c 2) S.T with
      | some (1, f0, _) => cq_fe f0 (cq_c 0)
      | _ => false)
  | _ => false
theorem ok_189 : cq_CT 189 ct_189 := by
  refine cq_methN (f := 100000) (nx := cq_nxo 189 42 cq_ck42 (cq_nx ct_189.2.2.2.1 (cq_ckx ct_189) (cq_cl0 ct_189.2.2.2.1 (cq_ckx ct_189) tb_189p))) (lps := fun _ => none) wf_189 (by decide +kernel) (fun h ρ as M g => cq_nxo_ok ?_ (cq_NX_of wf_189 ((cq_tc_ok wf_170 ok_170 (cq_tc_ok wf_190 ok_190 cq_t0_ok)) h (cq_Inv0 wf_189 M)))) (by decide +kernel)
  intro Z ρ1 ls st h2 d a hn hc R hd
  obtain ⟨y, pc, als, ast, fr, db, S⟩ := Z
  unfold cq_ck42 at hc
  split at hc
  · rename_i y' pc' ff k fp kk v4 v5 v6 db' S' heq
    cases heq
    have c0 := (Bool.and_eq_true _ _ ▸ hc)
    have c1 := (Bool.and_eq_true _ _ ▸ c0.1)
    have c2 := (Bool.and_eq_true _ _ ▸ c1.1)
    have c3 := (Bool.and_eq_true _ _ ▸ c2.1)
    have c4 := (Bool.and_eq_true _ _ ▸ c3.1)
    have c5 := (Bool.and_eq_true _ _ ▸ c4.1)
    have c6 := (Bool.and_eq_true _ _ ▸ c5.1)
    have c7 := (Bool.and_eq_true _ _ ▸ c6.1)
    have c8 := (Bool.and_eq_true _ _ ▸ c7.1)
    obtain ⟨D, g1, g2, -⟩ := R ρ1 cq_ag.rf
    dsimp only at D g1 g2
    obtain ⟨u0, r0, e0, G0, g1⟩ := cq_gs_cons g1
    obtain ⟨u1, r1, e1, G1, g1⟩ := cq_gs_cons g1
    obtain ⟨u2, r2, e2, G2, g1⟩ := cq_gs_cons g1
    obtain ⟨u3, r3, e3, G3, g1⟩ := cq_gs_cons g1
    obtain ⟨u4, r4, e4, G4, g1⟩ := cq_gs_cons g1
    have e7 := cq_gs_nil g1
    have e8 := cq_gs_nil g2
    subst e0 e1 e2 e3 e4 e7 e8
    have G0 : u0 = .ref k := G0
    rw [am_beq c8.1] at G0
    obtain ⟨p, en, hp⟩ := G1
    subst G0 en
    have bp := cq_inE_ok D.P c8.2
    have I : cq_Inv none h2 := by
      have I := D.I
      rw [Option.isNone_iff_eq_none.1 c4.2] at I
      exact I
    have A := D.A
    rw [am_beq c3.2, am_beq c2.2] at A
    have hd1 := Nat.le_of_ble_eq_true c1.2
    dsimp only at hd
    have zq := c0.2
    split at zq
    case h_2 => cases zq
    rename_i f02 k02 h02
    have t02 := D.T _ (cq_tl_ok h02)
    obtain ⟨xq, exq, hxq⟩ := t02
    have exq : h2.2.2.2 78 (cq_e ρ1 (cq_c 2)).toNat = .int xq := exq
    rw [cq_c_e] at exq
    have exq : h2.2.2.2 78 2 = .int xq := exq
    rw [cq_fe_ok zq, cq_c_e] at hxq
    have z92 := c7.2
    split at z92
    · rename_i fe ke h92
      have t92 := D.T _ (cq_tl_ok h92)
      obtain ⟨e, ee, he⟩ := t92
      have ee : h2.2.2.2 92 (cq_e ρ1 fp).toNat = .int e := ee
      have l2 := cq_en_ok D.P z92
      rw [cq_ac_e, cq_neg_e, ← he] at l2
      rw [← hp] at ee bp
      have k92 := cq_tA I (c := 92) (j := p.toInt.toNat) (by decide) (by decide) (by decide +kernel) (by decide) (by rw [show (cq_fix 92).2.2 = 40 by decide +kernel]; omega)
      rw [show cq_ar 92 = (1, 0, 3, 0, 0, 0) by decide +kernel, ee] at k92
      obtain ⟨e', ex', e0', -⟩ := k92
      have ex' := Value.int.inj ex'
      subst ex'
      have z93 := c6.2
      split at z93
      · rename_i fn kn h93
        have t93 := D.T _ (cq_tl_ok h93)
        obtain ⟨n, en, hn1⟩ := t93
        have en : h2.2.2.2 93 (cq_e ρ1 (cq_c 120)).toNat = .int n := en
        rw [cq_c_e] at en
        have n1 := cq_en_ok D.P z93
        rw [cq_ac_e, ← hn1] at n1
        have z96 := c5.2
        split at z96
        · rename_i f1 k1 h96
          have t96 := D.T _ (cq_tl_ok h96)
          obtain ⟨s, es, hs⟩ := t96
          have es : h2.2.2.2 96 (cq_e ρ1 (cq_c 3600)).toNat = .int s := es
          rw [cq_c_e] at es
          rw [cq_fe_ok z96, cq_c_e] at hs
          have s1 : s = 1 := Int32.toInt_inj.1 (by rw [hs]; decide)
          subst s1
          cases d with
          | zero => omega
          | succ d =>
            obtain ⟨r, h', ev, I', F', A1, A2⟩ := hd_ed (d := d) I bp ee e0' (by omega) en (by omega) es u2 u3 u4
            refine ⟨_, ev, _, List.mem_cons_self, fun s => if s < 1 then ρ s else r.toInt, fun s hs => if_pos hs, cq_Md_t ⟨fun b hb => ?_, fun _ z => (by cases z)⟩ (fun e he => by rw [List.mem_singleton.1 he]; exact ⟨xq, (F'.vl 78 (by have := I.lo; omega) 2 rfl).trans exq, by rw [hxq]; exact (cq_c_e _ 0).symm⟩) I' (cq_Fr_tr D.F F' (cq_sub1_ok (by decide +kernel))) ⟨by have := A.1; show h'.1 ≤ h.1 + 0; omega, by have := A.2; show h'.2.1 ≤ h.2.1 + 0; omega⟩, Or.inl ⟨rfl, rfl, ⟨r, rfl, ?_⟩, trivial⟩⟩
            · rw [List.mem_singleton.1 hb]
              have z1 := r.le_toInt
              have z2 := r.toInt_lt
              exact ⟨by show (-2147483648 : Int) ≤ r.toInt; omega, by show r.toInt ≤ 2147483647; omega⟩
            · exact (cq_s_e (fun s => if s < 1 then ρ s else r.toInt) 1).symm
        · cases z96
      · cases z93
    · cases z92
  · cases hc
end
section
/-! BY HAND, 12: findPages: what it leaves in its rows -/
def hd_i (h : am_H) (c j : Nat) : Int32 := match h.2.2.2 c j with
  | .int x => x
  | _ => 0
theorem hd_ie {h : am_H} {c j : Nat} {x : Int32} (e : h.2.2.2 c j = .int x) : hd_i h c j = x := by
  unfold hd_i
  rw [e]
/-- the square of a page of a text -/
noncomputable def hd_sq (h : am_H) (t i j : Int32) : Int32 := Classical.epsilon fun r : Int32 => ∃ h', am_ev 60 199 0 (am_ent [.ref 78, .int t, .int i, .int j] (am_in 199).2.2.1) [] h (some (.int r), h')
/-- squareOf on a heap that is alike -/
theorem hd_199 {hB hc : am_H} {t i j : Int32} {d : Nat} (I : cq_Inv none hB) (R : ni_R hB hc) (ht : 0 ≤ t.toInt ∧ t.toInt ≤ 119) (hn : 1 ≤ cq_n hB 93 t.toInt.toNat) (hi : 0 ≤ i.toInt ∧ i.toInt ≤ 29) (hj : 0 ≤ j.toInt ∧ j.toInt ≤ 29) (hd : 2 ≤ d) : am_ev d 199 0 (am_ent [.ref 78, .int t, .int i, .int j] (am_in 199).2.2.1) [] hc (some (.int (hd_sq hB t i j)), hc) := by
  have u := cq_U_rng hB 1093 t.toInt
  have eu : cq_U hB 1093 t.toInt = cq_n hB 93 t.toInt.toNat := cq_U_c hB 1093 _ (by decide) (by decide)
  let ρ : Nat → Int := fun s => match s with
    | 0 => t.toInt
    | 1 => i.toInt
    | 2 => j.toInt
    | _ => cq_U hB 1093 t.toInt
  have M0 : cq_Md ct_199.2.2.2.1 hB ρ ct_199.2.2.1 hB := by
    refine cq_Md_p ⟨fun b hb => ?_, fun _ z => (by cases z)⟩ (fun _ z => (by cases z)) (fun e he => ?_) I
    · simp only [List.mem_cons, List.not_mem_nil, or_false] at hb
      rcases hb with rfl | rfl | rfl | rfl
      · exact ht
      · exact hi
      · exact hj
      · exact ⟨by show (1 : Int) ≤ cq_U hB 1093 t.toInt; rw [eu]; exact hn, u.2⟩
    · rw [List.mem_singleton.1 he]
      refine cq_mOk_tag 1093 (by decide) ?_
      rw [show cq_e ρ ((0, [(3, 1)]) : cq_F) = ρ 3 from cq_s_e ρ 3, show cq_e ρ ((0, [(0, 1)]) : cq_F) = ρ 0 from cq_s_e ρ 0]
      rfl
  obtain ⟨r, h', ev, x, hx, ρ', a', Mx, hr⟩ := ok_199 2 hB ρ [.ref 78, .int t, .int i, .int j] (Nat.le_refl _) M0 ⟨rfl, ⟨t, rfl, (cq_s_e ρ 0).symm⟩, ⟨i, rfl, (cq_s_e ρ 1).symm⟩, ⟨j, rfl, (cq_s_e ρ 2).symm⟩, trivial⟩
  have hx := List.mem_singleton.1 hx
  subst hx
  rcases hr with ⟨q1, q2, q3⟩ | ⟨q1, -⟩
  · cases r with
    | none => exact q3.elim
    | some w =>
      obtain ⟨v, e1, e2⟩ := q3.1
      subst e1
      have ha : ni_L [.ref 78, .int t, .int i, .int j] := fun v hv a ea => by
        simp only [List.mem_cons, List.not_mem_nil, or_false] at hv
        rcases hv with rfl | rfl | rfl | rfl <;> cases ea
        rfl
      have eA := ni_An_of (y := 199) (by decide) I ha (by decide) ev
      have es : hd_sq hB t i j = v := Int32.toInt_inj.1 eA
      rw [es]
      exact (ni_ev (by decide) I ha ev R hd).2
  · cases q1
def hd_NV : Int32 := Int32.ofNat 1000000000
/-- a heap while pages are found -/
def hd_P (hB hc : am_H) : Prop := (hc.1 = hB.1 ∧ hc.2.1 = hB.2.1 ∧ hc.2.2.1 = hB.2.2.1) ∧ (∀ c j, c ≠ 98 → c ≠ 99 → hc.2.2.2 c j = hB.2.2.2 c j) ∧ (∀ j, j < 31 → hc.2.2.2 98 j = .int (hd_i hc 98 j)) ∧ (∀ j, j < 31 → hc.2.2.2 99 j = .int (hd_i hc 99 j))
/-- a page from line i to line j belongs to the best way -/
def hd_C (hB hc : am_H) (t : Int32) (n i j : Nat) : Prop := i ≤ j ∧ j < n ∧ ¬ (hd_NV ≤ hd_sq hB t (Int32.ofNat i) (Int32.ofNat j)) ∧ hd_i hc 98 (j + 1) < hd_NV ∧ Int32.ofInt 1 + hd_i hc 98 (j + 1) = hd_i hc 98 i ∧ hd_sq hB t (Int32.ofNat i) (Int32.ofNat j) + hd_i hc 99 (j + 1) = hd_i hc 99 i
section HDP
variable {hB hc : am_H}
theorem hd_P.R (P : hd_P hB hc) (I : cq_Inv none hB) : ni_R hB hc := ⟨P.1.1.symm, fun c _ => by rw [P.1.2.2], fun c _ hx j _ => (P.2.1 c j (fun z => by rw [z] at hx; cases hx) (fun z => by rw [z] at hx; cases hx)).symm⟩
theorem hd_P.o (P : hd_P hB hc) (I : cq_Inv none hB) : am_isO hc 78 13 = true := by
  rw [ni_isO (P.R I)]
  exact cq_o78 I
theorem hd_P.sh (P : hd_P hB hc) (I : cq_Inv none hB) {c tc ln : Nat} (h1 : 40 ≤ c) (h2 : c < 130) (e : cq_fix c = (1, tc, ln)) : c < hc.1 ∧ hc.2.2.1 c = (1, tc, ln) := by
  refine ⟨by rw [P.1.1]; exact Nat.lt_of_lt_of_le h2 I.lo, ?_⟩
  rw [P.1.2.2, I.fx c h1 h2, e]
theorem hd_P.f29 (P : hd_P hB hc) (I : cq_Inv none hB) : hc.2.2.2 78 29 = .ref 98 := by
  rw [P.2.1 78 29 (by decide) (by decide)]
  have z := cq_t78 I (b := 29) (by decide +kernel)
  rw [show cq_cl 13 29 = (3, 0, 0, 98, 0, 0) by decide +kernel] at z
  exact z
theorem hd_P.f30 (P : hd_P hB hc) (I : cq_Inv none hB) : hc.2.2.2 78 30 = .ref 99 := by
  rw [P.2.1 78 30 (by decide) (by decide)]
  have z := cq_t78 I (b := 30) (by decide +kernel)
  rw [show cq_cl 13 30 = (3, 0, 0, 99, 0, 0) by decide +kernel] at z
  exact z
theorem hd_iv {h : am_H} {c j c' j' : Nat} {v : Value} (n : ¬ (c' = c ∧ j' = j)) : hd_i (am_put h c j v) c' j' = hd_i h c' j' := by
  unfold hd_i
  rw [hd_pv n]
theorem hd_ip {h : am_H} {c j : Nat} {x : Int32} : hd_i (am_put h c j (.int x)) c j = x := hd_ie hd_pe
theorem hd_P.p98 (P : hd_P hB hc) {j : Nat} {x : Int32} : hd_P hB (am_put hc 98 j (.int x)) := by
  obtain ⟨a1, a2, a3, a4⟩ := P
  refine ⟨a1, fun c j' h1 h2 => by rw [hd_pv (by omega)]; exact a2 c j' h1 h2, fun j' hj => ?_, fun j' hj => by rw [hd_pv (by omega), hd_iv (by omega)]; exact a4 j' hj⟩
  by_cases e : j' = j
  · subst e
    rw [hd_pe, hd_ip]
  · rw [hd_pv (by omega), hd_iv (by omega)]
    exact a3 j' hj
theorem hd_P.p99 (P : hd_P hB hc) {j : Nat} {x : Int32} : hd_P hB (am_put hc 99 j (.int x)) := by
  obtain ⟨a1, a2, a3, a4⟩ := P
  refine ⟨a1, fun c j' h1 h2 => by rw [hd_pv (by omega)]; exact a2 c j' h1 h2, fun j' hj => by rw [hd_pv (by omega), hd_iv (by omega)]; exact a3 j' hj, fun j' hj => ?_⟩
  by_cases e : j' = j
  · subst e
    rw [hd_pe, hd_ip]
  · rw [hd_pv (by omega), hd_iv (by omega)]
    exact a4 j' hj
theorem hd_P.r98 (P : hd_P hB hc) (I : cq_Inv none hB) {i : Int32} {k : Nat} (e : i.toInt = k) (hk : k < 31) : am_rd hc 98 i (fun c => Nat.beq c 0) = some (.int (hd_i hc 98 k)) := by
  obtain ⟨m1, m2⟩ := P.sh I (c := 98) (tc := 0) (ln := 31) (by decide) (by decide) (by decide +kernel)
  rw [hd_rdS m1 m2 (by decide) (by omega) (by omega), show i.toInt.toNat = k by omega, P.2.2.1 k hk]
theorem hd_P.r99 (P : hd_P hB hc) (I : cq_Inv none hB) {i : Int32} {k : Nat} (e : i.toInt = k) (hk : k < 31) : am_rd hc 99 i (fun c => Nat.beq c 0) = some (.int (hd_i hc 99 k)) := by
  obtain ⟨m1, m2⟩ := P.sh I (c := 99) (tc := 0) (ln := 31) (by decide) (by decide) (by decide +kernel)
  rw [hd_rdS m1 m2 (by decide) (by omega) (by omega), show i.toInt.toNat = k by omega, P.2.2.2 k hk]
theorem hd_P.w98 (P : hd_P hB hc) (I : cq_Inv none hB) {i x : Int32} {k : Nat} (e : i.toInt = k) (hk : k < 31) : am_wr hc 98 i 0 (.int x) = some (am_put hc 98 k (.int x)) := by
  obtain ⟨m1, m2⟩ := P.sh I (c := 98) (tc := 0) (ln := 31) (by decide) (by decide) (by decide +kernel)
  rw [hd_wrS m1 m2 (by omega) (by omega), show i.toInt.toNat = k by omega]
theorem hd_P.w99 (P : hd_P hB hc) (I : cq_Inv none hB) {i x : Int32} {k : Nat} (e : i.toInt = k) (hk : k < 31) : am_wr hc 99 i 0 (.int x) = some (am_put hc 99 k (.int x)) := by
  obtain ⟨m1, m2⟩ := P.sh I (c := 99) (tc := 0) (ln := 31) (by decide) (by decide) (by decide +kernel)
  rw [hd_wrS m1 m2 (by omega) (by omega), show i.toInt.toNat = k by omega]
end HDP
theorem hd_ofN {i : Int32} {k : Nat} (e : i.toInt = k) : Int32.ofNat k = i := by
  have : Int32.ofInt (k : Int) = i := by rw [← e]; exact Int32.ofInt_toInt i
  rw [← this]
  rfl
theorem hd_C.put {hB hc : am_H} {t : Int32} {n i j k : Nat} {x y : Int32} (C : hd_C hB hc t n i j) (hk : k < i) : hd_C hB (am_put (am_put hc 98 k (.int x)) 99 k (.int y)) t n i j := by
  obtain ⟨a, b, c, d, e, f⟩ := C
  refine ⟨a, b, c, ?_, ?_, ?_⟩
  · rw [hd_iv (by omega), hd_iv (by omega)]; exact d
  · rw [hd_iv (by omega), hd_iv (by omega), hd_iv (by omega), hd_iv (by omega)]; exact e
  · rw [hd_iv (by omega), hd_iv (by omega), hd_iv (by omega), hd_iv (by omega)]; exact f
section HDQ
variable {hB : am_H} {t nn ii : Int32} {n i d : Nat}
/-- the inner loop of findPages -/
theorem hd_fp1 (I : cq_Inv none hB) (ht : 0 ≤ t.toInt ∧ t.toInt ≤ 119) (hl : cq_n hB 93 t.toInt.toNat = n) (n30 : n ≤ 30) (en : nn.toInt = n) (ei : ii.toInt = i) (hin : i < n) (hd : 2 ≤ d) : ∀ (m j : Nat) (jj : Int32) (v5 v6 : Value) (hc : am_H), m + j = n → jj.toInt = j → i ≤ j → hd_P hB hc → (hd_i hc 98 i = hd_NV ∨ ∃ j', hd_C hB hc t n i j') → ∃ (hc' : am_H) (v4 v5' v6' : Value), hd_P hB hc' ∧ (∀ k, k ≠ i → hd_i hc' 98 k = hd_i hc 98 k ∧ hd_i hc' 99 k = hd_i hc 99 k) ∧ (hd_i hc' 98 i = hd_NV ∨ ∃ j', hd_C hB hc' t n i j') ∧ ∀ x, am_ev (d + 1) 198 181 [.ref 78, .int t, .int nn, .int ii, v4, v5', v6'] [] hc' x → am_ev (d + 1) 198 48 [.ref 78, .int t, .int nn, .int ii, .int jj, v5, v6] [] hc x := by
  intro m
  induction m with
  | zero =>
    intro j jj v5 v6 hc hm ej hij P S
    refine ⟨hc, .int jj, v5, v6, P, fun k _ => ⟨rfl, rfl⟩, S, fun x q => ?_⟩
    refine am_ev.step rfl rfl ?_
    refine am_ev.step rfl rfl ?_
    exact am_ev.step (pc' := 181) (ls' := [.ref 78, .int t, .int nn, .int ii, .int jj, v5, v6]) (st' := []) (h' := hc) rfl (if_pos (Int32.le_iff_toInt_le.2 (by omega))) q
  | succ m ih =>
    intro j jj v5 v6 hc hm ej hij P S
    have nle : ¬ (nn ≤ jj) := fun z => by
      have := Int32.le_iff_toInt_le.1 z
      omega
    have ej1 := hd_inc ej (by omega)
    have O := P.o I
    have f29 := P.f29 I
    have f30 := P.f30 I
    have evs := hd_199 (d := d) I (P.R I) ht (by omega) (i := ii) (j := jj) (by omega) (by omega) hd
    have esq : hd_sq hB t ii jj = hd_sq hB t (Int32.ofNat i) (Int32.ofNat j) := by rw [hd_ofN ei, hd_ofN ej]
    generalize hs : hd_sq hB t ii jj = s at evs esq
    have head : ∀ x, am_ev (d + 1) 198 64 [.ref 78, .int t, .int nn, .int ii, .int jj, .int s, v6] [] hc x → am_ev (d + 1) 198 48 [.ref 78, .int t, .int nn, .int ii, .int jj, v5, v6] [] hc x := fun x q => by
      refine am_ev.step rfl rfl ?_
      refine am_ev.step rfl rfl ?_
      refine am_ev.step (pc' := 54) (ls' := [.ref 78, .int t, .int nn, .int ii, .int jj, v5, v6]) (st' := []) (h' := hc) rfl (if_neg nle) ?_
      refine am_ev.step rfl rfl ?_
      refine am_ev.step rfl rfl ?_
      refine am_ev.step rfl rfl ?_
      refine am_ev.step rfl rfl ?_
      refine hd_cv 199 (as := [.ref 78, .int t, .int ii, .int jj]) (rr := []) rfl (Or.inr (Or.inl ⟨_, rfl⟩)) rfl (by decide) rfl rfl (by decide) O (Nat.le_of_ble_eq_true rfl) evs ?_
      exact am_ev.step rfl rfl q
    have tail : ∀ (h1 : am_H) (w : Value) x, am_ev (d + 1) 198 48 [.ref 78, .int t, .int nn, .int ii, .int (jj + Int32.ofInt 1), .int s, w] [] h1 x → am_ev (d + 1) 198 175 [.ref 78, .int t, .int nn, .int ii, .int jj, .int s, w] [] h1 x := fun h1 w x q => by
      refine am_ev.step rfl rfl ?_
      exact am_ev.step rfl rfl q
    -- nothing is written
    have skip : ∀ w : Value, (∀ x, am_ev (d + 1) 198 175 [.ref 78, .int t, .int nn, .int ii, .int jj, .int s, w] [] hc x → am_ev (d + 1) 198 64 [.ref 78, .int t, .int nn, .int ii, .int jj, .int s, v6] [] hc x) → ∃ (hc' : am_H) (v4 v5' v6' : Value), hd_P hB hc' ∧ (∀ k, k ≠ i → hd_i hc' 98 k = hd_i hc 98 k ∧ hd_i hc' 99 k = hd_i hc 99 k) ∧ (hd_i hc' 98 i = hd_NV ∨ ∃ j', hd_C hB hc' t n i j') ∧ ∀ x, am_ev (d + 1) 198 181 [.ref 78, .int t, .int nn, .int ii, v4, v5', v6'] [] hc' x → am_ev (d + 1) 198 48 [.ref 78, .int t, .int nn, .int ii, .int jj, v5, v6] [] hc x := fun w go => by
      obtain ⟨hc', v4, v5', v6', P', K, S', Q⟩ := ih (j + 1) (jj + Int32.ofInt 1) (.int s) w hc (by omega) ej1 (by omega) P S
      exact ⟨hc', v4, v5', v6', P', K, S', fun x q => head x (go x (tail hc w x (Q x q)))⟩
    by_cases c1 : hd_NV ≤ s
    · refine skip v6 fun x q => ?_
      refine am_ev.step rfl rfl ?_
      refine am_ev.step rfl rfl ?_
      exact am_ev.step (pc' := 175) (ls' := [.ref 78, .int t, .int nn, .int ii, .int jj, .int s, v6]) (st' := []) (h' := hc) rfl (if_pos c1) q
    have r98 := P.r98 I ej1 (by omega)
    have to72 : ∀ x, am_ev (d + 1) 198 84 [.ref 78, .int t, .int nn, .int ii, .int jj, .int s, v6] [.int hd_NV, .int (hd_i hc 98 (j + 1))] hc x → am_ev (d + 1) 198 64 [.ref 78, .int t, .int nn, .int ii, .int jj, .int s, v6] [] hc x := fun x q => by
      refine am_ev.step rfl rfl ?_
      refine am_ev.step rfl rfl ?_
      refine am_ev.step (pc' := 72) (ls' := [.ref 78, .int t, .int nn, .int ii, .int jj, .int s, v6]) (st' := []) (h' := hc) rfl (if_neg c1) ?_
      refine am_ev.step rfl rfl ?_
      refine am_ev.step rfl (hd_gf O f29) ?_
      refine am_ev.step rfl rfl ?_
      refine am_ev.step rfl rfl ?_
      refine am_ev.step rfl rfl ?_
      refine am_ev.step rfl (hd_ia r98) ?_
      exact am_ev.step rfl rfl q
    by_cases c2 : hd_i hc 98 (j + 1) < hd_NV
    · have r98i := P.r98 I ei (by omega)
      have r99j := P.r99 I ej1 (by omega)
      have r99i := P.r99 I ei (by omega)
      have to103 : ∀ x, am_ev (d + 1) 198 103 [.ref 78, .int t, .int nn, .int ii, .int jj, .int s, .int (Int32.ofInt 1 + hd_i hc 98 (j + 1))] [] hc x → am_ev (d + 1) 198 64 [.ref 78, .int t, .int nn, .int ii, .int jj, .int s, v6] [] hc x := fun x q => to72 x (by
        refine am_ev.step (pc' := 90) (ls' := [.ref 78, .int t, .int nn, .int ii, .int jj, .int s, v6]) (st' := []) (h' := hc) rfl (if_pos c2) ?_
        refine am_ev.step rfl rfl ?_
        refine am_ev.step rfl rfl ?_
        refine am_ev.step rfl (hd_gf O f29) ?_
        refine am_ev.step rfl rfl ?_
        refine am_ev.step rfl rfl ?_
        refine am_ev.step rfl rfl ?_
        refine am_ev.step rfl (hd_ia r98) ?_
        refine am_ev.step rfl rfl ?_
        exact am_ev.step rfl rfl q)
      by_cases c3 : hd_i hc 98 i < Int32.ofInt 1 + hd_i hc 98 (j + 1)
      · refine skip (.int (Int32.ofInt 1 + hd_i hc 98 (j + 1))) fun x q => to103 x ?_
        refine am_ev.step rfl rfl ?_
        refine am_ev.step rfl rfl ?_
        refine am_ev.step rfl (hd_gf O f29) ?_
        refine am_ev.step rfl rfl ?_
        refine am_ev.step rfl (hd_ia r98i) ?_
        exact am_ev.step (pc' := 175) (ls' := [.ref 78, .int t, .int nn, .int ii, .int jj, .int s, .int (Int32.ofInt 1 + hd_i hc 98 (j + 1))]) (st' := []) (h' := hc) rfl (if_pos c3) q
      have to122 : ∀ x, am_ev (d + 1) 198 122 [.ref 78, .int t, .int nn, .int ii, .int jj, .int s, .int (Int32.ofInt 1 + hd_i hc 98 (j + 1))] [.int (hd_i hc 98 i), .int (Int32.ofInt 1 + hd_i hc 98 (j + 1))] hc x → am_ev (d + 1) 198 64 [.ref 78, .int t, .int nn, .int ii, .int jj, .int s, v6] [] hc x := fun x q => to103 x (by
        refine am_ev.step rfl rfl ?_
        refine am_ev.step rfl rfl ?_
        refine am_ev.step rfl (hd_gf O f29) ?_
        refine am_ev.step rfl rfl ?_
        refine am_ev.step rfl (hd_ia r98i) ?_
        refine am_ev.step (pc' := 114) (ls' := [.ref 78, .int t, .int nn, .int ii, .int jj, .int s, .int (Int32.ofInt 1 + hd_i hc 98 (j + 1))]) (st' := []) (h' := hc) rfl (if_neg c3) ?_
        refine am_ev.step rfl rfl ?_
        refine am_ev.step rfl rfl ?_
        refine am_ev.step rfl (hd_gf O f29) ?_
        refine am_ev.step rfl rfl ?_
        exact am_ev.step rfl (hd_ia r98i) q)
      -- a better way is written
      have wr : (∀ x, am_ev (d + 1) 198 149 [.ref 78, .int t, .int nn, .int ii, .int jj, .int s, .int (Int32.ofInt 1 + hd_i hc 98 (j + 1))] [] hc x → am_ev (d + 1) 198 64 [.ref 78, .int t, .int nn, .int ii, .int jj, .int s, v6] [] hc x) → ∃ (hc' : am_H) (v4 v5' v6' : Value), hd_P hB hc' ∧ (∀ k, k ≠ i → hd_i hc' 98 k = hd_i hc 98 k ∧ hd_i hc' 99 k = hd_i hc 99 k) ∧ (hd_i hc' 98 i = hd_NV ∨ ∃ j', hd_C hB hc' t n i j') ∧ ∀ x, am_ev (d + 1) 198 181 [.ref 78, .int t, .int nn, .int ii, v4, v5', v6'] [] hc' x → am_ev (d + 1) 198 48 [.ref 78, .int t, .int nn, .int ii, .int jj, v5, v6] [] hc x := fun go => by
        have w98 := P.w98 I (x := Int32.ofInt 1 + hd_i hc 98 (j + 1)) ei (by omega)
        have P1 := P.p98 (j := i) (x := Int32.ofInt 1 + hd_i hc 98 (j + 1))
        have r99k := P1.r99 I ej1 (by omega)
        have w99 := P1.w99 I (x := s + hd_i hc 99 (j + 1)) ei (by omega)
        have P2 := P1.p99 (j := i) (x := s + hd_i hc 99 (j + 1))
        rw [hd_iv (by omega)] at r99k
        have C2 : hd_C hB (am_put (am_put hc 98 i (.int (Int32.ofInt 1 + hd_i hc 98 (j + 1)))) 99 i (.int (s + hd_i hc 99 (j + 1)))) t n i j := by
          refine ⟨hij, by omega, by rw [← esq]; exact c1, ?_, ?_, ?_⟩
          · rw [hd_iv (by omega), hd_iv (by omega)]; exact c2
          · rw [hd_iv (by omega), hd_iv (by omega), hd_iv (by omega), hd_ip]
          · rw [hd_ip, hd_iv (by omega), hd_iv (by omega), ← esq]
        obtain ⟨hc', v4, v5', v6', P', K, S', Q⟩ := ih (j + 1) (jj + Int32.ofInt 1) (.int s) (.int (Int32.ofInt 1 + hd_i hc 98 (j + 1))) _ (by omega) ej1 (by omega) P2 (Or.inr ⟨j, C2⟩)
        refine ⟨hc', v4, v5', v6', P', fun k hk => ?_, S', fun x q => head x (go x ?_)⟩
        · obtain ⟨k1, k2⟩ := K k hk
          rw [k1, k2, hd_iv (by omega), hd_iv (by omega), hd_iv (by omega), hd_iv (by omega)]
          exact ⟨rfl, rfl⟩
        · refine am_ev.step rfl rfl ?_
          refine am_ev.step rfl (hd_gf O f29) ?_
          refine am_ev.step rfl rfl ?_
          refine am_ev.step rfl rfl ?_
          refine am_ev.step rfl (hd_is w98) ?_
          refine am_ev.step rfl rfl ?_
          refine am_ev.step rfl (hd_gf (P1.o I) (P1.f30 I)) ?_
          refine am_ev.step rfl rfl ?_
          refine am_ev.step rfl rfl ?_
          refine am_ev.step rfl rfl ?_
          refine am_ev.step rfl (hd_gf (P1.o I) (P1.f30 I)) ?_
          refine am_ev.step rfl rfl ?_
          refine am_ev.step rfl rfl ?_
          refine am_ev.step rfl rfl ?_
          refine am_ev.step rfl (hd_ia r99k) ?_
          refine am_ev.step rfl rfl ?_
          refine am_ev.step rfl (hd_is w99) ?_
          exact tail _ _ x (Q x q)
      by_cases c4 : Int32.ofInt 1 + hd_i hc 98 (j + 1) = hd_i hc 98 i
      · have to143 : ∀ x, am_ev (d + 1) 198 143 [.ref 78, .int t, .int nn, .int ii, .int jj, .int s, .int (Int32.ofInt 1 + hd_i hc 98 (j + 1))] [.int (hd_i hc 99 i), .int (s + hd_i hc 99 (j + 1))] hc x → am_ev (d + 1) 198 64 [.ref 78, .int t, .int nn, .int ii, .int jj, .int s, v6] [] hc x := fun x q => to122 x (by
          refine am_ev.step (pc' := 125) (ls' := [.ref 78, .int t, .int nn, .int ii, .int jj, .int s, .int (Int32.ofInt 1 + hd_i hc 98 (j + 1))]) (st' := []) (h' := hc) rfl (if_pos c4) ?_
          refine am_ev.step rfl rfl ?_
          refine am_ev.step rfl rfl ?_
          refine am_ev.step rfl (hd_gf O f30) ?_
          refine am_ev.step rfl rfl ?_
          refine am_ev.step rfl rfl ?_
          refine am_ev.step rfl rfl ?_
          refine am_ev.step rfl (hd_ia r99j) ?_
          refine am_ev.step rfl rfl ?_
          refine am_ev.step rfl rfl ?_
          refine am_ev.step rfl (hd_gf O f30) ?_
          refine am_ev.step rfl rfl ?_
          exact am_ev.step rfl (hd_ia r99i) q)
        by_cases c5 : s + hd_i hc 99 (j + 1) < hd_i hc 99 i
        · exact wr fun x q => to143 x (am_ev.step (pc' := 149) (ls' := [.ref 78, .int t, .int nn, .int ii, .int jj, .int s, .int (Int32.ofInt 1 + hd_i hc 98 (j + 1))]) (st' := []) (h' := hc) rfl (if_pos c5) q)
        · refine skip (.int (Int32.ofInt 1 + hd_i hc 98 (j + 1))) fun x q => to143 x ?_
          refine am_ev.step (pc' := 146) (ls' := [.ref 78, .int t, .int nn, .int ii, .int jj, .int s, .int (Int32.ofInt 1 + hd_i hc 98 (j + 1))]) (st' := []) (h' := hc) rfl (if_neg c5) ?_
          exact am_ev.step rfl rfl q
      · exact wr fun x q => to122 x (am_ev.step (pc' := 149) (ls' := [.ref 78, .int t, .int nn, .int ii, .int jj, .int s, .int (Int32.ofInt 1 + hd_i hc 98 (j + 1))]) (st' := []) (h' := hc) rfl (if_neg c4) q)
    · refine skip v6 fun x q => to72 x ?_
      refine am_ev.step (pc' := 87) (ls' := [.ref 78, .int t, .int nn, .int ii, .int jj, .int s, v6]) (st' := []) (h' := hc) rfl (if_neg c2) ?_
      exact am_ev.step rfl rfl q
end HDQ
end
