section
/-! RULES, the other side: the loop over clauses -/
theorem sv_e : ∀ c, c < 7 → cq_sv 5 c = cq_sv 2 c ∧ cq_sv 6 c = cq_sv 3 c := by decide +kernel
section RMA
variable {d : Nat} {h h0 : am_H} {b : Nat → Int} {L p s e s1 e1 s2 e2 s3 e3 s4 e4 l n : Nat} {k v k1 k2 k3 k4 v1 v2 v3 v4 w c : Int} {V Y τ : Nat → Int} {a2 : Value}
theorem rm_Fx (hb : tz_r b) (hL : L ≤ 1600) (C : MS h h0 b L p s e k v w τ V Y) (kn : k ≠ 0) (q : cl_r b s e k (-1)) : ∃ H : am_H, am_ev (d + 7) 174 70 [.ref 78, iv ((n : Int)), a2] [] h  (some (.retAddr (79 + 1)), H) ∧ H.2.2.2 78 8 = iv 1 ∧ H.2.2.2 78 9 = iv s ∧ (∀ j, H.2.2.2 81 j = h0.2.2.2 81 j) ∧ (∀ j, H.2.2.2 82 j = h0.2.2.2 82 j) ∧ fS H ∧ H.2.2.2 78 2 = iv 0 := by
  obtain ⟨S, B, w3, t0, w4, w5, w6, w7, -, -, f8, f9, dT, dV, dY, z81, z82, zt⟩ := C
  have f0 := t0.f5 hb
  have hr0 := tH_r (k := k) ⟨f0.2.2.2.1, f0.2.2.2.2⟩
  have hn0 := tH_0 (k := k) ⟨f0.2.2.2.1, f0.2.2.2.2⟩ kn
  refine ⟨(am_put (am_put h 78 8 (iv 1)) 78 9 (iv ((s : Int)))), ?_, (ax_put_o (Or.inr (by decide)) (ax_put_s _ _ _)), (ax_put_s _ _ _), fun j => (ax_put_o (Or.inl (by decide)) (ax_put_o (Or.inl (by decide)) (z81 j))), fun j => (ax_put_o (Or.inl (by decide)) (ax_put_o (Or.inl (by decide)) (z82 j))), ((S.po rfl rfl).po rfl rfl), (ax_put_o (Or.inr (by decide)) (ax_put_o (Or.inr (by decide)) zt))⟩
  refine am_ev.step (pc' := 71) rfl rfl ?_
  refine ax_gf (p' := 74) rfl rfl (S.ob rfl) w6 ?_
  refine fx_z_eq_F (pF := 77) rfl (by omega) rfl (by omega) ?_
  refine am_ev.step (pc' := 78) rfl rfl ?_
  refine am_ev.ldcw rfl rfl rfl rfl ?_
  refine ax_call (z := 175) (p' := 84) (as := [_, _]) rfl (Or.inr (Or.inl ⟨_, rfl⟩)) rfl rfl rfl rfl rfl rfl (S.ob rfl) rfl ((tk_175 (i := 5) (k := k) (s := s) (e := e) (by decide) S B hb hL w6 w4 w5 ⟨f0.2.1, f0.2.2.1⟩ ⟨f0.2.2.2.1, Int.le_trans f0.2.2.2.2 (by decide)⟩).2 ((cl_r_w q (n := 7) (by decide)).2 (by omega))) rfl ?_
  refine fx_z_eq_T (pT := 150) rfl (by omega) rfl (by omega) ?_
  refine am_ev.step (pc' := 151) rfl rfl ?_
  refine ax_call (z := 180) (p' := 154) (as := [_]) rfl (Or.inr (Or.inl ⟨_, rfl⟩)) rfl rfl rfl rfl rfl rfl (S.ob rfl) rfl (md_180 S B hb hL w4 w5 w6 ⟨f0.2.1, f0.2.2.1⟩ ⟨f0.2.2.2.1, Int.le_trans f0.2.2.2.2 (by decide)⟩ q (by omega)) rfl ?_
  refine am_ev.step (pc' := 155) (ls' := [.ref 78, iv ((n : Int)), iv (-1)]) rfl rfl ?_
  refine am_ev.step (pc' := 156) rfl rfl ?_
  refine am_ev.step (pc' := 157) rfl rfl ?_
  refine am_ev.step (pc' := 158) rfl rfl ?_
  refine fx_c_eq_T (pT := 165) rfl (by omega) (by omega) rfl (by omega) ?_
  refine am_ev.step (pc' := 166) rfl rfl ?_
  refine am_ev.step (pc' := 167) rfl rfl ?_
  refine ax_callT (a := 79) (z := 177) (as := [_, _, _]) rfl (Or.inr (Or.inl ⟨_, rfl⟩)) rfl rfl rfl rfl rfl rfl (S.ob rfl) (md_177f (s := s) S w4) rfl rfl (fO (fO (S.ob rfl))) rfl
theorem rm_Fa (hb : tz_r b) (hL : L ≤ 1600) (C : MS h h0 b L p s e k v w τ V Y) (kn : k ≠ 0) (hl : l < 7) (q : cl_r b s e k l) (q0 : τ l = 1) : ∃ H : am_H, am_ev (d + 7) 174 70 [.ref 78, iv ((n : Int)), a2] [] h  (some (.retAddr (79 + 1)), H) ∧ H.2.2.2 78 8 = iv 3 ∧ H.2.2.2 78 9 = iv s ∧ (∀ j, H.2.2.2 81 j = h0.2.2.2 81 j) ∧ (∀ j, H.2.2.2 82 j = h0.2.2.2 82 j) ∧ fS H ∧ H.2.2.2 78 2 = iv 0 := by
  obtain ⟨S, B, w3, t0, w4, w5, w6, w7, -, -, f8, f9, dT, dV, dY, z81, z82, zt⟩ := C
  have f0 := t0.f5 hb
  have hr0 := tH_r (k := k) ⟨f0.2.2.2.1, f0.2.2.2.2⟩
  have hn0 := tH_0 (k := k) ⟨f0.2.2.2.1, f0.2.2.2.2⟩ kn
  refine ⟨(am_put (am_put h 78 8 (iv 3)) 78 9 (iv ((s : Int)))), ?_, (ax_put_o (Or.inr (by decide)) (ax_put_s _ _ _)), (ax_put_s _ _ _), fun j => (ax_put_o (Or.inl (by decide)) (ax_put_o (Or.inl (by decide)) (z81 j))), fun j => (ax_put_o (Or.inl (by decide)) (ax_put_o (Or.inl (by decide)) (z82 j))), ((S.po rfl rfl).po rfl rfl), (ax_put_o (Or.inr (by decide)) (ax_put_o (Or.inr (by decide)) zt))⟩
  refine am_ev.step (pc' := 71) rfl rfl ?_
  refine ax_gf (p' := 74) rfl rfl (S.ob rfl) w6 ?_
  refine fx_z_eq_F (pF := 77) rfl (by omega) rfl (by omega) ?_
  refine am_ev.step (pc' := 78) rfl rfl ?_
  refine am_ev.ldcw rfl rfl rfl rfl ?_
  refine ax_call (z := 175) (p' := 84) (as := [_, _]) rfl (Or.inr (Or.inl ⟨_, rfl⟩)) rfl rfl rfl rfl rfl rfl (S.ob rfl) rfl ((tk_175 (i := 5) (k := k) (s := s) (e := e) (by decide) S B hb hL w6 w4 w5 ⟨f0.2.1, f0.2.2.1⟩ ⟨f0.2.2.2.1, Int.le_trans f0.2.2.2.2 (by decide)⟩).2 ((cl_r_w q (n := 7) (by decide)).2 (by omega))) rfl ?_
  refine fx_z_eq_T (pT := 150) rfl (by omega) rfl (by omega) ?_
  refine am_ev.step (pc' := 151) rfl rfl ?_
  refine ax_call (z := 180) (p' := 154) (as := [_]) rfl (Or.inr (Or.inl ⟨_, rfl⟩)) rfl rfl rfl rfl rfl rfl (S.ob rfl) rfl (md_180 S B hb hL w4 w5 w6 ⟨f0.2.1, f0.2.2.1⟩ ⟨f0.2.2.2.1, Int.le_trans f0.2.2.2.2 (by decide)⟩ q (by omega)) rfl ?_
  refine am_ev.step (pc' := 155) (ls' := [.ref 78, iv ((n : Int)), iv ((l : Int))]) rfl rfl ?_
  refine am_ev.step (pc' := 156) rfl rfl ?_
  refine am_ev.step (pc' := 157) rfl rfl ?_
  refine am_ev.step (pc' := 158) rfl rfl ?_
  refine fx_c_eq_F (pF := 161) rfl (by omega) (by omega) rfl (by omega) ?_
  refine am_ev.step (pc' := 162) rfl rfl ?_
  refine am_ev.step (pc' := 166) rfl rfl ?_
  refine am_ev.step (pc' := 167) rfl rfl ?_
  refine ax_call (z := 177) (p' := 170) (as := [_, _, _]) rfl (Or.inr (Or.inl ⟨_, rfl⟩)) rfl rfl rfl rfl rfl rfl (S.ob rfl) rfl md_177t rfl ?_
  refine am_ev.step (pc' := 171) rfl rfl ?_
  refine am_ev.step (pc' := 172) rfl rfl ?_
  refine ax_gf (p' := 175) rfl rfl (S.ob rfl) (S.rf rfl rfl) ?_
  refine am_ev.step (pc' := 176) rfl rfl ?_
  refine ax_baload (p' := 177) rfl rfl (S.rd (k := l) rfl rfl rfl rfl rfl (by omega) (dT l (by omega))) ?_
  refine fx_z_ne_T (pT := 184) rfl (by omega) rfl (by omega) ?_
  refine am_ev.step (pc' := 185) rfl rfl ?_
  refine am_ev.step (pc' := 186) rfl rfl ?_
  refine ax_callT (a := 79) (z := 177) (as := [_, _, _]) rfl (Or.inr (Or.inl ⟨_, rfl⟩)) rfl rfl rfl rfl rfl rfl (S.ob rfl) (md_177f (s := s) S w4) rfl rfl (fO (fO (S.ob rfl))) rfl
theorem rm_Fb (hb : tz_r b) (hL : L ≤ 1600) (C : MS h h0 b L p s e k v w τ V Y) (kn : k ≠ 0) (hl : l < 7) (q : cl_r b s e k l) (q0 : τ l = 0) (t1 : tz_t b L e s1 e1 k1 v1) (q1 : k1 ≠ 2) : ∃ H : am_H, am_ev (d + 7) 174 70 [.ref 78, iv ((n : Int)), a2] [] h  (some (.retAddr (79 + 1)), H) ∧ H.2.2.2 78 8 = iv 1 ∧ H.2.2.2 78 9 = iv s1 ∧ (∀ j, H.2.2.2 81 j = h0.2.2.2 81 j) ∧ (∀ j, H.2.2.2 82 j = h0.2.2.2 82 j) ∧ fS H ∧ H.2.2.2 78 2 = iv 0 := by
  obtain ⟨S, B, w3, t0, w4, w5, w6, w7, -, -, f8, f9, dT, dV, dY, z81, z82, zt⟩ := C
  have f0 := t0.f5 hb
  have hr0 := tH_r (k := k) ⟨f0.2.2.2.1, f0.2.2.2.2⟩
  have hn0 := tH_0 (k := k) ⟨f0.2.2.2.1, f0.2.2.2.2⟩ kn
  have es := sv_e l hl
  have rb := sv_b l hl
  have f1 := t1.f5 hb
  refine ⟨(am_put (am_put (am_put (am_put (am_put (am_put (am_put h 85 l (iv 1)) 78 4 (iv ((s1 : Int)))) 78 7 (iv ((tV b L s1 (w))))) 78 5 (iv ((e1 : Int)))) 78 6 (iv ((tH k1)))) 78 8 (iv 1)) 78 9 (iv ((s1 : Int)))), ?_, (ax_put_o (Or.inr (by decide)) (ax_put_s _ _ _)), (ax_put_s _ _ _), fun j => (ax_put_o (Or.inl (by decide)) (ax_put_o (Or.inl (by decide)) (ax_put_o (Or.inl (by decide)) (ax_put_o (Or.inl (by decide)) (ax_put_o (Or.inl (by decide)) (ax_put_o (Or.inl (by decide)) (ax_put_o (Or.inl (by decide)) (z81 j)))))))), fun j => (ax_put_o (Or.inl (by decide)) (ax_put_o (Or.inl (by decide)) (ax_put_o (Or.inl (by decide)) (ax_put_o (Or.inl (by decide)) (ax_put_o (Or.inl (by decide)) (ax_put_o (Or.inl (by decide)) (ax_put_o (Or.inl (by decide)) (z82 j)))))))), (((((((S.pa rfl).po rfl rfl).po rfl rfl).po rfl rfl).po rfl rfl).po rfl rfl).po rfl rfl), (ax_put_o (Or.inr (by decide)) (ax_put_o (Or.inr (by decide)) (ax_put_o (Or.inr (by decide)) (ax_put_o (Or.inr (by decide)) (ax_put_o (Or.inr (by decide)) (ax_put_o (Or.inr (by decide)) (ax_put_o (Or.inl (by decide)) zt)))))))⟩
  refine am_ev.step (pc' := 71) rfl rfl ?_
  refine ax_gf (p' := 74) rfl rfl (S.ob rfl) w6 ?_
  refine fx_z_eq_F (pF := 77) rfl (by omega) rfl (by omega) ?_
  refine am_ev.step (pc' := 78) rfl rfl ?_
  refine am_ev.ldcw rfl rfl rfl rfl ?_
  refine ax_call (z := 175) (p' := 84) (as := [_, _]) rfl (Or.inr (Or.inl ⟨_, rfl⟩)) rfl rfl rfl rfl rfl rfl (S.ob rfl) rfl ((tk_175 (i := 5) (k := k) (s := s) (e := e) (by decide) S B hb hL w6 w4 w5 ⟨f0.2.1, f0.2.2.1⟩ ⟨f0.2.2.2.1, Int.le_trans f0.2.2.2.2 (by decide)⟩).2 ((cl_r_w q (n := 7) (by decide)).2 (by omega))) rfl ?_
  refine fx_z_eq_T (pT := 150) rfl (by omega) rfl (by omega) ?_
  refine am_ev.step (pc' := 151) rfl rfl ?_
  refine ax_call (z := 180) (p' := 154) (as := [_]) rfl (Or.inr (Or.inl ⟨_, rfl⟩)) rfl rfl rfl rfl rfl rfl (S.ob rfl) rfl (md_180 S B hb hL w4 w5 w6 ⟨f0.2.1, f0.2.2.1⟩ ⟨f0.2.2.2.1, Int.le_trans f0.2.2.2.2 (by decide)⟩ q (by omega)) rfl ?_
  refine am_ev.step (pc' := 155) (ls' := [.ref 78, iv ((n : Int)), iv ((l : Int))]) rfl rfl ?_
  refine am_ev.step (pc' := 156) rfl rfl ?_
  refine am_ev.step (pc' := 157) rfl rfl ?_
  refine am_ev.step (pc' := 158) rfl rfl ?_
  refine fx_c_eq_F (pF := 161) rfl (by omega) (by omega) rfl (by omega) ?_
  refine am_ev.step (pc' := 162) rfl rfl ?_
  refine am_ev.step (pc' := 166) rfl rfl ?_
  refine am_ev.step (pc' := 167) rfl rfl ?_
  refine ax_call (z := 177) (p' := 170) (as := [_, _, _]) rfl (Or.inr (Or.inl ⟨_, rfl⟩)) rfl rfl rfl rfl rfl rfl (S.ob rfl) rfl md_177t rfl ?_
  refine am_ev.step (pc' := 171) rfl rfl ?_
  refine am_ev.step (pc' := 172) rfl rfl ?_
  refine ax_gf (p' := 175) rfl rfl (S.ob rfl) (S.rf rfl rfl) ?_
  refine am_ev.step (pc' := 176) rfl rfl ?_
  refine ax_baload (p' := 177) rfl rfl (S.rd (k := l) rfl rfl rfl rfl rfl (by omega) (dT l (by omega))) ?_
  refine fx_z_ne_F (pF := 180) rfl (by omega) rfl (by omega) ?_
  refine am_ev.step (pc' := 181) rfl rfl ?_
  refine am_ev.step (pc' := 185) rfl rfl ?_
  refine am_ev.step (pc' := 186) rfl rfl ?_
  refine ax_call (z := 177) (p' := 189) (as := [_, _, _]) rfl (Or.inr (Or.inl ⟨_, rfl⟩)) rfl rfl rfl rfl rfl rfl (S.ob rfl) rfl md_177t rfl ?_
  refine am_ev.step (pc' := 190) rfl rfl ?_
  refine ax_gf (p' := 193) rfl rfl (S.ob rfl) (S.rf rfl rfl) ?_
  refine am_ev.step (pc' := 194) rfl rfl ?_
  refine am_ev.step (pc' := 195) rfl rfl ?_
  refine ax_bas2 (p' := 196) rfl rfl (S.wr (k := l) rfl rfl rfl rfl (by omega)) (S.sb rfl rfl) (by decide) ?_
  refine am_ev.step (pc' := 197) rfl rfl ?_
  refine ax_call (z := 170) (p' := 200) (as := [_]) rfl (Or.inr (Or.inl ⟨_, rfl⟩)) rfl rfl rfl rfl rfl rfl (fO (S.ob rfl)) rfl (md_170 (S.pa rfl) (B.put (by decide)) hb hL (ax_put_o (Or.inl (by decide)) w3) (ax_put_o (Or.inl (by decide)) w5) (ax_put_o (Or.inl (by decide)) w7) t1) rfl ?_
  refine am_ev.step (pc' := 201) rfl rfl ?_
  refine ax_gf (p' := 204) rfl rfl (fO (fO (fO (fO (fO (S.ob rfl)))))) (ax_put_o (Or.inr (by decide)) (ax_put_o (Or.inr (by decide)) (ax_put_o (Or.inr (by decide)) (ax_put_o (Or.inr (by decide)) (ax_put_o (Or.inl (by decide)) (S.rf rfl rfl)))))) ?_
  refine am_ev.step (pc' := 205) rfl rfl ?_
  refine am_ev.step (pc' := 206) rfl rfl ?_
  refine am_ev.step (pc' := 209) rfl rfl ?_
  refine am_ev.step (pc' := 210) rfl rfl ?_
  refine ax_iaload (p' := 211) rfl rfl ((((((S.pa rfl).po rfl rfl).po rfl rfl).po rfl rfl).po rfl rfl).rs (k := l) rfl rfl (by omega)) ?_
  refine am_ev.step (pc' := 214) rfl rfl ?_
  refine am_ev.step (pc' := 215) rfl rfl ?_
  refine ax_iaload (p' := 216) rfl rfl ((((((S.pa rfl).po rfl rfl).po rfl rfl).po rfl rfl).po rfl rfl).rs (k := l) rfl rfl (by omega)) ?_
  refine ax_callT (a := 79) (z := 179) (as := [_, _, _]) rfl (Or.inr (Or.inl ⟨_, rfl⟩)) rfl rfl rfl rfl rfl rfl (fO (fO (fO (fO (fO (S.ob rfl)))))) (md_179a (lo := ((cq_sv 5 l))) (hi := ((cq_sv 6 l))) (k := k1) (s := s1) (((((S.pa rfl).po rfl rfl).po rfl rfl).po rfl rfl).po rfl rfl) (ax_put_o (Or.inr (by decide)) (ax_put_o (Or.inr (by decide)) (ax_put_o (Or.inr (by decide)) (ax_put_s _ _ _)))) (ax_put_s _ _ _) (by omega) (by omega) (by omega)) rfl rfl (fO (fO (fO (fO (fO (fO (fO (S.ob rfl)))))))) rfl
theorem rm_Fc (hb : tz_r b) (hL : L ≤ 1600) (C : MS h h0 b L p s e k v w τ V Y) (kn : k ≠ 0) (hl : l < 7) (q : cl_r b s e k l) (q0 : τ l = 0) (t1 : tz_t b L e s1 e1 k1 v1) (q1 : k1 = 2 ∧ ¬ (cq_sv 2 l ≤ v1 ∧ v1 ≤ cq_sv 3 l)) : ∃ H : am_H, am_ev (d + 7) 174 70 [.ref 78, iv ((n : Int)), a2] [] h  (some (.retAddr (79 + 1)), H) ∧ H.2.2.2 78 8 = iv 2 ∧ H.2.2.2 78 9 = iv s1 ∧ (∀ j, H.2.2.2 81 j = h0.2.2.2 81 j) ∧ (∀ j, H.2.2.2 82 j = h0.2.2.2 82 j) ∧ fS H ∧ H.2.2.2 78 2 = iv 0 := by
  obtain ⟨S, B, w3, t0, w4, w5, w6, w7, -, -, f8, f9, dT, dV, dY, z81, z82, zt⟩ := C
  have f0 := t0.f5 hb
  have hr0 := tH_r (k := k) ⟨f0.2.2.2.1, f0.2.2.2.2⟩
  have hn0 := tH_0 (k := k) ⟨f0.2.2.2.1, f0.2.2.2.2⟩ kn
  have es := sv_e l hl
  have rb := sv_b l hl
  have f1 := t1.f5 hb
  have y1 := (t1.v w).1 q1.1
  have u1 := t1.bd hb q1.1
  refine ⟨(am_put (am_put (am_put (am_put (am_put (am_put (am_put h 85 l (iv 1)) 78 4 (iv ((s1 : Int)))) 78 7 (iv ((tV b L s1 (w))))) 78 5 (iv ((e1 : Int)))) 78 6 (iv ((tH k1)))) 78 8 (iv 2)) 78 9 (iv ((s1 : Int)))), ?_, (ax_put_o (Or.inr (by decide)) (ax_put_s _ _ _)), (ax_put_s _ _ _), fun j => (ax_put_o (Or.inl (by decide)) (ax_put_o (Or.inl (by decide)) (ax_put_o (Or.inl (by decide)) (ax_put_o (Or.inl (by decide)) (ax_put_o (Or.inl (by decide)) (ax_put_o (Or.inl (by decide)) (ax_put_o (Or.inl (by decide)) (z81 j)))))))), fun j => (ax_put_o (Or.inl (by decide)) (ax_put_o (Or.inl (by decide)) (ax_put_o (Or.inl (by decide)) (ax_put_o (Or.inl (by decide)) (ax_put_o (Or.inl (by decide)) (ax_put_o (Or.inl (by decide)) (ax_put_o (Or.inl (by decide)) (z82 j)))))))), (((((((S.pa rfl).po rfl rfl).po rfl rfl).po rfl rfl).po rfl rfl).po rfl rfl).po rfl rfl), (ax_put_o (Or.inr (by decide)) (ax_put_o (Or.inr (by decide)) (ax_put_o (Or.inr (by decide)) (ax_put_o (Or.inr (by decide)) (ax_put_o (Or.inr (by decide)) (ax_put_o (Or.inr (by decide)) (ax_put_o (Or.inl (by decide)) zt)))))))⟩
  refine am_ev.step (pc' := 71) rfl rfl ?_
  refine ax_gf (p' := 74) rfl rfl (S.ob rfl) w6 ?_
  refine fx_z_eq_F (pF := 77) rfl (by omega) rfl (by omega) ?_
  refine am_ev.step (pc' := 78) rfl rfl ?_
  refine am_ev.ldcw rfl rfl rfl rfl ?_
  refine ax_call (z := 175) (p' := 84) (as := [_, _]) rfl (Or.inr (Or.inl ⟨_, rfl⟩)) rfl rfl rfl rfl rfl rfl (S.ob rfl) rfl ((tk_175 (i := 5) (k := k) (s := s) (e := e) (by decide) S B hb hL w6 w4 w5 ⟨f0.2.1, f0.2.2.1⟩ ⟨f0.2.2.2.1, Int.le_trans f0.2.2.2.2 (by decide)⟩).2 ((cl_r_w q (n := 7) (by decide)).2 (by omega))) rfl ?_
  refine fx_z_eq_T (pT := 150) rfl (by omega) rfl (by omega) ?_
  refine am_ev.step (pc' := 151) rfl rfl ?_
  refine ax_call (z := 180) (p' := 154) (as := [_]) rfl (Or.inr (Or.inl ⟨_, rfl⟩)) rfl rfl rfl rfl rfl rfl (S.ob rfl) rfl (md_180 S B hb hL w4 w5 w6 ⟨f0.2.1, f0.2.2.1⟩ ⟨f0.2.2.2.1, Int.le_trans f0.2.2.2.2 (by decide)⟩ q (by omega)) rfl ?_
  refine am_ev.step (pc' := 155) (ls' := [.ref 78, iv ((n : Int)), iv ((l : Int))]) rfl rfl ?_
  refine am_ev.step (pc' := 156) rfl rfl ?_
  refine am_ev.step (pc' := 157) rfl rfl ?_
  refine am_ev.step (pc' := 158) rfl rfl ?_
  refine fx_c_eq_F (pF := 161) rfl (by omega) (by omega) rfl (by omega) ?_
  refine am_ev.step (pc' := 162) rfl rfl ?_
  refine am_ev.step (pc' := 166) rfl rfl ?_
  refine am_ev.step (pc' := 167) rfl rfl ?_
  refine ax_call (z := 177) (p' := 170) (as := [_, _, _]) rfl (Or.inr (Or.inl ⟨_, rfl⟩)) rfl rfl rfl rfl rfl rfl (S.ob rfl) rfl md_177t rfl ?_
  refine am_ev.step (pc' := 171) rfl rfl ?_
  refine am_ev.step (pc' := 172) rfl rfl ?_
  refine ax_gf (p' := 175) rfl rfl (S.ob rfl) (S.rf rfl rfl) ?_
  refine am_ev.step (pc' := 176) rfl rfl ?_
  refine ax_baload (p' := 177) rfl rfl (S.rd (k := l) rfl rfl rfl rfl rfl (by omega) (dT l (by omega))) ?_
  refine fx_z_ne_F (pF := 180) rfl (by omega) rfl (by omega) ?_
  refine am_ev.step (pc' := 181) rfl rfl ?_
  refine am_ev.step (pc' := 185) rfl rfl ?_
  refine am_ev.step (pc' := 186) rfl rfl ?_
  refine ax_call (z := 177) (p' := 189) (as := [_, _, _]) rfl (Or.inr (Or.inl ⟨_, rfl⟩)) rfl rfl rfl rfl rfl rfl (S.ob rfl) rfl md_177t rfl ?_
  refine am_ev.step (pc' := 190) rfl rfl ?_
  refine ax_gf (p' := 193) rfl rfl (S.ob rfl) (S.rf rfl rfl) ?_
  refine am_ev.step (pc' := 194) rfl rfl ?_
  refine am_ev.step (pc' := 195) rfl rfl ?_
  refine ax_bas2 (p' := 196) rfl rfl (S.wr (k := l) rfl rfl rfl rfl (by omega)) (S.sb rfl rfl) (by decide) ?_
  refine am_ev.step (pc' := 197) rfl rfl ?_
  refine ax_call (z := 170) (p' := 200) (as := [_]) rfl (Or.inr (Or.inl ⟨_, rfl⟩)) rfl rfl rfl rfl rfl rfl (fO (S.ob rfl)) rfl (md_170 (S.pa rfl) (B.put (by decide)) hb hL (ax_put_o (Or.inl (by decide)) w3) (ax_put_o (Or.inl (by decide)) w5) (ax_put_o (Or.inl (by decide)) w7) t1) rfl ?_
  refine am_ev.step (pc' := 201) rfl rfl ?_
  refine ax_gf (p' := 204) rfl rfl (fO (fO (fO (fO (fO (S.ob rfl)))))) (ax_put_o (Or.inr (by decide)) (ax_put_o (Or.inr (by decide)) (ax_put_o (Or.inr (by decide)) (ax_put_o (Or.inr (by decide)) (ax_put_o (Or.inl (by decide)) (S.rf rfl rfl)))))) ?_
  refine am_ev.step (pc' := 205) rfl rfl ?_
  refine am_ev.step (pc' := 206) rfl rfl ?_
  refine am_ev.step (pc' := 209) rfl rfl ?_
  refine am_ev.step (pc' := 210) rfl rfl ?_
  refine ax_iaload (p' := 211) rfl rfl ((((((S.pa rfl).po rfl rfl).po rfl rfl).po rfl rfl).po rfl rfl).rs (k := l) rfl rfl (by omega)) ?_
  refine am_ev.step (pc' := 214) rfl rfl ?_
  refine am_ev.step (pc' := 215) rfl rfl ?_
  refine ax_iaload (p' := 216) rfl rfl ((((((S.pa rfl).po rfl rfl).po rfl rfl).po rfl rfl).po rfl rfl).rs (k := l) rfl rfl (by omega)) ?_
  refine ax_callT (a := 79) (z := 179) (as := [_, _, _]) rfl (Or.inr (Or.inl ⟨_, rfl⟩)) rfl rfl rfl rfl rfl rfl (fO (fO (fO (fO (fO (S.ob rfl)))))) (md_179b (lo := ((cq_sv 5 l))) (hi := ((cq_sv 6 l))) (k := k1) (s := s1) (((((S.pa rfl).po rfl rfl).po rfl rfl).po rfl rfl).po rfl rfl) (ax_put_o (Or.inr (by decide)) (ax_put_o (Or.inr (by decide)) (ax_put_o (Or.inr (by decide)) (ax_put_s _ _ _)))) (ax_put_s _ _ _) (by omega) (by omega) (ax_put_o (Or.inr (by decide)) (ax_put_o (Or.inr (by decide)) (ax_put_s _ _ _))) (by omega) (by omega)) rfl rfl (fO (fO (fO (fO (fO (fO (fO (S.ob rfl)))))))) rfl
theorem rm_Fd (hb : tz_r b) (hL : L ≤ 1600) (C : MS h h0 b L p s e k v w τ V Y) (kn : k ≠ 0) (hl : l < 7) (q : cl_r b s e k l) (q0 : τ l = 0) (t1 : tz_t b L e s1 e1 k1 v1) (q1 : k1 = 2 ∧ cq_sv 2 l ≤ v1 ∧ v1 ≤ cq_sv 3 l) (t2 : tz_t b L e1 s2 e2 k2 v2) (q2 : k2 ≠ 59) : ∃ H : am_H, am_ev (d + 7) 174 70 [.ref 78, iv ((n : Int)), a2] [] h  (some (.retAddr (79 + 1)), H) ∧ H.2.2.2 78 8 = iv 1 ∧ H.2.2.2 78 9 = iv s2 ∧ (∀ j, H.2.2.2 81 j = h0.2.2.2 81 j) ∧ (∀ j, H.2.2.2 82 j = h0.2.2.2 82 j) ∧ fS H ∧ H.2.2.2 78 2 = iv 0 := by
  obtain ⟨S, B, w3, t0, w4, w5, w6, w7, -, -, f8, f9, dT, dV, dY, z81, z82, zt⟩ := C
  have f0 := t0.f5 hb
  have hr0 := tH_r (k := k) ⟨f0.2.2.2.1, f0.2.2.2.2⟩
  have hn0 := tH_0 (k := k) ⟨f0.2.2.2.1, f0.2.2.2.2⟩ kn
  have es := sv_e l hl
  have rb := sv_b l hl
  have f1 := t1.f5 hb
  have y1 := (t1.v w).1 q1.1
  have u1 := t1.bd hb q1.1
  have f2 := t2.f5 hb
  refine ⟨(am_put (am_put (am_put (am_put (am_put (am_put (am_put (am_put (am_put (am_put (am_put (am_put h 85 l (iv 1)) 78 4 (iv ((s1 : Int)))) 78 7 (iv ((tV b L s1 (w))))) 78 5 (iv ((e1 : Int)))) 78 6 (iv ((tH k1)))) 78 4 (iv ((s2 : Int)))) 78 7 (iv ((tV b L s2 ((tV b L s1 (w))))))) 78 5 (iv ((e2 : Int)))) 78 6 (iv ((tH k2)))) 83 l (iv ((tV b L s1 (w))))) 78 8 (iv 1)) 78 9 (iv ((s2 : Int)))), ?_, (ax_put_o (Or.inr (by decide)) (ax_put_s _ _ _)), (ax_put_s _ _ _), fun j => (ax_put_o (Or.inl (by decide)) (ax_put_o (Or.inl (by decide)) (ax_put_o (Or.inl (by decide)) (ax_put_o (Or.inl (by decide)) (ax_put_o (Or.inl (by decide)) (ax_put_o (Or.inl (by decide)) (ax_put_o (Or.inl (by decide)) (ax_put_o (Or.inl (by decide)) (ax_put_o (Or.inl (by decide)) (ax_put_o (Or.inl (by decide)) (ax_put_o (Or.inl (by decide)) (ax_put_o (Or.inl (by decide)) (z81 j))))))))))))), fun j => (ax_put_o (Or.inl (by decide)) (ax_put_o (Or.inl (by decide)) (ax_put_o (Or.inl (by decide)) (ax_put_o (Or.inl (by decide)) (ax_put_o (Or.inl (by decide)) (ax_put_o (Or.inl (by decide)) (ax_put_o (Or.inl (by decide)) (ax_put_o (Or.inl (by decide)) (ax_put_o (Or.inl (by decide)) (ax_put_o (Or.inl (by decide)) (ax_put_o (Or.inl (by decide)) (ax_put_o (Or.inl (by decide)) (z82 j))))))))))))), ((((((((((((S.pa rfl).po rfl rfl).po rfl rfl).po rfl rfl).po rfl rfl).po rfl rfl).po rfl rfl).po rfl rfl).po rfl rfl).pa rfl).po rfl rfl).po rfl rfl), (ax_put_o (Or.inr (by decide)) (ax_put_o (Or.inr (by decide)) (ax_put_o (Or.inl (by decide)) (ax_put_o (Or.inr (by decide)) (ax_put_o (Or.inr (by decide)) (ax_put_o (Or.inr (by decide)) (ax_put_o (Or.inr (by decide)) (ax_put_o (Or.inr (by decide)) (ax_put_o (Or.inr (by decide)) (ax_put_o (Or.inr (by decide)) (ax_put_o (Or.inr (by decide)) (ax_put_o (Or.inl (by decide)) zt))))))))))))⟩
  refine am_ev.step (pc' := 71) rfl rfl ?_
  refine ax_gf (p' := 74) rfl rfl (S.ob rfl) w6 ?_
  refine fx_z_eq_F (pF := 77) rfl (by omega) rfl (by omega) ?_
  refine am_ev.step (pc' := 78) rfl rfl ?_
  refine am_ev.ldcw rfl rfl rfl rfl ?_
  refine ax_call (z := 175) (p' := 84) (as := [_, _]) rfl (Or.inr (Or.inl ⟨_, rfl⟩)) rfl rfl rfl rfl rfl rfl (S.ob rfl) rfl ((tk_175 (i := 5) (k := k) (s := s) (e := e) (by decide) S B hb hL w6 w4 w5 ⟨f0.2.1, f0.2.2.1⟩ ⟨f0.2.2.2.1, Int.le_trans f0.2.2.2.2 (by decide)⟩).2 ((cl_r_w q (n := 7) (by decide)).2 (by omega))) rfl ?_
  refine fx_z_eq_T (pT := 150) rfl (by omega) rfl (by omega) ?_
  refine am_ev.step (pc' := 151) rfl rfl ?_
  refine ax_call (z := 180) (p' := 154) (as := [_]) rfl (Or.inr (Or.inl ⟨_, rfl⟩)) rfl rfl rfl rfl rfl rfl (S.ob rfl) rfl (md_180 S B hb hL w4 w5 w6 ⟨f0.2.1, f0.2.2.1⟩ ⟨f0.2.2.2.1, Int.le_trans f0.2.2.2.2 (by decide)⟩ q (by omega)) rfl ?_
  refine am_ev.step (pc' := 155) (ls' := [.ref 78, iv ((n : Int)), iv ((l : Int))]) rfl rfl ?_
  refine am_ev.step (pc' := 156) rfl rfl ?_
  refine am_ev.step (pc' := 157) rfl rfl ?_
  refine am_ev.step (pc' := 158) rfl rfl ?_
  refine fx_c_eq_F (pF := 161) rfl (by omega) (by omega) rfl (by omega) ?_
  refine am_ev.step (pc' := 162) rfl rfl ?_
  refine am_ev.step (pc' := 166) rfl rfl ?_
  refine am_ev.step (pc' := 167) rfl rfl ?_
  refine ax_call (z := 177) (p' := 170) (as := [_, _, _]) rfl (Or.inr (Or.inl ⟨_, rfl⟩)) rfl rfl rfl rfl rfl rfl (S.ob rfl) rfl md_177t rfl ?_
  refine am_ev.step (pc' := 171) rfl rfl ?_
  refine am_ev.step (pc' := 172) rfl rfl ?_
  refine ax_gf (p' := 175) rfl rfl (S.ob rfl) (S.rf rfl rfl) ?_
  refine am_ev.step (pc' := 176) rfl rfl ?_
  refine ax_baload (p' := 177) rfl rfl (S.rd (k := l) rfl rfl rfl rfl rfl (by omega) (dT l (by omega))) ?_
  refine fx_z_ne_F (pF := 180) rfl (by omega) rfl (by omega) ?_
  refine am_ev.step (pc' := 181) rfl rfl ?_
  refine am_ev.step (pc' := 185) rfl rfl ?_
  refine am_ev.step (pc' := 186) rfl rfl ?_
  refine ax_call (z := 177) (p' := 189) (as := [_, _, _]) rfl (Or.inr (Or.inl ⟨_, rfl⟩)) rfl rfl rfl rfl rfl rfl (S.ob rfl) rfl md_177t rfl ?_
  refine am_ev.step (pc' := 190) rfl rfl ?_
  refine ax_gf (p' := 193) rfl rfl (S.ob rfl) (S.rf rfl rfl) ?_
  refine am_ev.step (pc' := 194) rfl rfl ?_
  refine am_ev.step (pc' := 195) rfl rfl ?_
  refine ax_bas2 (p' := 196) rfl rfl (S.wr (k := l) rfl rfl rfl rfl (by omega)) (S.sb rfl rfl) (by decide) ?_
  refine am_ev.step (pc' := 197) rfl rfl ?_
  refine ax_call (z := 170) (p' := 200) (as := [_]) rfl (Or.inr (Or.inl ⟨_, rfl⟩)) rfl rfl rfl rfl rfl rfl (fO (S.ob rfl)) rfl (md_170 (S.pa rfl) (B.put (by decide)) hb hL (ax_put_o (Or.inl (by decide)) w3) (ax_put_o (Or.inl (by decide)) w5) (ax_put_o (Or.inl (by decide)) w7) t1) rfl ?_
  refine am_ev.step (pc' := 201) rfl rfl ?_
  refine ax_gf (p' := 204) rfl rfl (fO (fO (fO (fO (fO (S.ob rfl)))))) (ax_put_o (Or.inr (by decide)) (ax_put_o (Or.inr (by decide)) (ax_put_o (Or.inr (by decide)) (ax_put_o (Or.inr (by decide)) (ax_put_o (Or.inl (by decide)) (S.rf rfl rfl)))))) ?_
  refine am_ev.step (pc' := 205) rfl rfl ?_
  refine am_ev.step (pc' := 206) rfl rfl ?_
  refine am_ev.step (pc' := 209) rfl rfl ?_
  refine am_ev.step (pc' := 210) rfl rfl ?_
  refine ax_iaload (p' := 211) rfl rfl ((((((S.pa rfl).po rfl rfl).po rfl rfl).po rfl rfl).po rfl rfl).rs (k := l) rfl rfl (by omega)) ?_
  refine am_ev.step (pc' := 214) rfl rfl ?_
  refine am_ev.step (pc' := 215) rfl rfl ?_
  refine ax_iaload (p' := 216) rfl rfl ((((((S.pa rfl).po rfl rfl).po rfl rfl).po rfl rfl).po rfl rfl).rs (k := l) rfl rfl (by omega)) ?_
  refine ax_call (z := 179) (p' := 219) (as := [_, _, _]) rfl (Or.inr (Or.inl ⟨_, rfl⟩)) rfl rfl rfl rfl rfl rfl (fO (fO (fO (fO (fO (S.ob rfl)))))) rfl (md_179c (lo := ((cq_sv 5 l))) (hi := ((cq_sv 6 l))) (k := k1) (s := s1) (((((S.pa rfl).po rfl rfl).po rfl rfl).po rfl rfl).po rfl rfl) (ax_put_o (Or.inr (by decide)) (ax_put_o (Or.inr (by decide)) (ax_put_o (Or.inr (by decide)) (ax_put_s _ _ _)))) (ax_put_s _ _ _) (by omega) (by omega) (ax_put_o (Or.inr (by decide)) (ax_put_o (Or.inr (by decide)) (ax_put_s _ _ _))) (by omega) (((((B.put (by decide)).put (by decide)).put (by decide)).put (by decide)).put (by decide)) hb hL (ax_put_o (Or.inr (by decide)) (ax_put_o (Or.inr (by decide)) (ax_put_o (Or.inr (by decide)) (ax_put_o (Or.inr (by decide)) (ax_put_o (Or.inl (by decide)) w3))))) (ax_put_o (Or.inr (by decide)) (ax_put_s _ _ _)) t2 (by omega)) rfl ?_
  refine ax_iastore (p' := 220) rfl rfl ((((((((((S.pa rfl).po rfl rfl).po rfl rfl).po rfl rfl).po rfl rfl).po rfl rfl).po rfl rfl).po rfl rfl).po rfl rfl).wr (k := l) rfl rfl rfl rfl (by omega)) ?_
  refine am_ev.step (pc' := 221) rfl rfl ?_
  refine ax_callT (a := 79) (z := 181) (as := [_]) rfl (Or.inr (Or.inl ⟨_, rfl⟩)) rfl rfl rfl rfl rfl rfl (fO (fO (fO (fO (fO (fO (fO (fO (fO (fO (S.ob rfl))))))))))) (md_181a (s := s2) (k := k2) ((((((((((S.pa rfl).po rfl rfl).po rfl rfl).po rfl rfl).po rfl rfl).po rfl rfl).po rfl rfl).po rfl rfl).po rfl rfl).pa rfl) (ax_put_o (Or.inl (by decide)) (ax_put_o (Or.inr (by decide)) (ax_put_o (Or.inr (by decide)) (ax_put_o (Or.inr (by decide)) (ax_put_s _ _ _))))) (ax_put_o (Or.inl (by decide)) (ax_put_s _ _ _)) (by omega) (ax_put_o (Or.inl (by decide)) (ax_put_o (Or.inr (by decide)) (ax_put_o (Or.inr (by decide)) (ax_put_s _ _ _)))) (t2.v _).2 (t2.h4 hb) (by omega)) rfl rfl (fO (fO (fO (fO (fO (fO (fO (fO (fO (fO (fO (fO (S.ob rfl))))))))))))) rfl
theorem rm_Ffa (hb : tz_r b) (hL : L ≤ 1600) (C : MS h h0 b L p s e k v w τ V Y) (kn : k ≠ 0) (q : cl_r b s e k 7) (t1 : tz_t b L e s1 e1 k1 v1) (q1 : k1 ≠ 2) : ∃ H : am_H, am_ev (d + 7) 174 70 [.ref 78, iv ((n : Int)), a2] [] h  (some (.retAddr (79 + 1)), H) ∧ H.2.2.2 78 8 = iv 1 ∧ H.2.2.2 78 9 = iv s1 ∧ (∀ j, H.2.2.2 81 j = h0.2.2.2 81 j) ∧ (∀ j, H.2.2.2 82 j = h0.2.2.2 82 j) ∧ fS H ∧ H.2.2.2 78 2 = iv 0 := by
  obtain ⟨S, B, w3, t0, w4, w5, w6, w7, -, -, f8, f9, dT, dV, dY, z81, z82, zt⟩ := C
  have f0 := t0.f5 hb
  have hr0 := tH_r (k := k) ⟨f0.2.2.2.1, f0.2.2.2.2⟩
  have hn0 := tH_0 (k := k) ⟨f0.2.2.2.1, f0.2.2.2.2⟩ kn
  have f1 := t1.f5 hb
  refine ⟨(am_put (am_put (am_put (am_put (am_put (am_put h 78 4 (iv ((s1 : Int)))) 78 7 (iv ((tV b L s1 (w))))) 78 5 (iv ((e1 : Int)))) 78 6 (iv ((tH k1)))) 78 8 (iv 1)) 78 9 (iv ((s1 : Int)))), ?_, (ax_put_o (Or.inr (by decide)) (ax_put_s _ _ _)), (ax_put_s _ _ _), fun j => (ax_put_o (Or.inl (by decide)) (ax_put_o (Or.inl (by decide)) (ax_put_o (Or.inl (by decide)) (ax_put_o (Or.inl (by decide)) (ax_put_o (Or.inl (by decide)) (ax_put_o (Or.inl (by decide)) (z81 j))))))), fun j => (ax_put_o (Or.inl (by decide)) (ax_put_o (Or.inl (by decide)) (ax_put_o (Or.inl (by decide)) (ax_put_o (Or.inl (by decide)) (ax_put_o (Or.inl (by decide)) (ax_put_o (Or.inl (by decide)) (z82 j))))))), ((((((S.po rfl rfl).po rfl rfl).po rfl rfl).po rfl rfl).po rfl rfl).po rfl rfl), (ax_put_o (Or.inr (by decide)) (ax_put_o (Or.inr (by decide)) (ax_put_o (Or.inr (by decide)) (ax_put_o (Or.inr (by decide)) (ax_put_o (Or.inr (by decide)) (ax_put_o (Or.inr (by decide)) zt))))))⟩
  refine am_ev.step (pc' := 71) rfl rfl ?_
  refine ax_gf (p' := 74) rfl rfl (S.ob rfl) w6 ?_
  refine fx_z_eq_F (pF := 77) rfl (by omega) rfl (by omega) ?_
  refine am_ev.step (pc' := 78) rfl rfl ?_
  refine am_ev.ldcw rfl rfl rfl rfl ?_
  refine ax_call (z := 175) (p' := 84) (as := [_, _]) rfl (Or.inr (Or.inl ⟨_, rfl⟩)) rfl rfl rfl rfl rfl rfl (S.ob rfl) rfl ((tk_175 (i := 5) (k := k) (s := s) (e := e) (by decide) S B hb hL w6 w4 w5 ⟨f0.2.1, f0.2.2.1⟩ ⟨f0.2.2.2.1, Int.le_trans f0.2.2.2.2 (by decide)⟩).1 ((cl_r_w q (n := 7) (by decide)).1 (by omega))) rfl ?_
  refine fx_z_eq_F (pF := 87) rfl (by omega) rfl (by omega) ?_
  refine am_ev.step (pc' := 88) rfl rfl ?_
  refine ax_call (z := 170) (p' := 91) (as := [_]) rfl (Or.inr (Or.inl ⟨_, rfl⟩)) rfl rfl rfl rfl rfl rfl (S.ob rfl) rfl (md_170 S B hb hL w3 w5 w7 t1) rfl ?_
  refine am_ev.step (pc' := 92) rfl rfl ?_
  refine am_ev.step (pc' := 93) rfl rfl ?_
  refine am_ev.step (pc' := 94) rfl rfl ?_
  refine ax_callT (a := 79) (z := 176) (as := [_, _, _]) rfl (Or.inr (Or.inl ⟨_, rfl⟩)) rfl rfl rfl rfl rfl rfl (fO (fO (fO (fO (S.ob rfl))))) (md_176a (lo := 0) (hi := 5) (k := k1) (s := s1) ((((S.po rfl rfl).po rfl rfl).po rfl rfl).po rfl rfl) (ax_put_o (Or.inr (by decide)) (ax_put_o (Or.inr (by decide)) (ax_put_o (Or.inr (by decide)) (ax_put_s _ _ _)))) (ax_put_s _ _ _) (by omega) (by omega) (by omega)) rfl rfl (fO (fO (fO (fO (fO (fO (S.ob rfl))))))) rfl
theorem rm_Ffb (hb : tz_r b) (hL : L ≤ 1600) (C : MS h h0 b L p s e k v w τ V Y) (kn : k ≠ 0) (q : cl_r b s e k 7) (t1 : tz_t b L e s1 e1 k1 v1) (q1 : k1 = 2 ∧ ¬ (0 ≤ v1 ∧ v1 ≤ 5)) : ∃ H : am_H, am_ev (d + 7) 174 70 [.ref 78, iv ((n : Int)), a2] [] h  (some (.retAddr (79 + 1)), H) ∧ H.2.2.2 78 8 = iv 2 ∧ H.2.2.2 78 9 = iv s1 ∧ (∀ j, H.2.2.2 81 j = h0.2.2.2 81 j) ∧ (∀ j, H.2.2.2 82 j = h0.2.2.2 82 j) ∧ fS H ∧ H.2.2.2 78 2 = iv 0 := by
  obtain ⟨S, B, w3, t0, w4, w5, w6, w7, -, -, f8, f9, dT, dV, dY, z81, z82, zt⟩ := C
  have f0 := t0.f5 hb
  have hr0 := tH_r (k := k) ⟨f0.2.2.2.1, f0.2.2.2.2⟩
  have hn0 := tH_0 (k := k) ⟨f0.2.2.2.1, f0.2.2.2.2⟩ kn
  have f1 := t1.f5 hb
  have y1 := (t1.v w).1 q1.1
  have u1 := t1.bd hb q1.1
  refine ⟨(am_put (am_put (am_put (am_put (am_put (am_put h 78 4 (iv ((s1 : Int)))) 78 7 (iv ((tV b L s1 (w))))) 78 5 (iv ((e1 : Int)))) 78 6 (iv ((tH k1)))) 78 8 (iv 2)) 78 9 (iv ((s1 : Int)))), ?_, (ax_put_o (Or.inr (by decide)) (ax_put_s _ _ _)), (ax_put_s _ _ _), fun j => (ax_put_o (Or.inl (by decide)) (ax_put_o (Or.inl (by decide)) (ax_put_o (Or.inl (by decide)) (ax_put_o (Or.inl (by decide)) (ax_put_o (Or.inl (by decide)) (ax_put_o (Or.inl (by decide)) (z81 j))))))), fun j => (ax_put_o (Or.inl (by decide)) (ax_put_o (Or.inl (by decide)) (ax_put_o (Or.inl (by decide)) (ax_put_o (Or.inl (by decide)) (ax_put_o (Or.inl (by decide)) (ax_put_o (Or.inl (by decide)) (z82 j))))))), ((((((S.po rfl rfl).po rfl rfl).po rfl rfl).po rfl rfl).po rfl rfl).po rfl rfl), (ax_put_o (Or.inr (by decide)) (ax_put_o (Or.inr (by decide)) (ax_put_o (Or.inr (by decide)) (ax_put_o (Or.inr (by decide)) (ax_put_o (Or.inr (by decide)) (ax_put_o (Or.inr (by decide)) zt))))))⟩
  refine am_ev.step (pc' := 71) rfl rfl ?_
  refine ax_gf (p' := 74) rfl rfl (S.ob rfl) w6 ?_
  refine fx_z_eq_F (pF := 77) rfl (by omega) rfl (by omega) ?_
  refine am_ev.step (pc' := 78) rfl rfl ?_
  refine am_ev.ldcw rfl rfl rfl rfl ?_
  refine ax_call (z := 175) (p' := 84) (as := [_, _]) rfl (Or.inr (Or.inl ⟨_, rfl⟩)) rfl rfl rfl rfl rfl rfl (S.ob rfl) rfl ((tk_175 (i := 5) (k := k) (s := s) (e := e) (by decide) S B hb hL w6 w4 w5 ⟨f0.2.1, f0.2.2.1⟩ ⟨f0.2.2.2.1, Int.le_trans f0.2.2.2.2 (by decide)⟩).1 ((cl_r_w q (n := 7) (by decide)).1 (by omega))) rfl ?_
  refine fx_z_eq_F (pF := 87) rfl (by omega) rfl (by omega) ?_
  refine am_ev.step (pc' := 88) rfl rfl ?_
  refine ax_call (z := 170) (p' := 91) (as := [_]) rfl (Or.inr (Or.inl ⟨_, rfl⟩)) rfl rfl rfl rfl rfl rfl (S.ob rfl) rfl (md_170 S B hb hL w3 w5 w7 t1) rfl ?_
  refine am_ev.step (pc' := 92) rfl rfl ?_
  refine am_ev.step (pc' := 93) rfl rfl ?_
  refine am_ev.step (pc' := 94) rfl rfl ?_
  refine ax_callT (a := 79) (z := 176) (as := [_, _, _]) rfl (Or.inr (Or.inl ⟨_, rfl⟩)) rfl rfl rfl rfl rfl rfl (fO (fO (fO (fO (S.ob rfl))))) (md_176b (lo := 0) (hi := 5) (k := k1) (s := s1) ((((S.po rfl rfl).po rfl rfl).po rfl rfl).po rfl rfl) (ax_put_o (Or.inr (by decide)) (ax_put_o (Or.inr (by decide)) (ax_put_o (Or.inr (by decide)) (ax_put_s _ _ _)))) (ax_put_s _ _ _) (by omega) (by omega) (ax_put_o (Or.inr (by decide)) (ax_put_o (Or.inr (by decide)) (ax_put_s _ _ _))) (by omega) (by omega)) rfl rfl (fO (fO (fO (fO (fO (fO (S.ob rfl))))))) rfl
theorem rm_Ffc (hb : tz_r b) (hL : L ≤ 1600) (C : MS h h0 b L p s e k v w τ V Y) (kn : k ≠ 0) (q : cl_r b s e k 7) (hl : l < 6) (t1 : tz_t b L e s1 e1 k1 (l : Int)) (q1 : k1 = 2) (q0 : τ (l + 7) = 1) : ∃ H : am_H, am_ev (d + 7) 174 70 [.ref 78, iv ((n : Int)), a2] [] h  (some (.retAddr (79 + 1)), H) ∧ H.2.2.2 78 8 = iv 3 ∧ H.2.2.2 78 9 = iv s1 ∧ (∀ j, H.2.2.2 81 j = h0.2.2.2 81 j) ∧ (∀ j, H.2.2.2 82 j = h0.2.2.2 82 j) ∧ fS H ∧ H.2.2.2 78 2 = iv 0 := by
  obtain ⟨S, B, w3, t0, w4, w5, w6, w7, -, -, f8, f9, dT, dV, dY, z81, z82, zt⟩ := C
  have f0 := t0.f5 hb
  have hr0 := tH_r (k := k) ⟨f0.2.2.2.1, f0.2.2.2.2⟩
  have hn0 := tH_0 (k := k) ⟨f0.2.2.2.1, f0.2.2.2.2⟩ kn
  have f1 := t1.f5 hb
  have y1 := (t1.v w).1 q1
  have u1 := t1.bd hb q1
  refine ⟨(am_put (am_put (am_put (am_put (am_put (am_put h 78 4 (iv ((s1 : Int)))) 78 7 (iv ((tV b L s1 (w))))) 78 5 (iv ((e1 : Int)))) 78 6 (iv ((tH k1)))) 78 8 (iv 3)) 78 9 (iv ((s1 : Int)))), ?_, (ax_put_o (Or.inr (by decide)) (ax_put_s _ _ _)), (ax_put_s _ _ _), fun j => (ax_put_o (Or.inl (by decide)) (ax_put_o (Or.inl (by decide)) (ax_put_o (Or.inl (by decide)) (ax_put_o (Or.inl (by decide)) (ax_put_o (Or.inl (by decide)) (ax_put_o (Or.inl (by decide)) (z81 j))))))), fun j => (ax_put_o (Or.inl (by decide)) (ax_put_o (Or.inl (by decide)) (ax_put_o (Or.inl (by decide)) (ax_put_o (Or.inl (by decide)) (ax_put_o (Or.inl (by decide)) (ax_put_o (Or.inl (by decide)) (z82 j))))))), ((((((S.po rfl rfl).po rfl rfl).po rfl rfl).po rfl rfl).po rfl rfl).po rfl rfl), (ax_put_o (Or.inr (by decide)) (ax_put_o (Or.inr (by decide)) (ax_put_o (Or.inr (by decide)) (ax_put_o (Or.inr (by decide)) (ax_put_o (Or.inr (by decide)) (ax_put_o (Or.inr (by decide)) zt))))))⟩
  refine am_ev.step (pc' := 71) rfl rfl ?_
  refine ax_gf (p' := 74) rfl rfl (S.ob rfl) w6 ?_
  refine fx_z_eq_F (pF := 77) rfl (by omega) rfl (by omega) ?_
  refine am_ev.step (pc' := 78) rfl rfl ?_
  refine am_ev.ldcw rfl rfl rfl rfl ?_
  refine ax_call (z := 175) (p' := 84) (as := [_, _]) rfl (Or.inr (Or.inl ⟨_, rfl⟩)) rfl rfl rfl rfl rfl rfl (S.ob rfl) rfl ((tk_175 (i := 5) (k := k) (s := s) (e := e) (by decide) S B hb hL w6 w4 w5 ⟨f0.2.1, f0.2.2.1⟩ ⟨f0.2.2.2.1, Int.le_trans f0.2.2.2.2 (by decide)⟩).1 ((cl_r_w q (n := 7) (by decide)).1 (by omega))) rfl ?_
  refine fx_z_eq_F (pF := 87) rfl (by omega) rfl (by omega) ?_
  refine am_ev.step (pc' := 88) rfl rfl ?_
  refine ax_call (z := 170) (p' := 91) (as := [_]) rfl (Or.inr (Or.inl ⟨_, rfl⟩)) rfl rfl rfl rfl rfl rfl (S.ob rfl) rfl (md_170 S B hb hL w3 w5 w7 t1) rfl ?_
  refine am_ev.step (pc' := 92) rfl rfl ?_
  refine am_ev.step (pc' := 93) rfl rfl ?_
  refine am_ev.step (pc' := 94) rfl rfl ?_
  refine ax_call (z := 176) (p' := 97) (as := [_, _, _]) rfl (Or.inr (Or.inl ⟨_, rfl⟩)) rfl rfl rfl rfl rfl rfl (fO (fO (fO (fO (S.ob rfl))))) rfl (md_176d (lo := 0) (hi := 5) (k := k1) (s := s1) ((((S.po rfl rfl).po rfl rfl).po rfl rfl).po rfl rfl) (ax_put_o (Or.inr (by decide)) (ax_put_o (Or.inr (by decide)) (ax_put_o (Or.inr (by decide)) (ax_put_s _ _ _)))) (ax_put_s _ _ _) (by omega) (by omega) (ax_put_o (Or.inr (by decide)) (ax_put_o (Or.inr (by decide)) (ax_put_s _ _ _))) (by omega) y1 (by omega)) rfl ?_
  refine am_ev.step (pc' := 98) (ls' := [.ref 78, iv ((n : Int)), iv ((l : Int))]) rfl rfl ?_
  refine am_ev.step (pc' := 99) rfl rfl ?_
  refine am_ev.step (pc' := 100) rfl rfl ?_
  refine ax_gf (p' := 103) rfl rfl (fO (fO (fO (fO (S.ob rfl))))) (ax_put_o (Or.inr (by decide)) (ax_put_o (Or.inr (by decide)) (ax_put_o (Or.inr (by decide)) (ax_put_o (Or.inr (by decide)) (S.rf rfl rfl))))) ?_
  refine fx_bip (p' := 105) rfl rfl rfl ?_
  refine am_ev.step (pc' := 106) rfl rfl ?_
  refine fx_add (p' := 107) (e := ((l : Int) + 7)) rfl rfl (by omega) ?_
  refine ax_baload (p' := 108) rfl rfl (((((S.po rfl rfl).po rfl rfl).po rfl rfl).po rfl rfl).rd (k := (l + 7)) rfl rfl rfl rfl (by omega) (by omega) (ax_put_o (Or.inl (by decide)) (ax_put_o (Or.inl (by decide)) (ax_put_o (Or.inl (by decide)) (ax_put_o (Or.inl (by decide)) (dT (l + 7) (by omega))))))) ?_
  refine fx_z_ne_T (pT := 115) rfl (by omega) rfl (by omega) ?_
  refine am_ev.step (pc' := 116) rfl rfl ?_
  refine am_ev.step (pc' := 117) rfl rfl ?_
  refine ax_callT (a := 79) (z := 177) (as := [_, _, _]) rfl (Or.inr (Or.inl ⟨_, rfl⟩)) rfl rfl rfl rfl rfl rfl (fO (fO (fO (fO (S.ob rfl))))) (md_177f (s := s1) ((((S.po rfl rfl).po rfl rfl).po rfl rfl).po rfl rfl) (ax_put_o (Or.inr (by decide)) (ax_put_o (Or.inr (by decide)) (ax_put_o (Or.inr (by decide)) (ax_put_s _ _ _))))) rfl rfl (fO (fO (fO (fO (fO (fO (S.ob rfl))))))) rfl
theorem rm_Ffd (hb : tz_r b) (hL : L ≤ 1600) (C : MS h h0 b L p s e k v w τ V Y) (kn : k ≠ 0) (q : cl_r b s e k 7) (hl : l < 6) (t1 : tz_t b L e s1 e1 k1 (l : Int)) (q1 : k1 = 2) (q0 : τ (l + 7) = 0) (t2 : tz_t b L e1 s2 e2 k2 v2) (q2 : k2 ≠ 2) : ∃ H : am_H, am_ev (d + 7) 174 70 [.ref 78, iv ((n : Int)), a2] [] h  (some (.retAddr (79 + 1)), H) ∧ H.2.2.2 78 8 = iv 1 ∧ H.2.2.2 78 9 = iv s2 ∧ (∀ j, H.2.2.2 81 j = h0.2.2.2 81 j) ∧ (∀ j, H.2.2.2 82 j = h0.2.2.2 82 j) ∧ fS H ∧ H.2.2.2 78 2 = iv 0 := by
  obtain ⟨S, B, w3, t0, w4, w5, w6, w7, -, -, f8, f9, dT, dV, dY, z81, z82, zt⟩ := C
  have f0 := t0.f5 hb
  have hr0 := tH_r (k := k) ⟨f0.2.2.2.1, f0.2.2.2.2⟩
  have hn0 := tH_0 (k := k) ⟨f0.2.2.2.1, f0.2.2.2.2⟩ kn
  have f1 := t1.f5 hb
  have y1 := (t1.v w).1 q1
  have u1 := t1.bd hb q1
  have f2 := t2.f5 hb
  refine ⟨(am_put (am_put (am_put (am_put (am_put (am_put (am_put (am_put (am_put (am_put (am_put h 78 4 (iv ((s1 : Int)))) 78 7 (iv ((tV b L s1 (w))))) 78 5 (iv ((e1 : Int)))) 78 6 (iv ((tH k1)))) 85 (l + 7) (iv 1)) 78 4 (iv ((s2 : Int)))) 78 7 (iv ((tV b L s2 ((tV b L s1 (w))))))) 78 5 (iv ((e2 : Int)))) 78 6 (iv ((tH k2)))) 78 8 (iv 1)) 78 9 (iv ((s2 : Int)))), ?_, (ax_put_o (Or.inr (by decide)) (ax_put_s _ _ _)), (ax_put_s _ _ _), fun j => (ax_put_o (Or.inl (by decide)) (ax_put_o (Or.inl (by decide)) (ax_put_o (Or.inl (by decide)) (ax_put_o (Or.inl (by decide)) (ax_put_o (Or.inl (by decide)) (ax_put_o (Or.inl (by decide)) (ax_put_o (Or.inl (by decide)) (ax_put_o (Or.inl (by decide)) (ax_put_o (Or.inl (by decide)) (ax_put_o (Or.inl (by decide)) (ax_put_o (Or.inl (by decide)) (z81 j)))))))))))), fun j => (ax_put_o (Or.inl (by decide)) (ax_put_o (Or.inl (by decide)) (ax_put_o (Or.inl (by decide)) (ax_put_o (Or.inl (by decide)) (ax_put_o (Or.inl (by decide)) (ax_put_o (Or.inl (by decide)) (ax_put_o (Or.inl (by decide)) (ax_put_o (Or.inl (by decide)) (ax_put_o (Or.inl (by decide)) (ax_put_o (Or.inl (by decide)) (ax_put_o (Or.inl (by decide)) (z82 j)))))))))))), (((((((((((S.po rfl rfl).po rfl rfl).po rfl rfl).po rfl rfl).pa rfl).po rfl rfl).po rfl rfl).po rfl rfl).po rfl rfl).po rfl rfl).po rfl rfl), (ax_put_o (Or.inr (by decide)) (ax_put_o (Or.inr (by decide)) (ax_put_o (Or.inr (by decide)) (ax_put_o (Or.inr (by decide)) (ax_put_o (Or.inr (by decide)) (ax_put_o (Or.inr (by decide)) (ax_put_o (Or.inl (by decide)) (ax_put_o (Or.inr (by decide)) (ax_put_o (Or.inr (by decide)) (ax_put_o (Or.inr (by decide)) (ax_put_o (Or.inr (by decide)) zt)))))))))))⟩
  refine am_ev.step (pc' := 71) rfl rfl ?_
  refine ax_gf (p' := 74) rfl rfl (S.ob rfl) w6 ?_
  refine fx_z_eq_F (pF := 77) rfl (by omega) rfl (by omega) ?_
  refine am_ev.step (pc' := 78) rfl rfl ?_
  refine am_ev.ldcw rfl rfl rfl rfl ?_
  refine ax_call (z := 175) (p' := 84) (as := [_, _]) rfl (Or.inr (Or.inl ⟨_, rfl⟩)) rfl rfl rfl rfl rfl rfl (S.ob rfl) rfl ((tk_175 (i := 5) (k := k) (s := s) (e := e) (by decide) S B hb hL w6 w4 w5 ⟨f0.2.1, f0.2.2.1⟩ ⟨f0.2.2.2.1, Int.le_trans f0.2.2.2.2 (by decide)⟩).1 ((cl_r_w q (n := 7) (by decide)).1 (by omega))) rfl ?_
  refine fx_z_eq_F (pF := 87) rfl (by omega) rfl (by omega) ?_
  refine am_ev.step (pc' := 88) rfl rfl ?_
  refine ax_call (z := 170) (p' := 91) (as := [_]) rfl (Or.inr (Or.inl ⟨_, rfl⟩)) rfl rfl rfl rfl rfl rfl (S.ob rfl) rfl (md_170 S B hb hL w3 w5 w7 t1) rfl ?_
  refine am_ev.step (pc' := 92) rfl rfl ?_
  refine am_ev.step (pc' := 93) rfl rfl ?_
  refine am_ev.step (pc' := 94) rfl rfl ?_
  refine ax_call (z := 176) (p' := 97) (as := [_, _, _]) rfl (Or.inr (Or.inl ⟨_, rfl⟩)) rfl rfl rfl rfl rfl rfl (fO (fO (fO (fO (S.ob rfl))))) rfl (md_176d (lo := 0) (hi := 5) (k := k1) (s := s1) ((((S.po rfl rfl).po rfl rfl).po rfl rfl).po rfl rfl) (ax_put_o (Or.inr (by decide)) (ax_put_o (Or.inr (by decide)) (ax_put_o (Or.inr (by decide)) (ax_put_s _ _ _)))) (ax_put_s _ _ _) (by omega) (by omega) (ax_put_o (Or.inr (by decide)) (ax_put_o (Or.inr (by decide)) (ax_put_s _ _ _))) (by omega) y1 (by omega)) rfl ?_
  refine am_ev.step (pc' := 98) (ls' := [.ref 78, iv ((n : Int)), iv ((l : Int))]) rfl rfl ?_
  refine am_ev.step (pc' := 99) rfl rfl ?_
  refine am_ev.step (pc' := 100) rfl rfl ?_
  refine ax_gf (p' := 103) rfl rfl (fO (fO (fO (fO (S.ob rfl))))) (ax_put_o (Or.inr (by decide)) (ax_put_o (Or.inr (by decide)) (ax_put_o (Or.inr (by decide)) (ax_put_o (Or.inr (by decide)) (S.rf rfl rfl))))) ?_
  refine fx_bip (p' := 105) rfl rfl rfl ?_
  refine am_ev.step (pc' := 106) rfl rfl ?_
  refine fx_add (p' := 107) (e := ((l : Int) + 7)) rfl rfl (by omega) ?_
  refine ax_baload (p' := 108) rfl rfl (((((S.po rfl rfl).po rfl rfl).po rfl rfl).po rfl rfl).rd (k := (l + 7)) rfl rfl rfl rfl (by omega) (by omega) (ax_put_o (Or.inl (by decide)) (ax_put_o (Or.inl (by decide)) (ax_put_o (Or.inl (by decide)) (ax_put_o (Or.inl (by decide)) (dT (l + 7) (by omega))))))) ?_
  refine fx_z_ne_F (pF := 111) rfl (by omega) rfl (by omega) ?_
  refine am_ev.step (pc' := 112) rfl rfl ?_
  refine am_ev.step (pc' := 116) rfl rfl ?_
  refine am_ev.step (pc' := 117) rfl rfl ?_
  refine ax_call (z := 177) (p' := 120) (as := [_, _, _]) rfl (Or.inr (Or.inl ⟨_, rfl⟩)) rfl rfl rfl rfl rfl rfl (fO (fO (fO (fO (S.ob rfl))))) rfl md_177t rfl ?_
  refine am_ev.step (pc' := 121) rfl rfl ?_
  refine ax_gf (p' := 124) rfl rfl (fO (fO (fO (fO (S.ob rfl))))) (ax_put_o (Or.inr (by decide)) (ax_put_o (Or.inr (by decide)) (ax_put_o (Or.inr (by decide)) (ax_put_o (Or.inr (by decide)) (S.rf rfl rfl))))) ?_
  refine fx_bip (p' := 126) rfl rfl rfl ?_
  refine am_ev.step (pc' := 127) rfl rfl ?_
  refine fx_add (p' := 128) (e := ((l : Int) + 7)) rfl rfl (by omega) ?_
  refine am_ev.step (pc' := 129) rfl rfl ?_
  refine ax_bas2 (p' := 130) rfl rfl (((((S.po rfl rfl).po rfl rfl).po rfl rfl).po rfl rfl).wr (k := (l + 7)) rfl rfl rfl (by omega) (by omega)) (((((S.po rfl rfl).po rfl rfl).po rfl rfl).po rfl rfl).sb rfl rfl) (by decide) ?_
  refine am_ev.step (pc' := 131) rfl rfl ?_
  refine ax_call (z := 170) (p' := 134) (as := [_]) rfl (Or.inr (Or.inl ⟨_, rfl⟩)) rfl rfl rfl rfl rfl rfl (fO (fO (fO (fO (fO (S.ob rfl)))))) rfl (md_170 (((((S.po rfl rfl).po rfl rfl).po rfl rfl).po rfl rfl).pa rfl) (((((B.put (by decide)).put (by decide)).put (by decide)).put (by decide)).put (by decide)) hb hL (ax_put_o (Or.inl (by decide)) (ax_put_o (Or.inr (by decide)) (ax_put_o (Or.inr (by decide)) (ax_put_o (Or.inr (by decide)) (ax_put_o (Or.inr (by decide)) w3))))) (ax_put_o (Or.inl (by decide)) (ax_put_o (Or.inr (by decide)) (ax_put_s _ _ _))) (ax_put_o (Or.inl (by decide)) (ax_put_o (Or.inr (by decide)) (ax_put_o (Or.inr (by decide)) (ax_put_s _ _ _)))) t2) rfl ?_
  refine am_ev.step (pc' := 135) rfl rfl ?_
  refine ax_gf (p' := 138) rfl rfl (fO (fO (fO (fO (fO (fO (fO (fO (fO (S.ob rfl)))))))))) (ax_put_o (Or.inr (by decide)) (ax_put_o (Or.inr (by decide)) (ax_put_o (Or.inr (by decide)) (ax_put_o (Or.inr (by decide)) (ax_put_o (Or.inl (by decide)) (ax_put_o (Or.inr (by decide)) (ax_put_o (Or.inr (by decide)) (ax_put_o (Or.inr (by decide)) (ax_put_o (Or.inr (by decide)) (S.rf rfl rfl)))))))))) ?_
  refine am_ev.step (pc' := 139) rfl rfl ?_
  refine am_ev.step (pc' := 140) rfl rfl ?_
  refine am_ev.step (pc' := 141) rfl rfl ?_
  refine fx_bip (p' := 143) rfl rfl rfl ?_
  refine ax_callT (a := 79) (z := 179) (as := [_, _, _]) rfl (Or.inr (Or.inl ⟨_, rfl⟩)) rfl rfl rfl rfl rfl rfl (fO (fO (fO (fO (fO (fO (fO (fO (fO (S.ob rfl)))))))))) (md_179a (lo := 0) (hi := 99) (k := k2) (s := s2) (((((((((S.po rfl rfl).po rfl rfl).po rfl rfl).po rfl rfl).pa rfl).po rfl rfl).po rfl rfl).po rfl rfl).po rfl rfl) (ax_put_o (Or.inr (by decide)) (ax_put_o (Or.inr (by decide)) (ax_put_o (Or.inr (by decide)) (ax_put_s _ _ _)))) (ax_put_s _ _ _) (by omega) (by omega) (by omega)) rfl rfl (fO (fO (fO (fO (fO (fO (fO (fO (fO (fO (fO (S.ob rfl)))))))))))) rfl
theorem rm_Ffe (hb : tz_r b) (hL : L ≤ 1600) (C : MS h h0 b L p s e k v w τ V Y) (kn : k ≠ 0) (q : cl_r b s e k 7) (hl : l < 6) (t1 : tz_t b L e s1 e1 k1 (l : Int)) (q1 : k1 = 2) (q0 : τ (l + 7) = 0) (t2 : tz_t b L e1 s2 e2 k2 v2) (q2 : k2 = 2 ∧ ¬ (0 ≤ v2 ∧ v2 ≤ 99)) : ∃ H : am_H, am_ev (d + 7) 174 70 [.ref 78, iv ((n : Int)), a2] [] h  (some (.retAddr (79 + 1)), H) ∧ H.2.2.2 78 8 = iv 2 ∧ H.2.2.2 78 9 = iv s2 ∧ (∀ j, H.2.2.2 81 j = h0.2.2.2 81 j) ∧ (∀ j, H.2.2.2 82 j = h0.2.2.2 82 j) ∧ fS H ∧ H.2.2.2 78 2 = iv 0 := by
  obtain ⟨S, B, w3, t0, w4, w5, w6, w7, -, -, f8, f9, dT, dV, dY, z81, z82, zt⟩ := C
  have f0 := t0.f5 hb
  have hr0 := tH_r (k := k) ⟨f0.2.2.2.1, f0.2.2.2.2⟩
  have hn0 := tH_0 (k := k) ⟨f0.2.2.2.1, f0.2.2.2.2⟩ kn
  have f1 := t1.f5 hb
  have y1 := (t1.v w).1 q1
  have u1 := t1.bd hb q1
  have f2 := t2.f5 hb
  have y2 := (t2.v (tV b L s1 w)).1 q2.1
  have u2 := t2.bd hb q2.1
  refine ⟨(am_put (am_put (am_put (am_put (am_put (am_put (am_put (am_put (am_put (am_put (am_put h 78 4 (iv ((s1 : Int)))) 78 7 (iv ((tV b L s1 (w))))) 78 5 (iv ((e1 : Int)))) 78 6 (iv ((tH k1)))) 85 (l + 7) (iv 1)) 78 4 (iv ((s2 : Int)))) 78 7 (iv ((tV b L s2 ((tV b L s1 (w))))))) 78 5 (iv ((e2 : Int)))) 78 6 (iv ((tH k2)))) 78 8 (iv 2)) 78 9 (iv ((s2 : Int)))), ?_, (ax_put_o (Or.inr (by decide)) (ax_put_s _ _ _)), (ax_put_s _ _ _), fun j => (ax_put_o (Or.inl (by decide)) (ax_put_o (Or.inl (by decide)) (ax_put_o (Or.inl (by decide)) (ax_put_o (Or.inl (by decide)) (ax_put_o (Or.inl (by decide)) (ax_put_o (Or.inl (by decide)) (ax_put_o (Or.inl (by decide)) (ax_put_o (Or.inl (by decide)) (ax_put_o (Or.inl (by decide)) (ax_put_o (Or.inl (by decide)) (ax_put_o (Or.inl (by decide)) (z81 j)))))))))))), fun j => (ax_put_o (Or.inl (by decide)) (ax_put_o (Or.inl (by decide)) (ax_put_o (Or.inl (by decide)) (ax_put_o (Or.inl (by decide)) (ax_put_o (Or.inl (by decide)) (ax_put_o (Or.inl (by decide)) (ax_put_o (Or.inl (by decide)) (ax_put_o (Or.inl (by decide)) (ax_put_o (Or.inl (by decide)) (ax_put_o (Or.inl (by decide)) (ax_put_o (Or.inl (by decide)) (z82 j)))))))))))), (((((((((((S.po rfl rfl).po rfl rfl).po rfl rfl).po rfl rfl).pa rfl).po rfl rfl).po rfl rfl).po rfl rfl).po rfl rfl).po rfl rfl).po rfl rfl), (ax_put_o (Or.inr (by decide)) (ax_put_o (Or.inr (by decide)) (ax_put_o (Or.inr (by decide)) (ax_put_o (Or.inr (by decide)) (ax_put_o (Or.inr (by decide)) (ax_put_o (Or.inr (by decide)) (ax_put_o (Or.inl (by decide)) (ax_put_o (Or.inr (by decide)) (ax_put_o (Or.inr (by decide)) (ax_put_o (Or.inr (by decide)) (ax_put_o (Or.inr (by decide)) zt)))))))))))⟩
  refine am_ev.step (pc' := 71) rfl rfl ?_
  refine ax_gf (p' := 74) rfl rfl (S.ob rfl) w6 ?_
  refine fx_z_eq_F (pF := 77) rfl (by omega) rfl (by omega) ?_
  refine am_ev.step (pc' := 78) rfl rfl ?_
  refine am_ev.ldcw rfl rfl rfl rfl ?_
  refine ax_call (z := 175) (p' := 84) (as := [_, _]) rfl (Or.inr (Or.inl ⟨_, rfl⟩)) rfl rfl rfl rfl rfl rfl (S.ob rfl) rfl ((tk_175 (i := 5) (k := k) (s := s) (e := e) (by decide) S B hb hL w6 w4 w5 ⟨f0.2.1, f0.2.2.1⟩ ⟨f0.2.2.2.1, Int.le_trans f0.2.2.2.2 (by decide)⟩).1 ((cl_r_w q (n := 7) (by decide)).1 (by omega))) rfl ?_
  refine fx_z_eq_F (pF := 87) rfl (by omega) rfl (by omega) ?_
  refine am_ev.step (pc' := 88) rfl rfl ?_
  refine ax_call (z := 170) (p' := 91) (as := [_]) rfl (Or.inr (Or.inl ⟨_, rfl⟩)) rfl rfl rfl rfl rfl rfl (S.ob rfl) rfl (md_170 S B hb hL w3 w5 w7 t1) rfl ?_
  refine am_ev.step (pc' := 92) rfl rfl ?_
  refine am_ev.step (pc' := 93) rfl rfl ?_
  refine am_ev.step (pc' := 94) rfl rfl ?_
  refine ax_call (z := 176) (p' := 97) (as := [_, _, _]) rfl (Or.inr (Or.inl ⟨_, rfl⟩)) rfl rfl rfl rfl rfl rfl (fO (fO (fO (fO (S.ob rfl))))) rfl (md_176d (lo := 0) (hi := 5) (k := k1) (s := s1) ((((S.po rfl rfl).po rfl rfl).po rfl rfl).po rfl rfl) (ax_put_o (Or.inr (by decide)) (ax_put_o (Or.inr (by decide)) (ax_put_o (Or.inr (by decide)) (ax_put_s _ _ _)))) (ax_put_s _ _ _) (by omega) (by omega) (ax_put_o (Or.inr (by decide)) (ax_put_o (Or.inr (by decide)) (ax_put_s _ _ _))) (by omega) y1 (by omega)) rfl ?_
  refine am_ev.step (pc' := 98) (ls' := [.ref 78, iv ((n : Int)), iv ((l : Int))]) rfl rfl ?_
  refine am_ev.step (pc' := 99) rfl rfl ?_
  refine am_ev.step (pc' := 100) rfl rfl ?_
  refine ax_gf (p' := 103) rfl rfl (fO (fO (fO (fO (S.ob rfl))))) (ax_put_o (Or.inr (by decide)) (ax_put_o (Or.inr (by decide)) (ax_put_o (Or.inr (by decide)) (ax_put_o (Or.inr (by decide)) (S.rf rfl rfl))))) ?_
  refine fx_bip (p' := 105) rfl rfl rfl ?_
  refine am_ev.step (pc' := 106) rfl rfl ?_
  refine fx_add (p' := 107) (e := ((l : Int) + 7)) rfl rfl (by omega) ?_
  refine ax_baload (p' := 108) rfl rfl (((((S.po rfl rfl).po rfl rfl).po rfl rfl).po rfl rfl).rd (k := (l + 7)) rfl rfl rfl rfl (by omega) (by omega) (ax_put_o (Or.inl (by decide)) (ax_put_o (Or.inl (by decide)) (ax_put_o (Or.inl (by decide)) (ax_put_o (Or.inl (by decide)) (dT (l + 7) (by omega))))))) ?_
  refine fx_z_ne_F (pF := 111) rfl (by omega) rfl (by omega) ?_
  refine am_ev.step (pc' := 112) rfl rfl ?_
  refine am_ev.step (pc' := 116) rfl rfl ?_
  refine am_ev.step (pc' := 117) rfl rfl ?_
  refine ax_call (z := 177) (p' := 120) (as := [_, _, _]) rfl (Or.inr (Or.inl ⟨_, rfl⟩)) rfl rfl rfl rfl rfl rfl (fO (fO (fO (fO (S.ob rfl))))) rfl md_177t rfl ?_
  refine am_ev.step (pc' := 121) rfl rfl ?_
  refine ax_gf (p' := 124) rfl rfl (fO (fO (fO (fO (S.ob rfl))))) (ax_put_o (Or.inr (by decide)) (ax_put_o (Or.inr (by decide)) (ax_put_o (Or.inr (by decide)) (ax_put_o (Or.inr (by decide)) (S.rf rfl rfl))))) ?_
  refine fx_bip (p' := 126) rfl rfl rfl ?_
  refine am_ev.step (pc' := 127) rfl rfl ?_
  refine fx_add (p' := 128) (e := ((l : Int) + 7)) rfl rfl (by omega) ?_
  refine am_ev.step (pc' := 129) rfl rfl ?_
  refine ax_bas2 (p' := 130) rfl rfl (((((S.po rfl rfl).po rfl rfl).po rfl rfl).po rfl rfl).wr (k := (l + 7)) rfl rfl rfl (by omega) (by omega)) (((((S.po rfl rfl).po rfl rfl).po rfl rfl).po rfl rfl).sb rfl rfl) (by decide) ?_
  refine am_ev.step (pc' := 131) rfl rfl ?_
  refine ax_call (z := 170) (p' := 134) (as := [_]) rfl (Or.inr (Or.inl ⟨_, rfl⟩)) rfl rfl rfl rfl rfl rfl (fO (fO (fO (fO (fO (S.ob rfl)))))) rfl (md_170 (((((S.po rfl rfl).po rfl rfl).po rfl rfl).po rfl rfl).pa rfl) (((((B.put (by decide)).put (by decide)).put (by decide)).put (by decide)).put (by decide)) hb hL (ax_put_o (Or.inl (by decide)) (ax_put_o (Or.inr (by decide)) (ax_put_o (Or.inr (by decide)) (ax_put_o (Or.inr (by decide)) (ax_put_o (Or.inr (by decide)) w3))))) (ax_put_o (Or.inl (by decide)) (ax_put_o (Or.inr (by decide)) (ax_put_s _ _ _))) (ax_put_o (Or.inl (by decide)) (ax_put_o (Or.inr (by decide)) (ax_put_o (Or.inr (by decide)) (ax_put_s _ _ _)))) t2) rfl ?_
  refine am_ev.step (pc' := 135) rfl rfl ?_
  refine ax_gf (p' := 138) rfl rfl (fO (fO (fO (fO (fO (fO (fO (fO (fO (S.ob rfl)))))))))) (ax_put_o (Or.inr (by decide)) (ax_put_o (Or.inr (by decide)) (ax_put_o (Or.inr (by decide)) (ax_put_o (Or.inr (by decide)) (ax_put_o (Or.inl (by decide)) (ax_put_o (Or.inr (by decide)) (ax_put_o (Or.inr (by decide)) (ax_put_o (Or.inr (by decide)) (ax_put_o (Or.inr (by decide)) (S.rf rfl rfl)))))))))) ?_
  refine am_ev.step (pc' := 139) rfl rfl ?_
  refine am_ev.step (pc' := 140) rfl rfl ?_
  refine am_ev.step (pc' := 141) rfl rfl ?_
  refine fx_bip (p' := 143) rfl rfl rfl ?_
  refine ax_callT (a := 79) (z := 179) (as := [_, _, _]) rfl (Or.inr (Or.inl ⟨_, rfl⟩)) rfl rfl rfl rfl rfl rfl (fO (fO (fO (fO (fO (fO (fO (fO (fO (S.ob rfl)))))))))) (md_179b (lo := 0) (hi := 99) (k := k2) (s := s2) (((((((((S.po rfl rfl).po rfl rfl).po rfl rfl).po rfl rfl).pa rfl).po rfl rfl).po rfl rfl).po rfl rfl).po rfl rfl) (ax_put_o (Or.inr (by decide)) (ax_put_o (Or.inr (by decide)) (ax_put_o (Or.inr (by decide)) (ax_put_s _ _ _)))) (ax_put_s _ _ _) (by omega) (by omega) (ax_put_o (Or.inr (by decide)) (ax_put_o (Or.inr (by decide)) (ax_put_s _ _ _))) (by omega) (by omega)) rfl rfl (fO (fO (fO (fO (fO (fO (fO (fO (fO (fO (fO (S.ob rfl)))))))))))) rfl
theorem rm_Fff (hb : tz_r b) (hL : L ≤ 1600) (C : MS h h0 b L p s e k v w τ V Y) (kn : k ≠ 0) (q : cl_r b s e k 7) (hl : l < 6) (t1 : tz_t b L e s1 e1 k1 (l : Int)) (q1 : k1 = 2) (q0 : τ (l + 7) = 0) (t2 : tz_t b L e1 s2 e2 k2 v2) (q2 : k2 = 2 ∧ 0 ≤ v2 ∧ v2 ≤ 99) (t3 : tz_t b L e2 s3 e3 k3 v3) (q3 : k3 ≠ 59) : ∃ H : am_H, am_ev (d + 7) 174 70 [.ref 78, iv ((n : Int)), a2] [] h  (some (.retAddr (79 + 1)), H) ∧ H.2.2.2 78 8 = iv 1 ∧ H.2.2.2 78 9 = iv s3 ∧ (∀ j, H.2.2.2 81 j = h0.2.2.2 81 j) ∧ (∀ j, H.2.2.2 82 j = h0.2.2.2 82 j) ∧ fS H ∧ H.2.2.2 78 2 = iv 0 := by
  obtain ⟨S, B, w3, t0, w4, w5, w6, w7, -, -, f8, f9, dT, dV, dY, z81, z82, zt⟩ := C
  have f0 := t0.f5 hb
  have hr0 := tH_r (k := k) ⟨f0.2.2.2.1, f0.2.2.2.2⟩
  have hn0 := tH_0 (k := k) ⟨f0.2.2.2.1, f0.2.2.2.2⟩ kn
  have f1 := t1.f5 hb
  have y1 := (t1.v w).1 q1
  have u1 := t1.bd hb q1
  have f2 := t2.f5 hb
  have y2 := (t2.v (tV b L s1 w)).1 q2.1
  have u2 := t2.bd hb q2.1
  have f3 := t3.f5 hb
  refine ⟨(am_put (am_put (am_put (am_put (am_put (am_put (am_put (am_put (am_put (am_put (am_put (am_put (am_put (am_put (am_put (am_put h 78 4 (iv ((s1 : Int)))) 78 7 (iv ((tV b L s1 (w))))) 78 5 (iv ((e1 : Int)))) 78 6 (iv ((tH k1)))) 85 (l + 7) (iv 1)) 78 4 (iv ((s2 : Int)))) 78 7 (iv ((tV b L s2 ((tV b L s1 (w))))))) 78 5 (iv ((e2 : Int)))) 78 6 (iv ((tH k2)))) 78 4 (iv ((s3 : Int)))) 78 7 (iv ((tV b L s3 ((tV b L s2 ((tV b L s1 (w))))))))) 78 5 (iv ((e3 : Int)))) 78 6 (iv ((tH k3)))) 84 l (iv ((tV b L s2 ((tV b L s1 (w))))))) 78 8 (iv 1)) 78 9 (iv ((s3 : Int)))), ?_, (ax_put_o (Or.inr (by decide)) (ax_put_s _ _ _)), (ax_put_s _ _ _), fun j => (ax_put_o (Or.inl (by decide)) (ax_put_o (Or.inl (by decide)) (ax_put_o (Or.inl (by decide)) (ax_put_o (Or.inl (by decide)) (ax_put_o (Or.inl (by decide)) (ax_put_o (Or.inl (by decide)) (ax_put_o (Or.inl (by decide)) (ax_put_o (Or.inl (by decide)) (ax_put_o (Or.inl (by decide)) (ax_put_o (Or.inl (by decide)) (ax_put_o (Or.inl (by decide)) (ax_put_o (Or.inl (by decide)) (ax_put_o (Or.inl (by decide)) (ax_put_o (Or.inl (by decide)) (ax_put_o (Or.inl (by decide)) (ax_put_o (Or.inl (by decide)) (z81 j))))))))))))))))), fun j => (ax_put_o (Or.inl (by decide)) (ax_put_o (Or.inl (by decide)) (ax_put_o (Or.inl (by decide)) (ax_put_o (Or.inl (by decide)) (ax_put_o (Or.inl (by decide)) (ax_put_o (Or.inl (by decide)) (ax_put_o (Or.inl (by decide)) (ax_put_o (Or.inl (by decide)) (ax_put_o (Or.inl (by decide)) (ax_put_o (Or.inl (by decide)) (ax_put_o (Or.inl (by decide)) (ax_put_o (Or.inl (by decide)) (ax_put_o (Or.inl (by decide)) (ax_put_o (Or.inl (by decide)) (ax_put_o (Or.inl (by decide)) (ax_put_o (Or.inl (by decide)) (z82 j))))))))))))))))), ((((((((((((((((S.po rfl rfl).po rfl rfl).po rfl rfl).po rfl rfl).pa rfl).po rfl rfl).po rfl rfl).po rfl rfl).po rfl rfl).po rfl rfl).po rfl rfl).po rfl rfl).po rfl rfl).pa rfl).po rfl rfl).po rfl rfl), (ax_put_o (Or.inr (by decide)) (ax_put_o (Or.inr (by decide)) (ax_put_o (Or.inl (by decide)) (ax_put_o (Or.inr (by decide)) (ax_put_o (Or.inr (by decide)) (ax_put_o (Or.inr (by decide)) (ax_put_o (Or.inr (by decide)) (ax_put_o (Or.inr (by decide)) (ax_put_o (Or.inr (by decide)) (ax_put_o (Or.inr (by decide)) (ax_put_o (Or.inr (by decide)) (ax_put_o (Or.inl (by decide)) (ax_put_o (Or.inr (by decide)) (ax_put_o (Or.inr (by decide)) (ax_put_o (Or.inr (by decide)) (ax_put_o (Or.inr (by decide)) zt))))))))))))))))⟩
  refine am_ev.step (pc' := 71) rfl rfl ?_
  refine ax_gf (p' := 74) rfl rfl (S.ob rfl) w6 ?_
  refine fx_z_eq_F (pF := 77) rfl (by omega) rfl (by omega) ?_
  refine am_ev.step (pc' := 78) rfl rfl ?_
  refine am_ev.ldcw rfl rfl rfl rfl ?_
  refine ax_call (z := 175) (p' := 84) (as := [_, _]) rfl (Or.inr (Or.inl ⟨_, rfl⟩)) rfl rfl rfl rfl rfl rfl (S.ob rfl) rfl ((tk_175 (i := 5) (k := k) (s := s) (e := e) (by decide) S B hb hL w6 w4 w5 ⟨f0.2.1, f0.2.2.1⟩ ⟨f0.2.2.2.1, Int.le_trans f0.2.2.2.2 (by decide)⟩).1 ((cl_r_w q (n := 7) (by decide)).1 (by omega))) rfl ?_
  refine fx_z_eq_F (pF := 87) rfl (by omega) rfl (by omega) ?_
  refine am_ev.step (pc' := 88) rfl rfl ?_
  refine ax_call (z := 170) (p' := 91) (as := [_]) rfl (Or.inr (Or.inl ⟨_, rfl⟩)) rfl rfl rfl rfl rfl rfl (S.ob rfl) rfl (md_170 S B hb hL w3 w5 w7 t1) rfl ?_
  refine am_ev.step (pc' := 92) rfl rfl ?_
  refine am_ev.step (pc' := 93) rfl rfl ?_
  refine am_ev.step (pc' := 94) rfl rfl ?_
  refine ax_call (z := 176) (p' := 97) (as := [_, _, _]) rfl (Or.inr (Or.inl ⟨_, rfl⟩)) rfl rfl rfl rfl rfl rfl (fO (fO (fO (fO (S.ob rfl))))) rfl (md_176d (lo := 0) (hi := 5) (k := k1) (s := s1) ((((S.po rfl rfl).po rfl rfl).po rfl rfl).po rfl rfl) (ax_put_o (Or.inr (by decide)) (ax_put_o (Or.inr (by decide)) (ax_put_o (Or.inr (by decide)) (ax_put_s _ _ _)))) (ax_put_s _ _ _) (by omega) (by omega) (ax_put_o (Or.inr (by decide)) (ax_put_o (Or.inr (by decide)) (ax_put_s _ _ _))) (by omega) y1 (by omega)) rfl ?_
  refine am_ev.step (pc' := 98) (ls' := [.ref 78, iv ((n : Int)), iv ((l : Int))]) rfl rfl ?_
  refine am_ev.step (pc' := 99) rfl rfl ?_
  refine am_ev.step (pc' := 100) rfl rfl ?_
  refine ax_gf (p' := 103) rfl rfl (fO (fO (fO (fO (S.ob rfl))))) (ax_put_o (Or.inr (by decide)) (ax_put_o (Or.inr (by decide)) (ax_put_o (Or.inr (by decide)) (ax_put_o (Or.inr (by decide)) (S.rf rfl rfl))))) ?_
  refine fx_bip (p' := 105) rfl rfl rfl ?_
  refine am_ev.step (pc' := 106) rfl rfl ?_
  refine fx_add (p' := 107) (e := ((l : Int) + 7)) rfl rfl (by omega) ?_
  refine ax_baload (p' := 108) rfl rfl (((((S.po rfl rfl).po rfl rfl).po rfl rfl).po rfl rfl).rd (k := (l + 7)) rfl rfl rfl rfl (by omega) (by omega) (ax_put_o (Or.inl (by decide)) (ax_put_o (Or.inl (by decide)) (ax_put_o (Or.inl (by decide)) (ax_put_o (Or.inl (by decide)) (dT (l + 7) (by omega))))))) ?_
  refine fx_z_ne_F (pF := 111) rfl (by omega) rfl (by omega) ?_
  refine am_ev.step (pc' := 112) rfl rfl ?_
  refine am_ev.step (pc' := 116) rfl rfl ?_
  refine am_ev.step (pc' := 117) rfl rfl ?_
  refine ax_call (z := 177) (p' := 120) (as := [_, _, _]) rfl (Or.inr (Or.inl ⟨_, rfl⟩)) rfl rfl rfl rfl rfl rfl (fO (fO (fO (fO (S.ob rfl))))) rfl md_177t rfl ?_
  refine am_ev.step (pc' := 121) rfl rfl ?_
  refine ax_gf (p' := 124) rfl rfl (fO (fO (fO (fO (S.ob rfl))))) (ax_put_o (Or.inr (by decide)) (ax_put_o (Or.inr (by decide)) (ax_put_o (Or.inr (by decide)) (ax_put_o (Or.inr (by decide)) (S.rf rfl rfl))))) ?_
  refine fx_bip (p' := 126) rfl rfl rfl ?_
  refine am_ev.step (pc' := 127) rfl rfl ?_
  refine fx_add (p' := 128) (e := ((l : Int) + 7)) rfl rfl (by omega) ?_
  refine am_ev.step (pc' := 129) rfl rfl ?_
  refine ax_bas2 (p' := 130) rfl rfl (((((S.po rfl rfl).po rfl rfl).po rfl rfl).po rfl rfl).wr (k := (l + 7)) rfl rfl rfl (by omega) (by omega)) (((((S.po rfl rfl).po rfl rfl).po rfl rfl).po rfl rfl).sb rfl rfl) (by decide) ?_
  refine am_ev.step (pc' := 131) rfl rfl ?_
  refine ax_call (z := 170) (p' := 134) (as := [_]) rfl (Or.inr (Or.inl ⟨_, rfl⟩)) rfl rfl rfl rfl rfl rfl (fO (fO (fO (fO (fO (S.ob rfl)))))) rfl (md_170 (((((S.po rfl rfl).po rfl rfl).po rfl rfl).po rfl rfl).pa rfl) (((((B.put (by decide)).put (by decide)).put (by decide)).put (by decide)).put (by decide)) hb hL (ax_put_o (Or.inl (by decide)) (ax_put_o (Or.inr (by decide)) (ax_put_o (Or.inr (by decide)) (ax_put_o (Or.inr (by decide)) (ax_put_o (Or.inr (by decide)) w3))))) (ax_put_o (Or.inl (by decide)) (ax_put_o (Or.inr (by decide)) (ax_put_s _ _ _))) (ax_put_o (Or.inl (by decide)) (ax_put_o (Or.inr (by decide)) (ax_put_o (Or.inr (by decide)) (ax_put_s _ _ _)))) t2) rfl ?_
  refine am_ev.step (pc' := 135) rfl rfl ?_
  refine ax_gf (p' := 138) rfl rfl (fO (fO (fO (fO (fO (fO (fO (fO (fO (S.ob rfl)))))))))) (ax_put_o (Or.inr (by decide)) (ax_put_o (Or.inr (by decide)) (ax_put_o (Or.inr (by decide)) (ax_put_o (Or.inr (by decide)) (ax_put_o (Or.inl (by decide)) (ax_put_o (Or.inr (by decide)) (ax_put_o (Or.inr (by decide)) (ax_put_o (Or.inr (by decide)) (ax_put_o (Or.inr (by decide)) (S.rf rfl rfl)))))))))) ?_
  refine am_ev.step (pc' := 139) rfl rfl ?_
  refine am_ev.step (pc' := 140) rfl rfl ?_
  refine am_ev.step (pc' := 141) rfl rfl ?_
  refine fx_bip (p' := 143) rfl rfl rfl ?_
  refine ax_call (z := 179) (p' := 146) (as := [_, _, _]) rfl (Or.inr (Or.inl ⟨_, rfl⟩)) rfl rfl rfl rfl rfl rfl (fO (fO (fO (fO (fO (fO (fO (fO (fO (S.ob rfl)))))))))) rfl (md_179c (lo := 0) (hi := 99) (k := k2) (s := s2) (((((((((S.po rfl rfl).po rfl rfl).po rfl rfl).po rfl rfl).pa rfl).po rfl rfl).po rfl rfl).po rfl rfl).po rfl rfl) (ax_put_o (Or.inr (by decide)) (ax_put_o (Or.inr (by decide)) (ax_put_o (Or.inr (by decide)) (ax_put_s _ _ _)))) (ax_put_s _ _ _) (by omega) (by omega) (ax_put_o (Or.inr (by decide)) (ax_put_o (Or.inr (by decide)) (ax_put_s _ _ _))) (by omega) (((((((((B.put (by decide)).put (by decide)).put (by decide)).put (by decide)).put (by decide)).put (by decide)).put (by decide)).put (by decide)).put (by decide)) hb hL (ax_put_o (Or.inr (by decide)) (ax_put_o (Or.inr (by decide)) (ax_put_o (Or.inr (by decide)) (ax_put_o (Or.inr (by decide)) (ax_put_o (Or.inl (by decide)) (ax_put_o (Or.inr (by decide)) (ax_put_o (Or.inr (by decide)) (ax_put_o (Or.inr (by decide)) (ax_put_o (Or.inr (by decide)) w3))))))))) (ax_put_o (Or.inr (by decide)) (ax_put_s _ _ _)) t3 (by omega)) rfl ?_
  refine ax_iastore (p' := 147) rfl rfl ((((((((((((((S.po rfl rfl).po rfl rfl).po rfl rfl).po rfl rfl).pa rfl).po rfl rfl).po rfl rfl).po rfl rfl).po rfl rfl).po rfl rfl).po rfl rfl).po rfl rfl).po rfl rfl).wr (k := l) rfl rfl rfl rfl (by omega)) ?_
  refine am_ev.step (pc' := 220) rfl rfl ?_
  refine am_ev.step (pc' := 221) rfl rfl ?_
  refine ax_callT (a := 79) (z := 181) (as := [_]) rfl (Or.inr (Or.inl ⟨_, rfl⟩)) rfl rfl rfl rfl rfl rfl (fO (fO (fO (fO (fO (fO (fO (fO (fO (fO (fO (fO (fO (fO (S.ob rfl))))))))))))))) (md_181a (s := s3) (k := k3) ((((((((((((((S.po rfl rfl).po rfl rfl).po rfl rfl).po rfl rfl).pa rfl).po rfl rfl).po rfl rfl).po rfl rfl).po rfl rfl).po rfl rfl).po rfl rfl).po rfl rfl).po rfl rfl).pa rfl) (ax_put_o (Or.inl (by decide)) (ax_put_o (Or.inr (by decide)) (ax_put_o (Or.inr (by decide)) (ax_put_o (Or.inr (by decide)) (ax_put_s _ _ _))))) (ax_put_o (Or.inl (by decide)) (ax_put_s _ _ _)) (by omega) (ax_put_o (Or.inl (by decide)) (ax_put_o (Or.inr (by decide)) (ax_put_o (Or.inr (by decide)) (ax_put_s _ _ _)))) (t3.v _).2 (t3.h4 hb) (by omega)) rfl rfl (fO (fO (fO (fO (fO (fO (fO (fO (fO (fO (fO (fO (fO (fO (fO (fO (S.ob rfl))))))))))))))))) rfl
theorem rm_Nv (hb : tz_r b) (hL : L ≤ 1600) (C : MS h h0 b L p s e k v w τ V Y) (kn : k ≠ 0) (hl : l < 7) (q : cl_r b s e k l) (q0 : τ l = 0) (t1 : tz_t b L e s1 e1 k1 v1) (q1 : k1 = 2 ∧ cq_sv 2 l ≤ v1 ∧ v1 ≤ cq_sv 3 l) (t2 : tz_t b L e1 s2 e2 k2 v2) (q2 : k2 = 59) (t3 : tz_t b L e2 s3 e3 k3 v3) : ∃ H : am_H, MS H h0 b L e2 s3 e3 k3 v3 (tV b L s3 (tV b L s2 (tV b L s1 w))) (up1 τ l 1) (up1 V l v1) Y ∧ ∀ x, am_ev (d + 7) 174 70 [.ref 78, iv ((n : Int) + 1), iv ((l : Int))] [] H x → am_ev (d + 7) 174 70 [.ref 78, iv ((n : Int)), a2] [] h  x := by
  obtain ⟨S, B, w3, t0, w4, w5, w6, w7, -, -, f8, f9, dT, dV, dY, z81, z82, zt⟩ := C
  have f0 := t0.f5 hb
  have hr0 := tH_r (k := k) ⟨f0.2.2.2.1, f0.2.2.2.2⟩
  have hn0 := tH_0 (k := k) ⟨f0.2.2.2.1, f0.2.2.2.2⟩ kn
  have es := sv_e l hl
  have rb := sv_b l hl
  have f1 := t1.f5 hb
  have y1 := (t1.v w).1 q1.1
  have u1 := t1.bd hb q1.1
  have f2 := t2.f5 hb
  have f3 := t3.f5 hb
  refine ⟨(am_put (am_put (am_put (am_put (am_put (am_put (am_put (am_put (am_put (am_put (am_put (am_put (am_put (am_put h 85 l (iv 1)) 78 4 (iv ((s1 : Int)))) 78 7 (iv ((tV b L s1 (w))))) 78 5 (iv ((e1 : Int)))) 78 6 (iv ((tH k1)))) 78 4 (iv ((s2 : Int)))) 78 7 (iv ((tV b L s2 ((tV b L s1 (w))))))) 78 5 (iv ((e2 : Int)))) 78 6 (iv ((tH k2)))) 83 l (iv ((tV b L s1 (w))))) 78 4 (iv ((s3 : Int)))) 78 7 (iv ((tV b L s3 ((tV b L s2 ((tV b L s1 (w))))))))) 78 5 (iv ((e3 : Int)))) 78 6 (iv ((tH k3)))), ⟨((((((((((((((S.pa rfl).po rfl rfl).po rfl rfl).po rfl rfl).po rfl rfl).po rfl rfl).po rfl rfl).po rfl rfl).po rfl rfl).pa rfl).po rfl rfl).po rfl rfl).po rfl rfl).po rfl rfl), ((((((((((((((B.put (by decide)).put (by decide)).put (by decide)).put (by decide)).put (by decide)).put (by decide)).put (by decide)).put (by decide)).put (by decide)).put (by decide)).put (by decide)).put (by decide)).put (by decide)).put (by decide)), (ax_put_o (Or.inr (by decide)) (ax_put_o (Or.inr (by decide)) (ax_put_o (Or.inr (by decide)) (ax_put_o (Or.inr (by decide)) (ax_put_o (Or.inl (by decide)) (ax_put_o (Or.inr (by decide)) (ax_put_o (Or.inr (by decide)) (ax_put_o (Or.inr (by decide)) (ax_put_o (Or.inr (by decide)) (ax_put_o (Or.inr (by decide)) (ax_put_o (Or.inr (by decide)) (ax_put_o (Or.inr (by decide)) (ax_put_o (Or.inr (by decide)) (ax_put_o (Or.inl (by decide)) w3)))))))))))))), t3, (ax_put_o (Or.inr (by decide)) (ax_put_o (Or.inr (by decide)) (ax_put_o (Or.inr (by decide)) (ax_put_s _ _ _)))), (ax_put_o (Or.inr (by decide)) (ax_put_s _ _ _)), (ax_put_s _ _ _), (ax_put_o (Or.inr (by decide)) (ax_put_o (Or.inr (by decide)) (ax_put_s _ _ _))), (t3.v _).1, (t3.v _).2, (ax_put_o (Or.inr (by decide)) (ax_put_o (Or.inr (by decide)) (ax_put_o (Or.inr (by decide)) (ax_put_o (Or.inr (by decide)) (ax_put_o (Or.inl (by decide)) (ax_put_o (Or.inr (by decide)) (ax_put_o (Or.inr (by decide)) (ax_put_o (Or.inr (by decide)) (ax_put_o (Or.inr (by decide)) (ax_put_o (Or.inr (by decide)) (ax_put_o (Or.inr (by decide)) (ax_put_o (Or.inr (by decide)) (ax_put_o (Or.inr (by decide)) (ax_put_o (Or.inl (by decide)) f8)))))))))))))), (ax_put_o (Or.inr (by decide)) (ax_put_o (Or.inr (by decide)) (ax_put_o (Or.inr (by decide)) (ax_put_o (Or.inr (by decide)) (ax_put_o (Or.inl (by decide)) (ax_put_o (Or.inr (by decide)) (ax_put_o (Or.inr (by decide)) (ax_put_o (Or.inr (by decide)) (ax_put_o (Or.inr (by decide)) (ax_put_o (Or.inr (by decide)) (ax_put_o (Or.inr (by decide)) (ax_put_o (Or.inr (by decide)) (ax_put_o (Or.inr (by decide)) (ax_put_o (Or.inl (by decide)) f9)))))))))))))), (fun j hj => by
      by_cases ej : j = l
      · subst ej
        rw [show up1 τ j 1 j = 1 from if_pos rfl]
        exact (ax_put_o (Or.inl (by decide)) (ax_put_o (Or.inl (by decide)) (ax_put_o (Or.inl (by decide)) (ax_put_o (Or.inl (by decide)) (ax_put_o (Or.inl (by decide)) (ax_put_o (Or.inl (by decide)) (ax_put_o (Or.inl (by decide)) (ax_put_o (Or.inl (by decide)) (ax_put_o (Or.inl (by decide)) (ax_put_o (Or.inl (by decide)) (ax_put_o (Or.inl (by decide)) (ax_put_o (Or.inl (by decide)) (ax_put_o (Or.inl (by decide)) (ax_put_s _ _ _))))))))))))))
      · rw [show up1 τ l 1 j = τ j from if_neg ej]
        exact (ax_put_o (Or.inl (by decide)) (ax_put_o (Or.inl (by decide)) (ax_put_o (Or.inl (by decide)) (ax_put_o (Or.inl (by decide)) (ax_put_o (Or.inl (by decide)) (ax_put_o (Or.inl (by decide)) (ax_put_o (Or.inl (by decide)) (ax_put_o (Or.inl (by decide)) (ax_put_o (Or.inl (by decide)) (ax_put_o (Or.inl (by decide)) (ax_put_o (Or.inl (by decide)) (ax_put_o (Or.inl (by decide)) (ax_put_o (Or.inl (by decide)) (ax_put_o (Or.inr ej) (dT j hj)))))))))))))))), (fun j hj => by
      by_cases ej : j = l
      · subst ej
        rw [show up1 V j v1 j = v1 from if_pos rfl]
        exact (Eq.trans (ax_put_o (Or.inl (by decide)) (ax_put_o (Or.inl (by decide)) (ax_put_o (Or.inl (by decide)) (ax_put_o (Or.inl (by decide)) (ax_put_s _ _ _))))) (congrArg iv (show (tV b L s1 w) = v1 by omega)))
      · rw [show up1 V l v1 j = V j from if_neg ej]
        exact (ax_put_o (Or.inl (by decide)) (ax_put_o (Or.inl (by decide)) (ax_put_o (Or.inl (by decide)) (ax_put_o (Or.inl (by decide)) (ax_put_o (Or.inr ej) (ax_put_o (Or.inl (by decide)) (ax_put_o (Or.inl (by decide)) (ax_put_o (Or.inl (by decide)) (ax_put_o (Or.inl (by decide)) (ax_put_o (Or.inl (by decide)) (ax_put_o (Or.inl (by decide)) (ax_put_o (Or.inl (by decide)) (ax_put_o (Or.inl (by decide)) (ax_put_o (Or.inl (by decide)) (dV j hj)))))))))))))))), (fun j hj => (ax_put_o (Or.inl (by decide)) (ax_put_o (Or.inl (by decide)) (ax_put_o (Or.inl (by decide)) (ax_put_o (Or.inl (by decide)) (ax_put_o (Or.inl (by decide)) (ax_put_o (Or.inl (by decide)) (ax_put_o (Or.inl (by decide)) (ax_put_o (Or.inl (by decide)) (ax_put_o (Or.inl (by decide)) (ax_put_o (Or.inl (by decide)) (ax_put_o (Or.inl (by decide)) (ax_put_o (Or.inl (by decide)) (ax_put_o (Or.inl (by decide)) (ax_put_o (Or.inl (by decide)) (dY j hj)))))))))))))))), fun j => (ax_put_o (Or.inl (by decide)) (ax_put_o (Or.inl (by decide)) (ax_put_o (Or.inl (by decide)) (ax_put_o (Or.inl (by decide)) (ax_put_o (Or.inl (by decide)) (ax_put_o (Or.inl (by decide)) (ax_put_o (Or.inl (by decide)) (ax_put_o (Or.inl (by decide)) (ax_put_o (Or.inl (by decide)) (ax_put_o (Or.inl (by decide)) (ax_put_o (Or.inl (by decide)) (ax_put_o (Or.inl (by decide)) (ax_put_o (Or.inl (by decide)) (ax_put_o (Or.inl (by decide)) (z81 j))))))))))))))), fun j => (ax_put_o (Or.inl (by decide)) (ax_put_o (Or.inl (by decide)) (ax_put_o (Or.inl (by decide)) (ax_put_o (Or.inl (by decide)) (ax_put_o (Or.inl (by decide)) (ax_put_o (Or.inl (by decide)) (ax_put_o (Or.inl (by decide)) (ax_put_o (Or.inl (by decide)) (ax_put_o (Or.inl (by decide)) (ax_put_o (Or.inl (by decide)) (ax_put_o (Or.inl (by decide)) (ax_put_o (Or.inl (by decide)) (ax_put_o (Or.inl (by decide)) (ax_put_o (Or.inl (by decide)) (z82 j))))))))))))))), (ax_put_o (Or.inr (by decide)) (ax_put_o (Or.inr (by decide)) (ax_put_o (Or.inr (by decide)) (ax_put_o (Or.inr (by decide)) (ax_put_o (Or.inl (by decide)) (ax_put_o (Or.inr (by decide)) (ax_put_o (Or.inr (by decide)) (ax_put_o (Or.inr (by decide)) (ax_put_o (Or.inr (by decide)) (ax_put_o (Or.inr (by decide)) (ax_put_o (Or.inr (by decide)) (ax_put_o (Or.inr (by decide)) (ax_put_o (Or.inr (by decide)) (ax_put_o (Or.inl (by decide)) zt))))))))))))))⟩, fun x q9 => ?_⟩
  refine am_ev.step (pc' := 71) rfl rfl ?_
  refine ax_gf (p' := 74) rfl rfl (S.ob rfl) w6 ?_
  refine fx_z_eq_F (pF := 77) rfl (by omega) rfl (by omega) ?_
  refine am_ev.step (pc' := 78) rfl rfl ?_
  refine am_ev.ldcw rfl rfl rfl rfl ?_
  refine ax_call (z := 175) (p' := 84) (as := [_, _]) rfl (Or.inr (Or.inl ⟨_, rfl⟩)) rfl rfl rfl rfl rfl rfl (S.ob rfl) rfl ((tk_175 (i := 5) (k := k) (s := s) (e := e) (by decide) S B hb hL w6 w4 w5 ⟨f0.2.1, f0.2.2.1⟩ ⟨f0.2.2.2.1, Int.le_trans f0.2.2.2.2 (by decide)⟩).2 ((cl_r_w q (n := 7) (by decide)).2 (by omega))) rfl ?_
  refine fx_z_eq_T (pT := 150) rfl (by omega) rfl (by omega) ?_
  refine am_ev.step (pc' := 151) rfl rfl ?_
  refine ax_call (z := 180) (p' := 154) (as := [_]) rfl (Or.inr (Or.inl ⟨_, rfl⟩)) rfl rfl rfl rfl rfl rfl (S.ob rfl) rfl (md_180 S B hb hL w4 w5 w6 ⟨f0.2.1, f0.2.2.1⟩ ⟨f0.2.2.2.1, Int.le_trans f0.2.2.2.2 (by decide)⟩ q (by omega)) rfl ?_
  refine am_ev.step (pc' := 155) (ls' := [.ref 78, iv ((n : Int)), iv ((l : Int))]) rfl rfl ?_
  refine am_ev.step (pc' := 156) rfl rfl ?_
  refine am_ev.step (pc' := 157) rfl rfl ?_
  refine am_ev.step (pc' := 158) rfl rfl ?_
  refine fx_c_eq_F (pF := 161) rfl (by omega) (by omega) rfl (by omega) ?_
  refine am_ev.step (pc' := 162) rfl rfl ?_
  refine am_ev.step (pc' := 166) rfl rfl ?_
  refine am_ev.step (pc' := 167) rfl rfl ?_
  refine ax_call (z := 177) (p' := 170) (as := [_, _, _]) rfl (Or.inr (Or.inl ⟨_, rfl⟩)) rfl rfl rfl rfl rfl rfl (S.ob rfl) rfl md_177t rfl ?_
  refine am_ev.step (pc' := 171) rfl rfl ?_
  refine am_ev.step (pc' := 172) rfl rfl ?_
  refine ax_gf (p' := 175) rfl rfl (S.ob rfl) (S.rf rfl rfl) ?_
  refine am_ev.step (pc' := 176) rfl rfl ?_
  refine ax_baload (p' := 177) rfl rfl (S.rd (k := l) rfl rfl rfl rfl rfl (by omega) (dT l (by omega))) ?_
  refine fx_z_ne_F (pF := 180) rfl (by omega) rfl (by omega) ?_
  refine am_ev.step (pc' := 181) rfl rfl ?_
  refine am_ev.step (pc' := 185) rfl rfl ?_
  refine am_ev.step (pc' := 186) rfl rfl ?_
  refine ax_call (z := 177) (p' := 189) (as := [_, _, _]) rfl (Or.inr (Or.inl ⟨_, rfl⟩)) rfl rfl rfl rfl rfl rfl (S.ob rfl) rfl md_177t rfl ?_
  refine am_ev.step (pc' := 190) rfl rfl ?_
  refine ax_gf (p' := 193) rfl rfl (S.ob rfl) (S.rf rfl rfl) ?_
  refine am_ev.step (pc' := 194) rfl rfl ?_
  refine am_ev.step (pc' := 195) rfl rfl ?_
  refine ax_bas2 (p' := 196) rfl rfl (S.wr (k := l) rfl rfl rfl rfl (by omega)) (S.sb rfl rfl) (by decide) ?_
  refine am_ev.step (pc' := 197) rfl rfl ?_
  refine ax_call (z := 170) (p' := 200) (as := [_]) rfl (Or.inr (Or.inl ⟨_, rfl⟩)) rfl rfl rfl rfl rfl rfl (fO (S.ob rfl)) rfl (md_170 (S.pa rfl) (B.put (by decide)) hb hL (ax_put_o (Or.inl (by decide)) w3) (ax_put_o (Or.inl (by decide)) w5) (ax_put_o (Or.inl (by decide)) w7) t1) rfl ?_
  refine am_ev.step (pc' := 201) rfl rfl ?_
  refine ax_gf (p' := 204) rfl rfl (fO (fO (fO (fO (fO (S.ob rfl)))))) (ax_put_o (Or.inr (by decide)) (ax_put_o (Or.inr (by decide)) (ax_put_o (Or.inr (by decide)) (ax_put_o (Or.inr (by decide)) (ax_put_o (Or.inl (by decide)) (S.rf rfl rfl)))))) ?_
  refine am_ev.step (pc' := 205) rfl rfl ?_
  refine am_ev.step (pc' := 206) rfl rfl ?_
  refine am_ev.step (pc' := 209) rfl rfl ?_
  refine am_ev.step (pc' := 210) rfl rfl ?_
  refine ax_iaload (p' := 211) rfl rfl ((((((S.pa rfl).po rfl rfl).po rfl rfl).po rfl rfl).po rfl rfl).rs (k := l) rfl rfl (by omega)) ?_
  refine am_ev.step (pc' := 214) rfl rfl ?_
  refine am_ev.step (pc' := 215) rfl rfl ?_
  refine ax_iaload (p' := 216) rfl rfl ((((((S.pa rfl).po rfl rfl).po rfl rfl).po rfl rfl).po rfl rfl).rs (k := l) rfl rfl (by omega)) ?_
  refine ax_call (z := 179) (p' := 219) (as := [_, _, _]) rfl (Or.inr (Or.inl ⟨_, rfl⟩)) rfl rfl rfl rfl rfl rfl (fO (fO (fO (fO (fO (S.ob rfl)))))) rfl (md_179c (lo := ((cq_sv 5 l))) (hi := ((cq_sv 6 l))) (k := k1) (s := s1) (((((S.pa rfl).po rfl rfl).po rfl rfl).po rfl rfl).po rfl rfl) (ax_put_o (Or.inr (by decide)) (ax_put_o (Or.inr (by decide)) (ax_put_o (Or.inr (by decide)) (ax_put_s _ _ _)))) (ax_put_s _ _ _) (by omega) (by omega) (ax_put_o (Or.inr (by decide)) (ax_put_o (Or.inr (by decide)) (ax_put_s _ _ _))) (by omega) (((((B.put (by decide)).put (by decide)).put (by decide)).put (by decide)).put (by decide)) hb hL (ax_put_o (Or.inr (by decide)) (ax_put_o (Or.inr (by decide)) (ax_put_o (Or.inr (by decide)) (ax_put_o (Or.inr (by decide)) (ax_put_o (Or.inl (by decide)) w3))))) (ax_put_o (Or.inr (by decide)) (ax_put_s _ _ _)) t2 (by omega)) rfl ?_
  refine ax_iastore (p' := 220) rfl rfl ((((((((((S.pa rfl).po rfl rfl).po rfl rfl).po rfl rfl).po rfl rfl).po rfl rfl).po rfl rfl).po rfl rfl).po rfl rfl).wr (k := l) rfl rfl rfl rfl (by omega)) ?_
  refine am_ev.step (pc' := 221) rfl rfl ?_
  refine ax_call (z := 181) (p' := 224) (as := [_]) rfl (Or.inr (Or.inl ⟨_, rfl⟩)) rfl rfl rfl rfl rfl rfl (fO (fO (fO (fO (fO (fO (fO (fO (fO (fO (S.ob rfl))))))))))) rfl (md_181b (s := s2) (k := k2) ((((((((((S.pa rfl).po rfl rfl).po rfl rfl).po rfl rfl).po rfl rfl).po rfl rfl).po rfl rfl).po rfl rfl).po rfl rfl).pa rfl) (ax_put_o (Or.inl (by decide)) (ax_put_o (Or.inr (by decide)) (ax_put_o (Or.inr (by decide)) (ax_put_o (Or.inr (by decide)) (ax_put_s _ _ _))))) (ax_put_o (Or.inl (by decide)) (ax_put_s _ _ _)) (by omega) (ax_put_o (Or.inl (by decide)) (ax_put_o (Or.inr (by decide)) (ax_put_o (Or.inr (by decide)) (ax_put_s _ _ _)))) (t2.v _).2 ((((((((((B.put (by decide)).put (by decide)).put (by decide)).put (by decide)).put (by decide)).put (by decide)).put (by decide)).put (by decide)).put (by decide)).put (by decide)) hb hL (ax_put_o (Or.inl (by decide)) (ax_put_o (Or.inr (by decide)) (ax_put_o (Or.inr (by decide)) (ax_put_o (Or.inr (by decide)) (ax_put_o (Or.inr (by decide)) (ax_put_o (Or.inr (by decide)) (ax_put_o (Or.inr (by decide)) (ax_put_o (Or.inr (by decide)) (ax_put_o (Or.inr (by decide)) (ax_put_o (Or.inl (by decide)) w3)))))))))) (ax_put_o (Or.inl (by decide)) (ax_put_o (Or.inr (by decide)) (ax_put_s _ _ _))) t3 (by omega)) rfl ?_
  refine fx_inc (p' := 227) (e := ((n : Int) + 1)) (ls' := [.ref 78, iv ((n : Int) + 1), iv ((l : Int))]) rfl rfl rfl (by omega) rfl ?_
  refine am_ev.step (pc' := 70) rfl rfl ?_
  exact q9
theorem rm_Nf (hb : tz_r b) (hL : L ≤ 1600) (C : MS h h0 b L p s e k v w τ V Y) (kn : k ≠ 0) (q : cl_r b s e k 7) (hl : l < 6) (t1 : tz_t b L e s1 e1 k1 (l : Int)) (q1 : k1 = 2) (q0 : τ (l + 7) = 0) (t2 : tz_t b L e1 s2 e2 k2 v2) (q2 : k2 = 2 ∧ 0 ≤ v2 ∧ v2 ≤ 99) (t3 : tz_t b L e2 s3 e3 k3 v3) (q3 : k3 = 59) (t4 : tz_t b L e3 s4 e4 k4 v4) : ∃ H : am_H, MS H h0 b L e3 s4 e4 k4 v4 (tV b L s4 (tV b L s3 (tV b L s2 (tV b L s1 w)))) (up1 τ (l + 7) 1) V (up1 Y l v2) ∧ ∀ x, am_ev (d + 7) 174 70 [.ref 78, iv ((n : Int) + 1), iv ((l : Int))] [] H x → am_ev (d + 7) 174 70 [.ref 78, iv ((n : Int)), a2] [] h  x := by
  obtain ⟨S, B, w3, t0, w4, w5, w6, w7, -, -, f8, f9, dT, dV, dY, z81, z82, zt⟩ := C
  have f0 := t0.f5 hb
  have hr0 := tH_r (k := k) ⟨f0.2.2.2.1, f0.2.2.2.2⟩
  have hn0 := tH_0 (k := k) ⟨f0.2.2.2.1, f0.2.2.2.2⟩ kn
  have f1 := t1.f5 hb
  have y1 := (t1.v w).1 q1
  have u1 := t1.bd hb q1
  have f2 := t2.f5 hb
  have y2 := (t2.v (tV b L s1 w)).1 q2.1
  have u2 := t2.bd hb q2.1
  have f3 := t3.f5 hb
  have f4 := t4.f5 hb
  refine ⟨(am_put (am_put (am_put (am_put (am_put (am_put (am_put (am_put (am_put (am_put (am_put (am_put (am_put (am_put (am_put (am_put (am_put (am_put h 78 4 (iv ((s1 : Int)))) 78 7 (iv ((tV b L s1 (w))))) 78 5 (iv ((e1 : Int)))) 78 6 (iv ((tH k1)))) 85 (l + 7) (iv 1)) 78 4 (iv ((s2 : Int)))) 78 7 (iv ((tV b L s2 ((tV b L s1 (w))))))) 78 5 (iv ((e2 : Int)))) 78 6 (iv ((tH k2)))) 78 4 (iv ((s3 : Int)))) 78 7 (iv ((tV b L s3 ((tV b L s2 ((tV b L s1 (w))))))))) 78 5 (iv ((e3 : Int)))) 78 6 (iv ((tH k3)))) 84 l (iv ((tV b L s2 ((tV b L s1 (w))))))) 78 4 (iv ((s4 : Int)))) 78 7 (iv ((tV b L s4 ((tV b L s3 ((tV b L s2 ((tV b L s1 (w))))))))))) 78 5 (iv ((e4 : Int)))) 78 6 (iv ((tH k4)))), ⟨((((((((((((((((((S.po rfl rfl).po rfl rfl).po rfl rfl).po rfl rfl).pa rfl).po rfl rfl).po rfl rfl).po rfl rfl).po rfl rfl).po rfl rfl).po rfl rfl).po rfl rfl).po rfl rfl).pa rfl).po rfl rfl).po rfl rfl).po rfl rfl).po rfl rfl), ((((((((((((((((((B.put (by decide)).put (by decide)).put (by decide)).put (by decide)).put (by decide)).put (by decide)).put (by decide)).put (by decide)).put (by decide)).put (by decide)).put (by decide)).put (by decide)).put (by decide)).put (by decide)).put (by decide)).put (by decide)).put (by decide)).put (by decide)), (ax_put_o (Or.inr (by decide)) (ax_put_o (Or.inr (by decide)) (ax_put_o (Or.inr (by decide)) (ax_put_o (Or.inr (by decide)) (ax_put_o (Or.inl (by decide)) (ax_put_o (Or.inr (by decide)) (ax_put_o (Or.inr (by decide)) (ax_put_o (Or.inr (by decide)) (ax_put_o (Or.inr (by decide)) (ax_put_o (Or.inr (by decide)) (ax_put_o (Or.inr (by decide)) (ax_put_o (Or.inr (by decide)) (ax_put_o (Or.inr (by decide)) (ax_put_o (Or.inl (by decide)) (ax_put_o (Or.inr (by decide)) (ax_put_o (Or.inr (by decide)) (ax_put_o (Or.inr (by decide)) (ax_put_o (Or.inr (by decide)) w3)))))))))))))))))), t4, (ax_put_o (Or.inr (by decide)) (ax_put_o (Or.inr (by decide)) (ax_put_o (Or.inr (by decide)) (ax_put_s _ _ _)))), (ax_put_o (Or.inr (by decide)) (ax_put_s _ _ _)), (ax_put_s _ _ _), (ax_put_o (Or.inr (by decide)) (ax_put_o (Or.inr (by decide)) (ax_put_s _ _ _))), (t4.v _).1, (t4.v _).2, (ax_put_o (Or.inr (by decide)) (ax_put_o (Or.inr (by decide)) (ax_put_o (Or.inr (by decide)) (ax_put_o (Or.inr (by decide)) (ax_put_o (Or.inl (by decide)) (ax_put_o (Or.inr (by decide)) (ax_put_o (Or.inr (by decide)) (ax_put_o (Or.inr (by decide)) (ax_put_o (Or.inr (by decide)) (ax_put_o (Or.inr (by decide)) (ax_put_o (Or.inr (by decide)) (ax_put_o (Or.inr (by decide)) (ax_put_o (Or.inr (by decide)) (ax_put_o (Or.inl (by decide)) (ax_put_o (Or.inr (by decide)) (ax_put_o (Or.inr (by decide)) (ax_put_o (Or.inr (by decide)) (ax_put_o (Or.inr (by decide)) f8)))))))))))))))))), (ax_put_o (Or.inr (by decide)) (ax_put_o (Or.inr (by decide)) (ax_put_o (Or.inr (by decide)) (ax_put_o (Or.inr (by decide)) (ax_put_o (Or.inl (by decide)) (ax_put_o (Or.inr (by decide)) (ax_put_o (Or.inr (by decide)) (ax_put_o (Or.inr (by decide)) (ax_put_o (Or.inr (by decide)) (ax_put_o (Or.inr (by decide)) (ax_put_o (Or.inr (by decide)) (ax_put_o (Or.inr (by decide)) (ax_put_o (Or.inr (by decide)) (ax_put_o (Or.inl (by decide)) (ax_put_o (Or.inr (by decide)) (ax_put_o (Or.inr (by decide)) (ax_put_o (Or.inr (by decide)) (ax_put_o (Or.inr (by decide)) f9)))))))))))))))))), (fun j hj => by
      by_cases ej : j = (l + 7)
      · subst ej
        rw [show up1 τ (l + 7) 1 (l + 7) = 1 from if_pos rfl]
        exact (ax_put_o (Or.inl (by decide)) (ax_put_o (Or.inl (by decide)) (ax_put_o (Or.inl (by decide)) (ax_put_o (Or.inl (by decide)) (ax_put_o (Or.inl (by decide)) (ax_put_o (Or.inl (by decide)) (ax_put_o (Or.inl (by decide)) (ax_put_o (Or.inl (by decide)) (ax_put_o (Or.inl (by decide)) (ax_put_o (Or.inl (by decide)) (ax_put_o (Or.inl (by decide)) (ax_put_o (Or.inl (by decide)) (ax_put_o (Or.inl (by decide)) (ax_put_s _ _ _))))))))))))))
      · rw [show up1 τ (l + 7) 1 j = τ j from if_neg ej]
        exact (ax_put_o (Or.inl (by decide)) (ax_put_o (Or.inl (by decide)) (ax_put_o (Or.inl (by decide)) (ax_put_o (Or.inl (by decide)) (ax_put_o (Or.inl (by decide)) (ax_put_o (Or.inl (by decide)) (ax_put_o (Or.inl (by decide)) (ax_put_o (Or.inl (by decide)) (ax_put_o (Or.inl (by decide)) (ax_put_o (Or.inl (by decide)) (ax_put_o (Or.inl (by decide)) (ax_put_o (Or.inl (by decide)) (ax_put_o (Or.inl (by decide)) (ax_put_o (Or.inr ej) (ax_put_o (Or.inl (by decide)) (ax_put_o (Or.inl (by decide)) (ax_put_o (Or.inl (by decide)) (ax_put_o (Or.inl (by decide)) (dT j hj)))))))))))))))))))), (fun j hj => (ax_put_o (Or.inl (by decide)) (ax_put_o (Or.inl (by decide)) (ax_put_o (Or.inl (by decide)) (ax_put_o (Or.inl (by decide)) (ax_put_o (Or.inl (by decide)) (ax_put_o (Or.inl (by decide)) (ax_put_o (Or.inl (by decide)) (ax_put_o (Or.inl (by decide)) (ax_put_o (Or.inl (by decide)) (ax_put_o (Or.inl (by decide)) (ax_put_o (Or.inl (by decide)) (ax_put_o (Or.inl (by decide)) (ax_put_o (Or.inl (by decide)) (ax_put_o (Or.inl (by decide)) (ax_put_o (Or.inl (by decide)) (ax_put_o (Or.inl (by decide)) (ax_put_o (Or.inl (by decide)) (ax_put_o (Or.inl (by decide)) (dV j hj)))))))))))))))))))), (fun j hj => by
      by_cases ej : j = l
      · subst ej
        rw [show up1 Y j v2 j = v2 from if_pos rfl]
        exact (Eq.trans (ax_put_o (Or.inl (by decide)) (ax_put_o (Or.inl (by decide)) (ax_put_o (Or.inl (by decide)) (ax_put_o (Or.inl (by decide)) (ax_put_s _ _ _))))) (congrArg iv (show (tV b L s2 (tV b L s1 w)) = v2 by omega)))
      · rw [show up1 Y l v2 j = Y j from if_neg ej]
        exact (ax_put_o (Or.inl (by decide)) (ax_put_o (Or.inl (by decide)) (ax_put_o (Or.inl (by decide)) (ax_put_o (Or.inl (by decide)) (ax_put_o (Or.inr ej) (ax_put_o (Or.inl (by decide)) (ax_put_o (Or.inl (by decide)) (ax_put_o (Or.inl (by decide)) (ax_put_o (Or.inl (by decide)) (ax_put_o (Or.inl (by decide)) (ax_put_o (Or.inl (by decide)) (ax_put_o (Or.inl (by decide)) (ax_put_o (Or.inl (by decide)) (ax_put_o (Or.inl (by decide)) (ax_put_o (Or.inl (by decide)) (ax_put_o (Or.inl (by decide)) (ax_put_o (Or.inl (by decide)) (ax_put_o (Or.inl (by decide)) (dY j hj)))))))))))))))))))), fun j => (ax_put_o (Or.inl (by decide)) (ax_put_o (Or.inl (by decide)) (ax_put_o (Or.inl (by decide)) (ax_put_o (Or.inl (by decide)) (ax_put_o (Or.inl (by decide)) (ax_put_o (Or.inl (by decide)) (ax_put_o (Or.inl (by decide)) (ax_put_o (Or.inl (by decide)) (ax_put_o (Or.inl (by decide)) (ax_put_o (Or.inl (by decide)) (ax_put_o (Or.inl (by decide)) (ax_put_o (Or.inl (by decide)) (ax_put_o (Or.inl (by decide)) (ax_put_o (Or.inl (by decide)) (ax_put_o (Or.inl (by decide)) (ax_put_o (Or.inl (by decide)) (ax_put_o (Or.inl (by decide)) (ax_put_o (Or.inl (by decide)) (z81 j))))))))))))))))))), fun j => (ax_put_o (Or.inl (by decide)) (ax_put_o (Or.inl (by decide)) (ax_put_o (Or.inl (by decide)) (ax_put_o (Or.inl (by decide)) (ax_put_o (Or.inl (by decide)) (ax_put_o (Or.inl (by decide)) (ax_put_o (Or.inl (by decide)) (ax_put_o (Or.inl (by decide)) (ax_put_o (Or.inl (by decide)) (ax_put_o (Or.inl (by decide)) (ax_put_o (Or.inl (by decide)) (ax_put_o (Or.inl (by decide)) (ax_put_o (Or.inl (by decide)) (ax_put_o (Or.inl (by decide)) (ax_put_o (Or.inl (by decide)) (ax_put_o (Or.inl (by decide)) (ax_put_o (Or.inl (by decide)) (ax_put_o (Or.inl (by decide)) (z82 j))))))))))))))))))), (ax_put_o (Or.inr (by decide)) (ax_put_o (Or.inr (by decide)) (ax_put_o (Or.inr (by decide)) (ax_put_o (Or.inr (by decide)) (ax_put_o (Or.inl (by decide)) (ax_put_o (Or.inr (by decide)) (ax_put_o (Or.inr (by decide)) (ax_put_o (Or.inr (by decide)) (ax_put_o (Or.inr (by decide)) (ax_put_o (Or.inr (by decide)) (ax_put_o (Or.inr (by decide)) (ax_put_o (Or.inr (by decide)) (ax_put_o (Or.inr (by decide)) (ax_put_o (Or.inl (by decide)) (ax_put_o (Or.inr (by decide)) (ax_put_o (Or.inr (by decide)) (ax_put_o (Or.inr (by decide)) (ax_put_o (Or.inr (by decide)) zt))))))))))))))))))⟩, fun x q9 => ?_⟩
  refine am_ev.step (pc' := 71) rfl rfl ?_
  refine ax_gf (p' := 74) rfl rfl (S.ob rfl) w6 ?_
  refine fx_z_eq_F (pF := 77) rfl (by omega) rfl (by omega) ?_
  refine am_ev.step (pc' := 78) rfl rfl ?_
  refine am_ev.ldcw rfl rfl rfl rfl ?_
  refine ax_call (z := 175) (p' := 84) (as := [_, _]) rfl (Or.inr (Or.inl ⟨_, rfl⟩)) rfl rfl rfl rfl rfl rfl (S.ob rfl) rfl ((tk_175 (i := 5) (k := k) (s := s) (e := e) (by decide) S B hb hL w6 w4 w5 ⟨f0.2.1, f0.2.2.1⟩ ⟨f0.2.2.2.1, Int.le_trans f0.2.2.2.2 (by decide)⟩).1 ((cl_r_w q (n := 7) (by decide)).1 (by omega))) rfl ?_
  refine fx_z_eq_F (pF := 87) rfl (by omega) rfl (by omega) ?_
  refine am_ev.step (pc' := 88) rfl rfl ?_
  refine ax_call (z := 170) (p' := 91) (as := [_]) rfl (Or.inr (Or.inl ⟨_, rfl⟩)) rfl rfl rfl rfl rfl rfl (S.ob rfl) rfl (md_170 S B hb hL w3 w5 w7 t1) rfl ?_
  refine am_ev.step (pc' := 92) rfl rfl ?_
  refine am_ev.step (pc' := 93) rfl rfl ?_
  refine am_ev.step (pc' := 94) rfl rfl ?_
  refine ax_call (z := 176) (p' := 97) (as := [_, _, _]) rfl (Or.inr (Or.inl ⟨_, rfl⟩)) rfl rfl rfl rfl rfl rfl (fO (fO (fO (fO (S.ob rfl))))) rfl (md_176d (lo := 0) (hi := 5) (k := k1) (s := s1) ((((S.po rfl rfl).po rfl rfl).po rfl rfl).po rfl rfl) (ax_put_o (Or.inr (by decide)) (ax_put_o (Or.inr (by decide)) (ax_put_o (Or.inr (by decide)) (ax_put_s _ _ _)))) (ax_put_s _ _ _) (by omega) (by omega) (ax_put_o (Or.inr (by decide)) (ax_put_o (Or.inr (by decide)) (ax_put_s _ _ _))) (by omega) y1 (by omega)) rfl ?_
  refine am_ev.step (pc' := 98) (ls' := [.ref 78, iv ((n : Int)), iv ((l : Int))]) rfl rfl ?_
  refine am_ev.step (pc' := 99) rfl rfl ?_
  refine am_ev.step (pc' := 100) rfl rfl ?_
  refine ax_gf (p' := 103) rfl rfl (fO (fO (fO (fO (S.ob rfl))))) (ax_put_o (Or.inr (by decide)) (ax_put_o (Or.inr (by decide)) (ax_put_o (Or.inr (by decide)) (ax_put_o (Or.inr (by decide)) (S.rf rfl rfl))))) ?_
  refine fx_bip (p' := 105) rfl rfl rfl ?_
  refine am_ev.step (pc' := 106) rfl rfl ?_
  refine fx_add (p' := 107) (e := ((l : Int) + 7)) rfl rfl (by omega) ?_
  refine ax_baload (p' := 108) rfl rfl (((((S.po rfl rfl).po rfl rfl).po rfl rfl).po rfl rfl).rd (k := (l + 7)) rfl rfl rfl rfl (by omega) (by omega) (ax_put_o (Or.inl (by decide)) (ax_put_o (Or.inl (by decide)) (ax_put_o (Or.inl (by decide)) (ax_put_o (Or.inl (by decide)) (dT (l + 7) (by omega))))))) ?_
  refine fx_z_ne_F (pF := 111) rfl (by omega) rfl (by omega) ?_
  refine am_ev.step (pc' := 112) rfl rfl ?_
  refine am_ev.step (pc' := 116) rfl rfl ?_
  refine am_ev.step (pc' := 117) rfl rfl ?_
  refine ax_call (z := 177) (p' := 120) (as := [_, _, _]) rfl (Or.inr (Or.inl ⟨_, rfl⟩)) rfl rfl rfl rfl rfl rfl (fO (fO (fO (fO (S.ob rfl))))) rfl md_177t rfl ?_
  refine am_ev.step (pc' := 121) rfl rfl ?_
  refine ax_gf (p' := 124) rfl rfl (fO (fO (fO (fO (S.ob rfl))))) (ax_put_o (Or.inr (by decide)) (ax_put_o (Or.inr (by decide)) (ax_put_o (Or.inr (by decide)) (ax_put_o (Or.inr (by decide)) (S.rf rfl rfl))))) ?_
  refine fx_bip (p' := 126) rfl rfl rfl ?_
  refine am_ev.step (pc' := 127) rfl rfl ?_
  refine fx_add (p' := 128) (e := ((l : Int) + 7)) rfl rfl (by omega) ?_
  refine am_ev.step (pc' := 129) rfl rfl ?_
  refine ax_bas2 (p' := 130) rfl rfl (((((S.po rfl rfl).po rfl rfl).po rfl rfl).po rfl rfl).wr (k := (l + 7)) rfl rfl rfl (by omega) (by omega)) (((((S.po rfl rfl).po rfl rfl).po rfl rfl).po rfl rfl).sb rfl rfl) (by decide) ?_
  refine am_ev.step (pc' := 131) rfl rfl ?_
  refine ax_call (z := 170) (p' := 134) (as := [_]) rfl (Or.inr (Or.inl ⟨_, rfl⟩)) rfl rfl rfl rfl rfl rfl (fO (fO (fO (fO (fO (S.ob rfl)))))) rfl (md_170 (((((S.po rfl rfl).po rfl rfl).po rfl rfl).po rfl rfl).pa rfl) (((((B.put (by decide)).put (by decide)).put (by decide)).put (by decide)).put (by decide)) hb hL (ax_put_o (Or.inl (by decide)) (ax_put_o (Or.inr (by decide)) (ax_put_o (Or.inr (by decide)) (ax_put_o (Or.inr (by decide)) (ax_put_o (Or.inr (by decide)) w3))))) (ax_put_o (Or.inl (by decide)) (ax_put_o (Or.inr (by decide)) (ax_put_s _ _ _))) (ax_put_o (Or.inl (by decide)) (ax_put_o (Or.inr (by decide)) (ax_put_o (Or.inr (by decide)) (ax_put_s _ _ _)))) t2) rfl ?_
  refine am_ev.step (pc' := 135) rfl rfl ?_
  refine ax_gf (p' := 138) rfl rfl (fO (fO (fO (fO (fO (fO (fO (fO (fO (S.ob rfl)))))))))) (ax_put_o (Or.inr (by decide)) (ax_put_o (Or.inr (by decide)) (ax_put_o (Or.inr (by decide)) (ax_put_o (Or.inr (by decide)) (ax_put_o (Or.inl (by decide)) (ax_put_o (Or.inr (by decide)) (ax_put_o (Or.inr (by decide)) (ax_put_o (Or.inr (by decide)) (ax_put_o (Or.inr (by decide)) (S.rf rfl rfl)))))))))) ?_
  refine am_ev.step (pc' := 139) rfl rfl ?_
  refine am_ev.step (pc' := 140) rfl rfl ?_
  refine am_ev.step (pc' := 141) rfl rfl ?_
  refine fx_bip (p' := 143) rfl rfl rfl ?_
  refine ax_call (z := 179) (p' := 146) (as := [_, _, _]) rfl (Or.inr (Or.inl ⟨_, rfl⟩)) rfl rfl rfl rfl rfl rfl (fO (fO (fO (fO (fO (fO (fO (fO (fO (S.ob rfl)))))))))) rfl (md_179c (lo := 0) (hi := 99) (k := k2) (s := s2) (((((((((S.po rfl rfl).po rfl rfl).po rfl rfl).po rfl rfl).pa rfl).po rfl rfl).po rfl rfl).po rfl rfl).po rfl rfl) (ax_put_o (Or.inr (by decide)) (ax_put_o (Or.inr (by decide)) (ax_put_o (Or.inr (by decide)) (ax_put_s _ _ _)))) (ax_put_s _ _ _) (by omega) (by omega) (ax_put_o (Or.inr (by decide)) (ax_put_o (Or.inr (by decide)) (ax_put_s _ _ _))) (by omega) (((((((((B.put (by decide)).put (by decide)).put (by decide)).put (by decide)).put (by decide)).put (by decide)).put (by decide)).put (by decide)).put (by decide)) hb hL (ax_put_o (Or.inr (by decide)) (ax_put_o (Or.inr (by decide)) (ax_put_o (Or.inr (by decide)) (ax_put_o (Or.inr (by decide)) (ax_put_o (Or.inl (by decide)) (ax_put_o (Or.inr (by decide)) (ax_put_o (Or.inr (by decide)) (ax_put_o (Or.inr (by decide)) (ax_put_o (Or.inr (by decide)) w3))))))))) (ax_put_o (Or.inr (by decide)) (ax_put_s _ _ _)) t3 (by omega)) rfl ?_
  refine ax_iastore (p' := 147) rfl rfl ((((((((((((((S.po rfl rfl).po rfl rfl).po rfl rfl).po rfl rfl).pa rfl).po rfl rfl).po rfl rfl).po rfl rfl).po rfl rfl).po rfl rfl).po rfl rfl).po rfl rfl).po rfl rfl).wr (k := l) rfl rfl rfl rfl (by omega)) ?_
  refine am_ev.step (pc' := 220) rfl rfl ?_
  refine am_ev.step (pc' := 221) rfl rfl ?_
  refine ax_call (z := 181) (p' := 224) (as := [_]) rfl (Or.inr (Or.inl ⟨_, rfl⟩)) rfl rfl rfl rfl rfl rfl (fO (fO (fO (fO (fO (fO (fO (fO (fO (fO (fO (fO (fO (fO (S.ob rfl))))))))))))))) rfl (md_181b (s := s3) (k := k3) ((((((((((((((S.po rfl rfl).po rfl rfl).po rfl rfl).po rfl rfl).pa rfl).po rfl rfl).po rfl rfl).po rfl rfl).po rfl rfl).po rfl rfl).po rfl rfl).po rfl rfl).po rfl rfl).pa rfl) (ax_put_o (Or.inl (by decide)) (ax_put_o (Or.inr (by decide)) (ax_put_o (Or.inr (by decide)) (ax_put_o (Or.inr (by decide)) (ax_put_s _ _ _))))) (ax_put_o (Or.inl (by decide)) (ax_put_s _ _ _)) (by omega) (ax_put_o (Or.inl (by decide)) (ax_put_o (Or.inr (by decide)) (ax_put_o (Or.inr (by decide)) (ax_put_s _ _ _)))) (t3.v _).2 ((((((((((((((B.put (by decide)).put (by decide)).put (by decide)).put (by decide)).put (by decide)).put (by decide)).put (by decide)).put (by decide)).put (by decide)).put (by decide)).put (by decide)).put (by decide)).put (by decide)).put (by decide)) hb hL (ax_put_o (Or.inl (by decide)) (ax_put_o (Or.inr (by decide)) (ax_put_o (Or.inr (by decide)) (ax_put_o (Or.inr (by decide)) (ax_put_o (Or.inr (by decide)) (ax_put_o (Or.inr (by decide)) (ax_put_o (Or.inr (by decide)) (ax_put_o (Or.inr (by decide)) (ax_put_o (Or.inr (by decide)) (ax_put_o (Or.inl (by decide)) (ax_put_o (Or.inr (by decide)) (ax_put_o (Or.inr (by decide)) (ax_put_o (Or.inr (by decide)) (ax_put_o (Or.inr (by decide)) w3)))))))))))))) (ax_put_o (Or.inl (by decide)) (ax_put_o (Or.inr (by decide)) (ax_put_s _ _ _))) t4 (by omega)) rfl ?_
  refine fx_inc (p' := 227) (e := ((n : Int) + 1)) (ls' := [.ref 78, iv ((n : Int) + 1), iv ((l : Int))]) rfl rfl rfl (by omega) rfl ?_
  refine am_ev.step (pc' := 70) rfl rfl ?_
  exact q9
theorem rm_E (hb : tz_r b) (hL : L ≤ 1600) (C : MS h h0 b L p s e k v w τ V Y) (q : k = 0) : am_ev (d + 7) 174 70 [.ref 78, iv ((n : Int)), a2] [] h  (some (iv n), h) := by
  obtain ⟨S, B, w3, t0, w4, w5, w6, w7, -, -, f8, f9, dT, dV, dY, z81, z82, zt⟩ := C
  have f0 := t0.f5 hb
  have hr0 := tH_r (k := k) ⟨f0.2.2.2.1, f0.2.2.2.2⟩
  have e0 : tH k = 0 := by
    rw [q]
    rfl
  refine am_ev.step (pc' := 71) rfl rfl ?_
  refine ax_gf (p' := 74) rfl rfl (S.ob rfl) w6 ?_
  refine fx_z_eq_T (pT := 230) rfl (by omega) rfl (by omega) ?_
  refine am_ev.step (pc' := 231) rfl rfl ?_
  exact fx_reti rfl rfl rfl
end RMA
end
section
/-! RULES, both sides: all clauses -/
def cnt (τ : Nat → Int) : Nat → Int
  | 0 => 0
  | n + 1 => cnt τ n + τ n
theorem cnt_b {τ : Nat → Int} : ∀ n, (∀ i, i < n → τ i = 0 ∨ τ i = 1) → 0 ≤ cnt τ n ∧ cnt τ n ≤ n
  | 0, _ => ⟨Int.le_refl 0, Int.le_refl 0⟩
  | n + 1, q => by
    have a := cnt_b n (fun i hi => q i (by omega))
    have c := q n (by omega)
    show 0 ≤ cnt τ n + τ n ∧ cnt τ n + τ n ≤ ((n + 1 : Nat) : Int)
    omega
theorem cnt_s {τ : Nat → Int} {c : Nat} {v : Int} : ∀ n, n ≤ c → cnt (up1 τ c v) n = cnt τ n
  | 0, _ => rfl
  | n + 1, q => by
    show cnt (up1 τ c v) n + up1 τ c v n = cnt τ n + τ n
    rw [cnt_s n (by omega), show up1 τ c v n = τ n from if_neg (by omega)]
theorem cnt_u {τ : Nat → Int} {c : Nat} {v : Int} : ∀ n, c < n → cnt (up1 τ c v) n = cnt τ n + v - τ c
  | 0, q => by omega
  | n + 1, q => by
    show cnt (up1 τ c v) n + up1 τ c v n = cnt τ n + τ n + v - τ c
    by_cases e : n = c
    · rw [cnt_s n (by omega), show up1 τ c v n = v from if_pos e, e]
      omega
    · rw [cnt_u n (by omega), show up1 τ c v n = τ n from if_neg e]
      omega
/-- the rules' bounds -/
def rV (V Y : Nat → Int) : Prop := (∀ j, j < 7 → cq_sv 2 j ≤ V j ∧ V j ≤ cq_sv 3 j) ∧ ∀ j, j < 6 → 0 ≤ Y j ∧ Y j ≤ 99
theorem rV.v {V Y : Nat → Int} (B : rV V Y) {l : Nat} {v : Int} (r : cq_sv 2 l ≤ v ∧ v ≤ cq_sv 3 l) : rV (up1 V l v) Y := by
  refine ⟨fun j hj => ?_, B.2⟩
  by_cases e : j = l
  · rw [show up1 V l v j = v from if_pos e, e]
    exact r
  · rw [show up1 V l v j = V j from if_neg e]
    exact B.1 j hj
theorem rV.y {V Y : Nat → Int} (B : rV V Y) {l : Nat} {v : Int} (r : 0 ≤ v ∧ v ≤ 99) : rV V (up1 Y l v) := by
  refine ⟨B.1, fun j hj => ?_⟩
  by_cases e : j = l
  · rw [show up1 Y l v j = v from if_pos e]
    exact r
  · rw [show up1 Y l v j = Y j from if_neg e]
    exact B.2 j hj
/-- how the reading of the rules ends on both sides -/
def RR (d : Nat) (h g h0 g0 : am_H) (l1 l2 : List Value) : Prop := ∃ H G : am_H, (∃ (r : Nat) (V Y : Nat → Int), am_ev (d + 7) 19 10 l1 [] h (some (iv r), H) ∧ am_ev (d + 7) 174 70 l2 [] g (some (iv r), G) ∧ r ≤ 13 ∧ fS H ∧ fS G ∧ G.2.2.2 78 2 = iv 0 ∧ H.2.2.2 41 3 = iv 0 ∧ H.2.2.2 41 4 = iv (-1) ∧ G.2.2.2 78 8 = iv 0 ∧ G.2.2.2 78 9 = iv (-1) ∧ (∀ j, j < 7 → H.2.2.2 44 j = iv (V j)) ∧ (∀ j, j < 6 → H.2.2.2 45 j = iv (Y j)) ∧ (∀ j, j < 7 → G.2.2.2 83 j = iv (V j)) ∧ (∀ j, j < 6 → G.2.2.2 84 j = iv (Y j)) ∧ rV V Y) ∨
  (∃ (f : Int) (sn : Nat), am_ev (d + 7) 19 10 l1 [] h (some (iv (-1)), H) ∧ am_ev (d + 7) 174 70 l2 [] g (some (.retAddr (79 + 1)), G) ∧ fS H ∧ fS G ∧ G.2.2.2 78 2 = iv 0 ∧ H.2.2.2 41 3 = iv f ∧ H.2.2.2 41 4 = iv sn ∧ G.2.2.2 78 8 = iv f ∧ G.2.2.2 78 9 = iv sn ∧ (∀ j, H.2.2.2 44 j = h0.2.2.2 44 j) ∧ (∀ j, H.2.2.2 45 j = h0.2.2.2 45 j) ∧ (∀ j, G.2.2.2 81 j = g0.2.2.2 81 j) ∧ (∀ j, G.2.2.2 82 j = g0.2.2.2 82 j))
section RRA
variable {d : Nat} {h0 g0 : am_H} {b : Nat → Int} {L : Nat}
theorem RR.fail {h g : am_H} {l1 l2 : List Value} {f : Int} {sn : Nat} (a : ∃ H : am_H, am_ev (d + 7) 19 10 l1 [] h (some (iv (-1)), H) ∧ H.2.2.2 41 3 = iv f ∧ H.2.2.2 41 4 = iv sn ∧ (∀ j, H.2.2.2 44 j = h0.2.2.2 44 j) ∧ (∀ j, H.2.2.2 45 j = h0.2.2.2 45 j) ∧ fS H) (c : ∃ H : am_H, am_ev (d + 7) 174 70 l2 [] g (some (.retAddr (79 + 1)), H) ∧ H.2.2.2 78 8 = iv f ∧ H.2.2.2 78 9 = iv sn ∧ (∀ j, H.2.2.2 81 j = g0.2.2.2 81 j) ∧ (∀ j, H.2.2.2 82 j = g0.2.2.2 82 j) ∧ fS H ∧ H.2.2.2 78 2 = iv 0) : RR d h g h0 g0 l1 l2 := by
  obtain ⟨H, a1, a2, a3, a4, a5, a6⟩ := a
  obtain ⟨G, c1, c2, c3, c4, c5, c6, c7⟩ := c
  exact ⟨H, G, Or.inr ⟨f, sn, a1, c1, a6, c6, c7, a2, a3, c2, c3, a4, a5, c4, c5⟩⟩
theorem RR.on {h g h' g' : am_H} {l1 l2 l1' l2' : List Value} (a : ∀ x, am_ev (d + 7) 19 10 l1' [] h' x → am_ev (d + 7) 19 10 l1 [] h x) (c : ∀ x, am_ev (d + 7) 174 70 l2' [] g' x → am_ev (d + 7) 174 70 l2 [] g x) (q : RR d h' g' h0 g0 l1' l2') : RR d h g h0 g0 l1 l2 := by
  obtain ⟨H, G, ⟨r, V, Y, q1, q2, q3⟩ | ⟨f, sn, q1, q2, q3⟩⟩ := q
  · exact ⟨H, G, Or.inl ⟨r, V, Y, a _ q1, c _ q2, q3⟩⟩
  · exact ⟨H, G, Or.inr ⟨f, sn, a _ q1, c _ q2, q3⟩⟩
theorem rr_n {n : Nat} : ((n + 1 : Nat) : Int) = (n : Int) + 1 := by omega
theorem rr_loop (hb : tz_r b) (hL : L ≤ 1600) : ∀ (m n p s e : Nat) (t u : Int32) (k v w : Int) (V Y τ : Nat → Int) (h g : am_H) (a3 a4 a2 : Value), 14 - n ≤ m → cnt τ 13 = (n : Int) → CS h h0 b L p t u V Y → MS g g0 b L p s e k v w τ V Y → (∀ i, i < 13 → τ i = 0 ∨ τ i = 1) → (∀ i, i < 7 → (bt t i = true ↔ τ i = 1)) → (∀ i, i < 6 → (bt u i = true ↔ τ (i + 7) = 1)) → rV V Y → RR d h g h0 g0 [.ref 43, .ref 41, iv n, a3, a4] [.ref 78, iv n, a2]
  | 0, n, p, s, e, t, u, k, v, w, V, Y, τ, h, g, a3, a4, a2, hm, hc, C, M, hτ, ht, hu, hV => by
    have := cnt_b 13 hτ
    omega
  | m + 1, n, p, s, e, t, u, k, v, w, V, Y, τ, h, g, a3, a4, a2, hm, hc, C, M, hτ, ht, hu, hV => by
    have hn : n ≤ 13 := by
      have := cnt_b 13 hτ
      omega
    have t0 : tz_t b L p s e k v := M.2.2.2.1
    have f0 := t0.f hb
    by_cases kn : k = 0
    · obtain ⟨H, a1, a2', a3', a4', a5', a6'⟩ := rl_E (d := d) (a3 := a3) (a4 := a4) hb hL C hn t0 kn
      have c1 := rm_E (d := d) (n := n) (a2 := a2) hb hL M kn
      obtain ⟨S, -, -, -, -, -, -, -, -, -, f8, f9, -, dV, dY, -, -, z2⟩ := M
      exact ⟨H, g, Or.inl ⟨n, V, Y, a1, c1, hn, a6', S, z2, a2', a3', f8, f9, a4', a5', dV, dY, hV⟩⟩
    · obtain ⟨c, q⟩ := cl_r_ex b s e k
      have q' := q
      rcases q' with ⟨l, hl8, rfl, -⟩ | ⟨rfl, -⟩
      · by_cases l7 : l = 7
        · subst l7
          obtain ⟨s1, e1, k1, v1, t1⟩ := tz_t_ex (b := b) f0.2.2.1
          have f1 := t1.f hb
          by_cases q1 : k1 = 2
          · by_cases r1 : 0 ≤ v1 ∧ v1 ≤ 5
            · obtain ⟨l, el⟩ : ∃ l : Nat, v1 = (l : Int) := ⟨v1.toNat, by omega⟩
              subst el
              have hl : l < 6 := by omega
              rcases hτ (l + 7) (by omega) with q0 | q0
              · have q0c : bt u l = false := by
                  cases z : bt u l with
                  | false => rfl
                  | true =>
                    have := (hu l hl).1 z
                    omega
                obtain ⟨s2, e2, k2, v2, t2⟩ := tz_t_ex (b := b) f1.2.2.1
                have f2 := t2.f hb
                by_cases q2 : k2 = 2
                · by_cases r2 : 0 ≤ v2 ∧ v2 ≤ 99
                  · obtain ⟨s3, e3, k3, v3, t3⟩ := tz_t_ex (b := b) f2.2.2.1
                    have f3 := t3.f hb
                    by_cases q3 : k3 = 59
                    · obtain ⟨s4, e4, k4, v4, t4⟩ := tz_t_ex (b := b) f3.2.2.1
                      obtain ⟨H, CH, aH⟩ := rl_Nf (d := d) (a3 := a3) (a4 := a4) hb hL C hn t0 kn q hl t1 q1 q0c t2 ⟨q2, r2⟩ t3 q3
                      obtain ⟨G, MG, aG⟩ := rm_Nf (d := d) (n := n) (a2 := a2) hb hL M kn q hl t1 q1 q0 t2 ⟨q2, r2⟩ t3 q3 t4
                      have cu := cnt_u (τ := τ) (c := l + 7) (v := 1) 13 (by omega)
                      have IH := rr_loop hb hL m (n + 1) e3 s4 e4 t _ k4 v4 _ V _ _ H G (iv 7) (iv 1) (iv l) (by omega) (by omega) CH MG (fun i hi => by
                        by_cases e : i = l + 7
                        · exact Or.inr (if_pos e)
                        · rw [show up1 τ (l + 7) 1 i = τ i from if_neg e]
                          exact hτ i hi) (fun i hi => by
                        rw [show up1 τ (l + 7) 1 i = τ i from if_neg (by omega)]
                        exact ht i hi) (fun i hi => by
                        rw [b_set (by omega) (by omega)]
                        by_cases e : i = l
                        · rw [e, show up1 τ (l + 7) 1 (l + 7) = 1 from if_pos rfl]
                          simp
                        · rw [show up1 τ (l + 7) 1 (i + 7) = τ (i + 7) from if_neg (by omega), decide_eq_false e, Bool.or_false]
                          exact hu i hi) (hV.y r2)
                      exact IH.on (fun x y => aH x (rr_n ▸ y)) (fun x y => aG x (rr_n ▸ y))
                    · exact RR.fail (rl_Fff (d := d) (a3 := a3) (a4 := a4) hb hL C hn t0 kn q hl t1 q1 q0c t2 ⟨q2, r2⟩ t3 q3) (rm_Fff (d := d) (n := n) (a2 := a2) hb hL M kn q hl t1 q1 q0 t2 ⟨q2, r2⟩ t3 q3)
                  · exact RR.fail (rl_Ffe (d := d) (a3 := a3) (a4 := a4) hb hL C hn t0 kn q hl t1 q1 q0c t2 ⟨q2, r2⟩) (rm_Ffe (d := d) (n := n) (a2 := a2) hb hL M kn q hl t1 q1 q0 t2 ⟨q2, r2⟩)
                · exact RR.fail (rl_Ffd (d := d) (a3 := a3) (a4 := a4) hb hL C hn t0 kn q hl t1 q1 q0c t2 q2) (rm_Ffd (d := d) (n := n) (a2 := a2) hb hL M kn q hl t1 q1 q0 t2 q2)
              · exact RR.fail (rl_Ffc (d := d) (a3 := a3) (a4 := a4) hb hL C hn t0 kn q hl t1 q1 ((hu l hl).2 q0)) (rm_Ffc (d := d) (n := n) (a2 := a2) hb hL M kn q hl t1 q1 q0)
            · exact RR.fail (rl_Ffb (d := d) (a3 := a3) (a4 := a4) hb hL C hn t0 kn q t1 ⟨q1, r1⟩) (rm_Ffb (d := d) (n := n) (a2 := a2) hb hL M kn q t1 ⟨q1, r1⟩)
          · exact RR.fail (rl_Ffa (d := d) (a3 := a3) (a4 := a4) hb hL C hn t0 kn q t1 q1) (rm_Ffa (d := d) (n := n) (a2 := a2) hb hL M kn q t1 q1)
        · have hl : l < 7 := by omega
          rcases hτ l (by omega) with q0 | q0
          · have q0c : bt t l = false := by
              cases z : bt t l with
              | false => rfl
              | true =>
                have := (ht l hl).1 z
                omega
            obtain ⟨s1, e1, k1, v1, t1⟩ := tz_t_ex (b := b) f0.2.2.1
            have f1 := t1.f hb
            by_cases q1 : k1 = 2
            · by_cases r1 : cq_sv 2 l ≤ v1 ∧ v1 ≤ cq_sv 3 l
              · obtain ⟨s2, e2, k2, v2, t2⟩ := tz_t_ex (b := b) f1.2.2.1
                have f2 := t2.f hb
                by_cases q2 : k2 = 59
                · obtain ⟨s3, e3, k3, v3, t3⟩ := tz_t_ex (b := b) f2.2.2.1
                  obtain ⟨H, CH, aH⟩ := rl_Nv (d := d) (a3 := a3) (a4 := a4) hb hL C hn t0 kn hl q q0c t1 ⟨q1, r1⟩ t2 q2
                  obtain ⟨G, MG, aG⟩ := rm_Nv (d := d) (n := n) (a2 := a2) hb hL M kn hl q q0 t1 ⟨q1, r1⟩ t2 q2 t3
                  have cu := cnt_u (τ := τ) (c := l) (v := 1) 13 (by omega)
                  have IH := rr_loop hb hL m (n + 1) e2 s3 e3 _ u k3 v3 _ _ Y _ H G (iv l) (iv 1) (iv l) (by omega) (by omega) CH MG (fun i hi => by
                    by_cases e : i = l
                    · exact Or.inr (if_pos e)
                    · rw [show up1 τ l 1 i = τ i from if_neg e]
                      exact hτ i hi) (fun i hi => by
                    rw [b_set (by omega) (by omega)]
                    by_cases e : i = l
                    · rw [e, show up1 τ l 1 l = 1 from if_pos rfl]
                      simp
                    · rw [show up1 τ l 1 i = τ i from if_neg e, decide_eq_false e, Bool.or_false]
                      exact ht i hi) (fun i hi => by
                    rw [show up1 τ l 1 (i + 7) = τ (i + 7) from if_neg (by omega)]
                    exact hu i hi) (hV.v r1)
                  exact IH.on (fun x y => aH x (rr_n ▸ y)) (fun x y => aG x (rr_n ▸ y))
                · exact RR.fail (rl_Fd (d := d) (a3 := a3) (a4 := a4) hb hL C hn t0 kn hl q q0c t1 ⟨q1, r1⟩ t2 q2) (rm_Fd (d := d) (n := n) (a2 := a2) hb hL M kn hl q q0 t1 ⟨q1, r1⟩ t2 q2)
              · exact RR.fail (rl_Fc (d := d) (a3 := a3) (a4 := a4) hb hL C hn t0 kn hl q q0c t1 ⟨q1, r1⟩) (rm_Fc (d := d) (n := n) (a2 := a2) hb hL M kn hl q q0 t1 ⟨q1, r1⟩)
            · exact RR.fail (rl_Fb (d := d) (a3 := a3) (a4 := a4) hb hL C hn t0 kn hl q q0c t1 q1) (rm_Fb (d := d) (n := n) (a2 := a2) hb hL M kn hl q q0 t1 q1)
          · exact RR.fail (rl_Fa (d := d) (a3 := a3) (a4 := a4) hb hL C hn t0 kn hl q ((ht l hl).2 q0)) (rm_Fa (d := d) (n := n) (a2 := a2) hb hL M kn hl q q0)
      · exact RR.fail (rl_Fx (d := d) (a3 := a3) (a4 := a4) hb hL C hn t0 kn q) (rm_Fx (d := d) (n := n) (a2 := a2) hb hL M kn q)
end RRA
end
