/-! THE RULES: a clause is read -/
theorem sv_b : ∀ c, c < 7 → -100 ≤ cq_sv 2 c ∧ cq_sv 2 c ≤ 100000 ∧ -100 ≤ cq_sv 3 c ∧ cq_sv 3 c ≤ 100000 := by decide +kernel
section TKF
variable {d : Nat} {h : am_H} {b : Nat → Int} {L p s e s1 e1 s2 e2 s3 e3 l : Nat} {k k1 k2 k3 v1 v2 v3 : Int} {t u : Int32}
theorem tk_33x (S : fS h) (B : tb h 42 b L) (hb : tz_r b) (hL : L ≤ 1600) (w1 : h.2.2.2 41 1 = iv L) (v5 : h.2.2.2 41 5 = iv s) (v6 : h.2.2.2 41 6 = iv e) : am_ev (d + 1) 33 0 (am_ent [.ref 43, iv (-1), .ref 41] 3) [] h (some (iv 0), (am_put (am_put h 41 3 (iv 1)) 41 4 (iv ((s : Int))))) := by
  show am_ev (d + 1) 33 0 [.ref 43, iv (-1), .ref 41] [] h _
  refine am_ev.step (pc' := 1) rfl rfl ?_
  refine fx_z_lt_T (pT := 10) rfl (by omega) rfl (by omega) ?_
  refine am_ev.step (pc' := 11) rfl rfl ?_
  refine am_ev.step (pc' := 12) rfl rfl ?_
  refine ax_call (z := 29) (p' := 15) (as := [_, _]) rfl (Or.inr (Or.inl ⟨_, rfl⟩)) rfl rfl rfl rfl rfl rfl (S.ob rfl) rfl (tk_29 (s := s) S v5) rfl ?_
  exact fx_reti rfl rfl rfl
theorem tk_33a (S : fS h) (B : tb h 42 b L) (hb : tz_r b) (hL : L ≤ 1600) (w1 : h.2.2.2 41 1 = iv L) (v5 : h.2.2.2 41 5 = iv s) (v6 : h.2.2.2 41 6 = iv e) (hl : l < 7) (v4 : h.2.2.2 43 4 = .int t) (q0 : bt t l = true) : am_ev (d + 1) 33 0 (am_ent [.ref 43, iv ((l : Int)), .ref 41] 3) [] h (some (iv 0), (am_put (am_put h 41 3 (iv 3)) 41 4 (iv ((s : Int))))) := by
  show am_ev (d + 1) 33 0 [.ref 43, iv ((l : Int)), .ref 41] [] h _
  refine am_ev.step (pc' := 1) rfl rfl ?_
  refine fx_z_lt_F (pF := 4) rfl (by omega) rfl (by omega) ?_
  refine am_ev.step (pc' := 5) rfl rfl ?_
  refine fx_bip (p' := 7) rfl rfl rfl ?_
  refine fx_c_lt_T (pT := 16) rfl (by omega) (by omega) rfl (by omega) ?_
  refine am_ev.step (pc' := 17) rfl rfl ?_
  refine ax_gf (p' := 20) rfl rfl (S.ob rfl) v4 ?_
  refine am_ev.step (pc' := 21) rfl rfl ?_
  refine ax_call (z := 31) (p' := 24) (as := [_, _]) rfl (Or.inl ⟨_, rfl⟩) rfl rfl rfl rfl rfl rfl rfl rfl ((tk_31 (c := l) (by omega)).1 q0) rfl ?_
  refine fx_z_eq_F (pF := 27) rfl (by omega) rfl (by omega) ?_
  refine am_ev.step (pc' := 28) rfl rfl ?_
  refine am_ev.step (pc' := 29) rfl rfl ?_
  refine ax_call (z := 29) (p' := 32) (as := [_, _]) rfl (Or.inr (Or.inl ⟨_, rfl⟩)) rfl rfl rfl rfl rfl rfl (S.ob rfl) rfl (tk_29 (s := s) S v5) rfl ?_
  exact fx_reti rfl rfl rfl
theorem tk_33b (S : fS h) (B : tb h 42 b L) (hb : tz_r b) (hL : L ≤ 1600) (w1 : h.2.2.2 41 1 = iv L) (v5 : h.2.2.2 41 5 = iv s) (v6 : h.2.2.2 41 6 = iv e) (hl : l < 7) (v4 : h.2.2.2 43 4 = .int t) (q0 : bt t l = false) (t1 : tz_t b L e s1 e1 k1 v1) (q1 : k1 ≠ 2) : am_ev (d + 3) 33 0 (am_ent [.ref 43, iv ((l : Int)), .ref 41] 3) [] h (some (iv 0), (am_put (am_put (am_put (am_put (am_put (am_put h 43 4 (.int (t ||| ((Int32.ofInt 1) <<< ((Int32.ofInt ((l : Int))) &&& 31))))) 41 5 (iv ((s1 : Int)))) 41 6 (iv ((e1 : Int)))) 41 2 (iv (k1))) 41 3 (iv 1)) 41 4 (iv ((s1 : Int))))) := by
  have rb := sv_b l hl
  show am_ev (d + 3) 33 0 [.ref 43, iv ((l : Int)), .ref 41] [] h _
  refine am_ev.step (pc' := 1) rfl rfl ?_
  refine fx_z_lt_F (pF := 4) rfl (by omega) rfl (by omega) ?_
  refine am_ev.step (pc' := 5) rfl rfl ?_
  refine fx_bip (p' := 7) rfl rfl rfl ?_
  refine fx_c_lt_T (pT := 16) rfl (by omega) (by omega) rfl (by omega) ?_
  refine am_ev.step (pc' := 17) rfl rfl ?_
  refine ax_gf (p' := 20) rfl rfl (S.ob rfl) v4 ?_
  refine am_ev.step (pc' := 21) rfl rfl ?_
  refine ax_call (z := 31) (p' := 24) (as := [_, _]) rfl (Or.inl ⟨_, rfl⟩) rfl rfl rfl rfl rfl rfl rfl rfl ((tk_31 (c := l) (by omega)).2 q0) rfl ?_
  refine fx_z_eq_T (pT := 33) rfl (by omega) rfl (by omega) ?_
  refine am_ev.step (pc' := 34) rfl rfl ?_
  refine am_ev.step (pc' := 35) rfl rfl ?_
  refine ax_gf (p' := 38) rfl rfl (S.ob rfl) v4 ?_
  refine am_ev.step (pc' := 39) rfl rfl ?_
  refine am_ev.step (pc' := 40) rfl rfl ?_
  refine am_ev.step (pc' := 41) rfl rfl ?_
  refine am_ev.step (pc' := 42) rfl rfl ?_
  refine ax_pf (p' := 45) rfl rfl (S.ob rfl) rfl ?_
  refine am_ev.step (pc' := 46) rfl rfl ?_
  refine am_ev.step (pc' := 49) rfl rfl ?_
  refine am_ev.step (pc' := 50) rfl rfl ?_
  refine ax_iaload (p' := 51) rfl rfl ((S.po rfl rfl).rs (k := l) rfl rfl (by omega)) ?_
  refine am_ev.step (pc' := 54) rfl rfl ?_
  refine am_ev.step (pc' := 55) rfl rfl ?_
  refine ax_iaload (p' := 56) rfl rfl ((S.po rfl rfl).rs (k := l) rfl rfl (by omega)) ?_
  refine ax_call (z := 28) (p' := 59) (as := [_, _, _]) rfl (Or.inr (Or.inl ⟨_, rfl⟩)) rfl rfl rfl rfl rfl rfl (fO (S.ob rfl)) rfl (tk_28a (lo := ((cq_sv 2 l))) (hi := ((cq_sv 3 l))) (by omega) (S.po rfl rfl) (B.put (by decide)) hb hL (ax_put_o (Or.inl (by decide)) w1) (ax_put_o (Or.inl (by decide)) v6) t1 q1) rfl ?_
  refine fx_z_ne_F (pF := 62) rfl (by omega) rfl (by omega) ?_
  refine am_ev.step (pc' := 63) rfl rfl ?_
  exact fx_reti rfl rfl rfl
theorem tk_33c (S : fS h) (B : tb h 42 b L) (hb : tz_r b) (hL : L ≤ 1600) (w1 : h.2.2.2 41 1 = iv L) (v5 : h.2.2.2 41 5 = iv s) (v6 : h.2.2.2 41 6 = iv e) (hl : l < 7) (v4 : h.2.2.2 43 4 = .int t) (q0 : bt t l = false) (t1 : tz_t b L e s1 e1 k1 v1) (q1 : k1 = 2 ∧ ¬ (cq_sv 2 l ≤ v1 ∧ v1 ≤ cq_sv 3 l)) : am_ev (d + 3) 33 0 (am_ent [.ref 43, iv ((l : Int)), .ref 41] 3) [] h (some (iv 0), (am_put (am_put (am_put (am_put (am_put (am_put h 43 4 (.int (t ||| ((Int32.ofInt 1) <<< ((Int32.ofInt ((l : Int))) &&& 31))))) 41 5 (iv ((s1 : Int)))) 41 6 (iv ((e1 : Int)))) 41 2 (iv (k1))) 41 3 (iv 2)) 41 4 (iv ((s1 : Int))))) := by
  have rb := sv_b l hl
  show am_ev (d + 3) 33 0 [.ref 43, iv ((l : Int)), .ref 41] [] h _
  refine am_ev.step (pc' := 1) rfl rfl ?_
  refine fx_z_lt_F (pF := 4) rfl (by omega) rfl (by omega) ?_
  refine am_ev.step (pc' := 5) rfl rfl ?_
  refine fx_bip (p' := 7) rfl rfl rfl ?_
  refine fx_c_lt_T (pT := 16) rfl (by omega) (by omega) rfl (by omega) ?_
  refine am_ev.step (pc' := 17) rfl rfl ?_
  refine ax_gf (p' := 20) rfl rfl (S.ob rfl) v4 ?_
  refine am_ev.step (pc' := 21) rfl rfl ?_
  refine ax_call (z := 31) (p' := 24) (as := [_, _]) rfl (Or.inl ⟨_, rfl⟩) rfl rfl rfl rfl rfl rfl rfl rfl ((tk_31 (c := l) (by omega)).2 q0) rfl ?_
  refine fx_z_eq_T (pT := 33) rfl (by omega) rfl (by omega) ?_
  refine am_ev.step (pc' := 34) rfl rfl ?_
  refine am_ev.step (pc' := 35) rfl rfl ?_
  refine ax_gf (p' := 38) rfl rfl (S.ob rfl) v4 ?_
  refine am_ev.step (pc' := 39) rfl rfl ?_
  refine am_ev.step (pc' := 40) rfl rfl ?_
  refine am_ev.step (pc' := 41) rfl rfl ?_
  refine am_ev.step (pc' := 42) rfl rfl ?_
  refine ax_pf (p' := 45) rfl rfl (S.ob rfl) rfl ?_
  refine am_ev.step (pc' := 46) rfl rfl ?_
  refine am_ev.step (pc' := 49) rfl rfl ?_
  refine am_ev.step (pc' := 50) rfl rfl ?_
  refine ax_iaload (p' := 51) rfl rfl ((S.po rfl rfl).rs (k := l) rfl rfl (by omega)) ?_
  refine am_ev.step (pc' := 54) rfl rfl ?_
  refine am_ev.step (pc' := 55) rfl rfl ?_
  refine ax_iaload (p' := 56) rfl rfl ((S.po rfl rfl).rs (k := l) rfl rfl (by omega)) ?_
  refine ax_call (z := 28) (p' := 59) (as := [_, _, _]) rfl (Or.inr (Or.inl ⟨_, rfl⟩)) rfl rfl rfl rfl rfl rfl (fO (S.ob rfl)) rfl (tk_28b (lo := ((cq_sv 2 l))) (hi := ((cq_sv 3 l))) (by omega) (S.po rfl rfl) (B.put (by decide)) hb hL (ax_put_o (Or.inl (by decide)) w1) (ax_put_o (Or.inl (by decide)) v6) t1 q1) rfl ?_
  refine fx_z_ne_F (pF := 62) rfl (by omega) rfl (by omega) ?_
  refine am_ev.step (pc' := 63) rfl rfl ?_
  exact fx_reti rfl rfl rfl
theorem tk_33d (S : fS h) (B : tb h 42 b L) (hb : tz_r b) (hL : L ≤ 1600) (w1 : h.2.2.2 41 1 = iv L) (v5 : h.2.2.2 41 5 = iv s) (v6 : h.2.2.2 41 6 = iv e) (hl : l < 7) (v4 : h.2.2.2 43 4 = .int t) (q0 : bt t l = false) (t1 : tz_t b L e s1 e1 k1 v1) (q1 : k1 = 2 ∧ cq_sv 2 l ≤ v1 ∧ v1 ≤ cq_sv 3 l) (t2 : tz_t b L e1 s2 e2 k2 v2) (q2 : k2 ≠ 59) : am_ev (d + 3) 33 0 (am_ent [.ref 43, iv ((l : Int)), .ref 41] 3) [] h (some (iv 0), (am_put (am_put (am_put (am_put (am_put (am_put (am_put (am_put (am_put (am_put h 43 4 (.int (t ||| ((Int32.ofInt 1) <<< ((Int32.ofInt ((l : Int))) &&& 31))))) 41 5 (iv ((s1 : Int)))) 41 6 (iv ((e1 : Int)))) 41 2 (iv (k1))) 46 l (iv (v1))) 41 5 (iv ((s2 : Int)))) 41 6 (iv ((e2 : Int)))) 41 2 (iv (k2))) 41 3 (iv 1)) 41 4 (iv ((s2 : Int))))) := by
  have rb := sv_b l hl
  show am_ev (d + 3) 33 0 [.ref 43, iv ((l : Int)), .ref 41] [] h _
  refine am_ev.step (pc' := 1) rfl rfl ?_
  refine fx_z_lt_F (pF := 4) rfl (by omega) rfl (by omega) ?_
  refine am_ev.step (pc' := 5) rfl rfl ?_
  refine fx_bip (p' := 7) rfl rfl rfl ?_
  refine fx_c_lt_T (pT := 16) rfl (by omega) (by omega) rfl (by omega) ?_
  refine am_ev.step (pc' := 17) rfl rfl ?_
  refine ax_gf (p' := 20) rfl rfl (S.ob rfl) v4 ?_
  refine am_ev.step (pc' := 21) rfl rfl ?_
  refine ax_call (z := 31) (p' := 24) (as := [_, _]) rfl (Or.inl ⟨_, rfl⟩) rfl rfl rfl rfl rfl rfl rfl rfl ((tk_31 (c := l) (by omega)).2 q0) rfl ?_
  refine fx_z_eq_T (pT := 33) rfl (by omega) rfl (by omega) ?_
  refine am_ev.step (pc' := 34) rfl rfl ?_
  refine am_ev.step (pc' := 35) rfl rfl ?_
  refine ax_gf (p' := 38) rfl rfl (S.ob rfl) v4 ?_
  refine am_ev.step (pc' := 39) rfl rfl ?_
  refine am_ev.step (pc' := 40) rfl rfl ?_
  refine am_ev.step (pc' := 41) rfl rfl ?_
  refine am_ev.step (pc' := 42) rfl rfl ?_
  refine ax_pf (p' := 45) rfl rfl (S.ob rfl) rfl ?_
  refine am_ev.step (pc' := 46) rfl rfl ?_
  refine am_ev.step (pc' := 49) rfl rfl ?_
  refine am_ev.step (pc' := 50) rfl rfl ?_
  refine ax_iaload (p' := 51) rfl rfl ((S.po rfl rfl).rs (k := l) rfl rfl (by omega)) ?_
  refine am_ev.step (pc' := 54) rfl rfl ?_
  refine am_ev.step (pc' := 55) rfl rfl ?_
  refine ax_iaload (p' := 56) rfl rfl ((S.po rfl rfl).rs (k := l) rfl rfl (by omega)) ?_
  refine ax_call (z := 28) (p' := 59) (as := [_, _, _]) rfl (Or.inr (Or.inl ⟨_, rfl⟩)) rfl rfl rfl rfl rfl rfl (fO (S.ob rfl)) rfl (tk_28c (lo := ((cq_sv 2 l))) (hi := ((cq_sv 3 l))) (by omega) (S.po rfl rfl) (B.put (by decide)) hb hL (ax_put_o (Or.inl (by decide)) w1) (ax_put_o (Or.inl (by decide)) v6) t1 q1) rfl ?_
  refine fx_z_ne_T (pT := 64) rfl (by omega) rfl (by omega) ?_
  refine am_ev.step (pc' := 65) rfl rfl ?_
  refine ax_gf (p' := 68) rfl rfl (fO (fO (fO (fO (S.ob rfl))))) (ax_put_o (Or.inl (by decide)) (ax_put_o (Or.inl (by decide)) (ax_put_o (Or.inl (by decide)) (ax_put_o (Or.inr (by decide)) (S.rf rfl rfl))))) ?_
  refine am_ev.step (pc' := 69) rfl rfl ?_
  refine am_ev.step (pc' := 70) rfl rfl ?_
  refine ax_call (z := 30) (p' := 73) (as := [_]) rfl (Or.inr (Or.inl ⟨_, rfl⟩)) rfl rfl rfl rfl rfl rfl (fO (fO (fO (fO (S.ob rfl))))) rfl (tk_30w ((((S.po rfl rfl).po rfl rfl).po rfl rfl).po rfl rfl) ((((B.put (by decide)).put (by decide)).put (by decide)).put (by decide)) hb hL (ax_put_o (Or.inr (by decide)) (ax_put_o (Or.inr (by decide)) (ax_put_o (Or.inr (by decide)) (ax_put_o (Or.inl (by decide)) w1)))) (ax_put_o (Or.inr (by decide)) (ax_put_o (Or.inr (by decide)) (ax_put_s _ _ _))) (ax_put_o (Or.inr (by decide)) (ax_put_s _ _ _)) t1) rfl ?_
  refine ax_iastore (p' := 74) rfl rfl (((((S.po rfl rfl).po rfl rfl).po rfl rfl).po rfl rfl).wr (k := l) rfl rfl rfl rfl (by omega)) ?_
  refine am_ev.step (pc' := 75) rfl rfl ?_
  refine ax_call (z := 32) (p' := 78) (as := [_]) rfl (Or.inr (Or.inl ⟨_, rfl⟩)) rfl rfl rfl rfl rfl rfl (fO (fO (fO (fO (fO (S.ob rfl)))))) rfl (tk_32a (((((S.po rfl rfl).po rfl rfl).po rfl rfl).po rfl rfl).pa rfl) (((((B.put (by decide)).put (by decide)).put (by decide)).put (by decide)).put (by decide)) hb hL (ax_put_o (Or.inl (by decide)) (ax_put_o (Or.inr (by decide)) (ax_put_o (Or.inr (by decide)) (ax_put_o (Or.inr (by decide)) (ax_put_o (Or.inl (by decide)) w1))))) (ax_put_o (Or.inl (by decide)) (ax_put_o (Or.inr (by decide)) (ax_put_s _ _ _))) t2 q2) rfl ?_
  exact fx_reti rfl rfl rfl
theorem tk_33e (S : fS h) (B : tb h 42 b L) (hb : tz_r b) (hL : L ≤ 1600) (w1 : h.2.2.2 41 1 = iv L) (v5 : h.2.2.2 41 5 = iv s) (v6 : h.2.2.2 41 6 = iv e) (hl : l < 7) (v4 : h.2.2.2 43 4 = .int t) (q0 : bt t l = false) (t1 : tz_t b L e s1 e1 k1 v1) (q1 : k1 = 2 ∧ cq_sv 2 l ≤ v1 ∧ v1 ≤ cq_sv 3 l) (t2 : tz_t b L e1 s2 e2 k2 v2) (q2 : k2 = 59) : am_ev (d + 3) 33 0 (am_ent [.ref 43, iv ((l : Int)), .ref 41] 3) [] h (some (iv 1), (am_put (am_put (am_put (am_put (am_put (am_put (am_put (am_put h 43 4 (.int (t ||| ((Int32.ofInt 1) <<< ((Int32.ofInt ((l : Int))) &&& 31))))) 41 5 (iv ((s1 : Int)))) 41 6 (iv ((e1 : Int)))) 41 2 (iv (k1))) 46 l (iv (v1))) 41 5 (iv ((s2 : Int)))) 41 6 (iv ((e2 : Int)))) 41 2 (iv (k2)))) := by
  have rb := sv_b l hl
  show am_ev (d + 3) 33 0 [.ref 43, iv ((l : Int)), .ref 41] [] h _
  refine am_ev.step (pc' := 1) rfl rfl ?_
  refine fx_z_lt_F (pF := 4) rfl (by omega) rfl (by omega) ?_
  refine am_ev.step (pc' := 5) rfl rfl ?_
  refine fx_bip (p' := 7) rfl rfl rfl ?_
  refine fx_c_lt_T (pT := 16) rfl (by omega) (by omega) rfl (by omega) ?_
  refine am_ev.step (pc' := 17) rfl rfl ?_
  refine ax_gf (p' := 20) rfl rfl (S.ob rfl) v4 ?_
  refine am_ev.step (pc' := 21) rfl rfl ?_
  refine ax_call (z := 31) (p' := 24) (as := [_, _]) rfl (Or.inl ⟨_, rfl⟩) rfl rfl rfl rfl rfl rfl rfl rfl ((tk_31 (c := l) (by omega)).2 q0) rfl ?_
  refine fx_z_eq_T (pT := 33) rfl (by omega) rfl (by omega) ?_
  refine am_ev.step (pc' := 34) rfl rfl ?_
  refine am_ev.step (pc' := 35) rfl rfl ?_
  refine ax_gf (p' := 38) rfl rfl (S.ob rfl) v4 ?_
  refine am_ev.step (pc' := 39) rfl rfl ?_
  refine am_ev.step (pc' := 40) rfl rfl ?_
  refine am_ev.step (pc' := 41) rfl rfl ?_
  refine am_ev.step (pc' := 42) rfl rfl ?_
  refine ax_pf (p' := 45) rfl rfl (S.ob rfl) rfl ?_
  refine am_ev.step (pc' := 46) rfl rfl ?_
  refine am_ev.step (pc' := 49) rfl rfl ?_
  refine am_ev.step (pc' := 50) rfl rfl ?_
  refine ax_iaload (p' := 51) rfl rfl ((S.po rfl rfl).rs (k := l) rfl rfl (by omega)) ?_
  refine am_ev.step (pc' := 54) rfl rfl ?_
  refine am_ev.step (pc' := 55) rfl rfl ?_
  refine ax_iaload (p' := 56) rfl rfl ((S.po rfl rfl).rs (k := l) rfl rfl (by omega)) ?_
  refine ax_call (z := 28) (p' := 59) (as := [_, _, _]) rfl (Or.inr (Or.inl ⟨_, rfl⟩)) rfl rfl rfl rfl rfl rfl (fO (S.ob rfl)) rfl (tk_28c (lo := ((cq_sv 2 l))) (hi := ((cq_sv 3 l))) (by omega) (S.po rfl rfl) (B.put (by decide)) hb hL (ax_put_o (Or.inl (by decide)) w1) (ax_put_o (Or.inl (by decide)) v6) t1 q1) rfl ?_
  refine fx_z_ne_T (pT := 64) rfl (by omega) rfl (by omega) ?_
  refine am_ev.step (pc' := 65) rfl rfl ?_
  refine ax_gf (p' := 68) rfl rfl (fO (fO (fO (fO (S.ob rfl))))) (ax_put_o (Or.inl (by decide)) (ax_put_o (Or.inl (by decide)) (ax_put_o (Or.inl (by decide)) (ax_put_o (Or.inr (by decide)) (S.rf rfl rfl))))) ?_
  refine am_ev.step (pc' := 69) rfl rfl ?_
  refine am_ev.step (pc' := 70) rfl rfl ?_
  refine ax_call (z := 30) (p' := 73) (as := [_]) rfl (Or.inr (Or.inl ⟨_, rfl⟩)) rfl rfl rfl rfl rfl rfl (fO (fO (fO (fO (S.ob rfl))))) rfl (tk_30w ((((S.po rfl rfl).po rfl rfl).po rfl rfl).po rfl rfl) ((((B.put (by decide)).put (by decide)).put (by decide)).put (by decide)) hb hL (ax_put_o (Or.inr (by decide)) (ax_put_o (Or.inr (by decide)) (ax_put_o (Or.inr (by decide)) (ax_put_o (Or.inl (by decide)) w1)))) (ax_put_o (Or.inr (by decide)) (ax_put_o (Or.inr (by decide)) (ax_put_s _ _ _))) (ax_put_o (Or.inr (by decide)) (ax_put_s _ _ _)) t1) rfl ?_
  refine ax_iastore (p' := 74) rfl rfl (((((S.po rfl rfl).po rfl rfl).po rfl rfl).po rfl rfl).wr (k := l) rfl rfl rfl rfl (by omega)) ?_
  refine am_ev.step (pc' := 75) rfl rfl ?_
  refine ax_call (z := 32) (p' := 78) (as := [_]) rfl (Or.inr (Or.inl ⟨_, rfl⟩)) rfl rfl rfl rfl rfl rfl (fO (fO (fO (fO (fO (S.ob rfl)))))) rfl (tk_32b (((((S.po rfl rfl).po rfl rfl).po rfl rfl).po rfl rfl).pa rfl) (((((B.put (by decide)).put (by decide)).put (by decide)).put (by decide)).put (by decide)) hb hL (ax_put_o (Or.inl (by decide)) (ax_put_o (Or.inr (by decide)) (ax_put_o (Or.inr (by decide)) (ax_put_o (Or.inr (by decide)) (ax_put_o (Or.inl (by decide)) w1))))) (ax_put_o (Or.inl (by decide)) (ax_put_o (Or.inr (by decide)) (ax_put_s _ _ _))) t2 q2) rfl ?_
  exact fx_reti rfl rfl rfl
theorem tk_27a (S : fS h) (B : tb h 42 b L) (hb : tz_r b) (hL : L ≤ 1600) (w1 : h.2.2.2 41 1 = iv L) (v6 : h.2.2.2 41 6 = iv e) (v4u : h.2.2.2 43 5 = .int u) (t1 : tz_t b L e s1 e1 k1 v1) (q1 : k1 ≠ 2) : am_ev (d + 3) 27 0 (am_ent [.ref 43, .ref 41] 3) [] h (some (iv 0), (am_put (am_put (am_put (am_put (am_put h 41 5 (iv ((s1 : Int)))) 41 6 (iv ((e1 : Int)))) 41 2 (iv (k1))) 41 3 (iv 1)) 41 4 (iv ((s1 : Int))))) := by
  show am_ev (d + 3) 27 0 [.ref 43, .ref 41, am_ph] [] h _
  refine am_ev.step (pc' := 1) rfl rfl ?_
  refine am_ev.step (pc' := 2) rfl rfl ?_
  refine am_ev.step (pc' := 3) rfl rfl ?_
  refine ax_call (z := 28) (p' := 6) (as := [_, _, _]) rfl (Or.inr (Or.inl ⟨_, rfl⟩)) rfl rfl rfl rfl rfl rfl (S.ob rfl) rfl (tk_28a (lo := 0) (hi := 5) (by omega) S B hb hL w1 v6 t1 q1) rfl ?_
  refine fx_z_ne_F (pF := 9) rfl (by omega) rfl (by omega) ?_
  refine am_ev.step (pc' := 10) rfl rfl ?_
  exact fx_reti rfl rfl rfl
theorem tk_27b (S : fS h) (B : tb h 42 b L) (hb : tz_r b) (hL : L ≤ 1600) (w1 : h.2.2.2 41 1 = iv L) (v6 : h.2.2.2 41 6 = iv e) (v4u : h.2.2.2 43 5 = .int u) (t1 : tz_t b L e s1 e1 k1 v1) (q1 : k1 = 2 ∧ ¬ (0 ≤ v1 ∧ v1 ≤ 5)) : am_ev (d + 3) 27 0 (am_ent [.ref 43, .ref 41] 3) [] h (some (iv 0), (am_put (am_put (am_put (am_put (am_put h 41 5 (iv ((s1 : Int)))) 41 6 (iv ((e1 : Int)))) 41 2 (iv (k1))) 41 3 (iv 2)) 41 4 (iv ((s1 : Int))))) := by
  show am_ev (d + 3) 27 0 [.ref 43, .ref 41, am_ph] [] h _
  refine am_ev.step (pc' := 1) rfl rfl ?_
  refine am_ev.step (pc' := 2) rfl rfl ?_
  refine am_ev.step (pc' := 3) rfl rfl ?_
  refine ax_call (z := 28) (p' := 6) (as := [_, _, _]) rfl (Or.inr (Or.inl ⟨_, rfl⟩)) rfl rfl rfl rfl rfl rfl (S.ob rfl) rfl (tk_28b (lo := 0) (hi := 5) (by omega) S B hb hL w1 v6 t1 q1) rfl ?_
  refine fx_z_ne_F (pF := 9) rfl (by omega) rfl (by omega) ?_
  refine am_ev.step (pc' := 10) rfl rfl ?_
  exact fx_reti rfl rfl rfl
theorem tk_27c (S : fS h) (B : tb h 42 b L) (hb : tz_r b) (hL : L ≤ 1600) (w1 : h.2.2.2 41 1 = iv L) (v6 : h.2.2.2 41 6 = iv e) (v4u : h.2.2.2 43 5 = .int u) (hl : l < 6) (t1 : tz_t b L e s1 e1 k1 (l : Int)) (q1 : k1 = 2) (q0 : bt u l = true) : am_ev (d + 3) 27 0 (am_ent [.ref 43, .ref 41] 3) [] h (some (iv 0), (am_put (am_put (am_put (am_put (am_put h 41 5 (iv ((s1 : Int)))) 41 6 (iv ((e1 : Int)))) 41 2 (iv (k1))) 41 3 (iv 3)) 41 4 (iv ((s1 : Int))))) := by
  show am_ev (d + 3) 27 0 [.ref 43, .ref 41, am_ph] [] h _
  refine am_ev.step (pc' := 1) rfl rfl ?_
  refine am_ev.step (pc' := 2) rfl rfl ?_
  refine am_ev.step (pc' := 3) rfl rfl ?_
  refine ax_call (z := 28) (p' := 6) (as := [_, _, _]) rfl (Or.inr (Or.inl ⟨_, rfl⟩)) rfl rfl rfl rfl rfl rfl (S.ob rfl) rfl (tk_28c (lo := 0) (hi := 5) (by omega) S B hb hL w1 v6 t1 ⟨q1, by omega, by omega⟩) rfl ?_
  refine fx_z_ne_T (pT := 11) rfl (by omega) rfl (by omega) ?_
  refine am_ev.step (pc' := 12) rfl rfl ?_
  refine ax_call (z := 30) (p' := 15) (as := [_]) rfl (Or.inr (Or.inl ⟨_, rfl⟩)) rfl rfl rfl rfl rfl rfl (fO (fO (fO (S.ob rfl)))) rfl (tk_30w (((S.po rfl rfl).po rfl rfl).po rfl rfl) (((B.put (by decide)).put (by decide)).put (by decide)) hb hL (ax_put_o (Or.inr (by decide)) (ax_put_o (Or.inr (by decide)) (ax_put_o (Or.inr (by decide)) w1))) (ax_put_o (Or.inr (by decide)) (ax_put_o (Or.inr (by decide)) (ax_put_s _ _ _))) (ax_put_o (Or.inr (by decide)) (ax_put_s _ _ _)) t1) rfl ?_
  refine am_ev.step (pc' := 16) (ls' := [.ref 43, .ref 41, iv ((l : Int))]) rfl rfl ?_
  refine am_ev.step (pc' := 17) rfl rfl ?_
  refine fx_z_lt_F (pF := 20) rfl (by omega) rfl (by omega) ?_
  refine am_ev.step (pc' := 21) rfl rfl ?_
  refine fx_bip (p' := 23) rfl rfl rfl ?_
  refine fx_c_lt_T (pT := 32) rfl (by omega) (by omega) rfl (by omega) ?_
  refine am_ev.step (pc' := 33) rfl rfl ?_
  refine ax_gf (p' := 36) rfl rfl (fO (fO (fO (S.ob rfl)))) (ax_put_o (Or.inl (by decide)) (ax_put_o (Or.inl (by decide)) (ax_put_o (Or.inl (by decide)) v4u))) ?_
  refine am_ev.step (pc' := 37) rfl rfl ?_
  refine ax_call (z := 31) (p' := 40) (as := [_, _]) rfl (Or.inl ⟨_, rfl⟩) rfl rfl rfl rfl rfl rfl rfl rfl ((tk_31 (c := l) (by omega)).1 q0) rfl ?_
  refine fx_z_eq_F (pF := 43) rfl (by omega) rfl (by omega) ?_
  refine am_ev.step (pc' := 44) rfl rfl ?_
  refine am_ev.step (pc' := 45) rfl rfl ?_
  refine ax_call (z := 29) (p' := 48) (as := [_, _]) rfl (Or.inr (Or.inl ⟨_, rfl⟩)) rfl rfl rfl rfl rfl rfl (fO (fO (fO (S.ob rfl)))) rfl (tk_29 (s := s1) (((S.po rfl rfl).po rfl rfl).po rfl rfl) (ax_put_o (Or.inr (by decide)) (ax_put_o (Or.inr (by decide)) (ax_put_s _ _ _)))) rfl ?_
  exact fx_reti rfl rfl rfl
theorem tk_27d (S : fS h) (B : tb h 42 b L) (hb : tz_r b) (hL : L ≤ 1600) (w1 : h.2.2.2 41 1 = iv L) (v6 : h.2.2.2 41 6 = iv e) (v4u : h.2.2.2 43 5 = .int u) (hl : l < 6) (t1 : tz_t b L e s1 e1 k1 (l : Int)) (q1 : k1 = 2) (q0 : bt u l = false) (t2 : tz_t b L e1 s2 e2 k2 v2) (q2 : k2 ≠ 2) : am_ev (d + 3) 27 0 (am_ent [.ref 43, .ref 41] 3) [] h (some (iv 0), (am_put (am_put (am_put (am_put (am_put (am_put (am_put (am_put (am_put h 41 5 (iv ((s1 : Int)))) 41 6 (iv ((e1 : Int)))) 41 2 (iv (k1))) 43 5 (.int (u ||| ((Int32.ofInt 1) <<< ((Int32.ofInt ((l : Int))) &&& 31))))) 41 5 (iv ((s2 : Int)))) 41 6 (iv ((e2 : Int)))) 41 2 (iv (k2))) 41 3 (iv 1)) 41 4 (iv ((s2 : Int))))) := by
  show am_ev (d + 3) 27 0 [.ref 43, .ref 41, am_ph] [] h _
  refine am_ev.step (pc' := 1) rfl rfl ?_
  refine am_ev.step (pc' := 2) rfl rfl ?_
  refine am_ev.step (pc' := 3) rfl rfl ?_
  refine ax_call (z := 28) (p' := 6) (as := [_, _, _]) rfl (Or.inr (Or.inl ⟨_, rfl⟩)) rfl rfl rfl rfl rfl rfl (S.ob rfl) rfl (tk_28c (lo := 0) (hi := 5) (by omega) S B hb hL w1 v6 t1 ⟨q1, by omega, by omega⟩) rfl ?_
  refine fx_z_ne_T (pT := 11) rfl (by omega) rfl (by omega) ?_
  refine am_ev.step (pc' := 12) rfl rfl ?_
  refine ax_call (z := 30) (p' := 15) (as := [_]) rfl (Or.inr (Or.inl ⟨_, rfl⟩)) rfl rfl rfl rfl rfl rfl (fO (fO (fO (S.ob rfl)))) rfl (tk_30w (((S.po rfl rfl).po rfl rfl).po rfl rfl) (((B.put (by decide)).put (by decide)).put (by decide)) hb hL (ax_put_o (Or.inr (by decide)) (ax_put_o (Or.inr (by decide)) (ax_put_o (Or.inr (by decide)) w1))) (ax_put_o (Or.inr (by decide)) (ax_put_o (Or.inr (by decide)) (ax_put_s _ _ _))) (ax_put_o (Or.inr (by decide)) (ax_put_s _ _ _)) t1) rfl ?_
  refine am_ev.step (pc' := 16) (ls' := [.ref 43, .ref 41, iv ((l : Int))]) rfl rfl ?_
  refine am_ev.step (pc' := 17) rfl rfl ?_
  refine fx_z_lt_F (pF := 20) rfl (by omega) rfl (by omega) ?_
  refine am_ev.step (pc' := 21) rfl rfl ?_
  refine fx_bip (p' := 23) rfl rfl rfl ?_
  refine fx_c_lt_T (pT := 32) rfl (by omega) (by omega) rfl (by omega) ?_
  refine am_ev.step (pc' := 33) rfl rfl ?_
  refine ax_gf (p' := 36) rfl rfl (fO (fO (fO (S.ob rfl)))) (ax_put_o (Or.inl (by decide)) (ax_put_o (Or.inl (by decide)) (ax_put_o (Or.inl (by decide)) v4u))) ?_
  refine am_ev.step (pc' := 37) rfl rfl ?_
  refine ax_call (z := 31) (p' := 40) (as := [_, _]) rfl (Or.inl ⟨_, rfl⟩) rfl rfl rfl rfl rfl rfl rfl rfl ((tk_31 (c := l) (by omega)).2 q0) rfl ?_
  refine fx_z_eq_T (pT := 49) rfl (by omega) rfl (by omega) ?_
  refine am_ev.step (pc' := 50) rfl rfl ?_
  refine am_ev.step (pc' := 51) rfl rfl ?_
  refine ax_gf (p' := 54) rfl rfl (fO (fO (fO (S.ob rfl)))) (ax_put_o (Or.inl (by decide)) (ax_put_o (Or.inl (by decide)) (ax_put_o (Or.inl (by decide)) v4u))) ?_
  refine am_ev.step (pc' := 55) rfl rfl ?_
  refine am_ev.step (pc' := 56) rfl rfl ?_
  refine am_ev.step (pc' := 57) rfl rfl ?_
  refine am_ev.step (pc' := 58) rfl rfl ?_
  refine ax_pf (p' := 61) rfl rfl (fO (fO (fO (S.ob rfl)))) rfl ?_
  refine am_ev.step (pc' := 62) rfl rfl ?_
  refine am_ev.step (pc' := 63) rfl rfl ?_
  refine fx_bip (p' := 65) rfl rfl rfl ?_
  refine ax_call (z := 28) (p' := 68) (as := [_, _, _]) rfl (Or.inr (Or.inl ⟨_, rfl⟩)) rfl rfl rfl rfl rfl rfl (fO (fO (fO (fO (S.ob rfl))))) rfl (tk_28a (lo := 0) (hi := 99) (by omega) ((((S.po rfl rfl).po rfl rfl).po rfl rfl).po rfl rfl) ((((B.put (by decide)).put (by decide)).put (by decide)).put (by decide)) hb hL (ax_put_o (Or.inl (by decide)) (ax_put_o (Or.inr (by decide)) (ax_put_o (Or.inr (by decide)) (ax_put_o (Or.inr (by decide)) w1)))) (ax_put_o (Or.inl (by decide)) (ax_put_o (Or.inr (by decide)) (ax_put_s _ _ _))) t2 q2) rfl ?_
  refine fx_z_ne_F (pF := 71) rfl (by omega) rfl (by omega) ?_
  refine am_ev.step (pc' := 72) rfl rfl ?_
  exact fx_reti rfl rfl rfl
theorem tk_27e (S : fS h) (B : tb h 42 b L) (hb : tz_r b) (hL : L ≤ 1600) (w1 : h.2.2.2 41 1 = iv L) (v6 : h.2.2.2 41 6 = iv e) (v4u : h.2.2.2 43 5 = .int u) (hl : l < 6) (t1 : tz_t b L e s1 e1 k1 (l : Int)) (q1 : k1 = 2) (q0 : bt u l = false) (t2 : tz_t b L e1 s2 e2 k2 v2) (q2 : k2 = 2 ∧ ¬ (0 ≤ v2 ∧ v2 ≤ 99)) : am_ev (d + 3) 27 0 (am_ent [.ref 43, .ref 41] 3) [] h (some (iv 0), (am_put (am_put (am_put (am_put (am_put (am_put (am_put (am_put (am_put h 41 5 (iv ((s1 : Int)))) 41 6 (iv ((e1 : Int)))) 41 2 (iv (k1))) 43 5 (.int (u ||| ((Int32.ofInt 1) <<< ((Int32.ofInt ((l : Int))) &&& 31))))) 41 5 (iv ((s2 : Int)))) 41 6 (iv ((e2 : Int)))) 41 2 (iv (k2))) 41 3 (iv 2)) 41 4 (iv ((s2 : Int))))) := by
  show am_ev (d + 3) 27 0 [.ref 43, .ref 41, am_ph] [] h _
  refine am_ev.step (pc' := 1) rfl rfl ?_
  refine am_ev.step (pc' := 2) rfl rfl ?_
  refine am_ev.step (pc' := 3) rfl rfl ?_
  refine ax_call (z := 28) (p' := 6) (as := [_, _, _]) rfl (Or.inr (Or.inl ⟨_, rfl⟩)) rfl rfl rfl rfl rfl rfl (S.ob rfl) rfl (tk_28c (lo := 0) (hi := 5) (by omega) S B hb hL w1 v6 t1 ⟨q1, by omega, by omega⟩) rfl ?_
  refine fx_z_ne_T (pT := 11) rfl (by omega) rfl (by omega) ?_
  refine am_ev.step (pc' := 12) rfl rfl ?_
  refine ax_call (z := 30) (p' := 15) (as := [_]) rfl (Or.inr (Or.inl ⟨_, rfl⟩)) rfl rfl rfl rfl rfl rfl (fO (fO (fO (S.ob rfl)))) rfl (tk_30w (((S.po rfl rfl).po rfl rfl).po rfl rfl) (((B.put (by decide)).put (by decide)).put (by decide)) hb hL (ax_put_o (Or.inr (by decide)) (ax_put_o (Or.inr (by decide)) (ax_put_o (Or.inr (by decide)) w1))) (ax_put_o (Or.inr (by decide)) (ax_put_o (Or.inr (by decide)) (ax_put_s _ _ _))) (ax_put_o (Or.inr (by decide)) (ax_put_s _ _ _)) t1) rfl ?_
  refine am_ev.step (pc' := 16) (ls' := [.ref 43, .ref 41, iv ((l : Int))]) rfl rfl ?_
  refine am_ev.step (pc' := 17) rfl rfl ?_
  refine fx_z_lt_F (pF := 20) rfl (by omega) rfl (by omega) ?_
  refine am_ev.step (pc' := 21) rfl rfl ?_
  refine fx_bip (p' := 23) rfl rfl rfl ?_
  refine fx_c_lt_T (pT := 32) rfl (by omega) (by omega) rfl (by omega) ?_
  refine am_ev.step (pc' := 33) rfl rfl ?_
  refine ax_gf (p' := 36) rfl rfl (fO (fO (fO (S.ob rfl)))) (ax_put_o (Or.inl (by decide)) (ax_put_o (Or.inl (by decide)) (ax_put_o (Or.inl (by decide)) v4u))) ?_
  refine am_ev.step (pc' := 37) rfl rfl ?_
  refine ax_call (z := 31) (p' := 40) (as := [_, _]) rfl (Or.inl ⟨_, rfl⟩) rfl rfl rfl rfl rfl rfl rfl rfl ((tk_31 (c := l) (by omega)).2 q0) rfl ?_
  refine fx_z_eq_T (pT := 49) rfl (by omega) rfl (by omega) ?_
  refine am_ev.step (pc' := 50) rfl rfl ?_
  refine am_ev.step (pc' := 51) rfl rfl ?_
  refine ax_gf (p' := 54) rfl rfl (fO (fO (fO (S.ob rfl)))) (ax_put_o (Or.inl (by decide)) (ax_put_o (Or.inl (by decide)) (ax_put_o (Or.inl (by decide)) v4u))) ?_
  refine am_ev.step (pc' := 55) rfl rfl ?_
  refine am_ev.step (pc' := 56) rfl rfl ?_
  refine am_ev.step (pc' := 57) rfl rfl ?_
  refine am_ev.step (pc' := 58) rfl rfl ?_
  refine ax_pf (p' := 61) rfl rfl (fO (fO (fO (S.ob rfl)))) rfl ?_
  refine am_ev.step (pc' := 62) rfl rfl ?_
  refine am_ev.step (pc' := 63) rfl rfl ?_
  refine fx_bip (p' := 65) rfl rfl rfl ?_
  refine ax_call (z := 28) (p' := 68) (as := [_, _, _]) rfl (Or.inr (Or.inl ⟨_, rfl⟩)) rfl rfl rfl rfl rfl rfl (fO (fO (fO (fO (S.ob rfl))))) rfl (tk_28b (lo := 0) (hi := 99) (by omega) ((((S.po rfl rfl).po rfl rfl).po rfl rfl).po rfl rfl) ((((B.put (by decide)).put (by decide)).put (by decide)).put (by decide)) hb hL (ax_put_o (Or.inl (by decide)) (ax_put_o (Or.inr (by decide)) (ax_put_o (Or.inr (by decide)) (ax_put_o (Or.inr (by decide)) w1)))) (ax_put_o (Or.inl (by decide)) (ax_put_o (Or.inr (by decide)) (ax_put_s _ _ _))) t2 q2) rfl ?_
  refine fx_z_ne_F (pF := 71) rfl (by omega) rfl (by omega) ?_
  refine am_ev.step (pc' := 72) rfl rfl ?_
  exact fx_reti rfl rfl rfl
theorem tk_27f (S : fS h) (B : tb h 42 b L) (hb : tz_r b) (hL : L ≤ 1600) (w1 : h.2.2.2 41 1 = iv L) (v6 : h.2.2.2 41 6 = iv e) (v4u : h.2.2.2 43 5 = .int u) (hl : l < 6) (t1 : tz_t b L e s1 e1 k1 (l : Int)) (q1 : k1 = 2) (q0 : bt u l = false) (t2 : tz_t b L e1 s2 e2 k2 v2) (q2 : k2 = 2 ∧ 0 ≤ v2 ∧ v2 ≤ 99) (t3 : tz_t b L e2 s3 e3 k3 v3) (q3 : k3 ≠ 59) : am_ev (d + 3) 27 0 (am_ent [.ref 43, .ref 41] 3) [] h (some (iv 0), (am_put (am_put (am_put (am_put (am_put (am_put (am_put (am_put (am_put (am_put (am_put (am_put (am_put h 41 5 (iv ((s1 : Int)))) 41 6 (iv ((e1 : Int)))) 41 2 (iv (k1))) 43 5 (.int (u ||| ((Int32.ofInt 1) <<< ((Int32.ofInt ((l : Int))) &&& 31))))) 41 5 (iv ((s2 : Int)))) 41 6 (iv ((e2 : Int)))) 41 2 (iv (k2))) 47 l (iv (v2))) 41 5 (iv ((s3 : Int)))) 41 6 (iv ((e3 : Int)))) 41 2 (iv (k3))) 41 3 (iv 1)) 41 4 (iv ((s3 : Int))))) := by
  show am_ev (d + 3) 27 0 [.ref 43, .ref 41, am_ph] [] h _
  refine am_ev.step (pc' := 1) rfl rfl ?_
  refine am_ev.step (pc' := 2) rfl rfl ?_
  refine am_ev.step (pc' := 3) rfl rfl ?_
  refine ax_call (z := 28) (p' := 6) (as := [_, _, _]) rfl (Or.inr (Or.inl ⟨_, rfl⟩)) rfl rfl rfl rfl rfl rfl (S.ob rfl) rfl (tk_28c (lo := 0) (hi := 5) (by omega) S B hb hL w1 v6 t1 ⟨q1, by omega, by omega⟩) rfl ?_
  refine fx_z_ne_T (pT := 11) rfl (by omega) rfl (by omega) ?_
  refine am_ev.step (pc' := 12) rfl rfl ?_
  refine ax_call (z := 30) (p' := 15) (as := [_]) rfl (Or.inr (Or.inl ⟨_, rfl⟩)) rfl rfl rfl rfl rfl rfl (fO (fO (fO (S.ob rfl)))) rfl (tk_30w (((S.po rfl rfl).po rfl rfl).po rfl rfl) (((B.put (by decide)).put (by decide)).put (by decide)) hb hL (ax_put_o (Or.inr (by decide)) (ax_put_o (Or.inr (by decide)) (ax_put_o (Or.inr (by decide)) w1))) (ax_put_o (Or.inr (by decide)) (ax_put_o (Or.inr (by decide)) (ax_put_s _ _ _))) (ax_put_o (Or.inr (by decide)) (ax_put_s _ _ _)) t1) rfl ?_
  refine am_ev.step (pc' := 16) (ls' := [.ref 43, .ref 41, iv ((l : Int))]) rfl rfl ?_
  refine am_ev.step (pc' := 17) rfl rfl ?_
  refine fx_z_lt_F (pF := 20) rfl (by omega) rfl (by omega) ?_
  refine am_ev.step (pc' := 21) rfl rfl ?_
  refine fx_bip (p' := 23) rfl rfl rfl ?_
  refine fx_c_lt_T (pT := 32) rfl (by omega) (by omega) rfl (by omega) ?_
  refine am_ev.step (pc' := 33) rfl rfl ?_
  refine ax_gf (p' := 36) rfl rfl (fO (fO (fO (S.ob rfl)))) (ax_put_o (Or.inl (by decide)) (ax_put_o (Or.inl (by decide)) (ax_put_o (Or.inl (by decide)) v4u))) ?_
  refine am_ev.step (pc' := 37) rfl rfl ?_
  refine ax_call (z := 31) (p' := 40) (as := [_, _]) rfl (Or.inl ⟨_, rfl⟩) rfl rfl rfl rfl rfl rfl rfl rfl ((tk_31 (c := l) (by omega)).2 q0) rfl ?_
  refine fx_z_eq_T (pT := 49) rfl (by omega) rfl (by omega) ?_
  refine am_ev.step (pc' := 50) rfl rfl ?_
  refine am_ev.step (pc' := 51) rfl rfl ?_
  refine ax_gf (p' := 54) rfl rfl (fO (fO (fO (S.ob rfl)))) (ax_put_o (Or.inl (by decide)) (ax_put_o (Or.inl (by decide)) (ax_put_o (Or.inl (by decide)) v4u))) ?_
  refine am_ev.step (pc' := 55) rfl rfl ?_
  refine am_ev.step (pc' := 56) rfl rfl ?_
  refine am_ev.step (pc' := 57) rfl rfl ?_
  refine am_ev.step (pc' := 58) rfl rfl ?_
  refine ax_pf (p' := 61) rfl rfl (fO (fO (fO (S.ob rfl)))) rfl ?_
  refine am_ev.step (pc' := 62) rfl rfl ?_
  refine am_ev.step (pc' := 63) rfl rfl ?_
  refine fx_bip (p' := 65) rfl rfl rfl ?_
  refine ax_call (z := 28) (p' := 68) (as := [_, _, _]) rfl (Or.inr (Or.inl ⟨_, rfl⟩)) rfl rfl rfl rfl rfl rfl (fO (fO (fO (fO (S.ob rfl))))) rfl (tk_28c (lo := 0) (hi := 99) (by omega) ((((S.po rfl rfl).po rfl rfl).po rfl rfl).po rfl rfl) ((((B.put (by decide)).put (by decide)).put (by decide)).put (by decide)) hb hL (ax_put_o (Or.inl (by decide)) (ax_put_o (Or.inr (by decide)) (ax_put_o (Or.inr (by decide)) (ax_put_o (Or.inr (by decide)) w1)))) (ax_put_o (Or.inl (by decide)) (ax_put_o (Or.inr (by decide)) (ax_put_s _ _ _))) t2 q2) rfl ?_
  refine fx_z_ne_T (pT := 73) rfl (by omega) rfl (by omega) ?_
  refine am_ev.step (pc' := 74) rfl rfl ?_
  refine ax_gf (p' := 77) rfl rfl (fO (fO (fO (fO (fO (fO (fO (S.ob rfl)))))))) (ax_put_o (Or.inl (by decide)) (ax_put_o (Or.inl (by decide)) (ax_put_o (Or.inl (by decide)) (ax_put_o (Or.inr (by decide)) (ax_put_o (Or.inl (by decide)) (ax_put_o (Or.inl (by decide)) (ax_put_o (Or.inl (by decide)) (S.rf rfl rfl)))))))) ?_
  refine am_ev.step (pc' := 78) rfl rfl ?_
  refine am_ev.step (pc' := 79) rfl rfl ?_
  refine ax_call (z := 30) (p' := 82) (as := [_]) rfl (Or.inr (Or.inl ⟨_, rfl⟩)) rfl rfl rfl rfl rfl rfl (fO (fO (fO (fO (fO (fO (fO (S.ob rfl)))))))) rfl (tk_30w (((((((S.po rfl rfl).po rfl rfl).po rfl rfl).po rfl rfl).po rfl rfl).po rfl rfl).po rfl rfl) (((((((B.put (by decide)).put (by decide)).put (by decide)).put (by decide)).put (by decide)).put (by decide)).put (by decide)) hb hL (ax_put_o (Or.inr (by decide)) (ax_put_o (Or.inr (by decide)) (ax_put_o (Or.inr (by decide)) (ax_put_o (Or.inl (by decide)) (ax_put_o (Or.inr (by decide)) (ax_put_o (Or.inr (by decide)) (ax_put_o (Or.inr (by decide)) w1))))))) (ax_put_o (Or.inr (by decide)) (ax_put_o (Or.inr (by decide)) (ax_put_s _ _ _))) (ax_put_o (Or.inr (by decide)) (ax_put_s _ _ _)) t2) rfl ?_
  refine ax_iastore (p' := 83) rfl rfl ((((((((S.po rfl rfl).po rfl rfl).po rfl rfl).po rfl rfl).po rfl rfl).po rfl rfl).po rfl rfl).wr (k := l) rfl rfl rfl rfl (by omega)) ?_
  refine am_ev.step (pc' := 84) rfl rfl ?_
  refine ax_call (z := 32) (p' := 87) (as := [_]) rfl (Or.inr (Or.inl ⟨_, rfl⟩)) rfl rfl rfl rfl rfl rfl (fO (fO (fO (fO (fO (fO (fO (fO (S.ob rfl))))))))) rfl (tk_32a ((((((((S.po rfl rfl).po rfl rfl).po rfl rfl).po rfl rfl).po rfl rfl).po rfl rfl).po rfl rfl).pa rfl) ((((((((B.put (by decide)).put (by decide)).put (by decide)).put (by decide)).put (by decide)).put (by decide)).put (by decide)).put (by decide)) hb hL (ax_put_o (Or.inl (by decide)) (ax_put_o (Or.inr (by decide)) (ax_put_o (Or.inr (by decide)) (ax_put_o (Or.inr (by decide)) (ax_put_o (Or.inl (by decide)) (ax_put_o (Or.inr (by decide)) (ax_put_o (Or.inr (by decide)) (ax_put_o (Or.inr (by decide)) w1)))))))) (ax_put_o (Or.inl (by decide)) (ax_put_o (Or.inr (by decide)) (ax_put_s _ _ _))) t3 q3) rfl ?_
  exact fx_reti rfl rfl rfl
theorem tk_27g (S : fS h) (B : tb h 42 b L) (hb : tz_r b) (hL : L ≤ 1600) (w1 : h.2.2.2 41 1 = iv L) (v6 : h.2.2.2 41 6 = iv e) (v4u : h.2.2.2 43 5 = .int u) (hl : l < 6) (t1 : tz_t b L e s1 e1 k1 (l : Int)) (q1 : k1 = 2) (q0 : bt u l = false) (t2 : tz_t b L e1 s2 e2 k2 v2) (q2 : k2 = 2 ∧ 0 ≤ v2 ∧ v2 ≤ 99) (t3 : tz_t b L e2 s3 e3 k3 v3) (q3 : k3 = 59) : am_ev (d + 3) 27 0 (am_ent [.ref 43, .ref 41] 3) [] h (some (iv 1), (am_put (am_put (am_put (am_put (am_put (am_put (am_put (am_put (am_put (am_put (am_put h 41 5 (iv ((s1 : Int)))) 41 6 (iv ((e1 : Int)))) 41 2 (iv (k1))) 43 5 (.int (u ||| ((Int32.ofInt 1) <<< ((Int32.ofInt ((l : Int))) &&& 31))))) 41 5 (iv ((s2 : Int)))) 41 6 (iv ((e2 : Int)))) 41 2 (iv (k2))) 47 l (iv (v2))) 41 5 (iv ((s3 : Int)))) 41 6 (iv ((e3 : Int)))) 41 2 (iv (k3)))) := by
  show am_ev (d + 3) 27 0 [.ref 43, .ref 41, am_ph] [] h _
  refine am_ev.step (pc' := 1) rfl rfl ?_
  refine am_ev.step (pc' := 2) rfl rfl ?_
  refine am_ev.step (pc' := 3) rfl rfl ?_
  refine ax_call (z := 28) (p' := 6) (as := [_, _, _]) rfl (Or.inr (Or.inl ⟨_, rfl⟩)) rfl rfl rfl rfl rfl rfl (S.ob rfl) rfl (tk_28c (lo := 0) (hi := 5) (by omega) S B hb hL w1 v6 t1 ⟨q1, by omega, by omega⟩) rfl ?_
  refine fx_z_ne_T (pT := 11) rfl (by omega) rfl (by omega) ?_
  refine am_ev.step (pc' := 12) rfl rfl ?_
  refine ax_call (z := 30) (p' := 15) (as := [_]) rfl (Or.inr (Or.inl ⟨_, rfl⟩)) rfl rfl rfl rfl rfl rfl (fO (fO (fO (S.ob rfl)))) rfl (tk_30w (((S.po rfl rfl).po rfl rfl).po rfl rfl) (((B.put (by decide)).put (by decide)).put (by decide)) hb hL (ax_put_o (Or.inr (by decide)) (ax_put_o (Or.inr (by decide)) (ax_put_o (Or.inr (by decide)) w1))) (ax_put_o (Or.inr (by decide)) (ax_put_o (Or.inr (by decide)) (ax_put_s _ _ _))) (ax_put_o (Or.inr (by decide)) (ax_put_s _ _ _)) t1) rfl ?_
  refine am_ev.step (pc' := 16) (ls' := [.ref 43, .ref 41, iv ((l : Int))]) rfl rfl ?_
  refine am_ev.step (pc' := 17) rfl rfl ?_
  refine fx_z_lt_F (pF := 20) rfl (by omega) rfl (by omega) ?_
  refine am_ev.step (pc' := 21) rfl rfl ?_
  refine fx_bip (p' := 23) rfl rfl rfl ?_
  refine fx_c_lt_T (pT := 32) rfl (by omega) (by omega) rfl (by omega) ?_
  refine am_ev.step (pc' := 33) rfl rfl ?_
  refine ax_gf (p' := 36) rfl rfl (fO (fO (fO (S.ob rfl)))) (ax_put_o (Or.inl (by decide)) (ax_put_o (Or.inl (by decide)) (ax_put_o (Or.inl (by decide)) v4u))) ?_
  refine am_ev.step (pc' := 37) rfl rfl ?_
  refine ax_call (z := 31) (p' := 40) (as := [_, _]) rfl (Or.inl ⟨_, rfl⟩) rfl rfl rfl rfl rfl rfl rfl rfl ((tk_31 (c := l) (by omega)).2 q0) rfl ?_
  refine fx_z_eq_T (pT := 49) rfl (by omega) rfl (by omega) ?_
  refine am_ev.step (pc' := 50) rfl rfl ?_
  refine am_ev.step (pc' := 51) rfl rfl ?_
  refine ax_gf (p' := 54) rfl rfl (fO (fO (fO (S.ob rfl)))) (ax_put_o (Or.inl (by decide)) (ax_put_o (Or.inl (by decide)) (ax_put_o (Or.inl (by decide)) v4u))) ?_
  refine am_ev.step (pc' := 55) rfl rfl ?_
  refine am_ev.step (pc' := 56) rfl rfl ?_
  refine am_ev.step (pc' := 57) rfl rfl ?_
  refine am_ev.step (pc' := 58) rfl rfl ?_
  refine ax_pf (p' := 61) rfl rfl (fO (fO (fO (S.ob rfl)))) rfl ?_
  refine am_ev.step (pc' := 62) rfl rfl ?_
  refine am_ev.step (pc' := 63) rfl rfl ?_
  refine fx_bip (p' := 65) rfl rfl rfl ?_
  refine ax_call (z := 28) (p' := 68) (as := [_, _, _]) rfl (Or.inr (Or.inl ⟨_, rfl⟩)) rfl rfl rfl rfl rfl rfl (fO (fO (fO (fO (S.ob rfl))))) rfl (tk_28c (lo := 0) (hi := 99) (by omega) ((((S.po rfl rfl).po rfl rfl).po rfl rfl).po rfl rfl) ((((B.put (by decide)).put (by decide)).put (by decide)).put (by decide)) hb hL (ax_put_o (Or.inl (by decide)) (ax_put_o (Or.inr (by decide)) (ax_put_o (Or.inr (by decide)) (ax_put_o (Or.inr (by decide)) w1)))) (ax_put_o (Or.inl (by decide)) (ax_put_o (Or.inr (by decide)) (ax_put_s _ _ _))) t2 q2) rfl ?_
  refine fx_z_ne_T (pT := 73) rfl (by omega) rfl (by omega) ?_
  refine am_ev.step (pc' := 74) rfl rfl ?_
  refine ax_gf (p' := 77) rfl rfl (fO (fO (fO (fO (fO (fO (fO (S.ob rfl)))))))) (ax_put_o (Or.inl (by decide)) (ax_put_o (Or.inl (by decide)) (ax_put_o (Or.inl (by decide)) (ax_put_o (Or.inr (by decide)) (ax_put_o (Or.inl (by decide)) (ax_put_o (Or.inl (by decide)) (ax_put_o (Or.inl (by decide)) (S.rf rfl rfl)))))))) ?_
  refine am_ev.step (pc' := 78) rfl rfl ?_
  refine am_ev.step (pc' := 79) rfl rfl ?_
  refine ax_call (z := 30) (p' := 82) (as := [_]) rfl (Or.inr (Or.inl ⟨_, rfl⟩)) rfl rfl rfl rfl rfl rfl (fO (fO (fO (fO (fO (fO (fO (S.ob rfl)))))))) rfl (tk_30w (((((((S.po rfl rfl).po rfl rfl).po rfl rfl).po rfl rfl).po rfl rfl).po rfl rfl).po rfl rfl) (((((((B.put (by decide)).put (by decide)).put (by decide)).put (by decide)).put (by decide)).put (by decide)).put (by decide)) hb hL (ax_put_o (Or.inr (by decide)) (ax_put_o (Or.inr (by decide)) (ax_put_o (Or.inr (by decide)) (ax_put_o (Or.inl (by decide)) (ax_put_o (Or.inr (by decide)) (ax_put_o (Or.inr (by decide)) (ax_put_o (Or.inr (by decide)) w1))))))) (ax_put_o (Or.inr (by decide)) (ax_put_o (Or.inr (by decide)) (ax_put_s _ _ _))) (ax_put_o (Or.inr (by decide)) (ax_put_s _ _ _)) t2) rfl ?_
  refine ax_iastore (p' := 83) rfl rfl ((((((((S.po rfl rfl).po rfl rfl).po rfl rfl).po rfl rfl).po rfl rfl).po rfl rfl).po rfl rfl).wr (k := l) rfl rfl rfl rfl (by omega)) ?_
  refine am_ev.step (pc' := 84) rfl rfl ?_
  refine ax_call (z := 32) (p' := 87) (as := [_]) rfl (Or.inr (Or.inl ⟨_, rfl⟩)) rfl rfl rfl rfl rfl rfl (fO (fO (fO (fO (fO (fO (fO (fO (S.ob rfl))))))))) rfl (tk_32b ((((((((S.po rfl rfl).po rfl rfl).po rfl rfl).po rfl rfl).po rfl rfl).po rfl rfl).po rfl rfl).pa rfl) ((((((((B.put (by decide)).put (by decide)).put (by decide)).put (by decide)).put (by decide)).put (by decide)).put (by decide)).put (by decide)) hb hL (ax_put_o (Or.inl (by decide)) (ax_put_o (Or.inr (by decide)) (ax_put_o (Or.inr (by decide)) (ax_put_o (Or.inr (by decide)) (ax_put_o (Or.inl (by decide)) (ax_put_o (Or.inr (by decide)) (ax_put_o (Or.inr (by decide)) (ax_put_o (Or.inr (by decide)) w1)))))))) (ax_put_o (Or.inl (by decide)) (ax_put_o (Or.inr (by decide)) (ax_put_s _ _ _))) t3 q3) rfl ?_
  exact fx_reti rfl rfl rfl
end TKF
