/-! THE CALL LEAVE -/
def lv_0 (j : Nat) : Value := if j = 3 then iv 29999 else if j = 5 then iv 2 else if j = 7 then iv (-1) else iv 0
section LLA
variable {d : Nat} {h k H : am_H} {b : Nat → Int} {L p s e n m q r : Nat} {v w : Int} {pp cc : Int32}
theorem ll_75 (S : fS h) (O : am_isO h q 4 = true) (hq : 130 ≤ q) : am_ev (d + 1) 75 0 (am_ent [.ref q, .int pp, .int cc] 3) [] h (none, (am_put (am_put (am_put (am_put (am_put (am_put (am_put (am_put (am_put (am_put (am_put h q 2 (iv 0)) q 3 (iv 29999)) q 4 (iv 0)) q 5 (iv 2)) q 6 (iv 0)) q 7 (iv (-1))) q 8 (iv 0)) q 9 (iv (-1))) q 10 (iv (-1))) q 0 (.int pp)) q 1 (.int cc))) := by
  show am_ev (d + 1) 75 0 [.ref q, .int pp, .int cc] [] h _
  refine am_ev.step (pc' := 1) rfl rfl ?_
  refine ax_obj (p' := 4) rfl (Or.inr (Or.inr ⟨_, rfl⟩)) rfl rfl rfl ?_
  refine am_ev.step (pc' := 5) rfl rfl ?_
  refine am_ev.step (pc' := 6) rfl rfl ?_
  refine ax_pf (p' := 9) rfl rfl O rfl ?_
  refine am_ev.step (pc' := 10) rfl rfl ?_
  refine fx_sip (p' := 13) rfl rfl rfl ?_
  refine ax_pf (p' := 16) rfl rfl (fO O) rfl ?_
  refine am_ev.step (pc' := 17) rfl rfl ?_
  refine am_ev.step (pc' := 18) rfl rfl ?_
  refine ax_pf (p' := 21) rfl rfl (fO (fO O)) rfl ?_
  refine am_ev.step (pc' := 22) rfl rfl ?_
  refine am_ev.step (pc' := 23) rfl rfl ?_
  refine ax_pf (p' := 26) rfl rfl (fO (fO (fO O))) rfl ?_
  refine am_ev.step (pc' := 27) rfl rfl ?_
  refine am_ev.step (pc' := 28) rfl rfl ?_
  refine ax_pf (p' := 31) rfl rfl (fO (fO (fO (fO O)))) rfl ?_
  refine am_ev.step (pc' := 32) rfl rfl ?_
  refine am_ev.step (pc' := 33) rfl rfl ?_
  refine ax_pf (p' := 36) rfl rfl (fO (fO (fO (fO (fO O))))) rfl ?_
  refine am_ev.step (pc' := 37) rfl rfl ?_
  refine am_ev.step (pc' := 38) rfl rfl ?_
  refine ax_pf (p' := 41) rfl rfl (fO (fO (fO (fO (fO (fO O)))))) rfl ?_
  refine am_ev.step (pc' := 42) rfl rfl ?_
  refine am_ev.step (pc' := 43) rfl rfl ?_
  refine ax_pf (p' := 46) rfl rfl (fO (fO (fO (fO (fO (fO (fO O))))))) rfl ?_
  refine am_ev.step (pc' := 47) rfl rfl ?_
  refine am_ev.step (pc' := 48) rfl rfl ?_
  refine ax_pf (p' := 51) rfl rfl (fO (fO (fO (fO (fO (fO (fO (fO O)))))))) rfl ?_
  refine am_ev.step (pc' := 52) rfl rfl ?_
  refine am_ev.step (pc' := 53) rfl rfl ?_
  refine ax_pf (p' := 56) rfl rfl (fO (fO (fO (fO (fO (fO (fO (fO (fO O))))))))) rfl ?_
  refine am_ev.step (pc' := 57) rfl rfl ?_
  refine am_ev.step (pc' := 58) rfl rfl ?_
  refine ax_pf (p' := 61) rfl rfl (fO (fO (fO (fO (fO (fO (fO (fO (fO (fO O)))))))))) rfl ?_
  exact am_ev.retv rfl rfl
theorem ll_75v : ∃ K : am_H, K = (am_put (am_put (am_put (am_put (am_put (am_put (am_put (am_put (am_put (am_put (am_put h q 2 (iv 0)) q 3 (iv 29999)) q 4 (iv 0)) q 5 (iv 2)) q 6 (iv 0)) q 7 (iv (-1))) q 8 (iv 0)) q 9 (iv (-1))) q 10 (iv (-1))) q 0 (.int pp)) q 1 (.int cc)) ∧ (∀ j, 2 ≤ j → j ≤ 8 → K.2.2.2 q j = lv_0 j) ∧ K.2.2.2 q 0 = .int pp ∧ K.2.2.2 q 1 = .int cc ∧ K.2.2.2 q 9 = iv (-1) ∧ K.2.2.2 q 10 = iv (-1) ∧ (K.1 = h.1 ∧ K.2.2.1 = h.2.2.1) ∧ ∀ c j, c ≠ q → K.2.2.2 c j = h.2.2.2 c j := by
  refine ⟨_, rfl, fun j a c => ?_, (ax_put_o (Or.inr (by decide)) (ax_put_s _ _ _)), (ax_put_s _ _ _), (ax_put_o (Or.inr (by decide)) (ax_put_o (Or.inr (by decide)) (ax_put_o (Or.inr (by decide)) (ax_put_s _ _ _)))), (ax_put_o (Or.inr (by decide)) (ax_put_o (Or.inr (by decide)) (ax_put_s _ _ _))), ⟨rfl, rfl⟩, fun c j n1 => (ax_put_o (Or.inl n1) (ax_put_o (Or.inl n1) (ax_put_o (Or.inl n1) (ax_put_o (Or.inl n1) (ax_put_o (Or.inl n1) (ax_put_o (Or.inl n1) (ax_put_o (Or.inl n1) (ax_put_o (Or.inl n1) (ax_put_o (Or.inl n1) (ax_put_o (Or.inl n1) (ax_put_o (Or.inl n1) rfl)))))))))))⟩
  have hj : j = 2 ∨ j = 3 ∨ j = 4 ∨ j = 5 ∨ j = 6 ∨ j = 7 ∨ j = 8 := by omega
  rcases hj with rfl | rfl | rfl | rfl | rfl | rfl | rfl
  · exact (ax_put_o (Or.inr (by decide)) (ax_put_o (Or.inr (by decide)) (ax_put_o (Or.inr (by decide)) (ax_put_o (Or.inr (by decide)) (ax_put_o (Or.inr (by decide)) (ax_put_o (Or.inr (by decide)) (ax_put_o (Or.inr (by decide)) (ax_put_o (Or.inr (by decide)) (ax_put_o (Or.inr (by decide)) (ax_put_o (Or.inr (by decide)) (ax_put_s _ _ _)))))))))))
  · exact (ax_put_o (Or.inr (by decide)) (ax_put_o (Or.inr (by decide)) (ax_put_o (Or.inr (by decide)) (ax_put_o (Or.inr (by decide)) (ax_put_o (Or.inr (by decide)) (ax_put_o (Or.inr (by decide)) (ax_put_o (Or.inr (by decide)) (ax_put_o (Or.inr (by decide)) (ax_put_o (Or.inr (by decide)) (ax_put_s _ _ _))))))))))
  · exact (ax_put_o (Or.inr (by decide)) (ax_put_o (Or.inr (by decide)) (ax_put_o (Or.inr (by decide)) (ax_put_o (Or.inr (by decide)) (ax_put_o (Or.inr (by decide)) (ax_put_o (Or.inr (by decide)) (ax_put_o (Or.inr (by decide)) (ax_put_o (Or.inr (by decide)) (ax_put_s _ _ _)))))))))
  · exact (ax_put_o (Or.inr (by decide)) (ax_put_o (Or.inr (by decide)) (ax_put_o (Or.inr (by decide)) (ax_put_o (Or.inr (by decide)) (ax_put_o (Or.inr (by decide)) (ax_put_o (Or.inr (by decide)) (ax_put_o (Or.inr (by decide)) (ax_put_s _ _ _))))))))
  · exact (ax_put_o (Or.inr (by decide)) (ax_put_o (Or.inr (by decide)) (ax_put_o (Or.inr (by decide)) (ax_put_o (Or.inr (by decide)) (ax_put_o (Or.inr (by decide)) (ax_put_o (Or.inr (by decide)) (ax_put_s _ _ _)))))))
  · exact (ax_put_o (Or.inr (by decide)) (ax_put_o (Or.inr (by decide)) (ax_put_o (Or.inr (by decide)) (ax_put_o (Or.inr (by decide)) (ax_put_o (Or.inr (by decide)) (ax_put_s _ _ _))))))
  · exact (ax_put_o (Or.inr (by decide)) (ax_put_o (Or.inr (by decide)) (ax_put_o (Or.inr (by decide)) (ax_put_o (Or.inr (by decide)) (ax_put_s _ _ _)))))
theorem ll_76 (S : fS h) {x : Option Value × am_H} (q9 : am_ev (d + 8) 76 8 [.ref q, .ref 41, iv 0, iv ((0 : Nat) : Int), am_ph] [] (am_put (am_put (am_put h 41 6 (iv 0)) 41 3 (iv 0)) 41 4 (iv (-1))) x) : am_ev (d + 8) 76 0 (am_ent [.ref q, .ref 41] 5) [] h x := by
  show am_ev (d + 8) 76 0 [.ref q, .ref 41, am_ph, am_ph, am_ph] [] h x
  refine am_ev.step (pc' := 1) rfl rfl ?_
  refine am_ev.step (pc' := 2) (ls' := [.ref q, .ref 41, iv 0, am_ph, am_ph]) rfl rfl ?_
  refine am_ev.step (pc' := 3) rfl rfl ?_
  refine ax_call (z := 20) (p' := 6) (as := [_]) rfl (Or.inr (Or.inl ⟨_, rfl⟩)) rfl rfl rfl rfl rfl rfl (S.ob rfl) rfl (rl_20 S) rfl ?_
  refine am_ev.step (pc' := 7) rfl rfl ?_
  refine am_ev.step (pc' := 8) (ls' := [.ref q, .ref 41, iv 0, iv 0, am_ph]) rfl rfl ?_
  exact q9
theorem ll_85 (S : fS h) (v1 : h.2.2.2 48 1 = iv m) (hm : m < 80) (O : am_isO h q 4 = true) (hs : h.2.2.1 q = (0, 4, am_N 4)) : am_ev d 85 0 (am_ent [.ref 48, .ref q] 2) [] h (some (iv m), (am_put (am_put h 49 m (.ref q)) 48 1 (iv ((m : Int) + 1)))) := by
  have wr : am_isO h q (h.2.2.1 q).2.1 = true ∧ am_isA ((h.2.2.1 q).2.1 + 4) = true ∧ am_wr h 49 (Int32.ofInt (m : Int)) ((h.2.2.1 q).2.1 + 4) (.ref q) = some (am_put h 49 m (.ref q)) := by
    rw [hs]
    exact ⟨O, by decide +kernel, S.wr (k := m) rfl (show cq_fix 49 = (1, 8, 80) by decide +kernel) rfl rfl (by omega)⟩
  show am_ev d 85 0 [.ref 48, .ref q] [] h _
  refine am_ev.step (pc' := 1) rfl rfl ?_
  refine ax_gf (p' := 4) rfl rfl (S.ob rfl) v1 ?_
  refine fx_z_lt_F (pF := 7) rfl (by omega) rfl (by omega) ?_
  refine am_ev.step (pc' := 8) rfl rfl ?_
  refine ax_gf (p' := 11) rfl rfl (S.ob rfl) v1 ?_
  refine fx_bip (p' := 13) rfl rfl rfl ?_
  refine fx_c_lt_T (pT := 19) rfl (by omega) (by omega) rfl (by omega) ?_
  refine am_ev.step (pc' := 20) rfl rfl ?_
  refine ax_gf (p' := 23) rfl rfl (S.ob rfl) (S.rf rfl rfl) ?_
  refine am_ev.step (pc' := 24) rfl rfl ?_
  refine ax_gf (p' := 27) rfl rfl (S.ob rfl) v1 ?_
  refine am_ev.step (pc' := 28) rfl rfl ?_
  refine ax_aastore (p' := 29) rfl rfl wr ?_
  refine am_ev.step (pc' := 30) rfl rfl ?_
  refine am_ev.step (pc' := 31) rfl rfl ?_
  refine ax_gf (p' := 34) rfl rfl (fO (S.ob rfl)) (ax_put_o (Or.inl (by decide)) v1) ?_
  refine am_ev.step (pc' := 35) rfl rfl ?_
  refine fx_add (p' := 36) (e := ((m : Int) + 1)) rfl rfl (by omega) ?_
  refine ax_pf (p' := 39) rfl rfl (fO (S.ob rfl)) rfl ?_
  refine am_ev.step (pc' := 40) rfl rfl ?_
  refine ax_gf (p' := 43) rfl rfl (fO (fO (S.ob rfl))) (ax_put_s _ _ _) ?_
  refine am_ev.step (pc' := 44) rfl rfl ?_
  refine fx_sub (p' := 45) (e := ((m : Int))) rfl rfl (by omega) ?_
  exact fx_reti rfl rfl rfl
end LLA
section LLB
variable {d : Nat} {h k H : am_H} {b : Nat → Int} {L p s e n m q r : Nat} {v w : Int} {pp cc : Int32}
theorem ll_74r (S : fS h) (z : am_ev d 42 0 (am_ent [.ref 40, .int pp] 2) [] h (some .null, h)) : am_ev (d + 1) 74 0 (am_ent [.ref 40, .int pp] 4) [] h (some (iv (-2)), (am_put h 41 1 (iv 0))) := by
  show am_ev (d + 1) 74 0 [.ref 40, .int pp, am_ph, am_ph] [] h _
  refine am_ev.step (pc' := 1) rfl rfl ?_
  refine am_ev.step (pc' := 2) (ls' := [.ref 40, .int pp, iv (-1), am_ph]) rfl rfl ?_
  refine am_ev.step (pc' := 3) rfl rfl ?_
  refine am_ev.step (pc' := 4) rfl rfl ?_
  refine ax_call (z := 42) (p' := 7) (as := [_, _]) rfl (Or.inr (Or.inl ⟨_, rfl⟩)) rfl rfl rfl rfl rfl rfl (S.ob rfl) rfl z rfl ?_
  refine am_ev.step (pc' := 10) rfl rfl ?_
  refine fx_bip (p' := 12) rfl rfl rfl ?_
  refine am_ev.step (pc' := 13) (ls' := [.ref 40, .int pp, iv (-2), am_ph]) rfl rfl ?_
  refine am_ev.step (pc' := 67) rfl rfl ?_
  refine am_ev.step (pc' := 68) rfl rfl ?_
  refine ax_gf (p' := 71) rfl rfl (S.ob rfl) (S.rf rfl rfl) ?_
  refine am_ev.step (pc' := 72) rfl rfl ?_
  refine ax_pf (p' := 75) rfl rfl (S.ob rfl) rfl ?_
  refine am_ev.step (pc' := 76) rfl rfl ?_
  exact fx_reti rfl rfl rfl
theorem ll_74f (S : fS h) (z : am_ev d 42 0 (am_ent [.ref 40, .int pp] 2) [] h (some (.ref r), h)) (v1 : h.2.2.2 48 1 = iv m) (hm : 80 ≤ m ∧ m ≤ 100) : am_ev (d + 1) 74 0 (am_ent [.ref 40, .int pp] 4) [] h (some (iv (-3)), (am_put h 41 1 (iv 0))) := by
  show am_ev (d + 1) 74 0 [.ref 40, .int pp, am_ph, am_ph] [] h _
  refine am_ev.step (pc' := 1) rfl rfl ?_
  refine am_ev.step (pc' := 2) (ls' := [.ref 40, .int pp, iv (-1), am_ph]) rfl rfl ?_
  refine am_ev.step (pc' := 3) rfl rfl ?_
  refine am_ev.step (pc' := 4) rfl rfl ?_
  refine ax_call (z := 42) (p' := 7) (as := [_, _]) rfl (Or.inr (Or.inl ⟨_, rfl⟩)) rfl rfl rfl rfl rfl rfl (S.ob rfl) rfl z rfl ?_
  refine am_ev.step (pc' := 16) rfl rfl ?_
  refine am_ev.step (pc' := 17) rfl rfl ?_
  refine ax_gf (p' := 20) rfl rfl (S.ob rfl) (S.rf rfl rfl) ?_
  refine ax_gf (p' := 23) rfl rfl (S.ob rfl) v1 ?_
  refine fx_bip (p' := 25) rfl rfl rfl ?_
  refine fx_c_lt_F (pF := 28) rfl (by omega) (by omega) rfl (by omega) ?_
  refine fx_bip (p' := 30) rfl rfl rfl ?_
  refine am_ev.step (pc' := 31) (ls' := [.ref 40, .int pp, iv (-3), am_ph]) rfl rfl ?_
  refine am_ev.step (pc' := 67) rfl rfl ?_
  refine am_ev.step (pc' := 68) rfl rfl ?_
  refine ax_gf (p' := 71) rfl rfl (S.ob rfl) (S.rf rfl rfl) ?_
  refine am_ev.step (pc' := 72) rfl rfl ?_
  refine ax_pf (p' := 75) rfl rfl (S.ob rfl) rfl ?_
  refine am_ev.step (pc' := 76) rfl rfl ?_
  exact fx_reti rfl rfl rfl
theorem ll_74a (S : fS h) (z : am_ev d 42 0 (am_ent [.ref 40, .int pp] 2) [] h (some (.ref r), h)) (v1 : h.2.2.2 48 1 = iv m) (hm : m < 80) {x : Option Value × am_H} (q9 : am_ev (d + 1) 74 34 [.ref 40, .int pp, iv (-1), am_ph] [] h x) : am_ev (d + 1) 74 0 (am_ent [.ref 40, .int pp] 4) [] h x := by
  show am_ev (d + 1) 74 0 [.ref 40, .int pp, am_ph, am_ph] [] h x
  refine am_ev.step (pc' := 1) rfl rfl ?_
  refine am_ev.step (pc' := 2) (ls' := [.ref 40, .int pp, iv (-1), am_ph]) rfl rfl ?_
  refine am_ev.step (pc' := 3) rfl rfl ?_
  refine am_ev.step (pc' := 4) rfl rfl ?_
  refine ax_call (z := 42) (p' := 7) (as := [_, _]) rfl (Or.inr (Or.inl ⟨_, rfl⟩)) rfl rfl rfl rfl rfl rfl (S.ob rfl) rfl z rfl ?_
  refine am_ev.step (pc' := 16) rfl rfl ?_
  refine am_ev.step (pc' := 17) rfl rfl ?_
  refine ax_gf (p' := 20) rfl rfl (S.ob rfl) (S.rf rfl rfl) ?_
  refine ax_gf (p' := 23) rfl rfl (S.ob rfl) v1 ?_
  refine fx_bip (p' := 25) rfl rfl rfl ?_
  refine fx_c_lt_T (pT := 34) rfl (by omega) (by omega) rfl (by omega) ?_
  exact q9
theorem ll_74n (S : fS h) (O : am_isO h q 4 = true) (hq : 130 ≤ q) (v9 : h.2.2.2 40 9 = .int cc) (z : am_ev (d + 8) 76 0 (am_ent [.ref q, .ref 41] 5) [] (am_put (am_put (am_put (am_put (am_put (am_put (am_put (am_put (am_put (am_put (am_put h q 2 (iv 0)) q 3 (iv 29999)) q 4 (iv 0)) q 5 (iv 2)) q 6 (iv 0)) q 7 (iv (-1))) q 8 (iv 0)) q 9 (iv (-1))) q 10 (iv (-1))) q 0 (.int pp)) q 1 (.int cc)) (some (iv 0), H)) (SH : fS H) (OH : am_isO H q 4 = true) (v1 : H.2.2.2 48 1 = iv m) (hm : m < 80) (hs : H.2.2.1 q = (0, 4, am_N 4)) : am_ev (d + 9) 74 37 [.ref 40, .int pp, iv (-1), am_ph] [.ref q] h (some (iv (-1)), (am_put H 41 1 (iv 0))) := by
  refine am_ev.step (pc' := 38) rfl rfl ?_
  refine am_ev.step (pc' := 39) rfl rfl ?_
  refine am_ev.step (pc' := 40) rfl rfl ?_
  refine ax_gf (p' := 43) rfl rfl (S.ob rfl) v9 ?_
  refine ax_call (z := 75) (p' := 46) (as := [_, _, _]) rfl (Or.inr (Or.inr ⟨_, rfl⟩)) rfl rfl rfl rfl rfl rfl rfl rfl (ll_75 (q := q) S O hq) rfl ?_
  refine am_ev.step (pc' := 47) (ls' := [.ref 40, .int pp, iv (-1), .ref q]) rfl rfl ?_
  refine am_ev.step (pc' := 48) rfl rfl ?_
  refine am_ev.step (pc' := 49) rfl rfl ?_
  refine ax_gf (p' := 52) rfl rfl (fO (fO (fO (fO (fO (fO (fO (fO (fO (fO (fO (S.ob rfl)))))))))))) (ax_put_o (Or.inl (by omega)) (ax_put_o (Or.inl (by omega)) (ax_put_o (Or.inl (by omega)) (ax_put_o (Or.inl (by omega)) (ax_put_o (Or.inl (by omega)) (ax_put_o (Or.inl (by omega)) (ax_put_o (Or.inl (by omega)) (ax_put_o (Or.inl (by omega)) (ax_put_o (Or.inl (by omega)) (ax_put_o (Or.inl (by omega)) (ax_put_o (Or.inl (by omega)) (S.rf rfl rfl)))))))))))) ?_
  refine ax_call (z := 76) (p' := 55) (as := [_, _]) rfl (Or.inr (Or.inl ⟨_, rfl⟩)) rfl rfl rfl rfl rfl rfl (fO (fO (fO (fO (fO (fO (fO (fO (fO (fO (fO O))))))))))) rfl z rfl ?_
  refine fx_z_eq_T (pT := 67) rfl (by omega) rfl (by omega) ?_
  refine am_ev.step (pc' := 68) rfl rfl ?_
  refine ax_gf (p' := 71) rfl rfl (SH.ob rfl) (SH.rf rfl rfl) ?_
  refine am_ev.step (pc' := 72) rfl rfl ?_
  refine ax_pf (p' := 75) rfl rfl (SH.ob rfl) rfl ?_
  refine am_ev.step (pc' := 76) rfl rfl ?_
  exact fx_reti rfl rfl rfl
theorem ll_74y (S : fS h) (O : am_isO h q 4 = true) (hq : 130 ≤ q) (v9 : h.2.2.2 40 9 = .int cc) (z : am_ev (d + 8) 76 0 (am_ent [.ref q, .ref 41] 5) [] (am_put (am_put (am_put (am_put (am_put (am_put (am_put (am_put (am_put (am_put (am_put h q 2 (iv 0)) q 3 (iv 29999)) q 4 (iv 0)) q 5 (iv 2)) q 6 (iv 0)) q 7 (iv (-1))) q 8 (iv 0)) q 9 (iv (-1))) q 10 (iv (-1))) q 0 (.int pp)) q 1 (.int cc)) (some (iv 1), H)) (SH : fS H) (OH : am_isO H q 4 = true) (v1 : H.2.2.2 48 1 = iv m) (hm : m < 80) (hs : H.2.2.1 q = (0, 4, am_N 4)) : am_ev (d + 9) 74 37 [.ref 40, .int pp, iv (-1), am_ph] [.ref q] h (some (iv ((m : Int))), (am_put (am_put (am_put H 49 m (.ref q)) 48 1 (iv ((m : Int) + 1))) 41 1 (iv 0))) := by
  refine am_ev.step (pc' := 38) rfl rfl ?_
  refine am_ev.step (pc' := 39) rfl rfl ?_
  refine am_ev.step (pc' := 40) rfl rfl ?_
  refine ax_gf (p' := 43) rfl rfl (S.ob rfl) v9 ?_
  refine ax_call (z := 75) (p' := 46) (as := [_, _, _]) rfl (Or.inr (Or.inr ⟨_, rfl⟩)) rfl rfl rfl rfl rfl rfl rfl rfl (ll_75 (q := q) S O hq) rfl ?_
  refine am_ev.step (pc' := 47) (ls' := [.ref 40, .int pp, iv (-1), .ref q]) rfl rfl ?_
  refine am_ev.step (pc' := 48) rfl rfl ?_
  refine am_ev.step (pc' := 49) rfl rfl ?_
  refine ax_gf (p' := 52) rfl rfl (fO (fO (fO (fO (fO (fO (fO (fO (fO (fO (fO (S.ob rfl)))))))))))) (ax_put_o (Or.inl (by omega)) (ax_put_o (Or.inl (by omega)) (ax_put_o (Or.inl (by omega)) (ax_put_o (Or.inl (by omega)) (ax_put_o (Or.inl (by omega)) (ax_put_o (Or.inl (by omega)) (ax_put_o (Or.inl (by omega)) (ax_put_o (Or.inl (by omega)) (ax_put_o (Or.inl (by omega)) (ax_put_o (Or.inl (by omega)) (ax_put_o (Or.inl (by omega)) (S.rf rfl rfl)))))))))))) ?_
  refine ax_call (z := 76) (p' := 55) (as := [_, _]) rfl (Or.inr (Or.inl ⟨_, rfl⟩)) rfl rfl rfl rfl rfl rfl (fO (fO (fO (fO (fO (fO (fO (fO (fO (fO (fO O))))))))))) rfl z rfl ?_
  refine fx_z_eq_F (pF := 58) rfl (by omega) rfl (by omega) ?_
  refine am_ev.step (pc' := 59) rfl rfl ?_
  refine ax_gf (p' := 62) rfl rfl (SH.ob rfl) (SH.rf rfl rfl) ?_
  refine am_ev.step (pc' := 63) rfl rfl ?_
  refine ax_call (z := 85) (p' := 66) (as := [_, _]) rfl (Or.inr (Or.inl ⟨_, rfl⟩)) rfl rfl rfl rfl rfl rfl (SH.ob rfl) rfl (ll_85 (m := m) (q := q) SH v1 hm OH hs) rfl ?_
  refine am_ev.step (pc' := 67) (ls' := [.ref 40, .int pp, iv ((m : Int)), .ref q]) rfl rfl ?_
  refine am_ev.step (pc' := 68) rfl rfl ?_
  refine ax_gf (p' := 71) rfl rfl (fO (fO (SH.ob rfl))) (ax_put_o (Or.inl (by decide)) (ax_put_o (Or.inl (by decide)) (SH.rf rfl rfl))) ?_
  refine am_ev.step (pc' := 72) rfl rfl ?_
  refine ax_pf (p' := 75) rfl rfl (fO (fO (SH.ob rfl))) rfl ?_
  refine am_ev.step (pc' := 76) rfl rfl ?_
  exact fx_reti rfl rfl rfl
end LLB
section LLC
variable {d : Nat} {h g M : am_H} {b : Nat → Int} {L s e m : Nat} {k v w : Int} {pp cc : Int32} {Φ : Nat → Value}
theorem ll_208r (S : fS h) (v2 : h.2.2.2 78 2 = iv L) (z : am_ev (d + 2) 188 0 (am_ent [.ref 78, .int pp] 2) [] (am_put (am_put (am_put h 78 3 (iv ((L : Int)))) 78 2 (iv 0)) 78 5 (iv 0)) (some (iv 0), (am_put (am_put (am_put h 78 3 (iv ((L : Int)))) 78 2 (iv 0)) 78 5 (iv 0))))  : am_ev (d + 3) 208 0 (am_ent [.ref 78, .int pp] 3) [] h (some (iv (-2)), (am_put (am_put (am_put h 78 3 (iv ((L : Int)))) 78 2 (iv 0)) 78 5 (iv 0))) := by
  show am_ev (d + 3) 208 0 [.ref 78, .int pp, am_ph] [] h _
  refine am_ev.step (pc' := 1) rfl rfl ?_
  refine ax_call (z := 168) (p' := 4) (as := [_]) rfl (Or.inr (Or.inl ⟨_, rfl⟩)) rfl rfl rfl rfl rfl rfl (S.ob rfl) rfl (rw_168 S v2) rfl ?_
  refine am_ev.step (pc' := 5) rfl rfl ?_
  refine am_ev.step (pc' := 6) rfl rfl ?_
  refine ax_call (z := 188) (p' := 9) (as := [_, _]) rfl (Or.inr (Or.inl ⟨_, rfl⟩)) rfl rfl rfl rfl rfl rfl (fO (fO (fO (S.ob rfl)))) rfl z rfl ?_
  refine fx_z_ne_F (pF := 12) rfl (by omega) rfl (by omega) ?_
  refine fx_bip (p' := 14) rfl rfl rfl ?_
  exact fx_reti rfl rfl rfl
theorem ll_208f (S : fS h) (v2 : h.2.2.2 78 2 = iv L) (v35 : h.2.2.2 78 35 = iv m) (hm : m = 80) (z : am_ev (d + 2) 188 0 (am_ent [.ref 78, .int pp] 2) [] (am_put (am_put (am_put h 78 3 (iv ((L : Int)))) 78 2 (iv 0)) 78 5 (iv 0)) (some (iv 1), (am_put (am_put (am_put h 78 3 (iv ((L : Int)))) 78 2 (iv 0)) 78 5 (iv 0))))  : am_ev (d + 3) 208 0 (am_ent [.ref 78, .int pp] 3) [] h (some (iv (-3)), (am_put (am_put (am_put h 78 3 (iv ((L : Int)))) 78 2 (iv 0)) 78 5 (iv 0))) := by
  show am_ev (d + 3) 208 0 [.ref 78, .int pp, am_ph] [] h _
  refine am_ev.step (pc' := 1) rfl rfl ?_
  refine ax_call (z := 168) (p' := 4) (as := [_]) rfl (Or.inr (Or.inl ⟨_, rfl⟩)) rfl rfl rfl rfl rfl rfl (S.ob rfl) rfl (rw_168 S v2) rfl ?_
  refine am_ev.step (pc' := 5) rfl rfl ?_
  refine am_ev.step (pc' := 6) rfl rfl ?_
  refine ax_call (z := 188) (p' := 9) (as := [_, _]) rfl (Or.inr (Or.inl ⟨_, rfl⟩)) rfl rfl rfl rfl rfl rfl (fO (fO (fO (S.ob rfl)))) rfl z rfl ?_
  refine fx_z_ne_T (pT := 15) rfl (by omega) rfl (by omega) ?_
  refine am_ev.step (pc' := 16) rfl rfl ?_
  refine ax_gf (p' := 19) rfl rfl (fO (fO (fO (S.ob rfl)))) (ax_put_o (Or.inr (by decide)) (ax_put_o (Or.inr (by decide)) (ax_put_o (Or.inr (by decide)) v35))) ?_
  refine fx_bip (p' := 21) rfl rfl rfl ?_
  refine fx_c_ne_F (pF := 24) rfl (by omega) (by omega) rfl (by omega) ?_
  refine fx_bip (p' := 26) rfl rfl rfl ?_
  exact fx_reti rfl rfl rfl
theorem ll_208n (S : fS h) (B : tb h 80 b L) (hb : tz_r b) (hL : L ≤ 1600) (v2 : h.2.2.2 78 2 = iv L) (v7 : h.2.2.2 78 7 = iv w) (v35 : h.2.2.2 78 35 = iv m) (hm : m < 80) (z : am_ev (d + 9) 188 0 (am_ent [.ref 78, .int pp] 2) [] (am_put (am_put (am_put h 78 3 (iv ((L : Int)))) 78 2 (iv 0)) 78 5 (iv 0)) (some (iv 1), (am_put (am_put (am_put h 78 3 (iv ((L : Int)))) 78 2 (iv 0)) 78 5 (iv 0)))) (t0 : tz_t b L 0 s e k v) (SM : fS M) (z2 : am_ev (d + 9) 209 0 (am_ent [.ref 78] 2) [] (am_put (am_put (am_put (am_put (am_put (am_put (am_put (am_put (am_put h 78 3 (iv ((L : Int)))) 78 2 (iv 0)) 78 5 (iv 0)) 78 8 (iv 0)) 78 9 (iv (-1))) 78 4 (iv ((s : Int)))) 78 7 (iv ((tV b L s (w))))) 78 5 (iv ((e : Int)))) 78 6 (iv ((tH k)))) (none, M)) {x : Option Value × am_H} (q9 : am_ev (d + 10) 208 41 [.ref 78, .int pp, am_ph] [] M x) : am_ev (d + 10) 208 0 (am_ent [.ref 78, .int pp] 3) [] h x := by
  show am_ev (d + 10) 208 0 [.ref 78, .int pp, am_ph] [] h x
  refine am_ev.step (pc' := 1) rfl rfl ?_
  refine ax_call (z := 168) (p' := 4) (as := [_]) rfl (Or.inr (Or.inl ⟨_, rfl⟩)) rfl rfl rfl rfl rfl rfl (S.ob rfl) rfl (rw_168 S v2) rfl ?_
  refine am_ev.step (pc' := 5) rfl rfl ?_
  refine am_ev.step (pc' := 6) rfl rfl ?_
  refine ax_call (z := 188) (p' := 9) (as := [_, _]) rfl (Or.inr (Or.inl ⟨_, rfl⟩)) rfl rfl rfl rfl rfl rfl (fO (fO (fO (S.ob rfl)))) rfl z rfl ?_
  refine fx_z_ne_T (pT := 15) rfl (by omega) rfl (by omega) ?_
  refine am_ev.step (pc' := 16) rfl rfl ?_
  refine ax_gf (p' := 19) rfl rfl (fO (fO (fO (S.ob rfl)))) (ax_put_o (Or.inr (by decide)) (ax_put_o (Or.inr (by decide)) (ax_put_o (Or.inr (by decide)) v35))) ?_
  refine fx_bip (p' := 21) rfl rfl rfl ?_
  refine fx_c_ne_T (pT := 27) rfl (by omega) (by omega) rfl (by omega) ?_
  refine am_ev.step (pc' := 28) rfl rfl ?_
  refine ax_call (z := 169) (p' := 31) (as := [_]) rfl (Or.inr (Or.inl ⟨_, rfl⟩)) rfl rfl rfl rfl rfl rfl (fO (fO (fO (S.ob rfl)))) rfl (rw_169 (((S.po rfl rfl).po rfl rfl).po rfl rfl) (((B.put (by decide)).put (by decide)).put (by decide)) hb hL (ax_put_o (Or.inr (by decide)) (ax_put_o (Or.inr (by decide)) (ax_put_s _ _ _))) (ax_put_s _ _ _) (ax_put_o (Or.inr (by decide)) (ax_put_o (Or.inr (by decide)) (ax_put_o (Or.inr (by decide)) v7))) t0) rfl ?_
  refine am_ev.step (pc' := 32) rfl rfl ?_
  refine ax_call (z := 209) (p' := 35) (as := [_]) rfl (Or.inr (Or.inl ⟨_, rfl⟩)) rfl rfl rfl rfl rfl rfl (fO (fO (fO (fO (fO (fO (fO (fO (fO (S.ob rfl)))))))))) rfl z2 rfl ?_
  refine am_ev.step (pc' := 41) rfl rfl ?_
  exact q9
theorem ll_208t (S : fS h) (B : tb h 80 b L) (hb : tz_r b) (hL : L ≤ 1600) (v2 : h.2.2.2 78 2 = iv L) (v7 : h.2.2.2 78 7 = iv w) (v35 : h.2.2.2 78 35 = iv m) (hm : m < 80) (z : am_ev (d + 9) 188 0 (am_ent [.ref 78, .int pp] 2) [] (am_put (am_put (am_put h 78 3 (iv ((L : Int)))) 78 2 (iv 0)) 78 5 (iv 0)) (some (iv 1), (am_put (am_put (am_put h 78 3 (iv ((L : Int)))) 78 2 (iv 0)) 78 5 (iv 0)))) (t0 : tz_t b L 0 s e k v) (SM : fS M) (z2 : am_ev (d + 9) 209 0 (am_ent [.ref 78] 2) [] (am_put (am_put (am_put (am_put (am_put (am_put (am_put (am_put (am_put h 78 3 (iv ((L : Int)))) 78 2 (iv 0)) 78 5 (iv 0)) 78 8 (iv 0)) 78 9 (iv (-1))) 78 4 (iv ((s : Int)))) 78 7 (iv ((tV b L s (w))))) 78 5 (iv ((e : Int)))) 78 6 (iv ((tH k)))) (some (.retAddr (79 + 1)), M)) : am_ev (d + 10) 208 0 (am_ent [.ref 78, .int pp] 3) [] h (some (iv (-1)), M) := by
  show am_ev (d + 10) 208 0 [.ref 78, .int pp, am_ph] [] h _
  refine am_ev.step (pc' := 1) rfl rfl ?_
  refine ax_call (z := 168) (p' := 4) (as := [_]) rfl (Or.inr (Or.inl ⟨_, rfl⟩)) rfl rfl rfl rfl rfl rfl (S.ob rfl) rfl (rw_168 S v2) rfl ?_
  refine am_ev.step (pc' := 5) rfl rfl ?_
  refine am_ev.step (pc' := 6) rfl rfl ?_
  refine ax_call (z := 188) (p' := 9) (as := [_, _]) rfl (Or.inr (Or.inl ⟨_, rfl⟩)) rfl rfl rfl rfl rfl rfl (fO (fO (fO (S.ob rfl)))) rfl z rfl ?_
  refine fx_z_ne_T (pT := 15) rfl (by omega) rfl (by omega) ?_
  refine am_ev.step (pc' := 16) rfl rfl ?_
  refine ax_gf (p' := 19) rfl rfl (fO (fO (fO (S.ob rfl)))) (ax_put_o (Or.inr (by decide)) (ax_put_o (Or.inr (by decide)) (ax_put_o (Or.inr (by decide)) v35))) ?_
  refine fx_bip (p' := 21) rfl rfl rfl ?_
  refine fx_c_ne_T (pT := 27) rfl (by omega) (by omega) rfl (by omega) ?_
  refine am_ev.step (pc' := 28) rfl rfl ?_
  refine ax_call (z := 169) (p' := 31) (as := [_]) rfl (Or.inr (Or.inl ⟨_, rfl⟩)) rfl rfl rfl rfl rfl rfl (fO (fO (fO (S.ob rfl)))) rfl (rw_169 (((S.po rfl rfl).po rfl rfl).po rfl rfl) (((B.put (by decide)).put (by decide)).put (by decide)) hb hL (ax_put_o (Or.inr (by decide)) (ax_put_o (Or.inr (by decide)) (ax_put_s _ _ _))) (ax_put_s _ _ _) (ax_put_o (Or.inr (by decide)) (ax_put_o (Or.inr (by decide)) (ax_put_o (Or.inr (by decide)) v7))) t0) rfl ?_
  refine am_ev.step (pc' := 32) rfl rfl ?_
  refine ax_callC (p' := 38) (z := 209) (as := [_]) rfl (Or.inr (Or.inl ⟨_, rfl⟩)) rfl rfl rfl rfl rfl rfl (fO (fO (fO (fO (fO (fO (fO (fO (fO (S.ob rfl)))))))))) z2 rfl rfl (SM.ob rfl) rfl ?_
  refine am_ev.step (pc' := 39) (ls' := [.ref 78, .int pp, .ref 79]) rfl rfl ?_
  refine am_ev.step (pc' := 40) rfl rfl ?_
  exact fx_reti rfl rfl rfl
theorem ll_209 (S : fS h) (B : tb h 80 b L) (v3 : h.2.2.2 78 3 = iv L) (v4 : h.2.2.2 78 4 = iv s) (v5 : h.2.2.2 78 5 = iv e) (v6 : h.2.2.2 78 6 = iv (tH k)) (v7 : h.2.2.2 78 7 = iv w) (v8 : h.2.2.2 78 8 = iv 0) (v9 : h.2.2.2 78 9 = iv (-1)) (v2 : h.2.2.2 78 2 = iv 0) (t0 : tz_t b L 0 s e k v) (y0 : (k = 2 → w = v) ∧ (43 ≤ k → w = k)) : ∃ H : am_H, lM H h b L 0 s e k v w (fun _ => 0) lv_0 ∧ ∀ x, am_ev d 209 79 [.ref 78, iv 7] [] H x → am_ev d 209 0 (am_ent [.ref 78] 2) [] h x := by
  refine ⟨(am_put (am_put (am_put (am_put (am_put (am_put (am_put (am_put (am_put (am_put (am_put (am_put (am_put (am_put h 104 80 (iv 0)) 105 80 (iv 29999)) 106 80 (iv 0)) 107 80 (iv 2)) 108 80 (iv 0)) 109 80 (iv (-1))) 110 80 (iv 0)) 85 0 (iv 0)) 85 1 (iv 0)) 85 2 (iv 0)) 85 3 (iv 0)) 85 4 (iv 0)) 85 5 (iv 0)) 85 6 (iv 0)), ⟨((((((((((((((S.pa rfl).pa rfl).pa rfl).pa rfl).pa rfl).pa rfl).pa rfl).pa rfl).pa rfl).pa rfl).pa rfl).pa rfl).pa rfl).pa rfl), ((((((((((((((B.put (by decide)).put (by decide)).put (by decide)).put (by decide)).put (by decide)).put (by decide)).put (by decide)).put (by decide)).put (by decide)).put (by decide)).put (by decide)).put (by decide)).put (by decide)).put (by decide)), (ax_put_o (Or.inl (by decide)) (ax_put_o (Or.inl (by decide)) (ax_put_o (Or.inl (by decide)) (ax_put_o (Or.inl (by decide)) (ax_put_o (Or.inl (by decide)) (ax_put_o (Or.inl (by decide)) (ax_put_o (Or.inl (by decide)) (ax_put_o (Or.inl (by decide)) (ax_put_o (Or.inl (by decide)) (ax_put_o (Or.inl (by decide)) (ax_put_o (Or.inl (by decide)) (ax_put_o (Or.inl (by decide)) (ax_put_o (Or.inl (by decide)) (ax_put_o (Or.inl (by decide)) v3)))))))))))))), t0, (ax_put_o (Or.inl (by decide)) (ax_put_o (Or.inl (by decide)) (ax_put_o (Or.inl (by decide)) (ax_put_o (Or.inl (by decide)) (ax_put_o (Or.inl (by decide)) (ax_put_o (Or.inl (by decide)) (ax_put_o (Or.inl (by decide)) (ax_put_o (Or.inl (by decide)) (ax_put_o (Or.inl (by decide)) (ax_put_o (Or.inl (by decide)) (ax_put_o (Or.inl (by decide)) (ax_put_o (Or.inl (by decide)) (ax_put_o (Or.inl (by decide)) (ax_put_o (Or.inl (by decide)) v4)))))))))))))), (ax_put_o (Or.inl (by decide)) (ax_put_o (Or.inl (by decide)) (ax_put_o (Or.inl (by decide)) (ax_put_o (Or.inl (by decide)) (ax_put_o (Or.inl (by decide)) (ax_put_o (Or.inl (by decide)) (ax_put_o (Or.inl (by decide)) (ax_put_o (Or.inl (by decide)) (ax_put_o (Or.inl (by decide)) (ax_put_o (Or.inl (by decide)) (ax_put_o (Or.inl (by decide)) (ax_put_o (Or.inl (by decide)) (ax_put_o (Or.inl (by decide)) (ax_put_o (Or.inl (by decide)) v5)))))))))))))), (ax_put_o (Or.inl (by decide)) (ax_put_o (Or.inl (by decide)) (ax_put_o (Or.inl (by decide)) (ax_put_o (Or.inl (by decide)) (ax_put_o (Or.inl (by decide)) (ax_put_o (Or.inl (by decide)) (ax_put_o (Or.inl (by decide)) (ax_put_o (Or.inl (by decide)) (ax_put_o (Or.inl (by decide)) (ax_put_o (Or.inl (by decide)) (ax_put_o (Or.inl (by decide)) (ax_put_o (Or.inl (by decide)) (ax_put_o (Or.inl (by decide)) (ax_put_o (Or.inl (by decide)) v6)))))))))))))), (ax_put_o (Or.inl (by decide)) (ax_put_o (Or.inl (by decide)) (ax_put_o (Or.inl (by decide)) (ax_put_o (Or.inl (by decide)) (ax_put_o (Or.inl (by decide)) (ax_put_o (Or.inl (by decide)) (ax_put_o (Or.inl (by decide)) (ax_put_o (Or.inl (by decide)) (ax_put_o (Or.inl (by decide)) (ax_put_o (Or.inl (by decide)) (ax_put_o (Or.inl (by decide)) (ax_put_o (Or.inl (by decide)) (ax_put_o (Or.inl (by decide)) (ax_put_o (Or.inl (by decide)) v7)))))))))))))), y0.1, y0.2, (ax_put_o (Or.inl (by decide)) (ax_put_o (Or.inl (by decide)) (ax_put_o (Or.inl (by decide)) (ax_put_o (Or.inl (by decide)) (ax_put_o (Or.inl (by decide)) (ax_put_o (Or.inl (by decide)) (ax_put_o (Or.inl (by decide)) (ax_put_o (Or.inl (by decide)) (ax_put_o (Or.inl (by decide)) (ax_put_o (Or.inl (by decide)) (ax_put_o (Or.inl (by decide)) (ax_put_o (Or.inl (by decide)) (ax_put_o (Or.inl (by decide)) (ax_put_o (Or.inl (by decide)) v8)))))))))))))), (ax_put_o (Or.inl (by decide)) (ax_put_o (Or.inl (by decide)) (ax_put_o (Or.inl (by decide)) (ax_put_o (Or.inl (by decide)) (ax_put_o (Or.inl (by decide)) (ax_put_o (Or.inl (by decide)) (ax_put_o (Or.inl (by decide)) (ax_put_o (Or.inl (by decide)) (ax_put_o (Or.inl (by decide)) (ax_put_o (Or.inl (by decide)) (ax_put_o (Or.inl (by decide)) (ax_put_o (Or.inl (by decide)) (ax_put_o (Or.inl (by decide)) (ax_put_o (Or.inl (by decide)) v9)))))))))))))), (ax_put_o (Or.inl (by decide)) (ax_put_o (Or.inl (by decide)) (ax_put_o (Or.inl (by decide)) (ax_put_o (Or.inl (by decide)) (ax_put_o (Or.inl (by decide)) (ax_put_o (Or.inl (by decide)) (ax_put_o (Or.inl (by decide)) (ax_put_o (Or.inl (by decide)) (ax_put_o (Or.inl (by decide)) (ax_put_o (Or.inl (by decide)) (ax_put_o (Or.inl (by decide)) (ax_put_o (Or.inl (by decide)) (ax_put_o (Or.inl (by decide)) (ax_put_o (Or.inl (by decide)) v2)))))))))))))), (fun j hj => by
      have hj2 : j = 0 ∨ j = 1 ∨ j = 2 ∨ j = 3 ∨ j = 4 ∨ j = 5 := by omega
      rcases hj2 with rfl | rfl | rfl | rfl | rfl | rfl
      · exact (ax_put_o (Or.inr (by decide)) (ax_put_o (Or.inr (by decide)) (ax_put_o (Or.inr (by decide)) (ax_put_o (Or.inr (by decide)) (ax_put_o (Or.inr (by decide)) (ax_put_o (Or.inr (by decide)) (ax_put_s _ _ _)))))))
      · exact (ax_put_o (Or.inr (by decide)) (ax_put_o (Or.inr (by decide)) (ax_put_o (Or.inr (by decide)) (ax_put_o (Or.inr (by decide)) (ax_put_o (Or.inr (by decide)) (ax_put_s _ _ _))))))
      · exact (ax_put_o (Or.inr (by decide)) (ax_put_o (Or.inr (by decide)) (ax_put_o (Or.inr (by decide)) (ax_put_o (Or.inr (by decide)) (ax_put_s _ _ _)))))
      · exact (ax_put_o (Or.inr (by decide)) (ax_put_o (Or.inr (by decide)) (ax_put_o (Or.inr (by decide)) (ax_put_s _ _ _))))
      · exact (ax_put_o (Or.inr (by decide)) (ax_put_o (Or.inr (by decide)) (ax_put_s _ _ _)))
      · exact (ax_put_o (Or.inr (by decide)) (ax_put_s _ _ _))), (fun j a c => by
      have hj : j = 2 ∨ j = 3 ∨ j = 4 ∨ j = 5 ∨ j = 6 ∨ j = 7 ∨ j = 8 := by omega
      rcases hj with rfl | rfl | rfl | rfl | rfl | rfl | rfl
      · exact (ax_put_o (Or.inl (by decide)) (ax_put_o (Or.inl (by decide)) (ax_put_o (Or.inl (by decide)) (ax_put_o (Or.inl (by decide)) (ax_put_o (Or.inl (by decide)) (ax_put_o (Or.inl (by decide)) (ax_put_o (Or.inl (by decide)) (ax_put_o (Or.inl (by decide)) (ax_put_o (Or.inl (by decide)) (ax_put_o (Or.inl (by decide)) (ax_put_o (Or.inl (by decide)) (ax_put_o (Or.inl (by decide)) (ax_put_o (Or.inl (by decide)) (ax_put_s _ _ _))))))))))))))
      · exact (ax_put_o (Or.inl (by decide)) (ax_put_o (Or.inl (by decide)) (ax_put_o (Or.inl (by decide)) (ax_put_o (Or.inl (by decide)) (ax_put_o (Or.inl (by decide)) (ax_put_o (Or.inl (by decide)) (ax_put_o (Or.inl (by decide)) (ax_put_o (Or.inl (by decide)) (ax_put_o (Or.inl (by decide)) (ax_put_o (Or.inl (by decide)) (ax_put_o (Or.inl (by decide)) (ax_put_o (Or.inl (by decide)) (ax_put_s _ _ _)))))))))))))
      · exact (ax_put_o (Or.inl (by decide)) (ax_put_o (Or.inl (by decide)) (ax_put_o (Or.inl (by decide)) (ax_put_o (Or.inl (by decide)) (ax_put_o (Or.inl (by decide)) (ax_put_o (Or.inl (by decide)) (ax_put_o (Or.inl (by decide)) (ax_put_o (Or.inl (by decide)) (ax_put_o (Or.inl (by decide)) (ax_put_o (Or.inl (by decide)) (ax_put_o (Or.inl (by decide)) (ax_put_s _ _ _))))))))))))
      · exact (ax_put_o (Or.inl (by decide)) (ax_put_o (Or.inl (by decide)) (ax_put_o (Or.inl (by decide)) (ax_put_o (Or.inl (by decide)) (ax_put_o (Or.inl (by decide)) (ax_put_o (Or.inl (by decide)) (ax_put_o (Or.inl (by decide)) (ax_put_o (Or.inl (by decide)) (ax_put_o (Or.inl (by decide)) (ax_put_o (Or.inl (by decide)) (ax_put_s _ _ _)))))))))))
      · exact (ax_put_o (Or.inl (by decide)) (ax_put_o (Or.inl (by decide)) (ax_put_o (Or.inl (by decide)) (ax_put_o (Or.inl (by decide)) (ax_put_o (Or.inl (by decide)) (ax_put_o (Or.inl (by decide)) (ax_put_o (Or.inl (by decide)) (ax_put_o (Or.inl (by decide)) (ax_put_o (Or.inl (by decide)) (ax_put_s _ _ _))))))))))
      · exact (ax_put_o (Or.inl (by decide)) (ax_put_o (Or.inl (by decide)) (ax_put_o (Or.inl (by decide)) (ax_put_o (Or.inl (by decide)) (ax_put_o (Or.inl (by decide)) (ax_put_o (Or.inl (by decide)) (ax_put_o (Or.inl (by decide)) (ax_put_o (Or.inl (by decide)) (ax_put_s _ _ _)))))))))
      · exact (ax_put_o (Or.inl (by decide)) (ax_put_o (Or.inl (by decide)) (ax_put_o (Or.inl (by decide)) (ax_put_o (Or.inl (by decide)) (ax_put_o (Or.inl (by decide)) (ax_put_o (Or.inl (by decide)) (ax_put_o (Or.inl (by decide)) (ax_put_s _ _ _))))))))), (fun c j n1 n2 n3 => (ax_put_o (by omega) (ax_put_o (by omega) (ax_put_o (by omega) (ax_put_o (by omega) (ax_put_o (by omega) (ax_put_o (by omega) (ax_put_o (by omega) (ax_put_o (by omega) (ax_put_o (by omega) (ax_put_o (by omega) (ax_put_o (by omega) (ax_put_o (by omega) (ax_put_o (by omega) (ax_put_o (by omega) rfl)))))))))))))))⟩, fun x q9 => ?_⟩
  show am_ev d 209 0 [.ref 78, am_ph] [] h x
  refine am_ev.step (pc' := 1) rfl rfl ?_
  refine ax_gf (p' := 4) rfl rfl (S.ob rfl) (S.rf rfl rfl) ?_
  refine fx_bip (p' := 6) rfl rfl rfl ?_
  refine am_ev.step (pc' := 7) rfl rfl ?_
  refine ax_iastore (p' := 8) rfl rfl (S.wr (k := 80) rfl rfl rfl rfl (by decide)) ?_
  refine am_ev.step (pc' := 9) rfl rfl ?_
  refine ax_gf (p' := 12) rfl rfl (fO (S.ob rfl)) (ax_put_o (Or.inl (by decide)) (S.rf rfl rfl)) ?_
  refine fx_bip (p' := 14) rfl rfl rfl ?_
  refine fx_sip (p' := 17) rfl rfl rfl ?_
  refine ax_iastore (p' := 18) rfl rfl ((S.pa rfl).wr (k := 80) rfl rfl rfl rfl (by decide)) ?_
  refine am_ev.step (pc' := 19) rfl rfl ?_
  refine ax_gf (p' := 22) rfl rfl (fO (fO (S.ob rfl))) (ax_put_o (Or.inl (by decide)) (ax_put_o (Or.inl (by decide)) (S.rf rfl rfl))) ?_
  refine fx_bip (p' := 24) rfl rfl rfl ?_
  refine am_ev.step (pc' := 25) rfl rfl ?_
  refine ax_iastore (p' := 26) rfl rfl (((S.pa rfl).pa rfl).wr (k := 80) rfl rfl rfl rfl (by decide)) ?_
  refine am_ev.step (pc' := 27) rfl rfl ?_
  refine ax_gf (p' := 30) rfl rfl (fO (fO (fO (S.ob rfl)))) (ax_put_o (Or.inl (by decide)) (ax_put_o (Or.inl (by decide)) (ax_put_o (Or.inl (by decide)) (S.rf rfl rfl)))) ?_
  refine fx_bip (p' := 32) rfl rfl rfl ?_
  refine am_ev.step (pc' := 33) rfl rfl ?_
  refine ax_iastore (p' := 34) rfl rfl ((((S.pa rfl).pa rfl).pa rfl).wr (k := 80) rfl rfl rfl rfl (by decide)) ?_
  refine am_ev.step (pc' := 35) rfl rfl ?_
  refine ax_gf (p' := 38) rfl rfl (fO (fO (fO (fO (S.ob rfl))))) (ax_put_o (Or.inl (by decide)) (ax_put_o (Or.inl (by decide)) (ax_put_o (Or.inl (by decide)) (ax_put_o (Or.inl (by decide)) (S.rf rfl rfl))))) ?_
  refine fx_bip (p' := 40) rfl rfl rfl ?_
  refine am_ev.step (pc' := 41) rfl rfl ?_
  refine ax_iastore (p' := 42) rfl rfl (((((S.pa rfl).pa rfl).pa rfl).pa rfl).wr (k := 80) rfl rfl rfl rfl (by decide)) ?_
  refine am_ev.step (pc' := 43) rfl rfl ?_
  refine ax_gf (p' := 46) rfl rfl (fO (fO (fO (fO (fO (S.ob rfl)))))) (ax_put_o (Or.inl (by decide)) (ax_put_o (Or.inl (by decide)) (ax_put_o (Or.inl (by decide)) (ax_put_o (Or.inl (by decide)) (ax_put_o (Or.inl (by decide)) (S.rf rfl rfl)))))) ?_
  refine fx_bip (p' := 48) rfl rfl rfl ?_
  refine am_ev.step (pc' := 49) rfl rfl ?_
  refine ax_iastore (p' := 50) rfl rfl ((((((S.pa rfl).pa rfl).pa rfl).pa rfl).pa rfl).wr (k := 80) rfl rfl rfl rfl (by decide)) ?_
  refine am_ev.step (pc' := 51) rfl rfl ?_
  refine ax_gf (p' := 54) rfl rfl (fO (fO (fO (fO (fO (fO (S.ob rfl))))))) (ax_put_o (Or.inl (by decide)) (ax_put_o (Or.inl (by decide)) (ax_put_o (Or.inl (by decide)) (ax_put_o (Or.inl (by decide)) (ax_put_o (Or.inl (by decide)) (ax_put_o (Or.inl (by decide)) (S.rf rfl rfl))))))) ?_
  refine fx_bip (p' := 56) rfl rfl rfl ?_
  refine am_ev.step (pc' := 57) rfl rfl ?_
  refine ax_iastore (p' := 58) rfl rfl (((((((S.pa rfl).pa rfl).pa rfl).pa rfl).pa rfl).pa rfl).wr (k := 80) rfl rfl rfl rfl (by decide)) ?_
  refine am_ev.step (pc' := 59) rfl rfl ?_
  refine am_ev.step (pc' := 60) (ls' := [.ref 78, iv 0]) rfl rfl ?_
  refine am_ev.step (pc' := 61) rfl rfl ?_
  refine fx_bip (p' := 63) rfl rfl rfl ?_
  refine fx_c_ge_F (pF := 66) rfl (by omega) (by omega) rfl (by omega) ?_
  refine am_ev.step (pc' := 67) rfl rfl ?_
  refine ax_gf (p' := 70) rfl rfl (fO (fO (fO (fO (fO (fO (fO (S.ob rfl)))))))) (ax_put_o (Or.inl (by decide)) (ax_put_o (Or.inl (by decide)) (ax_put_o (Or.inl (by decide)) (ax_put_o (Or.inl (by decide)) (ax_put_o (Or.inl (by decide)) (ax_put_o (Or.inl (by decide)) (ax_put_o (Or.inl (by decide)) (S.rf rfl rfl)))))))) ?_
  refine am_ev.step (pc' := 71) rfl rfl ?_
  refine am_ev.step (pc' := 72) rfl rfl ?_
  refine ax_bas2 (p' := 73) rfl rfl ((((((((S.pa rfl).pa rfl).pa rfl).pa rfl).pa rfl).pa rfl).pa rfl).wr (k := 0) rfl rfl rfl rfl (by decide)) ((((((((S.pa rfl).pa rfl).pa rfl).pa rfl).pa rfl).pa rfl).pa rfl).sb rfl rfl) (by decide) ?_
  refine fx_inc (p' := 76) (e := 1) (ls' := [.ref 78, iv 1]) rfl rfl rfl (by omega) rfl ?_
  refine am_ev.step (pc' := 60) rfl rfl ?_
  refine am_ev.step (pc' := 61) rfl rfl ?_
  refine fx_bip (p' := 63) rfl rfl rfl ?_
  refine fx_c_ge_F (pF := 66) rfl (by omega) (by omega) rfl (by omega) ?_
  refine am_ev.step (pc' := 67) rfl rfl ?_
  refine ax_gf (p' := 70) rfl rfl (fO (fO (fO (fO (fO (fO (fO (fO (S.ob rfl))))))))) (ax_put_o (Or.inl (by decide)) (ax_put_o (Or.inl (by decide)) (ax_put_o (Or.inl (by decide)) (ax_put_o (Or.inl (by decide)) (ax_put_o (Or.inl (by decide)) (ax_put_o (Or.inl (by decide)) (ax_put_o (Or.inl (by decide)) (ax_put_o (Or.inl (by decide)) (S.rf rfl rfl))))))))) ?_
  refine am_ev.step (pc' := 71) rfl rfl ?_
  refine am_ev.step (pc' := 72) rfl rfl ?_
  refine ax_bas2 (p' := 73) rfl rfl (((((((((S.pa rfl).pa rfl).pa rfl).pa rfl).pa rfl).pa rfl).pa rfl).pa rfl).wr (k := 1) rfl rfl rfl rfl (by decide)) (((((((((S.pa rfl).pa rfl).pa rfl).pa rfl).pa rfl).pa rfl).pa rfl).pa rfl).sb rfl rfl) (by decide) ?_
  refine fx_inc (p' := 76) (e := 2) (ls' := [.ref 78, iv 2]) rfl rfl rfl (by omega) rfl ?_
  refine am_ev.step (pc' := 60) rfl rfl ?_
  refine am_ev.step (pc' := 61) rfl rfl ?_
  refine fx_bip (p' := 63) rfl rfl rfl ?_
  refine fx_c_ge_F (pF := 66) rfl (by omega) (by omega) rfl (by omega) ?_
  refine am_ev.step (pc' := 67) rfl rfl ?_
  refine ax_gf (p' := 70) rfl rfl (fO (fO (fO (fO (fO (fO (fO (fO (fO (S.ob rfl)))))))))) (ax_put_o (Or.inl (by decide)) (ax_put_o (Or.inl (by decide)) (ax_put_o (Or.inl (by decide)) (ax_put_o (Or.inl (by decide)) (ax_put_o (Or.inl (by decide)) (ax_put_o (Or.inl (by decide)) (ax_put_o (Or.inl (by decide)) (ax_put_o (Or.inl (by decide)) (ax_put_o (Or.inl (by decide)) (S.rf rfl rfl)))))))))) ?_
  refine am_ev.step (pc' := 71) rfl rfl ?_
  refine am_ev.step (pc' := 72) rfl rfl ?_
  refine ax_bas2 (p' := 73) rfl rfl ((((((((((S.pa rfl).pa rfl).pa rfl).pa rfl).pa rfl).pa rfl).pa rfl).pa rfl).pa rfl).wr (k := 2) rfl rfl rfl rfl (by decide)) ((((((((((S.pa rfl).pa rfl).pa rfl).pa rfl).pa rfl).pa rfl).pa rfl).pa rfl).pa rfl).sb rfl rfl) (by decide) ?_
  refine fx_inc (p' := 76) (e := 3) (ls' := [.ref 78, iv 3]) rfl rfl rfl (by omega) rfl ?_
  refine am_ev.step (pc' := 60) rfl rfl ?_
  refine am_ev.step (pc' := 61) rfl rfl ?_
  refine fx_bip (p' := 63) rfl rfl rfl ?_
  refine fx_c_ge_F (pF := 66) rfl (by omega) (by omega) rfl (by omega) ?_
  refine am_ev.step (pc' := 67) rfl rfl ?_
  refine ax_gf (p' := 70) rfl rfl (fO (fO (fO (fO (fO (fO (fO (fO (fO (fO (S.ob rfl))))))))))) (ax_put_o (Or.inl (by decide)) (ax_put_o (Or.inl (by decide)) (ax_put_o (Or.inl (by decide)) (ax_put_o (Or.inl (by decide)) (ax_put_o (Or.inl (by decide)) (ax_put_o (Or.inl (by decide)) (ax_put_o (Or.inl (by decide)) (ax_put_o (Or.inl (by decide)) (ax_put_o (Or.inl (by decide)) (ax_put_o (Or.inl (by decide)) (S.rf rfl rfl))))))))))) ?_
  refine am_ev.step (pc' := 71) rfl rfl ?_
  refine am_ev.step (pc' := 72) rfl rfl ?_
  refine ax_bas2 (p' := 73) rfl rfl (((((((((((S.pa rfl).pa rfl).pa rfl).pa rfl).pa rfl).pa rfl).pa rfl).pa rfl).pa rfl).pa rfl).wr (k := 3) rfl rfl rfl rfl (by decide)) (((((((((((S.pa rfl).pa rfl).pa rfl).pa rfl).pa rfl).pa rfl).pa rfl).pa rfl).pa rfl).pa rfl).sb rfl rfl) (by decide) ?_
  refine fx_inc (p' := 76) (e := 4) (ls' := [.ref 78, iv 4]) rfl rfl rfl (by omega) rfl ?_
  refine am_ev.step (pc' := 60) rfl rfl ?_
  refine am_ev.step (pc' := 61) rfl rfl ?_
  refine fx_bip (p' := 63) rfl rfl rfl ?_
  refine fx_c_ge_F (pF := 66) rfl (by omega) (by omega) rfl (by omega) ?_
  refine am_ev.step (pc' := 67) rfl rfl ?_
  refine ax_gf (p' := 70) rfl rfl (fO (fO (fO (fO (fO (fO (fO (fO (fO (fO (fO (S.ob rfl)))))))))))) (ax_put_o (Or.inl (by decide)) (ax_put_o (Or.inl (by decide)) (ax_put_o (Or.inl (by decide)) (ax_put_o (Or.inl (by decide)) (ax_put_o (Or.inl (by decide)) (ax_put_o (Or.inl (by decide)) (ax_put_o (Or.inl (by decide)) (ax_put_o (Or.inl (by decide)) (ax_put_o (Or.inl (by decide)) (ax_put_o (Or.inl (by decide)) (ax_put_o (Or.inl (by decide)) (S.rf rfl rfl)))))))))))) ?_
  refine am_ev.step (pc' := 71) rfl rfl ?_
  refine am_ev.step (pc' := 72) rfl rfl ?_
  refine ax_bas2 (p' := 73) rfl rfl ((((((((((((S.pa rfl).pa rfl).pa rfl).pa rfl).pa rfl).pa rfl).pa rfl).pa rfl).pa rfl).pa rfl).pa rfl).wr (k := 4) rfl rfl rfl rfl (by decide)) ((((((((((((S.pa rfl).pa rfl).pa rfl).pa rfl).pa rfl).pa rfl).pa rfl).pa rfl).pa rfl).pa rfl).pa rfl).sb rfl rfl) (by decide) ?_
  refine fx_inc (p' := 76) (e := 5) (ls' := [.ref 78, iv 5]) rfl rfl rfl (by omega) rfl ?_
  refine am_ev.step (pc' := 60) rfl rfl ?_
  refine am_ev.step (pc' := 61) rfl rfl ?_
  refine fx_bip (p' := 63) rfl rfl rfl ?_
  refine fx_c_ge_F (pF := 66) rfl (by omega) (by omega) rfl (by omega) ?_
  refine am_ev.step (pc' := 67) rfl rfl ?_
  refine ax_gf (p' := 70) rfl rfl (fO (fO (fO (fO (fO (fO (fO (fO (fO (fO (fO (fO (S.ob rfl))))))))))))) (ax_put_o (Or.inl (by decide)) (ax_put_o (Or.inl (by decide)) (ax_put_o (Or.inl (by decide)) (ax_put_o (Or.inl (by decide)) (ax_put_o (Or.inl (by decide)) (ax_put_o (Or.inl (by decide)) (ax_put_o (Or.inl (by decide)) (ax_put_o (Or.inl (by decide)) (ax_put_o (Or.inl (by decide)) (ax_put_o (Or.inl (by decide)) (ax_put_o (Or.inl (by decide)) (ax_put_o (Or.inl (by decide)) (S.rf rfl rfl))))))))))))) ?_
  refine am_ev.step (pc' := 71) rfl rfl ?_
  refine am_ev.step (pc' := 72) rfl rfl ?_
  refine ax_bas2 (p' := 73) rfl rfl (((((((((((((S.pa rfl).pa rfl).pa rfl).pa rfl).pa rfl).pa rfl).pa rfl).pa rfl).pa rfl).pa rfl).pa rfl).pa rfl).wr (k := 5) rfl rfl rfl rfl (by decide)) (((((((((((((S.pa rfl).pa rfl).pa rfl).pa rfl).pa rfl).pa rfl).pa rfl).pa rfl).pa rfl).pa rfl).pa rfl).pa rfl).sb rfl rfl) (by decide) ?_
  refine fx_inc (p' := 76) (e := 6) (ls' := [.ref 78, iv 6]) rfl rfl rfl (by omega) rfl ?_
  refine am_ev.step (pc' := 60) rfl rfl ?_
  refine am_ev.step (pc' := 61) rfl rfl ?_
  refine fx_bip (p' := 63) rfl rfl rfl ?_
  refine fx_c_ge_F (pF := 66) rfl (by omega) (by omega) rfl (by omega) ?_
  refine am_ev.step (pc' := 67) rfl rfl ?_
  refine ax_gf (p' := 70) rfl rfl (fO (fO (fO (fO (fO (fO (fO (fO (fO (fO (fO (fO (fO (S.ob rfl)))))))))))))) (ax_put_o (Or.inl (by decide)) (ax_put_o (Or.inl (by decide)) (ax_put_o (Or.inl (by decide)) (ax_put_o (Or.inl (by decide)) (ax_put_o (Or.inl (by decide)) (ax_put_o (Or.inl (by decide)) (ax_put_o (Or.inl (by decide)) (ax_put_o (Or.inl (by decide)) (ax_put_o (Or.inl (by decide)) (ax_put_o (Or.inl (by decide)) (ax_put_o (Or.inl (by decide)) (ax_put_o (Or.inl (by decide)) (ax_put_o (Or.inl (by decide)) (S.rf rfl rfl)))))))))))))) ?_
  refine am_ev.step (pc' := 71) rfl rfl ?_
  refine am_ev.step (pc' := 72) rfl rfl ?_
  refine ax_bas2 (p' := 73) rfl rfl ((((((((((((((S.pa rfl).pa rfl).pa rfl).pa rfl).pa rfl).pa rfl).pa rfl).pa rfl).pa rfl).pa rfl).pa rfl).pa rfl).pa rfl).wr (k := 6) rfl rfl rfl rfl (by decide)) ((((((((((((((S.pa rfl).pa rfl).pa rfl).pa rfl).pa rfl).pa rfl).pa rfl).pa rfl).pa rfl).pa rfl).pa rfl).pa rfl).pa rfl).sb rfl rfl) (by decide) ?_
  refine fx_inc (p' := 76) (e := 7) (ls' := [.ref 78, iv 7]) rfl rfl rfl (by omega) rfl ?_
  refine am_ev.step (pc' := 60) rfl rfl ?_
  refine am_ev.step (pc' := 61) rfl rfl ?_
  refine fx_bip (p' := 63) rfl rfl rfl ?_
  refine fx_c_ge_T (pT := 79) rfl (by omega) (by omega) rfl (by omega) ?_
  exact q9
theorem ll_208e {u2 u3 u4 u5 u6 u7 u8 : Int32} (S : fS h) (v35 : h.2.2.2 78 35 = iv m) (hm : m < 80) (v15 : h.2.2.2 78 15 = .int cc) (w2 : h.2.2.2 104 80 = .int u2) (w3 : h.2.2.2 105 80 = .int u3) (w4 : h.2.2.2 106 80 = .int u4) (w5 : h.2.2.2 107 80 = .int u5) (w6 : h.2.2.2 108 80 = .int u6) (w7 : h.2.2.2 109 80 = .int u7) (w8 : h.2.2.2 110 80 = .int u8) : am_ev d 208 41 [.ref 78, .int pp, am_ph] [] h (some (iv m), (am_put (am_put (am_put (am_put (am_put (am_put (am_put (am_put (am_put (am_put (am_put h 103 m (.int pp)) 104 m (.int u2)) 105 m (.int u3)) 106 m (.int u4)) 107 m (.int u5)) 108 m (.int u6)) 109 m (.int u7)) 110 m (.int u8)) 111 m (.int cc)) 113 m (iv (-1))) 78 35 (iv ((m : Int) + 1)))) := by
  refine am_ev.step (pc' := 42) rfl rfl ?_
  refine ax_gf (p' := 45) rfl rfl (S.ob rfl) (S.rf rfl rfl) ?_
  refine am_ev.step (pc' := 46) rfl rfl ?_
  refine ax_gf (p' := 49) rfl rfl (S.ob rfl) v35 ?_
  refine am_ev.step (pc' := 50) rfl rfl ?_
  refine ax_iastore (p' := 51) rfl rfl (S.wr (k := m) rfl rfl rfl rfl (by omega)) ?_
  refine am_ev.step (pc' := 52) rfl rfl ?_
  refine ax_gf (p' := 55) rfl rfl (fO (S.ob rfl)) (ax_put_o (Or.inl (by decide)) (S.rf rfl rfl)) ?_
  refine am_ev.step (pc' := 56) rfl rfl ?_
  refine ax_gf (p' := 59) rfl rfl (fO (S.ob rfl)) (ax_put_o (Or.inl (by decide)) v35) ?_
  refine am_ev.step (pc' := 60) rfl rfl ?_
  refine ax_gf (p' := 63) rfl rfl (fO (S.ob rfl)) (ax_put_o (Or.inl (by decide)) (S.rf rfl rfl)) ?_
  refine fx_bip (p' := 65) rfl rfl rfl ?_
  refine ax_iaload (p' := 66) rfl rfl ((S.pa rfl).rd (k := 80) rfl rfl rfl rfl rfl (by decide) (ax_put_o (Or.inl (by decide)) w2)) ?_
  refine ax_iastore (p' := 67) rfl rfl ((S.pa rfl).wr (k := m) rfl rfl rfl rfl (by omega)) ?_
  refine am_ev.step (pc' := 68) rfl rfl ?_
  refine ax_gf (p' := 71) rfl rfl (fO (fO (S.ob rfl))) (ax_put_o (Or.inl (by decide)) (ax_put_o (Or.inl (by decide)) (S.rf rfl rfl))) ?_
  refine am_ev.step (pc' := 72) rfl rfl ?_
  refine ax_gf (p' := 75) rfl rfl (fO (fO (S.ob rfl))) (ax_put_o (Or.inl (by decide)) (ax_put_o (Or.inl (by decide)) v35)) ?_
  refine am_ev.step (pc' := 76) rfl rfl ?_
  refine ax_gf (p' := 79) rfl rfl (fO (fO (S.ob rfl))) (ax_put_o (Or.inl (by decide)) (ax_put_o (Or.inl (by decide)) (S.rf rfl rfl))) ?_
  refine fx_bip (p' := 81) rfl rfl rfl ?_
  refine ax_iaload (p' := 82) rfl rfl (((S.pa rfl).pa rfl).rd (k := 80) rfl rfl rfl rfl rfl (by decide) (ax_put_o (Or.inl (by decide)) (ax_put_o (Or.inl (by decide)) w3))) ?_
  refine ax_iastore (p' := 83) rfl rfl (((S.pa rfl).pa rfl).wr (k := m) rfl rfl rfl rfl (by omega)) ?_
  refine am_ev.step (pc' := 84) rfl rfl ?_
  refine ax_gf (p' := 87) rfl rfl (fO (fO (fO (S.ob rfl)))) (ax_put_o (Or.inl (by decide)) (ax_put_o (Or.inl (by decide)) (ax_put_o (Or.inl (by decide)) (S.rf rfl rfl)))) ?_
  refine am_ev.step (pc' := 88) rfl rfl ?_
  refine ax_gf (p' := 91) rfl rfl (fO (fO (fO (S.ob rfl)))) (ax_put_o (Or.inl (by decide)) (ax_put_o (Or.inl (by decide)) (ax_put_o (Or.inl (by decide)) v35))) ?_
  refine am_ev.step (pc' := 92) rfl rfl ?_
  refine ax_gf (p' := 95) rfl rfl (fO (fO (fO (S.ob rfl)))) (ax_put_o (Or.inl (by decide)) (ax_put_o (Or.inl (by decide)) (ax_put_o (Or.inl (by decide)) (S.rf rfl rfl)))) ?_
  refine fx_bip (p' := 97) rfl rfl rfl ?_
  refine ax_iaload (p' := 98) rfl rfl ((((S.pa rfl).pa rfl).pa rfl).rd (k := 80) rfl rfl rfl rfl rfl (by decide) (ax_put_o (Or.inl (by decide)) (ax_put_o (Or.inl (by decide)) (ax_put_o (Or.inl (by decide)) w4)))) ?_
  refine ax_iastore (p' := 99) rfl rfl ((((S.pa rfl).pa rfl).pa rfl).wr (k := m) rfl rfl rfl rfl (by omega)) ?_
  refine am_ev.step (pc' := 100) rfl rfl ?_
  refine ax_gf (p' := 103) rfl rfl (fO (fO (fO (fO (S.ob rfl))))) (ax_put_o (Or.inl (by decide)) (ax_put_o (Or.inl (by decide)) (ax_put_o (Or.inl (by decide)) (ax_put_o (Or.inl (by decide)) (S.rf rfl rfl))))) ?_
  refine am_ev.step (pc' := 104) rfl rfl ?_
  refine ax_gf (p' := 107) rfl rfl (fO (fO (fO (fO (S.ob rfl))))) (ax_put_o (Or.inl (by decide)) (ax_put_o (Or.inl (by decide)) (ax_put_o (Or.inl (by decide)) (ax_put_o (Or.inl (by decide)) v35)))) ?_
  refine am_ev.step (pc' := 108) rfl rfl ?_
  refine ax_gf (p' := 111) rfl rfl (fO (fO (fO (fO (S.ob rfl))))) (ax_put_o (Or.inl (by decide)) (ax_put_o (Or.inl (by decide)) (ax_put_o (Or.inl (by decide)) (ax_put_o (Or.inl (by decide)) (S.rf rfl rfl))))) ?_
  refine fx_bip (p' := 113) rfl rfl rfl ?_
  refine ax_iaload (p' := 114) rfl rfl (((((S.pa rfl).pa rfl).pa rfl).pa rfl).rd (k := 80) rfl rfl rfl rfl rfl (by decide) (ax_put_o (Or.inl (by decide)) (ax_put_o (Or.inl (by decide)) (ax_put_o (Or.inl (by decide)) (ax_put_o (Or.inl (by decide)) w5))))) ?_
  refine ax_iastore (p' := 115) rfl rfl (((((S.pa rfl).pa rfl).pa rfl).pa rfl).wr (k := m) rfl rfl rfl rfl (by omega)) ?_
  refine am_ev.step (pc' := 116) rfl rfl ?_
  refine ax_gf (p' := 119) rfl rfl (fO (fO (fO (fO (fO (S.ob rfl)))))) (ax_put_o (Or.inl (by decide)) (ax_put_o (Or.inl (by decide)) (ax_put_o (Or.inl (by decide)) (ax_put_o (Or.inl (by decide)) (ax_put_o (Or.inl (by decide)) (S.rf rfl rfl)))))) ?_
  refine am_ev.step (pc' := 120) rfl rfl ?_
  refine ax_gf (p' := 123) rfl rfl (fO (fO (fO (fO (fO (S.ob rfl)))))) (ax_put_o (Or.inl (by decide)) (ax_put_o (Or.inl (by decide)) (ax_put_o (Or.inl (by decide)) (ax_put_o (Or.inl (by decide)) (ax_put_o (Or.inl (by decide)) v35))))) ?_
  refine am_ev.step (pc' := 124) rfl rfl ?_
  refine ax_gf (p' := 127) rfl rfl (fO (fO (fO (fO (fO (S.ob rfl)))))) (ax_put_o (Or.inl (by decide)) (ax_put_o (Or.inl (by decide)) (ax_put_o (Or.inl (by decide)) (ax_put_o (Or.inl (by decide)) (ax_put_o (Or.inl (by decide)) (S.rf rfl rfl)))))) ?_
  refine fx_bip (p' := 129) rfl rfl rfl ?_
  refine ax_iaload (p' := 130) rfl rfl ((((((S.pa rfl).pa rfl).pa rfl).pa rfl).pa rfl).rd (k := 80) rfl rfl rfl rfl rfl (by decide) (ax_put_o (Or.inl (by decide)) (ax_put_o (Or.inl (by decide)) (ax_put_o (Or.inl (by decide)) (ax_put_o (Or.inl (by decide)) (ax_put_o (Or.inl (by decide)) w6)))))) ?_
  refine ax_iastore (p' := 131) rfl rfl ((((((S.pa rfl).pa rfl).pa rfl).pa rfl).pa rfl).wr (k := m) rfl rfl rfl rfl (by omega)) ?_
  refine am_ev.step (pc' := 132) rfl rfl ?_
  refine ax_gf (p' := 135) rfl rfl (fO (fO (fO (fO (fO (fO (S.ob rfl))))))) (ax_put_o (Or.inl (by decide)) (ax_put_o (Or.inl (by decide)) (ax_put_o (Or.inl (by decide)) (ax_put_o (Or.inl (by decide)) (ax_put_o (Or.inl (by decide)) (ax_put_o (Or.inl (by decide)) (S.rf rfl rfl))))))) ?_
  refine am_ev.step (pc' := 136) rfl rfl ?_
  refine ax_gf (p' := 139) rfl rfl (fO (fO (fO (fO (fO (fO (S.ob rfl))))))) (ax_put_o (Or.inl (by decide)) (ax_put_o (Or.inl (by decide)) (ax_put_o (Or.inl (by decide)) (ax_put_o (Or.inl (by decide)) (ax_put_o (Or.inl (by decide)) (ax_put_o (Or.inl (by decide)) v35)))))) ?_
  refine am_ev.step (pc' := 140) rfl rfl ?_
  refine ax_gf (p' := 143) rfl rfl (fO (fO (fO (fO (fO (fO (S.ob rfl))))))) (ax_put_o (Or.inl (by decide)) (ax_put_o (Or.inl (by decide)) (ax_put_o (Or.inl (by decide)) (ax_put_o (Or.inl (by decide)) (ax_put_o (Or.inl (by decide)) (ax_put_o (Or.inl (by decide)) (S.rf rfl rfl))))))) ?_
  refine fx_bip (p' := 145) rfl rfl rfl ?_
  refine ax_iaload (p' := 146) rfl rfl (((((((S.pa rfl).pa rfl).pa rfl).pa rfl).pa rfl).pa rfl).rd (k := 80) rfl rfl rfl rfl rfl (by decide) (ax_put_o (Or.inl (by decide)) (ax_put_o (Or.inl (by decide)) (ax_put_o (Or.inl (by decide)) (ax_put_o (Or.inl (by decide)) (ax_put_o (Or.inl (by decide)) (ax_put_o (Or.inl (by decide)) w7))))))) ?_
  refine ax_iastore (p' := 147) rfl rfl (((((((S.pa rfl).pa rfl).pa rfl).pa rfl).pa rfl).pa rfl).wr (k := m) rfl rfl rfl rfl (by omega)) ?_
  refine am_ev.step (pc' := 148) rfl rfl ?_
  refine ax_gf (p' := 151) rfl rfl (fO (fO (fO (fO (fO (fO (fO (S.ob rfl)))))))) (ax_put_o (Or.inl (by decide)) (ax_put_o (Or.inl (by decide)) (ax_put_o (Or.inl (by decide)) (ax_put_o (Or.inl (by decide)) (ax_put_o (Or.inl (by decide)) (ax_put_o (Or.inl (by decide)) (ax_put_o (Or.inl (by decide)) (S.rf rfl rfl)))))))) ?_
  refine am_ev.step (pc' := 152) rfl rfl ?_
  refine ax_gf (p' := 155) rfl rfl (fO (fO (fO (fO (fO (fO (fO (S.ob rfl)))))))) (ax_put_o (Or.inl (by decide)) (ax_put_o (Or.inl (by decide)) (ax_put_o (Or.inl (by decide)) (ax_put_o (Or.inl (by decide)) (ax_put_o (Or.inl (by decide)) (ax_put_o (Or.inl (by decide)) (ax_put_o (Or.inl (by decide)) v35))))))) ?_
  refine am_ev.step (pc' := 156) rfl rfl ?_
  refine ax_gf (p' := 159) rfl rfl (fO (fO (fO (fO (fO (fO (fO (S.ob rfl)))))))) (ax_put_o (Or.inl (by decide)) (ax_put_o (Or.inl (by decide)) (ax_put_o (Or.inl (by decide)) (ax_put_o (Or.inl (by decide)) (ax_put_o (Or.inl (by decide)) (ax_put_o (Or.inl (by decide)) (ax_put_o (Or.inl (by decide)) (S.rf rfl rfl)))))))) ?_
  refine fx_bip (p' := 161) rfl rfl rfl ?_
  refine ax_iaload (p' := 162) rfl rfl ((((((((S.pa rfl).pa rfl).pa rfl).pa rfl).pa rfl).pa rfl).pa rfl).rd (k := 80) rfl rfl rfl rfl rfl (by decide) (ax_put_o (Or.inl (by decide)) (ax_put_o (Or.inl (by decide)) (ax_put_o (Or.inl (by decide)) (ax_put_o (Or.inl (by decide)) (ax_put_o (Or.inl (by decide)) (ax_put_o (Or.inl (by decide)) (ax_put_o (Or.inl (by decide)) w8)))))))) ?_
  refine ax_iastore (p' := 163) rfl rfl ((((((((S.pa rfl).pa rfl).pa rfl).pa rfl).pa rfl).pa rfl).pa rfl).wr (k := m) rfl rfl rfl rfl (by omega)) ?_
  refine am_ev.step (pc' := 164) rfl rfl ?_
  refine ax_gf (p' := 167) rfl rfl (fO (fO (fO (fO (fO (fO (fO (fO (S.ob rfl))))))))) (ax_put_o (Or.inl (by decide)) (ax_put_o (Or.inl (by decide)) (ax_put_o (Or.inl (by decide)) (ax_put_o (Or.inl (by decide)) (ax_put_o (Or.inl (by decide)) (ax_put_o (Or.inl (by decide)) (ax_put_o (Or.inl (by decide)) (ax_put_o (Or.inl (by decide)) (S.rf rfl rfl))))))))) ?_
  refine am_ev.step (pc' := 168) rfl rfl ?_
  refine ax_gf (p' := 171) rfl rfl (fO (fO (fO (fO (fO (fO (fO (fO (S.ob rfl))))))))) (ax_put_o (Or.inl (by decide)) (ax_put_o (Or.inl (by decide)) (ax_put_o (Or.inl (by decide)) (ax_put_o (Or.inl (by decide)) (ax_put_o (Or.inl (by decide)) (ax_put_o (Or.inl (by decide)) (ax_put_o (Or.inl (by decide)) (ax_put_o (Or.inl (by decide)) v35)))))))) ?_
  refine am_ev.step (pc' := 172) rfl rfl ?_
  refine ax_gf (p' := 175) rfl rfl (fO (fO (fO (fO (fO (fO (fO (fO (S.ob rfl))))))))) (ax_put_o (Or.inl (by decide)) (ax_put_o (Or.inl (by decide)) (ax_put_o (Or.inl (by decide)) (ax_put_o (Or.inl (by decide)) (ax_put_o (Or.inl (by decide)) (ax_put_o (Or.inl (by decide)) (ax_put_o (Or.inl (by decide)) (ax_put_o (Or.inl (by decide)) v15)))))))) ?_
  refine ax_iastore (p' := 176) rfl rfl (((((((((S.pa rfl).pa rfl).pa rfl).pa rfl).pa rfl).pa rfl).pa rfl).pa rfl).wr (k := m) rfl rfl rfl rfl (by omega)) ?_
  refine am_ev.step (pc' := 177) rfl rfl ?_
  refine ax_gf (p' := 180) rfl rfl (fO (fO (fO (fO (fO (fO (fO (fO (fO (S.ob rfl)))))))))) (ax_put_o (Or.inl (by decide)) (ax_put_o (Or.inl (by decide)) (ax_put_o (Or.inl (by decide)) (ax_put_o (Or.inl (by decide)) (ax_put_o (Or.inl (by decide)) (ax_put_o (Or.inl (by decide)) (ax_put_o (Or.inl (by decide)) (ax_put_o (Or.inl (by decide)) (ax_put_o (Or.inl (by decide)) (S.rf rfl rfl)))))))))) ?_
  refine am_ev.step (pc' := 181) rfl rfl ?_
  refine ax_gf (p' := 184) rfl rfl (fO (fO (fO (fO (fO (fO (fO (fO (fO (S.ob rfl)))))))))) (ax_put_o (Or.inl (by decide)) (ax_put_o (Or.inl (by decide)) (ax_put_o (Or.inl (by decide)) (ax_put_o (Or.inl (by decide)) (ax_put_o (Or.inl (by decide)) (ax_put_o (Or.inl (by decide)) (ax_put_o (Or.inl (by decide)) (ax_put_o (Or.inl (by decide)) (ax_put_o (Or.inl (by decide)) v35))))))))) ?_
  refine am_ev.step (pc' := 185) rfl rfl ?_
  refine ax_iastore (p' := 186) rfl rfl ((((((((((S.pa rfl).pa rfl).pa rfl).pa rfl).pa rfl).pa rfl).pa rfl).pa rfl).pa rfl).wr (k := m) rfl rfl rfl rfl (by omega)) ?_
  refine am_ev.step (pc' := 187) rfl rfl ?_
  refine am_ev.step (pc' := 188) rfl rfl ?_
  refine ax_gf (p' := 191) rfl rfl (fO (fO (fO (fO (fO (fO (fO (fO (fO (fO (S.ob rfl))))))))))) (ax_put_o (Or.inl (by decide)) (ax_put_o (Or.inl (by decide)) (ax_put_o (Or.inl (by decide)) (ax_put_o (Or.inl (by decide)) (ax_put_o (Or.inl (by decide)) (ax_put_o (Or.inl (by decide)) (ax_put_o (Or.inl (by decide)) (ax_put_o (Or.inl (by decide)) (ax_put_o (Or.inl (by decide)) (ax_put_o (Or.inl (by decide)) v35)))))))))) ?_
  refine am_ev.step (pc' := 192) rfl rfl ?_
  refine fx_add (p' := 193) (e := ((m : Int) + 1)) rfl rfl (by omega) ?_
  refine ax_pf (p' := 196) rfl rfl (fO (fO (fO (fO (fO (fO (fO (fO (fO (fO (S.ob rfl))))))))))) rfl ?_
  refine am_ev.step (pc' := 197) rfl rfl ?_
  refine ax_gf (p' := 200) rfl rfl (fO (fO (fO (fO (fO (fO (fO (fO (fO (fO (fO (S.ob rfl)))))))))))) (ax_put_s _ _ _) ?_
  refine am_ev.step (pc' := 201) rfl rfl ?_
  refine fx_sub (p' := 202) (e := ((m : Int))) rfl rfl (by omega) ?_
  exact fx_reti rfl rfl rfl
end LLC
