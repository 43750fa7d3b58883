section
/-! THE CALL LEAVE -/
def lv_0 (j : Nat) : Value := if j = 3 then iv 29999 else if j = 5 then iv 2 else if j = 7 then iv (-1) else iv 0
section LLA
variable {d : Nat} {h k H : am_H} {b : Nat → Int} {L p s e n m q r : Nat} {v w : Int} {pp cc : Int32}
theorem ll_75 (S : fS h) (O : am_isO h q 4 = true) (hq : 130 ≤ q) : am_ev (d + 1) 75 0 (am_ent [.ref q, .int pp, .int cc] 3) [] h (none, (am_put (am_put (am_put (am_put (am_put (am_put (am_put (am_put (am_put (am_put (am_put h q 2 (iv 0)) q 3 (iv 29999)) q 4 (iv 0)) q 5 (iv 2)) q 6 (iv 0)) q 7 (iv (-1))) q 8 (iv 0)) q 9 (iv (-1))) q 10 (iv (-1))) q 0 (.int pp)) q 1 (.int cc))) := by
  show am_ev (d + 1) 75 0 [.ref q, .int pp, .int cc] [] h _
  refine am_ev.step (pc' := 1) rfl rfl ?_
  refine ax_obj (p' := 4) rfl (Or.inr (Or.inr ⟨_, rfl⟩)) rfl rfl rfl ?_
  refine am_ev.step (pc' := 5) rfl rfl ?_
  refine am_ev.step (pc' := 6) rfl rfl ?_
  refine ax_pf (p' := 9) rfl rfl O rfl ?_
  refine am_ev.step (pc' := 10) rfl rfl ?_
  refine fx_sip (p' := 13) rfl rfl rfl ?_
  refine ax_pf (p' := 16) rfl rfl (fO O) rfl ?_
  refine am_ev.step (pc' := 17) rfl rfl ?_
  refine am_ev.step (pc' := 18) rfl rfl ?_
  refine ax_pf (p' := 21) rfl rfl (fO (fO O)) rfl ?_
  refine am_ev.step (pc' := 22) rfl rfl ?_
  refine am_ev.step (pc' := 23) rfl rfl ?_
  refine ax_pf (p' := 26) rfl rfl (fO (fO (fO O))) rfl ?_
  refine am_ev.step (pc' := 27) rfl rfl ?_
  refine am_ev.step (pc' := 28) rfl rfl ?_
  refine ax_pf (p' := 31) rfl rfl (fO (fO (fO (fO O)))) rfl ?_
  refine am_ev.step (pc' := 32) rfl rfl ?_
  refine am_ev.step (pc' := 33) rfl rfl ?_
  refine ax_pf (p' := 36) rfl rfl (fO (fO (fO (fO (fO O))))) rfl ?_
  refine am_ev.step (pc' := 37) rfl rfl ?_
  refine am_ev.step (pc' := 38) rfl rfl ?_
  refine ax_pf (p' := 41) rfl rfl (fO (fO (fO (fO (fO (fO O)))))) rfl ?_
  refine am_ev.step (pc' := 42) rfl rfl ?_
  refine am_ev.step (pc' := 43) rfl rfl ?_
  refine ax_pf (p' := 46) rfl rfl (fO (fO (fO (fO (fO (fO (fO O))))))) rfl ?_
  refine am_ev.step (pc' := 47) rfl rfl ?_
  refine am_ev.step (pc' := 48) rfl rfl ?_
  refine ax_pf (p' := 51) rfl rfl (fO (fO (fO (fO (fO (fO (fO (fO O)))))))) rfl ?_
  refine am_ev.step (pc' := 52) rfl rfl ?_
  refine am_ev.step (pc' := 53) rfl rfl ?_
  refine ax_pf (p' := 56) rfl rfl (fO (fO (fO (fO (fO (fO (fO (fO (fO O))))))))) rfl ?_
  refine am_ev.step (pc' := 57) rfl rfl ?_
  refine am_ev.step (pc' := 58) rfl rfl ?_
  refine ax_pf (p' := 61) rfl rfl (fO (fO (fO (fO (fO (fO (fO (fO (fO (fO O)))))))))) rfl ?_
  exact am_ev.retv rfl rfl
theorem ll_75v : ∃ K : am_H, K = (am_put (am_put (am_put (am_put (am_put (am_put (am_put (am_put (am_put (am_put (am_put h q 2 (iv 0)) q 3 (iv 29999)) q 4 (iv 0)) q 5 (iv 2)) q 6 (iv 0)) q 7 (iv (-1))) q 8 (iv 0)) q 9 (iv (-1))) q 10 (iv (-1))) q 0 (.int pp)) q 1 (.int cc)) ∧ (∀ j, 2 ≤ j → j ≤ 8 → K.2.2.2 q j = lv_0 j) ∧ K.2.2.2 q 0 = .int pp ∧ K.2.2.2 q 1 = .int cc ∧ K.2.2.2 q 9 = iv (-1) ∧ K.2.2.2 q 10 = iv (-1) ∧ (K.1 = h.1 ∧ K.2.2.1 = h.2.2.1) ∧ ∀ c j, c ≠ q → K.2.2.2 c j = h.2.2.2 c j := by
  refine ⟨_, rfl, fun j a c => ?_, (ax_put_o (Or.inr (by decide)) (ax_put_s _ _ _)), (ax_put_s _ _ _), (ax_put_o (Or.inr (by decide)) (ax_put_o (Or.inr (by decide)) (ax_put_o (Or.inr (by decide)) (ax_put_s _ _ _)))), (ax_put_o (Or.inr (by decide)) (ax_put_o (Or.inr (by decide)) (ax_put_s _ _ _))), ⟨rfl, rfl⟩, fun c j n1 => (ax_put_o (Or.inl n1) (ax_put_o (Or.inl n1) (ax_put_o (Or.inl n1) (ax_put_o (Or.inl n1) (ax_put_o (Or.inl n1) (ax_put_o (Or.inl n1) (ax_put_o (Or.inl n1) (ax_put_o (Or.inl n1) (ax_put_o (Or.inl n1) (ax_put_o (Or.inl n1) (ax_put_o (Or.inl n1) rfl)))))))))))⟩
  have hj : j = 2 ∨ j = 3 ∨ j = 4 ∨ j = 5 ∨ j = 6 ∨ j = 7 ∨ j = 8 := by omega
  rcases hj with rfl | rfl | rfl | rfl | rfl | rfl | rfl
  · exact (ax_put_o (Or.inr (by decide)) (ax_put_o (Or.inr (by decide)) (ax_put_o (Or.inr (by decide)) (ax_put_o (Or.inr (by decide)) (ax_put_o (Or.inr (by decide)) (ax_put_o (Or.inr (by decide)) (ax_put_o (Or.inr (by decide)) (ax_put_o (Or.inr (by decide)) (ax_put_o (Or.inr (by decide)) (ax_put_o (Or.inr (by decide)) (ax_put_s _ _ _)))))))))))
  · exact (ax_put_o (Or.inr (by decide)) (ax_put_o (Or.inr (by decide)) (ax_put_o (Or.inr (by decide)) (ax_put_o (Or.inr (by decide)) (ax_put_o (Or.inr (by decide)) (ax_put_o (Or.inr (by decide)) (ax_put_o (Or.inr (by decide)) (ax_put_o (Or.inr (by decide)) (ax_put_o (Or.inr (by decide)) (ax_put_s _ _ _))))))))))
  · exact (ax_put_o (Or.inr (by decide)) (ax_put_o (Or.inr (by decide)) (ax_put_o (Or.inr (by decide)) (ax_put_o (Or.inr (by decide)) (ax_put_o (Or.inr (by decide)) (ax_put_o (Or.inr (by decide)) (ax_put_o (Or.inr (by decide)) (ax_put_o (Or.inr (by decide)) (ax_put_s _ _ _)))))))))
  · exact (ax_put_o (Or.inr (by decide)) (ax_put_o (Or.inr (by decide)) (ax_put_o (Or.inr (by decide)) (ax_put_o (Or.inr (by decide)) (ax_put_o (Or.inr (by decide)) (ax_put_o (Or.inr (by decide)) (ax_put_o (Or.inr (by decide)) (ax_put_s _ _ _))))))))
  · exact (ax_put_o (Or.inr (by decide)) (ax_put_o (Or.inr (by decide)) (ax_put_o (Or.inr (by decide)) (ax_put_o (Or.inr (by decide)) (ax_put_o (Or.inr (by decide)) (ax_put_o (Or.inr (by decide)) (ax_put_s _ _ _)))))))
  · exact (ax_put_o (Or.inr (by decide)) (ax_put_o (Or.inr (by decide)) (ax_put_o (Or.inr (by decide)) (ax_put_o (Or.inr (by decide)) (ax_put_o (Or.inr (by decide)) (ax_put_s _ _ _))))))
  · exact (ax_put_o (Or.inr (by decide)) (ax_put_o (Or.inr (by decide)) (ax_put_o (Or.inr (by decide)) (ax_put_o (Or.inr (by decide)) (ax_put_s _ _ _)))))
theorem ll_76 (S : fS h) {x : Option Value × am_H} (q9 : am_ev (d + 8) 76 8 [.ref q, .ref 41, iv 0, iv ((0 : Nat) : Int), am_ph] [] (am_put (am_put (am_put h 41 6 (iv 0)) 41 3 (iv 0)) 41 4 (iv (-1))) x) : am_ev (d + 8) 76 0 (am_ent [.ref q, .ref 41] 5) [] h x := by
  show am_ev (d + 8) 76 0 [.ref q, .ref 41, am_ph, am_ph, am_ph] [] h x
  refine am_ev.step (pc' := 1) rfl rfl ?_
  refine am_ev.step (pc' := 2) (ls' := [.ref q, .ref 41, iv 0, am_ph, am_ph]) rfl rfl ?_
  refine am_ev.step (pc' := 3) rfl rfl ?_
  refine ax_call (z := 20) (p' := 6) (as := [_]) rfl (Or.inr (Or.inl ⟨_, rfl⟩)) rfl rfl rfl rfl rfl rfl (S.ob rfl) rfl (rl_20 S) rfl ?_
  refine am_ev.step (pc' := 7) rfl rfl ?_
  refine am_ev.step (pc' := 8) (ls' := [.ref q, .ref 41, iv 0, iv 0, am_ph]) rfl rfl ?_
  exact q9
theorem ll_85 (S : fS h) (v1 : h.2.2.2 48 1 = iv m) (hm : m < 80) (O : am_isO h q 4 = true) (hs : h.2.2.1 q = (0, 4, am_N 4)) : am_ev d 85 0 (am_ent [.ref 48, .ref q] 2) [] h (some (iv m), (am_put (am_put h 49 m (.ref q)) 48 1 (iv ((m : Int) + 1)))) := by
  have wr : am_isO h q (h.2.2.1 q).2.1 = true ∧ am_isA ((h.2.2.1 q).2.1 + 4) = true ∧ am_wr h 49 (Int32.ofInt (m : Int)) ((h.2.2.1 q).2.1 + 4) (.ref q) = some (am_put h 49 m (.ref q)) := by
    rw [hs]
    exact ⟨O, by decide +kernel, S.wr (k := m) rfl (show cq_fix 49 = (1, 8, 80) by decide +kernel) rfl rfl (by omega)⟩
  show am_ev d 85 0 [.ref 48, .ref q] [] h _
  refine am_ev.step (pc' := 1) rfl rfl ?_
  refine ax_gf (p' := 4) rfl rfl (S.ob rfl) v1 ?_
  refine fx_z_lt_F (pF := 7) rfl (by omega) rfl (by omega) ?_
  refine am_ev.step (pc' := 8) rfl rfl ?_
  refine ax_gf (p' := 11) rfl rfl (S.ob rfl) v1 ?_
  refine fx_bip (p' := 13) rfl rfl rfl ?_
  refine fx_c_lt_T (pT := 19) rfl (by omega) (by omega) rfl (by omega) ?_
  refine am_ev.step (pc' := 20) rfl rfl ?_
  refine ax_gf (p' := 23) rfl rfl (S.ob rfl) (S.rf rfl rfl) ?_
  refine am_ev.step (pc' := 24) rfl rfl ?_
  refine ax_gf (p' := 27) rfl rfl (S.ob rfl) v1 ?_
  refine am_ev.step (pc' := 28) rfl rfl ?_
  refine ax_aastore (p' := 29) rfl rfl wr ?_
  refine am_ev.step (pc' := 30) rfl rfl ?_
  refine am_ev.step (pc' := 31) rfl rfl ?_
  refine ax_gf (p' := 34) rfl rfl (fO (S.ob rfl)) (ax_put_o (Or.inl (by decide)) v1) ?_
  refine am_ev.step (pc' := 35) rfl rfl ?_
  refine fx_add (p' := 36) (e := ((m : Int) + 1)) rfl rfl (by omega) ?_
  refine ax_pf (p' := 39) rfl rfl (fO (S.ob rfl)) rfl ?_
  refine am_ev.step (pc' := 40) rfl rfl ?_
  refine ax_gf (p' := 43) rfl rfl (fO (fO (S.ob rfl))) (ax_put_s _ _ _) ?_
  refine am_ev.step (pc' := 44) rfl rfl ?_
  refine fx_sub (p' := 45) (e := ((m : Int))) rfl rfl (by omega) ?_
  exact fx_reti rfl rfl rfl
end LLA
section LLB
variable {d : Nat} {h k H : am_H} {b : Nat → Int} {L p s e n m q r : Nat} {v w : Int} {pp cc : Int32}
theorem ll_74r (S : fS h) (z : am_ev d 42 0 (am_ent [.ref 40, .int pp] 2) [] h (some .null, h)) : am_ev (d + 1) 74 0 (am_ent [.ref 40, .int pp] 4) [] h (some (iv (-2)), (am_put h 41 1 (iv 0))) := by
  show am_ev (d + 1) 74 0 [.ref 40, .int pp, am_ph, am_ph] [] h _
  refine am_ev.step (pc' := 1) rfl rfl ?_
  refine am_ev.step (pc' := 2) (ls' := [.ref 40, .int pp, iv (-1), am_ph]) rfl rfl ?_
  refine am_ev.step (pc' := 3) rfl rfl ?_
  refine am_ev.step (pc' := 4) rfl rfl ?_
  refine ax_call (z := 42) (p' := 7) (as := [_, _]) rfl (Or.inr (Or.inl ⟨_, rfl⟩)) rfl rfl rfl rfl rfl rfl (S.ob rfl) rfl z rfl ?_
  refine am_ev.step (pc' := 10) rfl rfl ?_
  refine fx_bip (p' := 12) rfl rfl rfl ?_
  refine am_ev.step (pc' := 13) (ls' := [.ref 40, .int pp, iv (-2), am_ph]) rfl rfl ?_
  refine am_ev.step (pc' := 67) rfl rfl ?_
  refine am_ev.step (pc' := 68) rfl rfl ?_
  refine ax_gf (p' := 71) rfl rfl (S.ob rfl) (S.rf rfl rfl) ?_
  refine am_ev.step (pc' := 72) rfl rfl ?_
  refine ax_pf (p' := 75) rfl rfl (S.ob rfl) rfl ?_
  refine am_ev.step (pc' := 76) rfl rfl ?_
  exact fx_reti rfl rfl rfl
theorem ll_74f (S : fS h) (z : am_ev d 42 0 (am_ent [.ref 40, .int pp] 2) [] h (some (.ref r), h)) (v1 : h.2.2.2 48 1 = iv m) (hm : 80 ≤ m ∧ m ≤ 100) : am_ev (d + 1) 74 0 (am_ent [.ref 40, .int pp] 4) [] h (some (iv (-3)), (am_put h 41 1 (iv 0))) := by
  show am_ev (d + 1) 74 0 [.ref 40, .int pp, am_ph, am_ph] [] h _
  refine am_ev.step (pc' := 1) rfl rfl ?_
  refine am_ev.step (pc' := 2) (ls' := [.ref 40, .int pp, iv (-1), am_ph]) rfl rfl ?_
  refine am_ev.step (pc' := 3) rfl rfl ?_
  refine am_ev.step (pc' := 4) rfl rfl ?_
  refine ax_call (z := 42) (p' := 7) (as := [_, _]) rfl (Or.inr (Or.inl ⟨_, rfl⟩)) rfl rfl rfl rfl rfl rfl (S.ob rfl) rfl z rfl ?_
  refine am_ev.step (pc' := 16) rfl rfl ?_
  refine am_ev.step (pc' := 17) rfl rfl ?_
  refine ax_gf (p' := 20) rfl rfl (S.ob rfl) (S.rf rfl rfl) ?_
  refine ax_gf (p' := 23) rfl rfl (S.ob rfl) v1 ?_
  refine fx_bip (p' := 25) rfl rfl rfl ?_
  refine fx_c_lt_F (pF := 28) rfl (by omega) (by omega) rfl (by omega) ?_
  refine fx_bip (p' := 30) rfl rfl rfl ?_
  refine am_ev.step (pc' := 31) (ls' := [.ref 40, .int pp, iv (-3), am_ph]) rfl rfl ?_
  refine am_ev.step (pc' := 67) rfl rfl ?_
  refine am_ev.step (pc' := 68) rfl rfl ?_
  refine ax_gf (p' := 71) rfl rfl (S.ob rfl) (S.rf rfl rfl) ?_
  refine am_ev.step (pc' := 72) rfl rfl ?_
  refine ax_pf (p' := 75) rfl rfl (S.ob rfl) rfl ?_
  refine am_ev.step (pc' := 76) rfl rfl ?_
  exact fx_reti rfl rfl rfl
theorem ll_74a (S : fS h) (z : am_ev d 42 0 (am_ent [.ref 40, .int pp] 2) [] h (some (.ref r), h)) (v1 : h.2.2.2 48 1 = iv m) (hm : m < 80) {x : Option Value × am_H} (q9 : am_ev (d + 1) 74 34 [.ref 40, .int pp, iv (-1), am_ph] [] h x) : am_ev (d + 1) 74 0 (am_ent [.ref 40, .int pp] 4) [] h x := by
  show am_ev (d + 1) 74 0 [.ref 40, .int pp, am_ph, am_ph] [] h x
  refine am_ev.step (pc' := 1) rfl rfl ?_
  refine am_ev.step (pc' := 2) (ls' := [.ref 40, .int pp, iv (-1), am_ph]) rfl rfl ?_
  refine am_ev.step (pc' := 3) rfl rfl ?_
  refine am_ev.step (pc' := 4) rfl rfl ?_
  refine ax_call (z := 42) (p' := 7) (as := [_, _]) rfl (Or.inr (Or.inl ⟨_, rfl⟩)) rfl rfl rfl rfl rfl rfl (S.ob rfl) rfl z rfl ?_
  refine am_ev.step (pc' := 16) rfl rfl ?_
  refine am_ev.step (pc' := 17) rfl rfl ?_
  refine ax_gf (p' := 20) rfl rfl (S.ob rfl) (S.rf rfl rfl) ?_
  refine ax_gf (p' := 23) rfl rfl (S.ob rfl) v1 ?_
  refine fx_bip (p' := 25) rfl rfl rfl ?_
  refine fx_c_lt_T (pT := 34) rfl (by omega) (by omega) rfl (by omega) ?_
  exact q9
theorem ll_74n (S : fS h) (O : am_isO h q 4 = true) (hq : 130 ≤ q) (v9 : h.2.2.2 40 9 = .int cc) (z : am_ev (d + 8) 76 0 (am_ent [.ref q, .ref 41] 5) [] (am_put (am_put (am_put (am_put (am_put (am_put (am_put (am_put (am_put (am_put (am_put h q 2 (iv 0)) q 3 (iv 29999)) q 4 (iv 0)) q 5 (iv 2)) q 6 (iv 0)) q 7 (iv (-1))) q 8 (iv 0)) q 9 (iv (-1))) q 10 (iv (-1))) q 0 (.int pp)) q 1 (.int cc)) (some (iv 0), H)) (SH : fS H) (OH : am_isO H q 4 = true) (v1 : H.2.2.2 48 1 = iv m) (hm : m < 80) (hs : H.2.2.1 q = (0, 4, am_N 4)) : am_ev (d + 9) 74 37 [.ref 40, .int pp, iv (-1), am_ph] [.ref q] h (some (iv (-1)), (am_put H 41 1 (iv 0))) := by
  refine am_ev.step (pc' := 38) rfl rfl ?_
  refine am_ev.step (pc' := 39) rfl rfl ?_
  refine am_ev.step (pc' := 40) rfl rfl ?_
  refine ax_gf (p' := 43) rfl rfl (S.ob rfl) v9 ?_
  refine ax_call (z := 75) (p' := 46) (as := [_, _, _]) rfl (Or.inr (Or.inr ⟨_, rfl⟩)) rfl rfl rfl rfl rfl rfl rfl rfl (ll_75 (q := q) S O hq) rfl ?_
  refine am_ev.step (pc' := 47) (ls' := [.ref 40, .int pp, iv (-1), .ref q]) rfl rfl ?_
  refine am_ev.step (pc' := 48) rfl rfl ?_
  refine am_ev.step (pc' := 49) rfl rfl ?_
  refine ax_gf (p' := 52) rfl rfl (fO (fO (fO (fO (fO (fO (fO (fO (fO (fO (fO (S.ob rfl)))))))))))) (ax_put_o (Or.inl (by omega)) (ax_put_o (Or.inl (by omega)) (ax_put_o (Or.inl (by omega)) (ax_put_o (Or.inl (by omega)) (ax_put_o (Or.inl (by omega)) (ax_put_o (Or.inl (by omega)) (ax_put_o (Or.inl (by omega)) (ax_put_o (Or.inl (by omega)) (ax_put_o (Or.inl (by omega)) (ax_put_o (Or.inl (by omega)) (ax_put_o (Or.inl (by omega)) (S.rf rfl rfl)))))))))))) ?_
  refine ax_call (z := 76) (p' := 55) (as := [_, _]) rfl (Or.inr (Or.inl ⟨_, rfl⟩)) rfl rfl rfl rfl rfl rfl (fO (fO (fO (fO (fO (fO (fO (fO (fO (fO (fO O))))))))))) rfl z rfl ?_
  refine fx_z_eq_T (pT := 67) rfl (by omega) rfl (by omega) ?_
  refine am_ev.step (pc' := 68) rfl rfl ?_
  refine ax_gf (p' := 71) rfl rfl (SH.ob rfl) (SH.rf rfl rfl) ?_
  refine am_ev.step (pc' := 72) rfl rfl ?_
  refine ax_pf (p' := 75) rfl rfl (SH.ob rfl) rfl ?_
  refine am_ev.step (pc' := 76) rfl rfl ?_
  exact fx_reti rfl rfl rfl
theorem ll_74y (S : fS h) (O : am_isO h q 4 = true) (hq : 130 ≤ q) (v9 : h.2.2.2 40 9 = .int cc) (z : am_ev (d + 8) 76 0 (am_ent [.ref q, .ref 41] 5) [] (am_put (am_put (am_put (am_put (am_put (am_put (am_put (am_put (am_put (am_put (am_put h q 2 (iv 0)) q 3 (iv 29999)) q 4 (iv 0)) q 5 (iv 2)) q 6 (iv 0)) q 7 (iv (-1))) q 8 (iv 0)) q 9 (iv (-1))) q 10 (iv (-1))) q 0 (.int pp)) q 1 (.int cc)) (some (iv 1), H)) (SH : fS H) (OH : am_isO H q 4 = true) (v1 : H.2.2.2 48 1 = iv m) (hm : m < 80) (hs : H.2.2.1 q = (0, 4, am_N 4)) : am_ev (d + 9) 74 37 [.ref 40, .int pp, iv (-1), am_ph] [.ref q] h (some (iv ((m : Int))), (am_put (am_put (am_put H 49 m (.ref q)) 48 1 (iv ((m : Int) + 1))) 41 1 (iv 0))) := by
  refine am_ev.step (pc' := 38) rfl rfl ?_
  refine am_ev.step (pc' := 39) rfl rfl ?_
  refine am_ev.step (pc' := 40) rfl rfl ?_
  refine ax_gf (p' := 43) rfl rfl (S.ob rfl) v9 ?_
  refine ax_call (z := 75) (p' := 46) (as := [_, _, _]) rfl (Or.inr (Or.inr ⟨_, rfl⟩)) rfl rfl rfl rfl rfl rfl rfl rfl (ll_75 (q := q) S O hq) rfl ?_
  refine am_ev.step (pc' := 47) (ls' := [.ref 40, .int pp, iv (-1), .ref q]) rfl rfl ?_
  refine am_ev.step (pc' := 48) rfl rfl ?_
  refine am_ev.step (pc' := 49) rfl rfl ?_
  refine ax_gf (p' := 52) rfl rfl (fO (fO (fO (fO (fO (fO (fO (fO (fO (fO (fO (S.ob rfl)))))))))))) (ax_put_o (Or.inl (by omega)) (ax_put_o (Or.inl (by omega)) (ax_put_o (Or.inl (by omega)) (ax_put_o (Or.inl (by omega)) (ax_put_o (Or.inl (by omega)) (ax_put_o (Or.inl (by omega)) (ax_put_o (Or.inl (by omega)) (ax_put_o (Or.inl (by omega)) (ax_put_o (Or.inl (by omega)) (ax_put_o (Or.inl (by omega)) (ax_put_o (Or.inl (by omega)) (S.rf rfl rfl)))))))))))) ?_
  refine ax_call (z := 76) (p' := 55) (as := [_, _]) rfl (Or.inr (Or.inl ⟨_, rfl⟩)) rfl rfl rfl rfl rfl rfl (fO (fO (fO (fO (fO (fO (fO (fO (fO (fO (fO O))))))))))) rfl z rfl ?_
  refine fx_z_eq_F (pF := 58) rfl (by omega) rfl (by omega) ?_
  refine am_ev.step (pc' := 59) rfl rfl ?_
  refine ax_gf (p' := 62) rfl rfl (SH.ob rfl) (SH.rf rfl rfl) ?_
  refine am_ev.step (pc' := 63) rfl rfl ?_
  refine ax_call (z := 85) (p' := 66) (as := [_, _]) rfl (Or.inr (Or.inl ⟨_, rfl⟩)) rfl rfl rfl rfl rfl rfl (SH.ob rfl) rfl (ll_85 (m := m) (q := q) SH v1 hm OH hs) rfl ?_
  refine am_ev.step (pc' := 67) (ls' := [.ref 40, .int pp, iv ((m : Int)), .ref q]) rfl rfl ?_
  refine am_ev.step (pc' := 68) rfl rfl ?_
  refine ax_gf (p' := 71) rfl rfl (fO (fO (SH.ob rfl))) (ax_put_o (Or.inl (by decide)) (ax_put_o (Or.inl (by decide)) (SH.rf rfl rfl))) ?_
  refine am_ev.step (pc' := 72) rfl rfl ?_
  refine ax_pf (p' := 75) rfl rfl (fO (fO (SH.ob rfl))) rfl ?_
  refine am_ev.step (pc' := 76) rfl rfl ?_
  exact fx_reti rfl rfl rfl
end LLB
section LLC
variable {d : Nat} {h g M : am_H} {b : Nat → Int} {L s e m : Nat} {k v w : Int} {pp cc : Int32} {Φ : Nat → Value}
theorem ll_208r (S : fS h) (v2 : h.2.2.2 78 2 = iv L) (z : am_ev (d + 2) 188 0 (am_ent [.ref 78, .int pp] 2) [] (am_put (am_put (am_put h 78 3 (iv ((L : Int)))) 78 2 (iv 0)) 78 5 (iv 0)) (some (iv 0), (am_put (am_put (am_put h 78 3 (iv ((L : Int)))) 78 2 (iv 0)) 78 5 (iv 0))))  : am_ev (d + 3) 208 0 (am_ent [.ref 78, .int pp] 3) [] h (some (iv (-2)), (am_put (am_put (am_put h 78 3 (iv ((L : Int)))) 78 2 (iv 0)) 78 5 (iv 0))) := by
  show am_ev (d + 3) 208 0 [.ref 78, .int pp, am_ph] [] h _
  refine am_ev.step (pc' := 1) rfl rfl ?_
  refine ax_call (z := 168) (p' := 4) (as := [_]) rfl (Or.inr (Or.inl ⟨_, rfl⟩)) rfl rfl rfl rfl rfl rfl (S.ob rfl) rfl (rw_168 S v2) rfl ?_
  refine am_ev.step (pc' := 5) rfl rfl ?_
  refine am_ev.step (pc' := 6) rfl rfl ?_
  refine ax_call (z := 188) (p' := 9) (as := [_, _]) rfl (Or.inr (Or.inl ⟨_, rfl⟩)) rfl rfl rfl rfl rfl rfl (fO (fO (fO (S.ob rfl)))) rfl z rfl ?_
  refine fx_z_ne_F (pF := 12) rfl (by omega) rfl (by omega) ?_
  refine fx_bip (p' := 14) rfl rfl rfl ?_
  exact fx_reti rfl rfl rfl
theorem ll_208f (S : fS h) (v2 : h.2.2.2 78 2 = iv L) (v35 : h.2.2.2 78 35 = iv m) (hm : m = 80) (z : am_ev (d + 2) 188 0 (am_ent [.ref 78, .int pp] 2) [] (am_put (am_put (am_put h 78 3 (iv ((L : Int)))) 78 2 (iv 0)) 78 5 (iv 0)) (some (iv 1), (am_put (am_put (am_put h 78 3 (iv ((L : Int)))) 78 2 (iv 0)) 78 5 (iv 0))))  : am_ev (d + 3) 208 0 (am_ent [.ref 78, .int pp] 3) [] h (some (iv (-3)), (am_put (am_put (am_put h 78 3 (iv ((L : Int)))) 78 2 (iv 0)) 78 5 (iv 0))) := by
  show am_ev (d + 3) 208 0 [.ref 78, .int pp, am_ph] [] h _
  refine am_ev.step (pc' := 1) rfl rfl ?_
  refine ax_call (z := 168) (p' := 4) (as := [_]) rfl (Or.inr (Or.inl ⟨_, rfl⟩)) rfl rfl rfl rfl rfl rfl (S.ob rfl) rfl (rw_168 S v2) rfl ?_
  refine am_ev.step (pc' := 5) rfl rfl ?_
  refine am_ev.step (pc' := 6) rfl rfl ?_
  refine ax_call (z := 188) (p' := 9) (as := [_, _]) rfl (Or.inr (Or.inl ⟨_, rfl⟩)) rfl rfl rfl rfl rfl rfl (fO (fO (fO (S.ob rfl)))) rfl z rfl ?_
  refine fx_z_ne_T (pT := 15) rfl (by omega) rfl (by omega) ?_
  refine am_ev.step (pc' := 16) rfl rfl ?_
  refine ax_gf (p' := 19) rfl rfl (fO (fO (fO (S.ob rfl)))) (ax_put_o (Or.inr (by decide)) (ax_put_o (Or.inr (by decide)) (ax_put_o (Or.inr (by decide)) v35))) ?_
  refine fx_bip (p' := 21) rfl rfl rfl ?_
  refine fx_c_ne_F (pF := 24) rfl (by omega) (by omega) rfl (by omega) ?_
  refine fx_bip (p' := 26) rfl rfl rfl ?_
  exact fx_reti rfl rfl rfl
theorem ll_208n (S : fS h) (B : tb h 80 b L) (hb : tz_r b) (hL : L ≤ 1600) (v2 : h.2.2.2 78 2 = iv L) (v7 : h.2.2.2 78 7 = iv w) (v35 : h.2.2.2 78 35 = iv m) (hm : m < 80) (z : am_ev (d + 9) 188 0 (am_ent [.ref 78, .int pp] 2) [] (am_put (am_put (am_put h 78 3 (iv ((L : Int)))) 78 2 (iv 0)) 78 5 (iv 0)) (some (iv 1), (am_put (am_put (am_put h 78 3 (iv ((L : Int)))) 78 2 (iv 0)) 78 5 (iv 0)))) (t0 : tz_t b L 0 s e k v) (SM : fS M) (z2 : am_ev (d + 9) 209 0 (am_ent [.ref 78] 2) [] (am_put (am_put (am_put (am_put (am_put (am_put (am_put (am_put (am_put h 78 3 (iv ((L : Int)))) 78 2 (iv 0)) 78 5 (iv 0)) 78 8 (iv 0)) 78 9 (iv (-1))) 78 4 (iv ((s : Int)))) 78 7 (iv ((tV b L s (w))))) 78 5 (iv ((e : Int)))) 78 6 (iv ((tH k)))) (none, M)) {x : Option Value × am_H} (q9 : am_ev (d + 10) 208 41 [.ref 78, .int pp, am_ph] [] M x) : am_ev (d + 10) 208 0 (am_ent [.ref 78, .int pp] 3) [] h x := by
  show am_ev (d + 10) 208 0 [.ref 78, .int pp, am_ph] [] h x
  refine am_ev.step (pc' := 1) rfl rfl ?_
  refine ax_call (z := 168) (p' := 4) (as := [_]) rfl (Or.inr (Or.inl ⟨_, rfl⟩)) rfl rfl rfl rfl rfl rfl (S.ob rfl) rfl (rw_168 S v2) rfl ?_
  refine am_ev.step (pc' := 5) rfl rfl ?_
  refine am_ev.step (pc' := 6) rfl rfl ?_
  refine ax_call (z := 188) (p' := 9) (as := [_, _]) rfl (Or.inr (Or.inl ⟨_, rfl⟩)) rfl rfl rfl rfl rfl rfl (fO (fO (fO (S.ob rfl)))) rfl z rfl ?_
  refine fx_z_ne_T (pT := 15) rfl (by omega) rfl (by omega) ?_
  refine am_ev.step (pc' := 16) rfl rfl ?_
  refine ax_gf (p' := 19) rfl rfl (fO (fO (fO (S.ob rfl)))) (ax_put_o (Or.inr (by decide)) (ax_put_o (Or.inr (by decide)) (ax_put_o (Or.inr (by decide)) v35))) ?_
  refine fx_bip (p' := 21) rfl rfl rfl ?_
  refine fx_c_ne_T (pT := 27) rfl (by omega) (by omega) rfl (by omega) ?_
  refine am_ev.step (pc' := 28) rfl rfl ?_
  refine ax_call (z := 169) (p' := 31) (as := [_]) rfl (Or.inr (Or.inl ⟨_, rfl⟩)) rfl rfl rfl rfl rfl rfl (fO (fO (fO (S.ob rfl)))) rfl (rw_169 (((S.po rfl rfl).po rfl rfl).po rfl rfl) (((B.put (by decide)).put (by decide)).put (by decide)) hb hL (ax_put_o (Or.inr (by decide)) (ax_put_o (Or.inr (by decide)) (ax_put_s _ _ _))) (ax_put_s _ _ _) (ax_put_o (Or.inr (by decide)) (ax_put_o (Or.inr (by decide)) (ax_put_o (Or.inr (by decide)) v7))) t0) rfl ?_
  refine am_ev.step (pc' := 32) rfl rfl ?_
  refine ax_call (z := 209) (p' := 35) (as := [_]) rfl (Or.inr (Or.inl ⟨_, rfl⟩)) rfl rfl rfl rfl rfl rfl (fO (fO (fO (fO (fO (fO (fO (fO (fO (S.ob rfl)))))))))) rfl z2 rfl ?_
  refine am_ev.step (pc' := 41) rfl rfl ?_
  exact q9
theorem ll_208t (S : fS h) (B : tb h 80 b L) (hb : tz_r b) (hL : L ≤ 1600) (v2 : h.2.2.2 78 2 = iv L) (v7 : h.2.2.2 78 7 = iv w) (v35 : h.2.2.2 78 35 = iv m) (hm : m < 80) (z : am_ev (d + 9) 188 0 (am_ent [.ref 78, .int pp] 2) [] (am_put (am_put (am_put h 78 3 (iv ((L : Int)))) 78 2 (iv 0)) 78 5 (iv 0)) (some (iv 1), (am_put (am_put (am_put h 78 3 (iv ((L : Int)))) 78 2 (iv 0)) 78 5 (iv 0)))) (t0 : tz_t b L 0 s e k v) (SM : fS M) (z2 : am_ev (d + 9) 209 0 (am_ent [.ref 78] 2) [] (am_put (am_put (am_put (am_put (am_put (am_put (am_put (am_put (am_put h 78 3 (iv ((L : Int)))) 78 2 (iv 0)) 78 5 (iv 0)) 78 8 (iv 0)) 78 9 (iv (-1))) 78 4 (iv ((s : Int)))) 78 7 (iv ((tV b L s (w))))) 78 5 (iv ((e : Int)))) 78 6 (iv ((tH k)))) (some (.retAddr (79 + 1)), M)) : am_ev (d + 10) 208 0 (am_ent [.ref 78, .int pp] 3) [] h (some (iv (-1)), M) := by
  show am_ev (d + 10) 208 0 [.ref 78, .int pp, am_ph] [] h _
  refine am_ev.step (pc' := 1) rfl rfl ?_
  refine ax_call (z := 168) (p' := 4) (as := [_]) rfl (Or.inr (Or.inl ⟨_, rfl⟩)) rfl rfl rfl rfl rfl rfl (S.ob rfl) rfl (rw_168 S v2) rfl ?_
  refine am_ev.step (pc' := 5) rfl rfl ?_
  refine am_ev.step (pc' := 6) rfl rfl ?_
  refine ax_call (z := 188) (p' := 9) (as := [_, _]) rfl (Or.inr (Or.inl ⟨_, rfl⟩)) rfl rfl rfl rfl rfl rfl (fO (fO (fO (S.ob rfl)))) rfl z rfl ?_
  refine fx_z_ne_T (pT := 15) rfl (by omega) rfl (by omega) ?_
  refine am_ev.step (pc' := 16) rfl rfl ?_
  refine ax_gf (p' := 19) rfl rfl (fO (fO (fO (S.ob rfl)))) (ax_put_o (Or.inr (by decide)) (ax_put_o (Or.inr (by decide)) (ax_put_o (Or.inr (by decide)) v35))) ?_
  refine fx_bip (p' := 21) rfl rfl rfl ?_
  refine fx_c_ne_T (pT := 27) rfl (by omega) (by omega) rfl (by omega) ?_
  refine am_ev.step (pc' := 28) rfl rfl ?_
  refine ax_call (z := 169) (p' := 31) (as := [_]) rfl (Or.inr (Or.inl ⟨_, rfl⟩)) rfl rfl rfl rfl rfl rfl (fO (fO (fO (S.ob rfl)))) rfl (rw_169 (((S.po rfl rfl).po rfl rfl).po rfl rfl) (((B.put (by decide)).put (by decide)).put (by decide)) hb hL (ax_put_o (Or.inr (by decide)) (ax_put_o (Or.inr (by decide)) (ax_put_s _ _ _))) (ax_put_s _ _ _) (ax_put_o (Or.inr (by decide)) (ax_put_o (Or.inr (by decide)) (ax_put_o (Or.inr (by decide)) v7))) t0) rfl ?_
  refine am_ev.step (pc' := 32) rfl rfl ?_
  refine ax_callC (p' := 38) (z := 209) (as := [_]) rfl (Or.inr (Or.inl ⟨_, rfl⟩)) rfl rfl rfl rfl rfl rfl (fO (fO (fO (fO (fO (fO (fO (fO (fO (S.ob rfl)))))))))) z2 rfl rfl (SM.ob rfl) rfl ?_
  refine am_ev.step (pc' := 39) (ls' := [.ref 78, .int pp, .ref 79]) rfl rfl ?_
  refine am_ev.step (pc' := 40) rfl rfl ?_
  exact fx_reti rfl rfl rfl
theorem ll_209 (S : fS h) (B : tb h 80 b L) (v3 : h.2.2.2 78 3 = iv L) (v4 : h.2.2.2 78 4 = iv s) (v5 : h.2.2.2 78 5 = iv e) (v6 : h.2.2.2 78 6 = iv (tH k)) (v7 : h.2.2.2 78 7 = iv w) (v8 : h.2.2.2 78 8 = iv 0) (v9 : h.2.2.2 78 9 = iv (-1)) (v2 : h.2.2.2 78 2 = iv 0) (t0 : tz_t b L 0 s e k v) (y0 : (k = 2 → w = v) ∧ (43 ≤ k → w = k)) : ∃ H : am_H, lM H h b L 0 s e k v w (fun _ => 0) lv_0 ∧ ∀ x, am_ev d 209 79 [.ref 78, iv 7] [] H x → am_ev d 209 0 (am_ent [.ref 78] 2) [] h x := by
  refine ⟨(am_put (am_put (am_put (am_put (am_put (am_put (am_put (am_put (am_put (am_put (am_put (am_put (am_put (am_put h 104 80 (iv 0)) 105 80 (iv 29999)) 106 80 (iv 0)) 107 80 (iv 2)) 108 80 (iv 0)) 109 80 (iv (-1))) 110 80 (iv 0)) 85 0 (iv 0)) 85 1 (iv 0)) 85 2 (iv 0)) 85 3 (iv 0)) 85 4 (iv 0)) 85 5 (iv 0)) 85 6 (iv 0)), ⟨((((((((((((((S.pa rfl).pa rfl).pa rfl).pa rfl).pa rfl).pa rfl).pa rfl).pa rfl).pa rfl).pa rfl).pa rfl).pa rfl).pa rfl).pa rfl), ((((((((((((((B.put (by decide)).put (by decide)).put (by decide)).put (by decide)).put (by decide)).put (by decide)).put (by decide)).put (by decide)).put (by decide)).put (by decide)).put (by decide)).put (by decide)).put (by decide)).put (by decide)), (ax_put_o (Or.inl (by decide)) (ax_put_o (Or.inl (by decide)) (ax_put_o (Or.inl (by decide)) (ax_put_o (Or.inl (by decide)) (ax_put_o (Or.inl (by decide)) (ax_put_o (Or.inl (by decide)) (ax_put_o (Or.inl (by decide)) (ax_put_o (Or.inl (by decide)) (ax_put_o (Or.inl (by decide)) (ax_put_o (Or.inl (by decide)) (ax_put_o (Or.inl (by decide)) (ax_put_o (Or.inl (by decide)) (ax_put_o (Or.inl (by decide)) (ax_put_o (Or.inl (by decide)) v3)))))))))))))), t0, (ax_put_o (Or.inl (by decide)) (ax_put_o (Or.inl (by decide)) (ax_put_o (Or.inl (by decide)) (ax_put_o (Or.inl (by decide)) (ax_put_o (Or.inl (by decide)) (ax_put_o (Or.inl (by decide)) (ax_put_o (Or.inl (by decide)) (ax_put_o (Or.inl (by decide)) (ax_put_o (Or.inl (by decide)) (ax_put_o (Or.inl (by decide)) (ax_put_o (Or.inl (by decide)) (ax_put_o (Or.inl (by decide)) (ax_put_o (Or.inl (by decide)) (ax_put_o (Or.inl (by decide)) v4)))))))))))))), (ax_put_o (Or.inl (by decide)) (ax_put_o (Or.inl (by decide)) (ax_put_o (Or.inl (by decide)) (ax_put_o (Or.inl (by decide)) (ax_put_o (Or.inl (by decide)) (ax_put_o (Or.inl (by decide)) (ax_put_o (Or.inl (by decide)) (ax_put_o (Or.inl (by decide)) (ax_put_o (Or.inl (by decide)) (ax_put_o (Or.inl (by decide)) (ax_put_o (Or.inl (by decide)) (ax_put_o (Or.inl (by decide)) (ax_put_o (Or.inl (by decide)) (ax_put_o (Or.inl (by decide)) v5)))))))))))))), (ax_put_o (Or.inl (by decide)) (ax_put_o (Or.inl (by decide)) (ax_put_o (Or.inl (by decide)) (ax_put_o (Or.inl (by decide)) (ax_put_o (Or.inl (by decide)) (ax_put_o (Or.inl (by decide)) (ax_put_o (Or.inl (by decide)) (ax_put_o (Or.inl (by decide)) (ax_put_o (Or.inl (by decide)) (ax_put_o (Or.inl (by decide)) (ax_put_o (Or.inl (by decide)) (ax_put_o (Or.inl (by decide)) (ax_put_o (Or.inl (by decide)) (ax_put_o (Or.inl (by decide)) v6)))))))))))))), (ax_put_o (Or.inl (by decide)) (ax_put_o (Or.inl (by decide)) (ax_put_o (Or.inl (by decide)) (ax_put_o (Or.inl (by decide)) (ax_put_o (Or.inl (by decide)) (ax_put_o (Or.inl (by decide)) (ax_put_o (Or.inl (by decide)) (ax_put_o (Or.inl (by decide)) (ax_put_o (Or.inl (by decide)) (ax_put_o (Or.inl (by decide)) (ax_put_o (Or.inl (by decide)) (ax_put_o (Or.inl (by decide)) (ax_put_o (Or.inl (by decide)) (ax_put_o (Or.inl (by decide)) v7)))))))))))))), y0.1, y0.2, (ax_put_o (Or.inl (by decide)) (ax_put_o (Or.inl (by decide)) (ax_put_o (Or.inl (by decide)) (ax_put_o (Or.inl (by decide)) (ax_put_o (Or.inl (by decide)) (ax_put_o (Or.inl (by decide)) (ax_put_o (Or.inl (by decide)) (ax_put_o (Or.inl (by decide)) (ax_put_o (Or.inl (by decide)) (ax_put_o (Or.inl (by decide)) (ax_put_o (Or.inl (by decide)) (ax_put_o (Or.inl (by decide)) (ax_put_o (Or.inl (by decide)) (ax_put_o (Or.inl (by decide)) v8)))))))))))))), (ax_put_o (Or.inl (by decide)) (ax_put_o (Or.inl (by decide)) (ax_put_o (Or.inl (by decide)) (ax_put_o (Or.inl (by decide)) (ax_put_o (Or.inl (by decide)) (ax_put_o (Or.inl (by decide)) (ax_put_o (Or.inl (by decide)) (ax_put_o (Or.inl (by decide)) (ax_put_o (Or.inl (by decide)) (ax_put_o (Or.inl (by decide)) (ax_put_o (Or.inl (by decide)) (ax_put_o (Or.inl (by decide)) (ax_put_o (Or.inl (by decide)) (ax_put_o (Or.inl (by decide)) v9)))))))))))))), (ax_put_o (Or.inl (by decide)) (ax_put_o (Or.inl (by decide)) (ax_put_o (Or.inl (by decide)) (ax_put_o (Or.inl (by decide)) (ax_put_o (Or.inl (by decide)) (ax_put_o (Or.inl (by decide)) (ax_put_o (Or.inl (by decide)) (ax_put_o (Or.inl (by decide)) (ax_put_o (Or.inl (by decide)) (ax_put_o (Or.inl (by decide)) (ax_put_o (Or.inl (by decide)) (ax_put_o (Or.inl (by decide)) (ax_put_o (Or.inl (by decide)) (ax_put_o (Or.inl (by decide)) v2)))))))))))))), (fun j hj => by
      have hj2 : j = 0 ∨ j = 1 ∨ j = 2 ∨ j = 3 ∨ j = 4 ∨ j = 5 := by omega
      rcases hj2 with rfl | rfl | rfl | rfl | rfl | rfl
      · exact (ax_put_o (Or.inr (by decide)) (ax_put_o (Or.inr (by decide)) (ax_put_o (Or.inr (by decide)) (ax_put_o (Or.inr (by decide)) (ax_put_o (Or.inr (by decide)) (ax_put_o (Or.inr (by decide)) (ax_put_s _ _ _)))))))
      · exact (ax_put_o (Or.inr (by decide)) (ax_put_o (Or.inr (by decide)) (ax_put_o (Or.inr (by decide)) (ax_put_o (Or.inr (by decide)) (ax_put_o (Or.inr (by decide)) (ax_put_s _ _ _))))))
      · exact (ax_put_o (Or.inr (by decide)) (ax_put_o (Or.inr (by decide)) (ax_put_o (Or.inr (by decide)) (ax_put_o (Or.inr (by decide)) (ax_put_s _ _ _)))))
      · exact (ax_put_o (Or.inr (by decide)) (ax_put_o (Or.inr (by decide)) (ax_put_o (Or.inr (by decide)) (ax_put_s _ _ _))))
      · exact (ax_put_o (Or.inr (by decide)) (ax_put_o (Or.inr (by decide)) (ax_put_s _ _ _)))
      · exact (ax_put_o (Or.inr (by decide)) (ax_put_s _ _ _))), (fun j a c => by
      have hj : j = 2 ∨ j = 3 ∨ j = 4 ∨ j = 5 ∨ j = 6 ∨ j = 7 ∨ j = 8 := by omega
      rcases hj with rfl | rfl | rfl | rfl | rfl | rfl | rfl
      · exact (ax_put_o (Or.inl (by decide)) (ax_put_o (Or.inl (by decide)) (ax_put_o (Or.inl (by decide)) (ax_put_o (Or.inl (by decide)) (ax_put_o (Or.inl (by decide)) (ax_put_o (Or.inl (by decide)) (ax_put_o (Or.inl (by decide)) (ax_put_o (Or.inl (by decide)) (ax_put_o (Or.inl (by decide)) (ax_put_o (Or.inl (by decide)) (ax_put_o (Or.inl (by decide)) (ax_put_o (Or.inl (by decide)) (ax_put_o (Or.inl (by decide)) (ax_put_s _ _ _))))))))))))))
      · exact (ax_put_o (Or.inl (by decide)) (ax_put_o (Or.inl (by decide)) (ax_put_o (Or.inl (by decide)) (ax_put_o (Or.inl (by decide)) (ax_put_o (Or.inl (by decide)) (ax_put_o (Or.inl (by decide)) (ax_put_o (Or.inl (by decide)) (ax_put_o (Or.inl (by decide)) (ax_put_o (Or.inl (by decide)) (ax_put_o (Or.inl (by decide)) (ax_put_o (Or.inl (by decide)) (ax_put_o (Or.inl (by decide)) (ax_put_s _ _ _)))))))))))))
      · exact (ax_put_o (Or.inl (by decide)) (ax_put_o (Or.inl (by decide)) (ax_put_o (Or.inl (by decide)) (ax_put_o (Or.inl (by decide)) (ax_put_o (Or.inl (by decide)) (ax_put_o (Or.inl (by decide)) (ax_put_o (Or.inl (by decide)) (ax_put_o (Or.inl (by decide)) (ax_put_o (Or.inl (by decide)) (ax_put_o (Or.inl (by decide)) (ax_put_o (Or.inl (by decide)) (ax_put_s _ _ _))))))))))))
      · exact (ax_put_o (Or.inl (by decide)) (ax_put_o (Or.inl (by decide)) (ax_put_o (Or.inl (by decide)) (ax_put_o (Or.inl (by decide)) (ax_put_o (Or.inl (by decide)) (ax_put_o (Or.inl (by decide)) (ax_put_o (Or.inl (by decide)) (ax_put_o (Or.inl (by decide)) (ax_put_o (Or.inl (by decide)) (ax_put_o (Or.inl (by decide)) (ax_put_s _ _ _)))))))))))
      · exact (ax_put_o (Or.inl (by decide)) (ax_put_o (Or.inl (by decide)) (ax_put_o (Or.inl (by decide)) (ax_put_o (Or.inl (by decide)) (ax_put_o (Or.inl (by decide)) (ax_put_o (Or.inl (by decide)) (ax_put_o (Or.inl (by decide)) (ax_put_o (Or.inl (by decide)) (ax_put_o (Or.inl (by decide)) (ax_put_s _ _ _))))))))))
      · exact (ax_put_o (Or.inl (by decide)) (ax_put_o (Or.inl (by decide)) (ax_put_o (Or.inl (by decide)) (ax_put_o (Or.inl (by decide)) (ax_put_o (Or.inl (by decide)) (ax_put_o (Or.inl (by decide)) (ax_put_o (Or.inl (by decide)) (ax_put_o (Or.inl (by decide)) (ax_put_s _ _ _)))))))))
      · exact (ax_put_o (Or.inl (by decide)) (ax_put_o (Or.inl (by decide)) (ax_put_o (Or.inl (by decide)) (ax_put_o (Or.inl (by decide)) (ax_put_o (Or.inl (by decide)) (ax_put_o (Or.inl (by decide)) (ax_put_o (Or.inl (by decide)) (ax_put_s _ _ _))))))))), (fun c j n1 n2 n3 => (ax_put_o (by omega) (ax_put_o (by omega) (ax_put_o (by omega) (ax_put_o (by omega) (ax_put_o (by omega) (ax_put_o (by omega) (ax_put_o (by omega) (ax_put_o (by omega) (ax_put_o (by omega) (ax_put_o (by omega) (ax_put_o (by omega) (ax_put_o (by omega) (ax_put_o (by omega) (ax_put_o (by omega) rfl)))))))))))))))⟩, fun x q9 => ?_⟩
  show am_ev d 209 0 [.ref 78, am_ph] [] h x
  refine am_ev.step (pc' := 1) rfl rfl ?_
  refine ax_gf (p' := 4) rfl rfl (S.ob rfl) (S.rf rfl rfl) ?_
  refine fx_bip (p' := 6) rfl rfl rfl ?_
  refine am_ev.step (pc' := 7) rfl rfl ?_
  refine ax_iastore (p' := 8) rfl rfl (S.wr (k := 80) rfl rfl rfl rfl (by decide)) ?_
  refine am_ev.step (pc' := 9) rfl rfl ?_
  refine ax_gf (p' := 12) rfl rfl (fO (S.ob rfl)) (ax_put_o (Or.inl (by decide)) (S.rf rfl rfl)) ?_
  refine fx_bip (p' := 14) rfl rfl rfl ?_
  refine fx_sip (p' := 17) rfl rfl rfl ?_
  refine ax_iastore (p' := 18) rfl rfl ((S.pa rfl).wr (k := 80) rfl rfl rfl rfl (by decide)) ?_
  refine am_ev.step (pc' := 19) rfl rfl ?_
  refine ax_gf (p' := 22) rfl rfl (fO (fO (S.ob rfl))) (ax_put_o (Or.inl (by decide)) (ax_put_o (Or.inl (by decide)) (S.rf rfl rfl))) ?_
  refine fx_bip (p' := 24) rfl rfl rfl ?_
  refine am_ev.step (pc' := 25) rfl rfl ?_
  refine ax_iastore (p' := 26) rfl rfl (((S.pa rfl).pa rfl).wr (k := 80) rfl rfl rfl rfl (by decide)) ?_
  refine am_ev.step (pc' := 27) rfl rfl ?_
  refine ax_gf (p' := 30) rfl rfl (fO (fO (fO (S.ob rfl)))) (ax_put_o (Or.inl (by decide)) (ax_put_o (Or.inl (by decide)) (ax_put_o (Or.inl (by decide)) (S.rf rfl rfl)))) ?_
  refine fx_bip (p' := 32) rfl rfl rfl ?_
  refine am_ev.step (pc' := 33) rfl rfl ?_
  refine ax_iastore (p' := 34) rfl rfl ((((S.pa rfl).pa rfl).pa rfl).wr (k := 80) rfl rfl rfl rfl (by decide)) ?_
  refine am_ev.step (pc' := 35) rfl rfl ?_
  refine ax_gf (p' := 38) rfl rfl (fO (fO (fO (fO (S.ob rfl))))) (ax_put_o (Or.inl (by decide)) (ax_put_o (Or.inl (by decide)) (ax_put_o (Or.inl (by decide)) (ax_put_o (Or.inl (by decide)) (S.rf rfl rfl))))) ?_
  refine fx_bip (p' := 40) rfl rfl rfl ?_
  refine am_ev.step (pc' := 41) rfl rfl ?_
  refine ax_iastore (p' := 42) rfl rfl (((((S.pa rfl).pa rfl).pa rfl).pa rfl).wr (k := 80) rfl rfl rfl rfl (by decide)) ?_
  refine am_ev.step (pc' := 43) rfl rfl ?_
  refine ax_gf (p' := 46) rfl rfl (fO (fO (fO (fO (fO (S.ob rfl)))))) (ax_put_o (Or.inl (by decide)) (ax_put_o (Or.inl (by decide)) (ax_put_o (Or.inl (by decide)) (ax_put_o (Or.inl (by decide)) (ax_put_o (Or.inl (by decide)) (S.rf rfl rfl)))))) ?_
  refine fx_bip (p' := 48) rfl rfl rfl ?_
  refine am_ev.step (pc' := 49) rfl rfl ?_
  refine ax_iastore (p' := 50) rfl rfl ((((((S.pa rfl).pa rfl).pa rfl).pa rfl).pa rfl).wr (k := 80) rfl rfl rfl rfl (by decide)) ?_
  refine am_ev.step (pc' := 51) rfl rfl ?_
  refine ax_gf (p' := 54) rfl rfl (fO (fO (fO (fO (fO (fO (S.ob rfl))))))) (ax_put_o (Or.inl (by decide)) (ax_put_o (Or.inl (by decide)) (ax_put_o (Or.inl (by decide)) (ax_put_o (Or.inl (by decide)) (ax_put_o (Or.inl (by decide)) (ax_put_o (Or.inl (by decide)) (S.rf rfl rfl))))))) ?_
  refine fx_bip (p' := 56) rfl rfl rfl ?_
  refine am_ev.step (pc' := 57) rfl rfl ?_
  refine ax_iastore (p' := 58) rfl rfl (((((((S.pa rfl).pa rfl).pa rfl).pa rfl).pa rfl).pa rfl).wr (k := 80) rfl rfl rfl rfl (by decide)) ?_
  refine am_ev.step (pc' := 59) rfl rfl ?_
  refine am_ev.step (pc' := 60) (ls' := [.ref 78, iv 0]) rfl rfl ?_
  refine am_ev.step (pc' := 61) rfl rfl ?_
  refine fx_bip (p' := 63) rfl rfl rfl ?_
  refine fx_c_ge_F (pF := 66) rfl (by omega) (by omega) rfl (by omega) ?_
  refine am_ev.step (pc' := 67) rfl rfl ?_
  refine ax_gf (p' := 70) rfl rfl (fO (fO (fO (fO (fO (fO (fO (S.ob rfl)))))))) (ax_put_o (Or.inl (by decide)) (ax_put_o (Or.inl (by decide)) (ax_put_o (Or.inl (by decide)) (ax_put_o (Or.inl (by decide)) (ax_put_o (Or.inl (by decide)) (ax_put_o (Or.inl (by decide)) (ax_put_o (Or.inl (by decide)) (S.rf rfl rfl)))))))) ?_
  refine am_ev.step (pc' := 71) rfl rfl ?_
  refine am_ev.step (pc' := 72) rfl rfl ?_
  refine ax_bas2 (p' := 73) rfl rfl ((((((((S.pa rfl).pa rfl).pa rfl).pa rfl).pa rfl).pa rfl).pa rfl).wr (k := 0) rfl rfl rfl rfl (by decide)) ((((((((S.pa rfl).pa rfl).pa rfl).pa rfl).pa rfl).pa rfl).pa rfl).sb rfl rfl) (by decide) ?_
  refine fx_inc (p' := 76) (e := 1) (ls' := [.ref 78, iv 1]) rfl rfl rfl (by omega) rfl ?_
  refine am_ev.step (pc' := 60) rfl rfl ?_
  refine am_ev.step (pc' := 61) rfl rfl ?_
  refine fx_bip (p' := 63) rfl rfl rfl ?_
  refine fx_c_ge_F (pF := 66) rfl (by omega) (by omega) rfl (by omega) ?_
  refine am_ev.step (pc' := 67) rfl rfl ?_
  refine ax_gf (p' := 70) rfl rfl (fO (fO (fO (fO (fO (fO (fO (fO (S.ob rfl))))))))) (ax_put_o (Or.inl (by decide)) (ax_put_o (Or.inl (by decide)) (ax_put_o (Or.inl (by decide)) (ax_put_o (Or.inl (by decide)) (ax_put_o (Or.inl (by decide)) (ax_put_o (Or.inl (by decide)) (ax_put_o (Or.inl (by decide)) (ax_put_o (Or.inl (by decide)) (S.rf rfl rfl))))))))) ?_
  refine am_ev.step (pc' := 71) rfl rfl ?_
  refine am_ev.step (pc' := 72) rfl rfl ?_
  refine ax_bas2 (p' := 73) rfl rfl (((((((((S.pa rfl).pa rfl).pa rfl).pa rfl).pa rfl).pa rfl).pa rfl).pa rfl).wr (k := 1) rfl rfl rfl rfl (by decide)) (((((((((S.pa rfl).pa rfl).pa rfl).pa rfl).pa rfl).pa rfl).pa rfl).pa rfl).sb rfl rfl) (by decide) ?_
  refine fx_inc (p' := 76) (e := 2) (ls' := [.ref 78, iv 2]) rfl rfl rfl (by omega) rfl ?_
  refine am_ev.step (pc' := 60) rfl rfl ?_
  refine am_ev.step (pc' := 61) rfl rfl ?_
  refine fx_bip (p' := 63) rfl rfl rfl ?_
  refine fx_c_ge_F (pF := 66) rfl (by omega) (by omega) rfl (by omega) ?_
  refine am_ev.step (pc' := 67) rfl rfl ?_
  refine ax_gf (p' := 70) rfl rfl (fO (fO (fO (fO (fO (fO (fO (fO (fO (S.ob rfl)))))))))) (ax_put_o (Or.inl (by decide)) (ax_put_o (Or.inl (by decide)) (ax_put_o (Or.inl (by decide)) (ax_put_o (Or.inl (by decide)) (ax_put_o (Or.inl (by decide)) (ax_put_o (Or.inl (by decide)) (ax_put_o (Or.inl (by decide)) (ax_put_o (Or.inl (by decide)) (ax_put_o (Or.inl (by decide)) (S.rf rfl rfl)))))))))) ?_
  refine am_ev.step (pc' := 71) rfl rfl ?_
  refine am_ev.step (pc' := 72) rfl rfl ?_
  refine ax_bas2 (p' := 73) rfl rfl ((((((((((S.pa rfl).pa rfl).pa rfl).pa rfl).pa rfl).pa rfl).pa rfl).pa rfl).pa rfl).wr (k := 2) rfl rfl rfl rfl (by decide)) ((((((((((S.pa rfl).pa rfl).pa rfl).pa rfl).pa rfl).pa rfl).pa rfl).pa rfl).pa rfl).sb rfl rfl) (by decide) ?_
  refine fx_inc (p' := 76) (e := 3) (ls' := [.ref 78, iv 3]) rfl rfl rfl (by omega) rfl ?_
  refine am_ev.step (pc' := 60) rfl rfl ?_
  refine am_ev.step (pc' := 61) rfl rfl ?_
  refine fx_bip (p' := 63) rfl rfl rfl ?_
  refine fx_c_ge_F (pF := 66) rfl (by omega) (by omega) rfl (by omega) ?_
  refine am_ev.step (pc' := 67) rfl rfl ?_
  refine ax_gf (p' := 70) rfl rfl (fO (fO (fO (fO (fO (fO (fO (fO (fO (fO (S.ob rfl))))))))))) (ax_put_o (Or.inl (by decide)) (ax_put_o (Or.inl (by decide)) (ax_put_o (Or.inl (by decide)) (ax_put_o (Or.inl (by decide)) (ax_put_o (Or.inl (by decide)) (ax_put_o (Or.inl (by decide)) (ax_put_o (Or.inl (by decide)) (ax_put_o (Or.inl (by decide)) (ax_put_o (Or.inl (by decide)) (ax_put_o (Or.inl (by decide)) (S.rf rfl rfl))))))))))) ?_
  refine am_ev.step (pc' := 71) rfl rfl ?_
  refine am_ev.step (pc' := 72) rfl rfl ?_
  refine ax_bas2 (p' := 73) rfl rfl (((((((((((S.pa rfl).pa rfl).pa rfl).pa rfl).pa rfl).pa rfl).pa rfl).pa rfl).pa rfl).pa rfl).wr (k := 3) rfl rfl rfl rfl (by decide)) (((((((((((S.pa rfl).pa rfl).pa rfl).pa rfl).pa rfl).pa rfl).pa rfl).pa rfl).pa rfl).pa rfl).sb rfl rfl) (by decide) ?_
  refine fx_inc (p' := 76) (e := 4) (ls' := [.ref 78, iv 4]) rfl rfl rfl (by omega) rfl ?_
  refine am_ev.step (pc' := 60) rfl rfl ?_
  refine am_ev.step (pc' := 61) rfl rfl ?_
  refine fx_bip (p' := 63) rfl rfl rfl ?_
  refine fx_c_ge_F (pF := 66) rfl (by omega) (by omega) rfl (by omega) ?_
  refine am_ev.step (pc' := 67) rfl rfl ?_
  refine ax_gf (p' := 70) rfl rfl (fO (fO (fO (fO (fO (fO (fO (fO (fO (fO (fO (S.ob rfl)))))))))))) (ax_put_o (Or.inl (by decide)) (ax_put_o (Or.inl (by decide)) (ax_put_o (Or.inl (by decide)) (ax_put_o (Or.inl (by decide)) (ax_put_o (Or.inl (by decide)) (ax_put_o (Or.inl (by decide)) (ax_put_o (Or.inl (by decide)) (ax_put_o (Or.inl (by decide)) (ax_put_o (Or.inl (by decide)) (ax_put_o (Or.inl (by decide)) (ax_put_o (Or.inl (by decide)) (S.rf rfl rfl)))))))))))) ?_
  refine am_ev.step (pc' := 71) rfl rfl ?_
  refine am_ev.step (pc' := 72) rfl rfl ?_
  refine ax_bas2 (p' := 73) rfl rfl ((((((((((((S.pa rfl).pa rfl).pa rfl).pa rfl).pa rfl).pa rfl).pa rfl).pa rfl).pa rfl).pa rfl).pa rfl).wr (k := 4) rfl rfl rfl rfl (by decide)) ((((((((((((S.pa rfl).pa rfl).pa rfl).pa rfl).pa rfl).pa rfl).pa rfl).pa rfl).pa rfl).pa rfl).pa rfl).sb rfl rfl) (by decide) ?_
  refine fx_inc (p' := 76) (e := 5) (ls' := [.ref 78, iv 5]) rfl rfl rfl (by omega) rfl ?_
  refine am_ev.step (pc' := 60) rfl rfl ?_
  refine am_ev.step (pc' := 61) rfl rfl ?_
  refine fx_bip (p' := 63) rfl rfl rfl ?_
  refine fx_c_ge_F (pF := 66) rfl (by omega) (by omega) rfl (by omega) ?_
  refine am_ev.step (pc' := 67) rfl rfl ?_
  refine ax_gf (p' := 70) rfl rfl (fO (fO (fO (fO (fO (fO (fO (fO (fO (fO (fO (fO (S.ob rfl))))))))))))) (ax_put_o (Or.inl (by decide)) (ax_put_o (Or.inl (by decide)) (ax_put_o (Or.inl (by decide)) (ax_put_o (Or.inl (by decide)) (ax_put_o (Or.inl (by decide)) (ax_put_o (Or.inl (by decide)) (ax_put_o (Or.inl (by decide)) (ax_put_o (Or.inl (by decide)) (ax_put_o (Or.inl (by decide)) (ax_put_o (Or.inl (by decide)) (ax_put_o (Or.inl (by decide)) (ax_put_o (Or.inl (by decide)) (S.rf rfl rfl))))))))))))) ?_
  refine am_ev.step (pc' := 71) rfl rfl ?_
  refine am_ev.step (pc' := 72) rfl rfl ?_
  refine ax_bas2 (p' := 73) rfl rfl (((((((((((((S.pa rfl).pa rfl).pa rfl).pa rfl).pa rfl).pa rfl).pa rfl).pa rfl).pa rfl).pa rfl).pa rfl).pa rfl).wr (k := 5) rfl rfl rfl rfl (by decide)) (((((((((((((S.pa rfl).pa rfl).pa rfl).pa rfl).pa rfl).pa rfl).pa rfl).pa rfl).pa rfl).pa rfl).pa rfl).pa rfl).sb rfl rfl) (by decide) ?_
  refine fx_inc (p' := 76) (e := 6) (ls' := [.ref 78, iv 6]) rfl rfl rfl (by omega) rfl ?_
  refine am_ev.step (pc' := 60) rfl rfl ?_
  refine am_ev.step (pc' := 61) rfl rfl ?_
  refine fx_bip (p' := 63) rfl rfl rfl ?_
  refine fx_c_ge_F (pF := 66) rfl (by omega) (by omega) rfl (by omega) ?_
  refine am_ev.step (pc' := 67) rfl rfl ?_
  refine ax_gf (p' := 70) rfl rfl (fO (fO (fO (fO (fO (fO (fO (fO (fO (fO (fO (fO (fO (S.ob rfl)))))))))))))) (ax_put_o (Or.inl (by decide)) (ax_put_o (Or.inl (by decide)) (ax_put_o (Or.inl (by decide)) (ax_put_o (Or.inl (by decide)) (ax_put_o (Or.inl (by decide)) (ax_put_o (Or.inl (by decide)) (ax_put_o (Or.inl (by decide)) (ax_put_o (Or.inl (by decide)) (ax_put_o (Or.inl (by decide)) (ax_put_o (Or.inl (by decide)) (ax_put_o (Or.inl (by decide)) (ax_put_o (Or.inl (by decide)) (ax_put_o (Or.inl (by decide)) (S.rf rfl rfl)))))))))))))) ?_
  refine am_ev.step (pc' := 71) rfl rfl ?_
  refine am_ev.step (pc' := 72) rfl rfl ?_
  refine ax_bas2 (p' := 73) rfl rfl ((((((((((((((S.pa rfl).pa rfl).pa rfl).pa rfl).pa rfl).pa rfl).pa rfl).pa rfl).pa rfl).pa rfl).pa rfl).pa rfl).pa rfl).wr (k := 6) rfl rfl rfl rfl (by decide)) ((((((((((((((S.pa rfl).pa rfl).pa rfl).pa rfl).pa rfl).pa rfl).pa rfl).pa rfl).pa rfl).pa rfl).pa rfl).pa rfl).pa rfl).sb rfl rfl) (by decide) ?_
  refine fx_inc (p' := 76) (e := 7) (ls' := [.ref 78, iv 7]) rfl rfl rfl (by omega) rfl ?_
  refine am_ev.step (pc' := 60) rfl rfl ?_
  refine am_ev.step (pc' := 61) rfl rfl ?_
  refine fx_bip (p' := 63) rfl rfl rfl ?_
  refine fx_c_ge_T (pT := 79) rfl (by omega) (by omega) rfl (by omega) ?_
  exact q9
theorem ll_208e {u2 u3 u4 u5 u6 u7 u8 : Int32} (S : fS h) (v35 : h.2.2.2 78 35 = iv m) (hm : m < 80) (v15 : h.2.2.2 78 15 = .int cc) (w2 : h.2.2.2 104 80 = .int u2) (w3 : h.2.2.2 105 80 = .int u3) (w4 : h.2.2.2 106 80 = .int u4) (w5 : h.2.2.2 107 80 = .int u5) (w6 : h.2.2.2 108 80 = .int u6) (w7 : h.2.2.2 109 80 = .int u7) (w8 : h.2.2.2 110 80 = .int u8) : am_ev d 208 41 [.ref 78, .int pp, am_ph] [] h (some (iv m), (am_put (am_put (am_put (am_put (am_put (am_put (am_put (am_put (am_put (am_put (am_put h 103 m (.int pp)) 104 m (.int u2)) 105 m (.int u3)) 106 m (.int u4)) 107 m (.int u5)) 108 m (.int u6)) 109 m (.int u7)) 110 m (.int u8)) 111 m (.int cc)) 113 m (iv (-1))) 78 35 (iv ((m : Int) + 1)))) := by
  refine am_ev.step (pc' := 42) rfl rfl ?_
  refine ax_gf (p' := 45) rfl rfl (S.ob rfl) (S.rf rfl rfl) ?_
  refine am_ev.step (pc' := 46) rfl rfl ?_
  refine ax_gf (p' := 49) rfl rfl (S.ob rfl) v35 ?_
  refine am_ev.step (pc' := 50) rfl rfl ?_
  refine ax_iastore (p' := 51) rfl rfl (S.wr (k := m) rfl rfl rfl rfl (by omega)) ?_
  refine am_ev.step (pc' := 52) rfl rfl ?_
  refine ax_gf (p' := 55) rfl rfl (fO (S.ob rfl)) (ax_put_o (Or.inl (by decide)) (S.rf rfl rfl)) ?_
  refine am_ev.step (pc' := 56) rfl rfl ?_
  refine ax_gf (p' := 59) rfl rfl (fO (S.ob rfl)) (ax_put_o (Or.inl (by decide)) v35) ?_
  refine am_ev.step (pc' := 60) rfl rfl ?_
  refine ax_gf (p' := 63) rfl rfl (fO (S.ob rfl)) (ax_put_o (Or.inl (by decide)) (S.rf rfl rfl)) ?_
  refine fx_bip (p' := 65) rfl rfl rfl ?_
  refine ax_iaload (p' := 66) rfl rfl ((S.pa rfl).rd (k := 80) rfl rfl rfl rfl rfl (by decide) (ax_put_o (Or.inl (by decide)) w2)) ?_
  refine ax_iastore (p' := 67) rfl rfl ((S.pa rfl).wr (k := m) rfl rfl rfl rfl (by omega)) ?_
  refine am_ev.step (pc' := 68) rfl rfl ?_
  refine ax_gf (p' := 71) rfl rfl (fO (fO (S.ob rfl))) (ax_put_o (Or.inl (by decide)) (ax_put_o (Or.inl (by decide)) (S.rf rfl rfl))) ?_
  refine am_ev.step (pc' := 72) rfl rfl ?_
  refine ax_gf (p' := 75) rfl rfl (fO (fO (S.ob rfl))) (ax_put_o (Or.inl (by decide)) (ax_put_o (Or.inl (by decide)) v35)) ?_
  refine am_ev.step (pc' := 76) rfl rfl ?_
  refine ax_gf (p' := 79) rfl rfl (fO (fO (S.ob rfl))) (ax_put_o (Or.inl (by decide)) (ax_put_o (Or.inl (by decide)) (S.rf rfl rfl))) ?_
  refine fx_bip (p' := 81) rfl rfl rfl ?_
  refine ax_iaload (p' := 82) rfl rfl (((S.pa rfl).pa rfl).rd (k := 80) rfl rfl rfl rfl rfl (by decide) (ax_put_o (Or.inl (by decide)) (ax_put_o (Or.inl (by decide)) w3))) ?_
  refine ax_iastore (p' := 83) rfl rfl (((S.pa rfl).pa rfl).wr (k := m) rfl rfl rfl rfl (by omega)) ?_
  refine am_ev.step (pc' := 84) rfl rfl ?_
  refine ax_gf (p' := 87) rfl rfl (fO (fO (fO (S.ob rfl)))) (ax_put_o (Or.inl (by decide)) (ax_put_o (Or.inl (by decide)) (ax_put_o (Or.inl (by decide)) (S.rf rfl rfl)))) ?_
  refine am_ev.step (pc' := 88) rfl rfl ?_
  refine ax_gf (p' := 91) rfl rfl (fO (fO (fO (S.ob rfl)))) (ax_put_o (Or.inl (by decide)) (ax_put_o (Or.inl (by decide)) (ax_put_o (Or.inl (by decide)) v35))) ?_
  refine am_ev.step (pc' := 92) rfl rfl ?_
  refine ax_gf (p' := 95) rfl rfl (fO (fO (fO (S.ob rfl)))) (ax_put_o (Or.inl (by decide)) (ax_put_o (Or.inl (by decide)) (ax_put_o (Or.inl (by decide)) (S.rf rfl rfl)))) ?_
  refine fx_bip (p' := 97) rfl rfl rfl ?_
  refine ax_iaload (p' := 98) rfl rfl ((((S.pa rfl).pa rfl).pa rfl).rd (k := 80) rfl rfl rfl rfl rfl (by decide) (ax_put_o (Or.inl (by decide)) (ax_put_o (Or.inl (by decide)) (ax_put_o (Or.inl (by decide)) w4)))) ?_
  refine ax_iastore (p' := 99) rfl rfl ((((S.pa rfl).pa rfl).pa rfl).wr (k := m) rfl rfl rfl rfl (by omega)) ?_
  refine am_ev.step (pc' := 100) rfl rfl ?_
  refine ax_gf (p' := 103) rfl rfl (fO (fO (fO (fO (S.ob rfl))))) (ax_put_o (Or.inl (by decide)) (ax_put_o (Or.inl (by decide)) (ax_put_o (Or.inl (by decide)) (ax_put_o (Or.inl (by decide)) (S.rf rfl rfl))))) ?_
  refine am_ev.step (pc' := 104) rfl rfl ?_
  refine ax_gf (p' := 107) rfl rfl (fO (fO (fO (fO (S.ob rfl))))) (ax_put_o (Or.inl (by decide)) (ax_put_o (Or.inl (by decide)) (ax_put_o (Or.inl (by decide)) (ax_put_o (Or.inl (by decide)) v35)))) ?_
  refine am_ev.step (pc' := 108) rfl rfl ?_
  refine ax_gf (p' := 111) rfl rfl (fO (fO (fO (fO (S.ob rfl))))) (ax_put_o (Or.inl (by decide)) (ax_put_o (Or.inl (by decide)) (ax_put_o (Or.inl (by decide)) (ax_put_o (Or.inl (by decide)) (S.rf rfl rfl))))) ?_
  refine fx_bip (p' := 113) rfl rfl rfl ?_
  refine ax_iaload (p' := 114) rfl rfl (((((S.pa rfl).pa rfl).pa rfl).pa rfl).rd (k := 80) rfl rfl rfl rfl rfl (by decide) (ax_put_o (Or.inl (by decide)) (ax_put_o (Or.inl (by decide)) (ax_put_o (Or.inl (by decide)) (ax_put_o (Or.inl (by decide)) w5))))) ?_
  refine ax_iastore (p' := 115) rfl rfl (((((S.pa rfl).pa rfl).pa rfl).pa rfl).wr (k := m) rfl rfl rfl rfl (by omega)) ?_
  refine am_ev.step (pc' := 116) rfl rfl ?_
  refine ax_gf (p' := 119) rfl rfl (fO (fO (fO (fO (fO (S.ob rfl)))))) (ax_put_o (Or.inl (by decide)) (ax_put_o (Or.inl (by decide)) (ax_put_o (Or.inl (by decide)) (ax_put_o (Or.inl (by decide)) (ax_put_o (Or.inl (by decide)) (S.rf rfl rfl)))))) ?_
  refine am_ev.step (pc' := 120) rfl rfl ?_
  refine ax_gf (p' := 123) rfl rfl (fO (fO (fO (fO (fO (S.ob rfl)))))) (ax_put_o (Or.inl (by decide)) (ax_put_o (Or.inl (by decide)) (ax_put_o (Or.inl (by decide)) (ax_put_o (Or.inl (by decide)) (ax_put_o (Or.inl (by decide)) v35))))) ?_
  refine am_ev.step (pc' := 124) rfl rfl ?_
  refine ax_gf (p' := 127) rfl rfl (fO (fO (fO (fO (fO (S.ob rfl)))))) (ax_put_o (Or.inl (by decide)) (ax_put_o (Or.inl (by decide)) (ax_put_o (Or.inl (by decide)) (ax_put_o (Or.inl (by decide)) (ax_put_o (Or.inl (by decide)) (S.rf rfl rfl)))))) ?_
  refine fx_bip (p' := 129) rfl rfl rfl ?_
  refine ax_iaload (p' := 130) rfl rfl ((((((S.pa rfl).pa rfl).pa rfl).pa rfl).pa rfl).rd (k := 80) rfl rfl rfl rfl rfl (by decide) (ax_put_o (Or.inl (by decide)) (ax_put_o (Or.inl (by decide)) (ax_put_o (Or.inl (by decide)) (ax_put_o (Or.inl (by decide)) (ax_put_o (Or.inl (by decide)) w6)))))) ?_
  refine ax_iastore (p' := 131) rfl rfl ((((((S.pa rfl).pa rfl).pa rfl).pa rfl).pa rfl).wr (k := m) rfl rfl rfl rfl (by omega)) ?_
  refine am_ev.step (pc' := 132) rfl rfl ?_
  refine ax_gf (p' := 135) rfl rfl (fO (fO (fO (fO (fO (fO (S.ob rfl))))))) (ax_put_o (Or.inl (by decide)) (ax_put_o (Or.inl (by decide)) (ax_put_o (Or.inl (by decide)) (ax_put_o (Or.inl (by decide)) (ax_put_o (Or.inl (by decide)) (ax_put_o (Or.inl (by decide)) (S.rf rfl rfl))))))) ?_
  refine am_ev.step (pc' := 136) rfl rfl ?_
  refine ax_gf (p' := 139) rfl rfl (fO (fO (fO (fO (fO (fO (S.ob rfl))))))) (ax_put_o (Or.inl (by decide)) (ax_put_o (Or.inl (by decide)) (ax_put_o (Or.inl (by decide)) (ax_put_o (Or.inl (by decide)) (ax_put_o (Or.inl (by decide)) (ax_put_o (Or.inl (by decide)) v35)))))) ?_
  refine am_ev.step (pc' := 140) rfl rfl ?_
  refine ax_gf (p' := 143) rfl rfl (fO (fO (fO (fO (fO (fO (S.ob rfl))))))) (ax_put_o (Or.inl (by decide)) (ax_put_o (Or.inl (by decide)) (ax_put_o (Or.inl (by decide)) (ax_put_o (Or.inl (by decide)) (ax_put_o (Or.inl (by decide)) (ax_put_o (Or.inl (by decide)) (S.rf rfl rfl))))))) ?_
  refine fx_bip (p' := 145) rfl rfl rfl ?_
  refine ax_iaload (p' := 146) rfl rfl (((((((S.pa rfl).pa rfl).pa rfl).pa rfl).pa rfl).pa rfl).rd (k := 80) rfl rfl rfl rfl rfl (by decide) (ax_put_o (Or.inl (by decide)) (ax_put_o (Or.inl (by decide)) (ax_put_o (Or.inl (by decide)) (ax_put_o (Or.inl (by decide)) (ax_put_o (Or.inl (by decide)) (ax_put_o (Or.inl (by decide)) w7))))))) ?_
  refine ax_iastore (p' := 147) rfl rfl (((((((S.pa rfl).pa rfl).pa rfl).pa rfl).pa rfl).pa rfl).wr (k := m) rfl rfl rfl rfl (by omega)) ?_
  refine am_ev.step (pc' := 148) rfl rfl ?_
  refine ax_gf (p' := 151) rfl rfl (fO (fO (fO (fO (fO (fO (fO (S.ob rfl)))))))) (ax_put_o (Or.inl (by decide)) (ax_put_o (Or.inl (by decide)) (ax_put_o (Or.inl (by decide)) (ax_put_o (Or.inl (by decide)) (ax_put_o (Or.inl (by decide)) (ax_put_o (Or.inl (by decide)) (ax_put_o (Or.inl (by decide)) (S.rf rfl rfl)))))))) ?_
  refine am_ev.step (pc' := 152) rfl rfl ?_
  refine ax_gf (p' := 155) rfl rfl (fO (fO (fO (fO (fO (fO (fO (S.ob rfl)))))))) (ax_put_o (Or.inl (by decide)) (ax_put_o (Or.inl (by decide)) (ax_put_o (Or.inl (by decide)) (ax_put_o (Or.inl (by decide)) (ax_put_o (Or.inl (by decide)) (ax_put_o (Or.inl (by decide)) (ax_put_o (Or.inl (by decide)) v35))))))) ?_
  refine am_ev.step (pc' := 156) rfl rfl ?_
  refine ax_gf (p' := 159) rfl rfl (fO (fO (fO (fO (fO (fO (fO (S.ob rfl)))))))) (ax_put_o (Or.inl (by decide)) (ax_put_o (Or.inl (by decide)) (ax_put_o (Or.inl (by decide)) (ax_put_o (Or.inl (by decide)) (ax_put_o (Or.inl (by decide)) (ax_put_o (Or.inl (by decide)) (ax_put_o (Or.inl (by decide)) (S.rf rfl rfl)))))))) ?_
  refine fx_bip (p' := 161) rfl rfl rfl ?_
  refine ax_iaload (p' := 162) rfl rfl ((((((((S.pa rfl).pa rfl).pa rfl).pa rfl).pa rfl).pa rfl).pa rfl).rd (k := 80) rfl rfl rfl rfl rfl (by decide) (ax_put_o (Or.inl (by decide)) (ax_put_o (Or.inl (by decide)) (ax_put_o (Or.inl (by decide)) (ax_put_o (Or.inl (by decide)) (ax_put_o (Or.inl (by decide)) (ax_put_o (Or.inl (by decide)) (ax_put_o (Or.inl (by decide)) w8)))))))) ?_
  refine ax_iastore (p' := 163) rfl rfl ((((((((S.pa rfl).pa rfl).pa rfl).pa rfl).pa rfl).pa rfl).pa rfl).wr (k := m) rfl rfl rfl rfl (by omega)) ?_
  refine am_ev.step (pc' := 164) rfl rfl ?_
  refine ax_gf (p' := 167) rfl rfl (fO (fO (fO (fO (fO (fO (fO (fO (S.ob rfl))))))))) (ax_put_o (Or.inl (by decide)) (ax_put_o (Or.inl (by decide)) (ax_put_o (Or.inl (by decide)) (ax_put_o (Or.inl (by decide)) (ax_put_o (Or.inl (by decide)) (ax_put_o (Or.inl (by decide)) (ax_put_o (Or.inl (by decide)) (ax_put_o (Or.inl (by decide)) (S.rf rfl rfl))))))))) ?_
  refine am_ev.step (pc' := 168) rfl rfl ?_
  refine ax_gf (p' := 171) rfl rfl (fO (fO (fO (fO (fO (fO (fO (fO (S.ob rfl))))))))) (ax_put_o (Or.inl (by decide)) (ax_put_o (Or.inl (by decide)) (ax_put_o (Or.inl (by decide)) (ax_put_o (Or.inl (by decide)) (ax_put_o (Or.inl (by decide)) (ax_put_o (Or.inl (by decide)) (ax_put_o (Or.inl (by decide)) (ax_put_o (Or.inl (by decide)) v35)))))))) ?_
  refine am_ev.step (pc' := 172) rfl rfl ?_
  refine ax_gf (p' := 175) rfl rfl (fO (fO (fO (fO (fO (fO (fO (fO (S.ob rfl))))))))) (ax_put_o (Or.inl (by decide)) (ax_put_o (Or.inl (by decide)) (ax_put_o (Or.inl (by decide)) (ax_put_o (Or.inl (by decide)) (ax_put_o (Or.inl (by decide)) (ax_put_o (Or.inl (by decide)) (ax_put_o (Or.inl (by decide)) (ax_put_o (Or.inl (by decide)) v15)))))))) ?_
  refine ax_iastore (p' := 176) rfl rfl (((((((((S.pa rfl).pa rfl).pa rfl).pa rfl).pa rfl).pa rfl).pa rfl).pa rfl).wr (k := m) rfl rfl rfl rfl (by omega)) ?_
  refine am_ev.step (pc' := 177) rfl rfl ?_
  refine ax_gf (p' := 180) rfl rfl (fO (fO (fO (fO (fO (fO (fO (fO (fO (S.ob rfl)))))))))) (ax_put_o (Or.inl (by decide)) (ax_put_o (Or.inl (by decide)) (ax_put_o (Or.inl (by decide)) (ax_put_o (Or.inl (by decide)) (ax_put_o (Or.inl (by decide)) (ax_put_o (Or.inl (by decide)) (ax_put_o (Or.inl (by decide)) (ax_put_o (Or.inl (by decide)) (ax_put_o (Or.inl (by decide)) (S.rf rfl rfl)))))))))) ?_
  refine am_ev.step (pc' := 181) rfl rfl ?_
  refine ax_gf (p' := 184) rfl rfl (fO (fO (fO (fO (fO (fO (fO (fO (fO (S.ob rfl)))))))))) (ax_put_o (Or.inl (by decide)) (ax_put_o (Or.inl (by decide)) (ax_put_o (Or.inl (by decide)) (ax_put_o (Or.inl (by decide)) (ax_put_o (Or.inl (by decide)) (ax_put_o (Or.inl (by decide)) (ax_put_o (Or.inl (by decide)) (ax_put_o (Or.inl (by decide)) (ax_put_o (Or.inl (by decide)) v35))))))))) ?_
  refine am_ev.step (pc' := 185) rfl rfl ?_
  refine ax_iastore (p' := 186) rfl rfl ((((((((((S.pa rfl).pa rfl).pa rfl).pa rfl).pa rfl).pa rfl).pa rfl).pa rfl).pa rfl).wr (k := m) rfl rfl rfl rfl (by omega)) ?_
  refine am_ev.step (pc' := 187) rfl rfl ?_
  refine am_ev.step (pc' := 188) rfl rfl ?_
  refine ax_gf (p' := 191) rfl rfl (fO (fO (fO (fO (fO (fO (fO (fO (fO (fO (S.ob rfl))))))))))) (ax_put_o (Or.inl (by decide)) (ax_put_o (Or.inl (by decide)) (ax_put_o (Or.inl (by decide)) (ax_put_o (Or.inl (by decide)) (ax_put_o (Or.inl (by decide)) (ax_put_o (Or.inl (by decide)) (ax_put_o (Or.inl (by decide)) (ax_put_o (Or.inl (by decide)) (ax_put_o (Or.inl (by decide)) (ax_put_o (Or.inl (by decide)) v35)))))))))) ?_
  refine am_ev.step (pc' := 192) rfl rfl ?_
  refine fx_add (p' := 193) (e := ((m : Int) + 1)) rfl rfl (by omega) ?_
  refine ax_pf (p' := 196) rfl rfl (fO (fO (fO (fO (fO (fO (fO (fO (fO (fO (S.ob rfl))))))))))) rfl ?_
  refine am_ev.step (pc' := 197) rfl rfl ?_
  refine ax_gf (p' := 200) rfl rfl (fO (fO (fO (fO (fO (fO (fO (fO (fO (fO (fO (S.ob rfl)))))))))))) (ax_put_s _ _ _) ?_
  refine am_ev.step (pc' := 201) rfl rfl ?_
  refine fx_sub (p' := 202) (e := ((m : Int))) rfl rfl (by omega) ?_
  exact fx_reti rfl rfl rfl
end LLC
end
section
/-! LEAVES AT THE LAW -/
/-- leave k of both sides: the object's places against the rows -/
def rL1 (h : am_H) (k s : Nat) : Prop := h.2.2.2 49 k = .ref s ∧ h.2.2.2 s 0 = h.2.2.2 103 k ∧ h.2.2.2 s 1 = h.2.2.2 111 k ∧ (∀ j, 2 ≤ j → j ≤ 8 → h.2.2.2 s j = h.2.2.2 (102 + j) k) ∧ ((h.2.2.2 s 9 = iv (-1) ∧ h.2.2.2 113 k = iv (-1)) ∨ (∃ x y : Int32, 0 ≤ x.toInt ∧ 0 ≤ y.toInt ∧ h.2.2.2 s 9 = .int x ∧ h.2.2.2 112 k = .int x ∧ h.2.2.2 s 10 = .int y ∧ h.2.2.2 113 k = .int y))
def rL (h : am_H) : Prop := ∃ m : Int32, h.2.2.2 48 1 = .int m ∧ h.2.2.2 78 35 = .int m ∧ (∀ k : Nat, (k : Int) < m.toInt → ∃ s, rL1 h k s) ∧ (∀ k l : Nat, k < l → (l : Int) < m.toInt → h.2.2.2 49 k ≠ h.2.2.2 49 l)
def rL_m (m : cq_W) : Bool := lw_nF m 48 1 && lw_nF m 78 35 && lw_nA m 49 && lw_nA m 103 && lw_nA m 104 && lw_nA m 105 && lw_nA m 106 && lw_nA m 107 && lw_nA m 108 && lw_nA m 109 && lw_nA m 110 && lw_nA m 111 && lw_nA m 112 && lw_nA m 113 && (List.range 11).all (fun j => lw_nO m 4 j)
section RLF
variable {h h2 : am_H} {m : cq_W}
theorem rL_bm (I : cq_Inv none h) {x : Int32} (e : h.2.2.2 48 1 = .int x) : 0 ≤ x.toInt ∧ x.toInt ≤ 80 := by
  obtain ⟨y, ey, a, b⟩ := ax_in I (c := 48) (j := 1) (l := 0) (u := 80) (by decide +kernel) (by decide +kernel)
  rw [e] at ey
  cases ey
  exact ⟨a, b⟩
theorem rL_ob (I : cq_Inv none h) {k s : Nat} (hk : k < 80) (e : h.2.2.2 49 k = .ref s) : cq_kOk h s (0, 4, 0) := by
  have t := ax_ty I (c := 49) (j := k) (t := (11, 0, 0, 4, 48, 1)) (by
    rw [show Nat.blt k (cq_fix 49).2.2 = true from Nat.ble_eq_true_of_le hk]
    decide +kernel) (by
    unfold cq_ty
    rw [show cq_isA 49 = true by decide +kernel, show ((Nat.beq 49 81 || Nat.beq 49 83) && Nat.beq k 1) = false from rfl]
    show cq_ar 49 = _
    decide +kernel)
  rw [e] at t
  rcases t with ⟨t, _⟩ | ⟨a, t, z⟩
  · cases t
  · cases t
    exact z
theorem rL1_fr {k s : Nat} (ob : ∀ j, j < 11 → h2.2.2.2 s j = h.2.2.2 s j) (h49 : h2.2.2.2 49 k = h.2.2.2 49 k) (ar : ∀ c, 103 ≤ c → c ≤ 113 → h2.2.2.2 c k = h.2.2.2 c k) (X : rL1 h k s) : rL1 h2 k s := by
  obtain ⟨a, b, c, f, g⟩ := X
  refine ⟨by rw [h49, a], by rw [ob 0 (by decide), ar 103 (by decide) (by decide), b], by rw [ob 1 (by decide), ar 111 (by decide) (by decide), c], fun j j1 j2 => by rw [ob j (by omega), ar (102 + j) (by omega) (by omega), f j j1 j2], ?_⟩
  rw [ob 9 (by decide), ob 10 (by decide), ar 112 (by decide) (by decide), ar 113 (by decide) (by decide)]
  exact g
theorem rL_fr (I : cq_Inv none h) (F : cq_Fr m h h2) (q : rL_m m = true) (X : rL h) : rL h2 := by
  have lo := I.lo
  unfold rL_m at q
  simp only [Bool.and_eq_true] at q
  obtain ⟨⟨⟨⟨⟨⟨⟨⟨⟨⟨⟨⟨⟨⟨q1, q2⟩, q49⟩, q103⟩, q104⟩, q105⟩, q106⟩, q107⟩, q108⟩, q109⟩, q110⟩, q111⟩, q112⟩, q113⟩, qo⟩ := q
  obtain ⟨x, e1, e2, P, D⟩ := X
  have bx := rL_bm I e1
  have f49 := lw_frA F lo (c := 49) (by decide) q49
  refine ⟨x, by rw [lw_frF F lo (by decide) q1, e1], by rw [lw_frF F lo (by decide) q2, e2], fun k hk => ?_, fun k l h1 h2 => by rw [f49, f49]; exact D k l h1 h2⟩
  obtain ⟨s, z⟩ := P k hk
  obtain ⟨o1, o2, o3⟩ := rL_ob I (k := k) (by omega) z.1
  refine ⟨s, rL1_fr (fun j hj => lw_frO F o1 o2 o3 (List.all_eq_true.1 qo j (List.mem_range.2 hj))) (f49 k) (fun c c1 c2 => ?_) z⟩
  have hc : c = 103 ∨ c = 104 ∨ c = 105 ∨ c = 106 ∨ c = 107 ∨ c = 108 ∨ c = 109 ∨ c = 110 ∨ c = 111 ∨ c = 112 ∨ c = 113 := by omega
  rcases hc with rfl | rfl | rfl | rfl | rfl | rfl | rfl | rfl | rfl | rfl | rfl
  · exact lw_frA F lo (by decide) q103 k
  · exact lw_frA F lo (by decide) q104 k
  · exact lw_frA F lo (by decide) q105 k
  · exact lw_frA F lo (by decide) q106 k
  · exact lw_frA F lo (by decide) q107 k
  · exact lw_frA F lo (by decide) q108 k
  · exact lw_frA F lo (by decide) q109 k
  · exact lw_frA F lo (by decide) q110 k
  · exact lw_frA F lo (by decide) q111 k
  · exact lw_frA F lo (by decide) q112 k
  · exact lw_frA F lo (by decide) q113 k
end RLF
end
section
/-! THE CALL LEAVE AT THE LAW -/
/-- the relation where nothing that it speaks of has changed -/
theorem rL_same {h h2 : am_H} {n : Nat} (I : cq_Inv none h) (hn : h.1 ≤ n) (E : ∀ c j, c ≠ 41 → (c ≠ 78 ∨ 10 ≤ j) → c ≠ 85 → (c < 104 ∨ 110 < c ∨ j ≠ 80) → c < n → h2.2.2.2 c j = h.2.2.2 c j) (X : rL h) : rL h2 := by
  have lo := I.lo
  obtain ⟨x, e1, e2, P, D⟩ := X
  have bx := rL_bm I e1
  have f49 : ∀ k, h2.2.2.2 49 k = h.2.2.2 49 k := fun k => E 49 k (by decide) (Or.inl (by decide)) (by decide) (Or.inl (by decide)) (by omega)
  refine ⟨x, by rw [E 48 1 (by decide) (Or.inl (by decide)) (by decide) (Or.inl (by decide)) (by omega), e1], by rw [E 78 35 (by decide) (Or.inr (by decide)) (by decide) (Or.inl (by decide)) (by omega), e2], fun k hk => ?_, fun k l h1 h2 => by rw [f49, f49]; exact D k l h1 h2⟩
  obtain ⟨s, z⟩ := P k hk
  obtain ⟨o1, o2, o3⟩ := rL_ob I (k := k) (by omega) z.1
  exact ⟨s, rL1_fr (fun j _ => E s j (by omega) (Or.inl (by omega)) (by omega) (Or.inr (Or.inl (by omega))) (by omega)) (f49 k) (fun c c1 c2 => E c k (by omega) (Or.inl (by omega)) (by omega) (Or.inr (Or.inr (by omega))) (by omega)) z⟩
/-- a number of the heap, as a natural number -/
theorem iv_nat {h : am_H} {c j n : Nat} {x : Int32} (e : h.2.2.2 c j = .int x) (b : 0 ≤ x.toInt) (hn : x.toInt.toNat = n) : h.2.2.2 c j = iv n := by
  rw [e, fx_of x]
  exact congrArg iv (by omega)
theorem ol_int {M H h1 : am_H} {Φ : Nat → Value} {q j : Nat} (a : M.2.2.2 (102 + j) 80 = Φ j) (c : H.2.2.2 q j = Φ j) (I1 : cq_Inv none h1) (e : h1.2.2.2 q j = H.2.2.2 q j) (kO : q < h1.1 ∧ h1.2.2.1 q = (0, 4, am_N 4)) (hq : 130 ≤ q) (j1 : 2 ≤ j) (j2 : j ≤ 8) : ∃ u : Int32, M.2.2.2 (102 + j) 80 = .int u := by
  have K : cq_kOk h1 q (0, 4, 0) := ⟨hq, kO.1, kO.2⟩
  have hj : j = 2 ∨ j = 3 ∨ j = 4 ∨ j = 5 ∨ j = 6 ∨ j = 7 ∨ j = 8 := by omega
  have x : ∃ x : Int32, h1.2.2.2 q j = .int x := by
    rcases hj with rfl | rfl | rfl | rfl | rfl | rfl | rfl
    · obtain ⟨x, ex, -⟩ : ∃ x : Int32, h1.2.2.2 q 2 = .int x ∧ (cq_cl 4 2).2.1 ≤ x.toInt ∧ x.toInt ≤ (cq_cl 4 2).2.2.1 := ax_fd I1 K (j := 2) (t := (1, (cq_cl 4 2).2.1, (cq_cl 4 2).2.2.1, 0, 0, 0)) (by decide +kernel) (by decide +kernel)
      exact ⟨x, ex⟩
    · obtain ⟨x, ex, -⟩ : ∃ x : Int32, h1.2.2.2 q 3 = .int x ∧ (cq_cl 4 3).2.1 ≤ x.toInt ∧ x.toInt ≤ (cq_cl 4 3).2.2.1 := ax_fd I1 K (j := 3) (t := (1, (cq_cl 4 3).2.1, (cq_cl 4 3).2.2.1, 0, 0, 0)) (by decide +kernel) (by decide +kernel)
      exact ⟨x, ex⟩
    · obtain ⟨x, ex, -⟩ : ∃ x : Int32, h1.2.2.2 q 4 = .int x ∧ (cq_cl 4 4).2.1 ≤ x.toInt ∧ x.toInt ≤ (cq_cl 4 4).2.2.1 := ax_fd I1 K (j := 4) (t := (1, (cq_cl 4 4).2.1, (cq_cl 4 4).2.2.1, 0, 0, 0)) (by decide +kernel) (by decide +kernel)
      exact ⟨x, ex⟩
    · obtain ⟨x, ex, -⟩ : ∃ x : Int32, h1.2.2.2 q 5 = .int x ∧ (cq_cl 4 5).2.1 ≤ x.toInt ∧ x.toInt ≤ (cq_cl 4 5).2.2.1 := ax_fd I1 K (j := 5) (t := (1, (cq_cl 4 5).2.1, (cq_cl 4 5).2.2.1, 0, 0, 0)) (by decide +kernel) (by decide +kernel)
      exact ⟨x, ex⟩
    · obtain ⟨x, ex, -⟩ : ∃ x : Int32, h1.2.2.2 q 6 = .int x ∧ (cq_cl 4 6).2.1 ≤ x.toInt ∧ x.toInt ≤ (cq_cl 4 6).2.2.1 := ax_fd I1 K (j := 6) (t := (1, (cq_cl 4 6).2.1, (cq_cl 4 6).2.2.1, 0, 0, 0)) (by decide +kernel) (by decide +kernel)
      exact ⟨x, ex⟩
    · obtain ⟨x, ex, -⟩ : ∃ x : Int32, h1.2.2.2 q 7 = .int x ∧ (cq_cl 4 7).2.1 ≤ x.toInt ∧ x.toInt ≤ (cq_cl 4 7).2.2.1 := ax_fd I1 K (j := 7) (t := (1, (cq_cl 4 7).2.1, (cq_cl 4 7).2.2.1, 0, 0, 0)) (by decide +kernel) (by decide +kernel)
      exact ⟨x, ex⟩
    · obtain ⟨x, ex, -⟩ : ∃ x : Int32, h1.2.2.2 q 8 = .int x ∧ (cq_cl 4 8).2.1 ≤ x.toInt ∧ x.toInt ≤ (cq_cl 4 8).2.2.1 := ax_fd I1 K (j := 8) (t := (1, (cq_cl 4 8).2.1, (cq_cl 4 8).2.2.1, 0, 0, 0)) (by decide +kernel) (by decide +kernel)
      exact ⟨x, ex⟩
  obtain ⟨x, ex⟩ := x
  exact ⟨x, by rw [a, ← c, ← e, ex]⟩
section OPL
variable {h : am_H} {d : Nat}
/-- the program's reading of a new leave begins -/
theorem ol_C {k : am_H} {b : Nat → Int} {L q : Nat} {pp cc : Int32} (Sk : fS k) (Ok : am_isO k q 4 = true) (hq : 130 ≤ q) (B : tb k 42 b L) (v1 : k.2.2.2 41 1 = iv L) : ∃ K : am_H, K = (am_put (am_put (am_put (am_put (am_put (am_put (am_put (am_put (am_put (am_put (am_put k q 2 (iv 0)) q 3 (iv 29999)) q 4 (iv 0)) q 5 (iv 2)) q 6 (iv 0)) q 7 (iv (-1))) q 8 (iv 0)) q 9 (iv (-1))) q 10 (iv (-1))) q 0 (.int pp)) q 1 (.int cc)) ∧ lC (am_put (am_put (am_put K 41 6 (iv 0)) 41 3 (iv 0)) 41 4 (iv (-1))) K q b L 0 lv_0 ∧ K.2.2.2 q 0 = .int pp ∧ K.2.2.2 q 1 = .int cc ∧ K.2.2.2 q 9 = iv (-1) ∧ K.2.2.2 q 10 = iv (-1) ∧ (K.1 = k.1 ∧ K.2.2.1 = k.2.2.1) ∧ (∀ c j, c ≠ q → K.2.2.2 c j = k.2.2.2 c j) ∧ fS K := by
  obtain ⟨K, eK, F, a0, a1, a9, a10, sz, fr⟩ := ll_75v (h := k) (q := q) (pp := pp) (cc := cc)
  have SK : fS K := by
    rw [eK]
    exact (((((((((((Sk.pd hq).pd hq).pd hq).pd hq).pd hq).pd hq).pd hq).pd hq).pd hq).pd hq).pd hq)
  have OK : am_isO K q 4 = true := by
    unfold am_isO at Ok ⊢
    rw [sz.1, sz.2]
    exact Ok
  refine ⟨K, eK, ⟨((SK.po rfl rfl).po rfl rfl).po rfl rfl, (((show tb K 42 b L from fun i hi => (fr 42 i (by omega)).trans (B i hi)).put (by decide)).put (by decide)).put (by decide), ax_put_o (Or.inr (by decide)) (ax_put_o (Or.inr (by decide)) (ax_put_o (Or.inr (by decide)) ((fr 41 1 (by omega)).trans v1))), ax_put_o (Or.inr (by decide)) (ax_put_o (Or.inr (by decide)) (ax_put_s _ _ _)), ax_put_o (Or.inr (by decide)) (ax_put_s _ _ _), ax_put_s _ _ _, ⟨rfl, rfl⟩, fO (fO (fO OK)), hq, fun c j n1 n2 => ax_put_o (Or.inl n1) (ax_put_o (Or.inl n1) (ax_put_o (Or.inl n1) rfl)), fun j a c => ax_put_o (Or.inl (by omega)) (ax_put_o (Or.inl (by omega)) (ax_put_o (Or.inl (by omega)) (F j a c))), fun j a => ax_put_o (Or.inl (by omega)) (ax_put_o (Or.inl (by omega)) (ax_put_o (Or.inl (by omega)) rfl))⟩, a0, a1, a9, a10, sz, fr, SK⟩
theorem op_lea (I : cq_Inv none h) (X : rT h) (P : rp_P h) (R : rL h) (T : tT h (41, 1, 78, 2)) (Tc : tT h (40, 9, 78, 15)) (p1 : Int32) : ∃ (a : Int32) (h1 h2 : am_H), am_ev (d + 10) 74 0 (am_ent [.ref 40, .int p1] (am_in 74).2.2.1) [] h (some (.int a), h1) ∧ am_ev (d + 10) 208 0 (am_ent [.ref 78, .int p1] (am_in 208).2.2.1) [] h1 (some (.int a), h2) ∧ cq_Inv none h1 ∧ cq_Inv none h2 ∧ cq_Fr ct_74.2.2.2.1 h h1 ∧ cq_Fr ct_208.2.2.2.1 h1 h2 ∧ (∀ q ∈ [((41 : Nat), (1 : Nat), (78 : Nat), (2 : Nat))], tT h2 q) ∧ rL h2 ∧ (rF h → rF h2) ∧ h2.1 ≤ h.1 + 12 ∧ h2.2.1 ≤ h.2.1 + 624 := by
  obtain ⟨L, hL, v1, v2⟩ := tT_nat I T
  obtain ⟨b, hb, hB⟩ := tb_b I
  obtain ⟨cc, c1, c2⟩ := Tc
  have c1 : h.2.2.2 40 9 = .int cc := c1
  have c2 : h.2.2.2 78 15 = .int cc := c2
  obtain ⟨pm, m1, m2, PP, PD⟩ := P
  have bp := rp_bm I m1
  have R0 := R
  obtain ⟨mm, e1, e2, RP, RD⟩ := R
  have bm := rL_bm I e1
  obtain ⟨m, hm⟩ : ∃ m : Nat, mm.toInt.toNat = m := ⟨_, rfl⟩
  have i1 := iv_nat e1 bm.1 hm
  have i2 := iv_nat e2 bm.1 hm
  have lo := I.lo
  have S := fS.of I
  obtain ⟨r, h1, ev1, T1', I1, F1, A1, B1⟩ := sp_ap1 (A := 1) (B := 11) ok_74 rfl rfl (by decide +kernel) I (d := d + 10) (by show 9 ≤ d + 10; omega) p1
  obtain ⟨r', h2, ev2, T2', I2, F2, A2, B2⟩ := sp_ap1 (A := 0) (B := 0) ok_208 rfl rfl (by decide +kernel) I1 (d := d + 10) (by show _ ≤ d + 10; exact Nat.le_add_left _ _) p1
  have lo1 := I1.lo
  have S1 := fS.of I1
  have k2 : h1.2.2.2 78 2 = iv L := by rw [lw_frF F1 lo (by decide) (by decide +kernel), v2]
  have k16 : h1.2.2.2 78 16 = .int pm := by rw [lw_frF F1 lo (by decide) (by decide +kernel), m2]
  have k35 : h1.2.2.2 78 35 = iv m := by rw [lw_frF F1 lo (by decide) (by decide +kernel), i2]
  have k15 : h1.2.2.2 78 15 = .int cc := by rw [lw_frF F1 lo (by decide) (by decide +kernel), c2]
  have k80 := lw_frA F1 lo (c := 80) (by decide) (by decide +kernel)
  have kM : ∀ c, 103 ≤ c → c ≤ 113 → ∀ j, h1.2.2.2 c j = h.2.2.2 c j := fun c a1 a2 => by
    have hc : c = 103 ∨ c = 104 ∨ c = 105 ∨ c = 106 ∨ c = 107 ∨ c = 108 ∨ c = 109 ∨ c = 110 ∨ c = 111 ∨ c = 112 ∨ c = 113 := by omega
    rcases hc with rfl | rfl | rfl | rfl | rfl | rfl | rfl | rfl | rfl | rfl | rfl <;> exact lw_frA F1 lo (by decide) (by decide +kernel)
  have f2c : ∀ c, c < 78 → ∀ j, h2.2.2.2 c j = h1.2.2.2 c j := fun c a j => F2.vl c (by omega) j (by
    unfold cq_inW
    rw [List.any_eq_false]
    intro w hw
    have z : (ct_208.2.2.2.1.all fun w => !w.1 && Nat.ble 78 w.2.1) = true := by decide +kernel
    have y := (Bool.and_eq_true _ _ ▸ List.all_eq_true.1 z w hw)
    have y1 : w.1 = false := by simpa using y.1
    have y2 := Nat.le_of_ble_eq_true y.2
    rw [y1, dh_bne (show w.2.1 ≠ c by omega)]
    simp)
  have f2d : ∀ c, 130 ≤ c → c < h1.1 → ∀ j, h2.2.2.2 c j = h1.2.2.2 c j := fun c a a' j => F2.vl c a' j (by
    unfold cq_inW
    rw [List.any_eq_false]
    intro w hw
    have z : (ct_208.2.2.2.1.all fun w => !w.1 && Nat.blt w.2.1 130) = true := by decide +kernel
    have y := (Bool.and_eq_true _ _ ▸ List.all_eq_true.1 z w hw)
    have y1 : w.1 = false := by simpa using y.1
    have y2 : w.2.1 < 130 := Nat.le_of_ble_eq_true y.2
    rw [y1, dh_bne (show w.2.1 ≠ c by omega)]
    simp)
  have O78' : am_isO (am_put (am_put (am_put h1 78 3 (iv ((L : Int)))) 78 2 (iv 0)) 78 5 (iv 0)) 78 13 = true := fO (fO (fO (S1.ob rfl)))
  have k16' : ((am_put (am_put (am_put h1 78 3 (iv ((L : Int)))) 78 2 (iv 0)) 78 5 (iv 0)) : am_H).2.2.2 78 16 = .int pm := ax_put_o (Or.inr (by decide)) (ax_put_o (Or.inr (by decide)) (ax_put_o (Or.inr (by decide)) k16))
  have tie : h1.2.2.2 41 1 = iv 0 → h2.2.2.2 78 2 = iv 0 → ∀ q ∈ [((41 : Nat), (1 : Nat), (78 : Nat), (2 : Nat))], tT h2 q := fun z1 z2 q hq => by
    rw [List.mem_singleton.1 hq]
    exact ⟨Int32.ofInt 0, (f2c 41 (by decide) 1).trans z1, z2⟩
  by_cases hp : 0 ≤ p1.toInt ∧ p1.toInt < pm.toInt
  · obtain ⟨s, t, w, s1, -⟩ := PP p1.toInt.toNat (by omega)
    have H42 := (po_42 (d := d + 9) I m1 bp).1 hp
    rw [s1] at H42
    have H188 : am_ev (d + 9) 188 0 (am_ent [.ref 78, .int p1] 2) [] (am_put (am_put (am_put h1 78 3 (iv ((L : Int)))) 78 2 (iv 0)) 78 5 (iv 0)) (some (iv 1), (am_put (am_put (am_put h1 78 3 (iv ((L : Int)))) 78 2 (iv 0)) 78 5 (iv 0))) := (po_188 (d := d + 8) O78' k16' bp).1 hp
    by_cases hf : m < 80
    · obtain ⟨k, hk⟩ : ∃ k : am_H, k = am_mk h (0, 4, am_N 4) (am_N 4) (fun j => defaultValue (am_ty 4 j)) := ⟨_, rfl⟩
      have k1 : k.1 = h.1 + 1 := by rw [hk]; rfl
      have kc : ∀ c j, c ≠ h.1 → k.2.2.2 c j = h.2.2.2 c j := fun c j n => by
        rw [hk]
        exact if_neg n
      have ka : k.2.2.1 h.1 = (0, 4, am_N 4) := by
        rw [hk]
        exact if_pos rfl
      have Sk : fS k := by rw [hk]; exact S.mk
      have Ok : am_isO k h.1 4 = true := by
        unfold am_isO
        rw [ka, k1, show Nat.blt h.1 (h.1 + 1) = true from Nat.ble_eq_true_of_le (Nat.le_refl _)]
        rfl
      obtain ⟨K, eK, CK, a0, a1, a9, a10, szK, frK, SK⟩ := ol_C (pp := p1) (cc := cc) (b := b) (L := L) Sk Ok lo (fun i hi => (kc 42 i (by omega)).trans (hB i (by omega))) ((kc 41 1 (by omega)).trans v1)
      obtain ⟨w0, hw0, -⟩ := ax_in I1 (c := 78) (j := 7) (l := -2147483648) (u := 2147483647) (by decide +kernel) (by decide +kernel)
      have hw0 := hw0.trans (fx_of w0)
      obtain ⟨s0, e0, kk, vv, t0⟩ := tz_t_ex (b := b) (Nat.zero_le L)
      have Bm : tb h1 80 b L := fun i hi => by rw [k80 i, ← X.1 i (by omega)]; exact hB i (by omega)
      obtain ⟨Gm, MG, st⟩ := ll_209 (d := d + 9) (h := (am_put (am_put (am_put (am_put (am_put (am_put (am_put (am_put (am_put h1 78 3 (iv ((L : Int)))) 78 2 (iv 0)) 78 5 (iv 0)) 78 8 (iv 0)) 78 9 (iv (-1))) 78 4 (iv ((s0 : Int)))) 78 7 (iv ((tV b L s0 w0.toInt)))) 78 5 (iv ((e0 : Int)))) 78 6 (iv ((tH kk))))) (((((((((S1.po rfl rfl).po rfl rfl).po rfl rfl).po rfl rfl).po rfl rfl).po rfl rfl).po rfl rfl).po rfl rfl).po rfl rfl) (((((((((Bm.put (by decide)).put (by decide)).put (by decide)).put (by decide)).put (by decide)).put (by decide)).put (by decide)).put (by decide)).put (by decide)) (ax_put_o (Or.inr (by decide)) (ax_put_o (Or.inr (by decide)) (ax_put_o (Or.inr (by decide)) (ax_put_o (Or.inr (by decide)) (ax_put_o (Or.inr (by decide)) (ax_put_o (Or.inr (by decide)) (ax_put_o (Or.inr (by decide)) (ax_put_o (Or.inr (by decide)) (ax_put_s _ _ _))))))))) (ax_put_o (Or.inr (by decide)) (ax_put_o (Or.inr (by decide)) (ax_put_o (Or.inr (by decide)) (ax_put_s _ _ _)))) (ax_put_o (Or.inr (by decide)) (ax_put_s _ _ _)) (ax_put_s _ _ _) (ax_put_o (Or.inr (by decide)) (ax_put_o (Or.inr (by decide)) (ax_put_s _ _ _))) (ax_put_o (Or.inr (by decide)) (ax_put_o (Or.inr (by decide)) (ax_put_o (Or.inr (by decide)) (ax_put_o (Or.inr (by decide)) (ax_put_o (Or.inr (by decide)) (ax_put_s _ _ _)))))) (ax_put_o (Or.inr (by decide)) (ax_put_o (Or.inr (by decide)) (ax_put_o (Or.inr (by decide)) (ax_put_o (Or.inr (by decide)) (ax_put_s _ _ _))))) (ax_put_o (Or.inr (by decide)) (ax_put_o (Or.inr (by decide)) (ax_put_o (Or.inr (by decide)) (ax_put_o (Or.inr (by decide)) (ax_put_o (Or.inr (by decide)) (ax_put_o (Or.inr (by decide)) (ax_put_o (Or.inr (by decide)) (ax_put_s _ _ _)))))))) t0 (t0.v _)
      have top : ∀ x, am_ev (d + 10) 74 37 [.ref 40, .int p1, iv (-1), am_ph] [.ref h.1] k x → am_ev (d + 10) 74 0 (am_ent [.ref 40, .int p1] (am_in 74).2.2.1) [] h x := fun x q9 => ll_74a (d := d + 9) S H42 i1 hf (by
        refine am_ev.step (pc' := 37) (h' := k) rfl (by rw [hk]; rfl) ?_
        exact q9)
      have c9 : k.2.2.2 40 9 = .int cc := (kc 40 9 (by omega)).trans c1
      obtain ⟨H, M, ⟨p2, s2, e2', p2', k3, v3, w3, τ, Φ, x1, x2, CH, MH⟩ | ⟨f, s2, x1, x2, CH, MH⟩⟩ := lr_loop (d := d) hb hL 7 0 0 s0 e0 (Int32.ofInt 0) kk vv _ (fun _ => 0) lv_0 _ Gm am_ph (iv 7) (by omega) rfl (fun i _ => Or.inl rfl) (fun i hi => by rw [bt_0 i (by omega)]; exact ⟨fun z => Bool.noConfusion z, fun z => absurd (show (0 : Int) = 1 from z) (by decide)⟩) (fun _ => rfl) CK MG
      · obtain ⟨SH, -, -, -, f3, f4, szH, OH, -, frH, FH, FH2⟩ := CH
        have hs : H.2.2.1 h.1 = (0, 4, am_N 4) := by rw [szH.2, szK.2, ka]
        have g1 : H.2.2.2 48 1 = iv m := by rw [frH 48 1 (by decide) (by omega), frK 48 1 (by omega), kc 48 1 (by omega), i1]
        have y1 := top _ (ll_74y (d := d + 1) (q := h.1) Sk Ok lo c9 (eK ▸ ll_76 (d := d + 1) SK x1) SH OH g1 hf hs)
        obtain ⟨SM, -, -, -, -, -, -, -, -, -, f8, f9, zM, -, FM', frM⟩ := MH
        have g35 : M.2.2.2 78 35 = iv m := (frM 78 35 (Or.inr (by decide)) (by decide) (Or.inl (by decide))).trans ((ax_put_o (Or.inr (by decide)) (ax_put_o (Or.inr (by decide)) (ax_put_o (Or.inr (by decide)) (ax_put_o (Or.inr (by decide)) (ax_put_o (Or.inr (by decide)) (ax_put_o (Or.inr (by decide)) (ax_put_o (Or.inr (by decide)) (ax_put_o (Or.inr (by decide)) (ax_put_o (Or.inr (by decide)) k35))))))))))
        have g15 : M.2.2.2 78 15 = .int cc := (frM 78 15 (Or.inr (by decide)) (by decide) (Or.inl (by decide))).trans ((ax_put_o (Or.inr (by decide)) (ax_put_o (Or.inr (by decide)) (ax_put_o (Or.inr (by decide)) (ax_put_o (Or.inr (by decide)) (ax_put_o (Or.inr (by decide)) (ax_put_o (Or.inr (by decide)) (ax_put_o (Or.inr (by decide)) (ax_put_o (Or.inr (by decide)) (ax_put_o (Or.inr (by decide)) k15))))))))))
        have iM : ∀ j, 2 ≤ j → j ≤ 8 → ∃ u : Int32, M.2.2.2 (102 + j) 80 = .int u := fun j j1 j2 => ol_int (FM' j j1 j2) (FH j j1 j2) I1 (q := h.1) (h1 := h1) (by
          have q1 := (Prod.mk.inj (ax_det ev1 y1)).2
          rw [q1]
          exact ax_put_o (Or.inl (by omega)) (ax_put_o (Or.inl (by omega)) (ax_put_o (Or.inl (by omega)) rfl))) (by
          have q1 := (Prod.mk.inj (ax_det ev1 y1)).2
          rw [q1]
          exact ⟨by show h.1 < H.1; rw [szH.1, szK.1, k1]; omega, hs⟩) lo j1 j2
        obtain ⟨u2, w2'⟩ := iM 2 (by decide) (by decide)
        obtain ⟨u3, w3'⟩ := iM 3 (by decide) (by decide)
        obtain ⟨u4, w4'⟩ := iM 4 (by decide) (by decide)
        obtain ⟨u5, w5'⟩ := iM 5 (by decide) (by decide)
        obtain ⟨u6, w6'⟩ := iM 6 (by decide) (by decide)
        obtain ⟨u7, w7'⟩ := iM 7 (by decide) (by decide)
        obtain ⟨u8, w8'⟩ := iM 8 (by decide) (by decide)
        have y2 := ll_208n (d := d) (pp := p1) S1 Bm hb hL k2 hw0 k35 hf H188 t0 SM (st _ x2) (ll_208e (d := d + 10) SM g35 hf g15 w2' w3' w4' w5' w6' w7' w8')
        obtain ⟨z1, z2⟩ := Prod.mk.inj (ax_det ev1 y1)
        obtain ⟨z3, z4⟩ := Prod.mk.inj (ax_det ev2 y2)
        have hq1 : h.1 < h1.1 := by
          rw [z2]
          show h.1 < H.1
          rw [szH.1, szK.1, k1]
          omega
        have qH : ∀ j, h2.2.2.2 h.1 j = H.2.2.2 h.1 j := fun j => (f2d h.1 lo hq1 j).trans (by
          rw [z2]
          exact ax_put_o (Or.inl (by omega)) (ax_put_o (Or.inl (by omega)) (ax_put_o (Or.inl (by omega)) rfl)))
        have oH : ∀ s j, 130 ≤ s → s < h.1 → h2.2.2.2 s j = h.2.2.2 s j := fun s j a1 a2 => (f2d s a1 (by omega) j).trans (by
          rw [z2]
          exact ax_put_o (Or.inl (by omega)) (ax_put_o (Or.inl (by omega)) (ax_put_o (Or.inl (by omega)) ((frH s j (by omega) (by omega)).trans ((frK s j (by omega)).trans (kc s j (by omega)))))))
        have o49 : ∀ j, j ≠ m → h2.2.2.2 49 j = h.2.2.2 49 j := fun j hj => (f2c 49 (by decide) j).trans (by
          rw [z2]
          exact ax_put_o (Or.inl (by decide)) (ax_put_o (Or.inl (by decide)) (ax_put_o (Or.inr hj) ((frH 49 j (by decide) (by omega)).trans ((frK 49 j (by omega)).trans (kc 49 j (by omega)))))))
        have n49 : h2.2.2.2 49 m = .ref h.1 := (f2c 49 (by decide) m).trans (by
          rw [z2]
          exact ax_put_o (Or.inl (by decide)) (ax_put_o (Or.inl (by decide)) (ax_put_s _ _ _)))
        have oA : ∀ c j, 103 ≤ c → c ≤ 113 → j < m → h2.2.2.2 c j = h.2.2.2 c j := fun c j a1 a2 a3 => by
          rw [z4]
          refine Eq.trans (ax_put_o (by omega) (ax_put_o (by omega) (ax_put_o (by omega) (ax_put_o (by omega) (ax_put_o (by omega) (ax_put_o (by omega) (ax_put_o (by omega) (ax_put_o (by omega) (ax_put_o (by omega) (ax_put_o (by omega) (ax_put_o (by omega) rfl))))))))))) ((frM c j (Or.inl (by omega)) (by omega) (by omega)).trans (Eq.trans (ax_put_o (by omega) (ax_put_o (by omega) (ax_put_o (by omega) (ax_put_o (by omega) (ax_put_o (by omega) (ax_put_o (by omega) (ax_put_o (by omega) (ax_put_o (by omega) (ax_put_o (by omega) rfl))))))))) (kM c a1 a2 j)))
        have em : (Int32.ofInt ((m : Int) + 1)).toInt = (m : Int) + 1 := fx_ti (by omega)
        have u3 : h1.2.2.2 41 3 = iv 0 := by
          rw [z2]
          exact ax_put_o (by omega) (ax_put_o (by omega) (ax_put_o (by omega) f3))
        have u4 : h1.2.2.2 41 4 = iv (-1) := by
          rw [z2]
          exact ax_put_o (by omega) (ax_put_o (by omega) (ax_put_o (by omega) f4))
        have u8 : h2.2.2.2 78 8 = iv 0 := by
          rw [z4]
          exact (ax_put_o (by omega) (ax_put_o (by omega) (ax_put_o (by omega) (ax_put_o (by omega) (ax_put_o (by omega) (ax_put_o (by omega) (ax_put_o (by omega) (ax_put_o (by omega) (ax_put_o (by omega) (ax_put_o (by omega) (ax_put_o (by omega) f8)))))))))))
        have u9 : h2.2.2.2 78 9 = iv (-1) := by
          rw [z4]
          exact (ax_put_o (by omega) (ax_put_o (by omega) (ax_put_o (by omega) (ax_put_o (by omega) (ax_put_o (by omega) (ax_put_o (by omega) (ax_put_o (by omega) (ax_put_o (by omega) (ax_put_o (by omega) (ax_put_o (by omega) (ax_put_o (by omega) f9)))))))))))
        have uF : rF h → rF h2 := fun _ => ⟨(f2c 41 (by decide) 3).trans (u3.trans u8.symm), (f2c 41 (by decide) 4).trans (u4.trans u9.symm)⟩
        refine ⟨Int32.ofInt m, h1, h2, by rw [← z1]; exact ev1, by rw [← z3]; exact ev2, I1, I2, F1, F2, tie (by rw [z2]; exact ax_put_s _ _ _) (by rw [z4]; exact (ax_put_o (Or.inr (by decide)) (ax_put_o (Or.inl (by decide)) (ax_put_o (Or.inl (by decide)) (ax_put_o (Or.inl (by decide)) (ax_put_o (Or.inl (by decide)) (ax_put_o (Or.inl (by decide)) (ax_put_o (Or.inl (by decide)) (ax_put_o (Or.inl (by decide)) (ax_put_o (Or.inl (by decide)) (ax_put_o (Or.inl (by decide)) (ax_put_o (Or.inl (by decide)) zM)))))))))))), ⟨Int32.ofInt ((m : Int) + 1), ?_, ?_, fun k' hk' => ?_, fun k' l' a1 a2 => ?_⟩, uF, by omega, by omega⟩
        · rw [f2c 48 (by decide) 1, z2]
          exact ax_put_o (Or.inl (by decide)) (ax_put_s _ _ _)
        · rw [z4]
          exact (ax_put_s _ _ _)
        · rw [em] at hk'
          by_cases ek : k' = m
          · subst ek
            refine ⟨h.1, n49, ?_, ?_, fun j j1 j2 => ?_, Or.inl ⟨?_, ?_⟩⟩
            · rw [qH, FH2 0 (Or.inl (by decide)), a0, z4]
              exact ((ax_put_o (Or.inl (by decide)) (ax_put_o (Or.inl (by decide)) (ax_put_o (Or.inl (by decide)) (ax_put_o (Or.inl (by decide)) (ax_put_o (Or.inl (by decide)) (ax_put_o (Or.inl (by decide)) (ax_put_o (Or.inl (by decide)) (ax_put_o (Or.inl (by decide)) (ax_put_o (Or.inl (by decide)) (ax_put_o (Or.inl (by decide)) (ax_put_s _ _ _)))))))))))).symm
            · rw [qH, FH2 1 (Or.inl (by decide)), a1, z4]
              exact ((ax_put_o (Or.inl (by decide)) (ax_put_o (Or.inl (by decide)) (ax_put_s _ _ _)))).symm
            · rw [qH, FH j j1 j2, ← FM' j j1 j2, z4]
              have hj : j = 2 ∨ j = 3 ∨ j = 4 ∨ j = 5 ∨ j = 6 ∨ j = 7 ∨ j = 8 := by omega
              rcases hj with rfl | rfl | rfl | rfl | rfl | rfl | rfl
              · exact w2'.trans ((ax_put_o (Or.inl (by decide)) (ax_put_o (Or.inl (by decide)) (ax_put_o (Or.inl (by decide)) (ax_put_o (Or.inl (by decide)) (ax_put_o (Or.inl (by decide)) (ax_put_o (Or.inl (by decide)) (ax_put_o (Or.inl (by decide)) (ax_put_o (Or.inl (by decide)) (ax_put_o (Or.inl (by decide)) (ax_put_s _ _ _))))))))))).symm
              · exact w3'.trans ((ax_put_o (Or.inl (by decide)) (ax_put_o (Or.inl (by decide)) (ax_put_o (Or.inl (by decide)) (ax_put_o (Or.inl (by decide)) (ax_put_o (Or.inl (by decide)) (ax_put_o (Or.inl (by decide)) (ax_put_o (Or.inl (by decide)) (ax_put_o (Or.inl (by decide)) (ax_put_s _ _ _)))))))))).symm
              · exact w4'.trans ((ax_put_o (Or.inl (by decide)) (ax_put_o (Or.inl (by decide)) (ax_put_o (Or.inl (by decide)) (ax_put_o (Or.inl (by decide)) (ax_put_o (Or.inl (by decide)) (ax_put_o (Or.inl (by decide)) (ax_put_o (Or.inl (by decide)) (ax_put_s _ _ _))))))))).symm
              · exact w5'.trans ((ax_put_o (Or.inl (by decide)) (ax_put_o (Or.inl (by decide)) (ax_put_o (Or.inl (by decide)) (ax_put_o (Or.inl (by decide)) (ax_put_o (Or.inl (by decide)) (ax_put_o (Or.inl (by decide)) (ax_put_s _ _ _)))))))).symm
              · exact w6'.trans ((ax_put_o (Or.inl (by decide)) (ax_put_o (Or.inl (by decide)) (ax_put_o (Or.inl (by decide)) (ax_put_o (Or.inl (by decide)) (ax_put_o (Or.inl (by decide)) (ax_put_s _ _ _))))))).symm
              · exact w7'.trans ((ax_put_o (Or.inl (by decide)) (ax_put_o (Or.inl (by decide)) (ax_put_o (Or.inl (by decide)) (ax_put_o (Or.inl (by decide)) (ax_put_s _ _ _)))))).symm
              · exact w8'.trans ((ax_put_o (Or.inl (by decide)) (ax_put_o (Or.inl (by decide)) (ax_put_o (Or.inl (by decide)) (ax_put_s _ _ _))))).symm
            · rw [qH, FH2 9 (Or.inr (by decide)), a9]
            · rw [z4]
              exact (ax_put_o (Or.inl (by decide)) (ax_put_s _ _ _))
          · obtain ⟨s', z⟩ := RP k' (by omega)
            obtain ⟨o1, o2, o3⟩ := rL_ob I (k := k') (by omega) z.1
            exact ⟨s', rL1_fr (fun j _ => oH s' j o1 o2) (o49 k' ek) (fun c c1 c2 => oA c k' c1 c2 (by omega)) z⟩
        · rw [em] at a2
          by_cases el : l' = m
          · obtain ⟨s', z⟩ := RP k' (by omega)
            obtain ⟨o1, o2, o3⟩ := rL_ob I (k := k') (by omega) z.1
            rw [el, n49, o49 k' (by omega), z.1]
            intro y
            cases y
            omega
          · rw [o49 k' (by omega), o49 l' el]
            exact RD k' l' a1 (by omega)
      · obtain ⟨SH, f3, f4, szH, -, frH⟩ := CH
        have hs : H.2.2.1 h.1 = (0, 4, am_N 4) := by rw [szH.2, szK.2, ka]
        have OH : am_isO H h.1 4 = true := by
          unfold am_isO at Ok ⊢
          rw [show H.1 = k.1 from szH.1.trans szK.1, show H.2.2.1 = k.2.2.1 from szH.2.trans szK.2]
          exact Ok
        have g1 : H.2.2.2 48 1 = iv m := by rw [frH 48 1 (by decide) (by omega), frK 48 1 (by omega), kc 48 1 (by omega), i1]
        have y1 := top _ (ll_74n (d := d + 1) (q := h.1) Sk Ok lo c9 (eK ▸ ll_76 (d := d + 1) SK x1) SH OH g1 hf hs)
        have y2 := ll_208t (d := d) (pp := p1) S1 Bm hb hL k2 hw0 k35 hf H188 t0 MH.1 (st _ x2)
        obtain ⟨z1, z2⟩ := Prod.mk.inj (ax_det ev1 y1)
        obtain ⟨z3, z4⟩ := Prod.mk.inj (ax_det ev2 y2)
        have u3 : h1.2.2.2 41 3 = iv f := by
          rw [z2]
          exact ax_put_o (by omega) f3
        have u4 : h1.2.2.2 41 4 = iv s2 := by
          rw [z2]
          exact ax_put_o (by omega) f4
        have u8 : h2.2.2.2 78 8 = iv f := by
          rw [z4]
          exact MH.2.1
        have u9 : h2.2.2.2 78 9 = iv s2 := by
          rw [z4]
          exact MH.2.2.1
        have uF : rF h → rF h2 := fun _ => ⟨(f2c 41 (by decide) 3).trans (u3.trans u8.symm), (f2c 41 (by decide) 4).trans (u4.trans u9.symm)⟩
        refine ⟨Int32.ofInt (-1), h1, h2, by rw [← z1]; exact ev1, by rw [← z3]; exact ev2, I1, I2, F1, F2, tie (by rw [z2]; exact ax_put_s _ _ _) (by rw [z4]; exact MH.2.2.2.1), rL_same I (Nat.le_refl _) (fun c j n1 n2 n3 n4 n5 => ?_) R0, uF, by omega, by omega⟩
        rw [z4]
        refine (MH.2.2.2.2 c j n2 n3 n4).trans (Eq.trans (ax_put_o (by omega) (ax_put_o (by omega) (ax_put_o (by omega) (ax_put_o (by omega) (ax_put_o (by omega) (ax_put_o (by omega) (ax_put_o (by omega) (ax_put_o (by omega) (ax_put_o (by omega) rfl))))))))) ?_)
        rw [z2]
        exact ax_put_o (Or.inl n1) ((frH c j n1 (by omega)).trans ((frK c j (by omega)).trans (kc c j (by omega))))
    · have y1 := ll_74f (d := d + 9) S H42 i1 (by omega)
      have y2 := ll_208f (d := d + 7) (pp := p1) S1 k2 k35 (by omega) H188
      obtain ⟨z1, z2⟩ := Prod.mk.inj (ax_det ev1 y1)
      obtain ⟨z3, z4⟩ := Prod.mk.inj (ax_det ev2 y2)
      have u : ∀ c j, (c ≠ 41 ∨ j ≠ 1) → (c ≠ 78 ∨ (j ≠ 2 ∧ j ≠ 3 ∧ j ≠ 5)) → h2.2.2.2 c j = h.2.2.2 c j := fun c j n1 n2 => by
        rw [z4, z2]
        exact ax_put_o (by omega) (ax_put_o (by omega) (ax_put_o (by omega) (ax_put_o (by omega) rfl)))
      have uF : rF h → rF h2 := fun XF => ⟨(u 41 3 (by omega) (by omega)).trans (XF.1.trans (u 78 8 (by omega) (by omega)).symm), (u 41 4 (by omega) (by omega)).trans (XF.2.trans (u 78 9 (by omega) (by omega)).symm)⟩
      refine ⟨Int32.ofInt (-3), h1, h2, by rw [← z1]; exact ev1, by rw [← z3]; exact ev2, I1, I2, F1, F2, tie (by rw [z2]; exact ax_put_s _ _ _) (by rw [z4]; exact ax_put_o (Or.inr (by decide)) (ax_put_s _ _ _)), rL_same I (Nat.le_refl _) (fun c j n1 n2 n3 n4 n5 => ?_) R0, uF, by omega, by omega⟩
      rw [z4, z2]
      exact ax_put_o (by omega) (ax_put_o (by omega) (ax_put_o (by omega) (ax_put_o (Or.inl n1) rfl)))
  · have H42 := (po_42 (d := d + 9) I m1 bp).2 hp
    have H188 : am_ev (d + 9) 188 0 (am_ent [.ref 78, .int p1] 2) [] (am_put (am_put (am_put h1 78 3 (iv ((L : Int)))) 78 2 (iv 0)) 78 5 (iv 0)) (some (iv 0), (am_put (am_put (am_put h1 78 3 (iv ((L : Int)))) 78 2 (iv 0)) 78 5 (iv 0))) := (po_188 (d := d + 8) O78' k16' bp).2 hp
    have y1 := ll_74r (d := d + 9) S H42
    have y2 := ll_208r (d := d + 7) (pp := p1) S1 k2 H188
    obtain ⟨z1, z2⟩ := Prod.mk.inj (ax_det ev1 y1)
    obtain ⟨z3, z4⟩ := Prod.mk.inj (ax_det ev2 y2)
    have u : ∀ c j, (c ≠ 41 ∨ j ≠ 1) → (c ≠ 78 ∨ (j ≠ 2 ∧ j ≠ 3 ∧ j ≠ 5)) → h2.2.2.2 c j = h.2.2.2 c j := fun c j n1 n2 => by
      rw [z4, z2]
      exact ax_put_o (by omega) (ax_put_o (by omega) (ax_put_o (by omega) (ax_put_o (by omega) rfl)))
    have uF : rF h → rF h2 := fun XF => ⟨(u 41 3 (by omega) (by omega)).trans (XF.1.trans (u 78 8 (by omega) (by omega)).symm), (u 41 4 (by omega) (by omega)).trans (XF.2.trans (u 78 9 (by omega) (by omega)).symm)⟩
    refine ⟨Int32.ofInt (-2), h1, h2, by rw [← z1]; exact ev1, by rw [← z3]; exact ev2, I1, I2, F1, F2, tie (by rw [z2]; exact ax_put_s _ _ _) (by rw [z4]; exact ax_put_o (Or.inr (by decide)) (ax_put_s _ _ _)), rL_same I (Nat.le_refl _) (fun c j n1 n2 n3 n4 n5 => ?_) R0, uF, by omega, by omega⟩
    rw [z4, z2]
    exact ax_put_o (by omega) (ax_put_o (by omega) (ax_put_o (by omega) (ax_put_o (Or.inl n1) rfl)))
end OPL
end
