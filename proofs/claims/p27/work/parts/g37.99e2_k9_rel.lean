/-! RULES, both sides: from the call to its answer -/
theorem bt_0 (i : Nat) (h : i < 32) : bt (Int32.ofInt 0) i = false := by
  have : ∀ i, i < 32 → bt (Int32.ofInt 0) i = false := by decide +kernel
  exact this i h
section RWA
variable {d : Nat} {h g : am_H} {b : Nat → Int} {L r : Nat} {w : Int} {V Y : Nat → Int}
theorem rw_19 (S : fS h) (B : tb h 42 b L) (v1 : h.2.2.2 41 1 = iv L) : ∃ H : am_H, CS H h b L 0 (Int32.ofInt 0) (Int32.ofInt 0) (fun i => cq_sv 1 i) (fun _ => 70) ∧ ∀ x, am_ev (d + 7) 19 10 [.ref 43, .ref 41, iv ((0 : Nat) : Int), am_ph, am_ph] [] H x → am_ev (d + 7) 19 0 (am_ent [.ref 43, .ref 41] 5) [] h x := by
  refine ⟨(am_put (am_put (am_put (am_put (am_put (am_put (am_put (am_put (am_put (am_put (am_put (am_put (am_put (am_put (am_put (am_put (am_put (am_put h 46 0 (iv ((cq_sv 1 0)))) 46 1 (iv ((cq_sv 1 1)))) 46 2 (iv ((cq_sv 1 2)))) 46 3 (iv ((cq_sv 1 3)))) 46 4 (iv ((cq_sv 1 4)))) 46 5 (iv ((cq_sv 1 5)))) 46 6 (iv ((cq_sv 1 6)))) 47 0 (iv 70)) 47 1 (iv 70)) 47 2 (iv 70)) 47 3 (iv 70)) 47 4 (iv 70)) 47 5 (iv 70)) 43 4 (iv 0)) 43 5 (iv 0)) 41 6 (iv 0)) 41 3 (iv 0)) 41 4 (iv (-1))), ⟨((((((((((((((((((S.pa rfl).pa rfl).pa rfl).pa rfl).pa rfl).pa rfl).pa rfl).pa rfl).pa rfl).pa rfl).pa rfl).pa rfl).pa rfl).po rfl rfl).po rfl rfl).po rfl rfl).po rfl rfl).po rfl rfl), ((((((((((((((((((B.put (by decide)).put (by decide)).put (by decide)).put (by decide)).put (by decide)).put (by decide)).put (by decide)).put (by decide)).put (by decide)).put (by decide)).put (by decide)).put (by decide)).put (by decide)).put (by decide)).put (by decide)).put (by decide)).put (by decide)).put (by decide)), (ax_put_o (Or.inr (by decide)) (ax_put_o (Or.inr (by decide)) (ax_put_o (Or.inr (by decide)) (ax_put_o (Or.inl (by decide)) (ax_put_o (Or.inl (by decide)) (ax_put_o (Or.inl (by decide)) (ax_put_o (Or.inl (by decide)) (ax_put_o (Or.inl (by decide)) (ax_put_o (Or.inl (by decide)) (ax_put_o (Or.inl (by decide)) (ax_put_o (Or.inl (by decide)) (ax_put_o (Or.inl (by decide)) (ax_put_o (Or.inl (by decide)) (ax_put_o (Or.inl (by decide)) (ax_put_o (Or.inl (by decide)) (ax_put_o (Or.inl (by decide)) (ax_put_o (Or.inl (by decide)) (ax_put_o (Or.inl (by decide)) v1)))))))))))))))))), (ax_put_o (Or.inr (by decide)) (ax_put_o (Or.inr (by decide)) (ax_put_s _ _ _))), (ax_put_o (Or.inr (by decide)) (ax_put_s _ _ _)), (ax_put_s _ _ _), (ax_put_o (Or.inl (by decide)) (ax_put_o (Or.inl (by decide)) (ax_put_o (Or.inl (by decide)) (ax_put_o (Or.inr (by decide)) (ax_put_s _ _ _))))), (ax_put_o (Or.inl (by decide)) (ax_put_o (Or.inl (by decide)) (ax_put_o (Or.inl (by decide)) (ax_put_s _ _ _)))), (fun j hj => by
      have hj2 : j = 0 ∨ j = 1 ∨ j = 2 ∨ j = 3 ∨ j = 4 ∨ j = 5 ∨ j = 6 := by omega
      rcases hj2 with rfl | rfl | rfl | rfl | rfl | rfl | rfl
      · exact (ax_put_o (Or.inl (by decide)) (ax_put_o (Or.inl (by decide)) (ax_put_o (Or.inl (by decide)) (ax_put_o (Or.inl (by decide)) (ax_put_o (Or.inl (by decide)) (ax_put_o (Or.inl (by decide)) (ax_put_o (Or.inl (by decide)) (ax_put_o (Or.inl (by decide)) (ax_put_o (Or.inl (by decide)) (ax_put_o (Or.inl (by decide)) (ax_put_o (Or.inl (by decide)) (ax_put_o (Or.inr (by decide)) (ax_put_o (Or.inr (by decide)) (ax_put_o (Or.inr (by decide)) (ax_put_o (Or.inr (by decide)) (ax_put_o (Or.inr (by decide)) (ax_put_o (Or.inr (by decide)) (ax_put_s _ _ _))))))))))))))))))
      · exact (ax_put_o (Or.inl (by decide)) (ax_put_o (Or.inl (by decide)) (ax_put_o (Or.inl (by decide)) (ax_put_o (Or.inl (by decide)) (ax_put_o (Or.inl (by decide)) (ax_put_o (Or.inl (by decide)) (ax_put_o (Or.inl (by decide)) (ax_put_o (Or.inl (by decide)) (ax_put_o (Or.inl (by decide)) (ax_put_o (Or.inl (by decide)) (ax_put_o (Or.inl (by decide)) (ax_put_o (Or.inr (by decide)) (ax_put_o (Or.inr (by decide)) (ax_put_o (Or.inr (by decide)) (ax_put_o (Or.inr (by decide)) (ax_put_o (Or.inr (by decide)) (ax_put_s _ _ _)))))))))))))))))
      · exact (ax_put_o (Or.inl (by decide)) (ax_put_o (Or.inl (by decide)) (ax_put_o (Or.inl (by decide)) (ax_put_o (Or.inl (by decide)) (ax_put_o (Or.inl (by decide)) (ax_put_o (Or.inl (by decide)) (ax_put_o (Or.inl (by decide)) (ax_put_o (Or.inl (by decide)) (ax_put_o (Or.inl (by decide)) (ax_put_o (Or.inl (by decide)) (ax_put_o (Or.inl (by decide)) (ax_put_o (Or.inr (by decide)) (ax_put_o (Or.inr (by decide)) (ax_put_o (Or.inr (by decide)) (ax_put_o (Or.inr (by decide)) (ax_put_s _ _ _))))))))))))))))
      · exact (ax_put_o (Or.inl (by decide)) (ax_put_o (Or.inl (by decide)) (ax_put_o (Or.inl (by decide)) (ax_put_o (Or.inl (by decide)) (ax_put_o (Or.inl (by decide)) (ax_put_o (Or.inl (by decide)) (ax_put_o (Or.inl (by decide)) (ax_put_o (Or.inl (by decide)) (ax_put_o (Or.inl (by decide)) (ax_put_o (Or.inl (by decide)) (ax_put_o (Or.inl (by decide)) (ax_put_o (Or.inr (by decide)) (ax_put_o (Or.inr (by decide)) (ax_put_o (Or.inr (by decide)) (ax_put_s _ _ _)))))))))))))))
      · exact (ax_put_o (Or.inl (by decide)) (ax_put_o (Or.inl (by decide)) (ax_put_o (Or.inl (by decide)) (ax_put_o (Or.inl (by decide)) (ax_put_o (Or.inl (by decide)) (ax_put_o (Or.inl (by decide)) (ax_put_o (Or.inl (by decide)) (ax_put_o (Or.inl (by decide)) (ax_put_o (Or.inl (by decide)) (ax_put_o (Or.inl (by decide)) (ax_put_o (Or.inl (by decide)) (ax_put_o (Or.inr (by decide)) (ax_put_o (Or.inr (by decide)) (ax_put_s _ _ _))))))))))))))
      · exact (ax_put_o (Or.inl (by decide)) (ax_put_o (Or.inl (by decide)) (ax_put_o (Or.inl (by decide)) (ax_put_o (Or.inl (by decide)) (ax_put_o (Or.inl (by decide)) (ax_put_o (Or.inl (by decide)) (ax_put_o (Or.inl (by decide)) (ax_put_o (Or.inl (by decide)) (ax_put_o (Or.inl (by decide)) (ax_put_o (Or.inl (by decide)) (ax_put_o (Or.inl (by decide)) (ax_put_o (Or.inr (by decide)) (ax_put_s _ _ _)))))))))))))
      · exact (ax_put_o (Or.inl (by decide)) (ax_put_o (Or.inl (by decide)) (ax_put_o (Or.inl (by decide)) (ax_put_o (Or.inl (by decide)) (ax_put_o (Or.inl (by decide)) (ax_put_o (Or.inl (by decide)) (ax_put_o (Or.inl (by decide)) (ax_put_o (Or.inl (by decide)) (ax_put_o (Or.inl (by decide)) (ax_put_o (Or.inl (by decide)) (ax_put_o (Or.inl (by decide)) (ax_put_s _ _ _))))))))))))), (fun j hj => by
      have hj2 : j = 0 ∨ j = 1 ∨ j = 2 ∨ j = 3 ∨ j = 4 ∨ j = 5 := by omega
      rcases hj2 with rfl | rfl | rfl | rfl | rfl | rfl
      · exact (ax_put_o (Or.inl (by decide)) (ax_put_o (Or.inl (by decide)) (ax_put_o (Or.inl (by decide)) (ax_put_o (Or.inl (by decide)) (ax_put_o (Or.inl (by decide)) (ax_put_o (Or.inr (by decide)) (ax_put_o (Or.inr (by decide)) (ax_put_o (Or.inr (by decide)) (ax_put_o (Or.inr (by decide)) (ax_put_o (Or.inr (by decide)) (ax_put_s _ _ _)))))))))))
      · exact (ax_put_o (Or.inl (by decide)) (ax_put_o (Or.inl (by decide)) (ax_put_o (Or.inl (by decide)) (ax_put_o (Or.inl (by decide)) (ax_put_o (Or.inl (by decide)) (ax_put_o (Or.inr (by decide)) (ax_put_o (Or.inr (by decide)) (ax_put_o (Or.inr (by decide)) (ax_put_o (Or.inr (by decide)) (ax_put_s _ _ _))))))))))
      · exact (ax_put_o (Or.inl (by decide)) (ax_put_o (Or.inl (by decide)) (ax_put_o (Or.inl (by decide)) (ax_put_o (Or.inl (by decide)) (ax_put_o (Or.inl (by decide)) (ax_put_o (Or.inr (by decide)) (ax_put_o (Or.inr (by decide)) (ax_put_o (Or.inr (by decide)) (ax_put_s _ _ _)))))))))
      · exact (ax_put_o (Or.inl (by decide)) (ax_put_o (Or.inl (by decide)) (ax_put_o (Or.inl (by decide)) (ax_put_o (Or.inl (by decide)) (ax_put_o (Or.inl (by decide)) (ax_put_o (Or.inr (by decide)) (ax_put_o (Or.inr (by decide)) (ax_put_s _ _ _))))))))
      · exact (ax_put_o (Or.inl (by decide)) (ax_put_o (Or.inl (by decide)) (ax_put_o (Or.inl (by decide)) (ax_put_o (Or.inl (by decide)) (ax_put_o (Or.inl (by decide)) (ax_put_o (Or.inr (by decide)) (ax_put_s _ _ _)))))))
      · exact (ax_put_o (Or.inl (by decide)) (ax_put_o (Or.inl (by decide)) (ax_put_o (Or.inl (by decide)) (ax_put_o (Or.inl (by decide)) (ax_put_o (Or.inl (by decide)) (ax_put_s _ _ _))))))), fun j => (ax_put_o (Or.inl (by decide)) (ax_put_o (Or.inl (by decide)) (ax_put_o (Or.inl (by decide)) (ax_put_o (Or.inl (by decide)) (ax_put_o (Or.inl (by decide)) (ax_put_o (Or.inl (by decide)) (ax_put_o (Or.inl (by decide)) (ax_put_o (Or.inl (by decide)) (ax_put_o (Or.inl (by decide)) (ax_put_o (Or.inl (by decide)) (ax_put_o (Or.inl (by decide)) (ax_put_o (Or.inl (by decide)) (ax_put_o (Or.inl (by decide)) (ax_put_o (Or.inl (by decide)) (ax_put_o (Or.inl (by decide)) (ax_put_o (Or.inl (by decide)) (ax_put_o (Or.inl (by decide)) (ax_put_o (Or.inl (by decide)) rfl)))))))))))))))))), fun j => (ax_put_o (Or.inl (by decide)) (ax_put_o (Or.inl (by decide)) (ax_put_o (Or.inl (by decide)) (ax_put_o (Or.inl (by decide)) (ax_put_o (Or.inl (by decide)) (ax_put_o (Or.inl (by decide)) (ax_put_o (Or.inl (by decide)) (ax_put_o (Or.inl (by decide)) (ax_put_o (Or.inl (by decide)) (ax_put_o (Or.inl (by decide)) (ax_put_o (Or.inl (by decide)) (ax_put_o (Or.inl (by decide)) (ax_put_o (Or.inl (by decide)) (ax_put_o (Or.inl (by decide)) (ax_put_o (Or.inl (by decide)) (ax_put_o (Or.inl (by decide)) (ax_put_o (Or.inl (by decide)) (ax_put_o (Or.inl (by decide)) rfl))))))))))))))))))⟩, fun x q9 => ?_⟩
  show am_ev (d + 7) 19 0 [.ref 43, .ref 41, am_ph, am_ph, am_ph] [] h x
  refine am_ev.step (pc' := 1) rfl rfl ?_
  refine ax_call (z := 4) (p' := 4) (as := [_]) rfl (Or.inr (Or.inl ⟨_, rfl⟩)) rfl rfl rfl rfl rfl rfl (S.ob rfl) rfl (rl_4 S) rfl ?_
  refine am_ev.step (pc' := 5) rfl rfl ?_
  refine ax_call (z := 20) (p' := 8) (as := [_]) rfl (Or.inr (Or.inl ⟨_, rfl⟩)) rfl rfl rfl rfl rfl rfl (fO (fO (fO (fO (fO (fO (fO (fO (fO (fO (fO (fO (fO (fO (fO (S.ob rfl)))))))))))))))) rfl (rl_20 (((((((((((((((S.pa rfl).pa rfl).pa rfl).pa rfl).pa rfl).pa rfl).pa rfl).pa rfl).pa rfl).pa rfl).pa rfl).pa rfl).pa rfl).po rfl rfl).po rfl rfl)) rfl ?_
  refine am_ev.step (pc' := 9) rfl rfl ?_
  refine am_ev.step (pc' := 10) (ls' := [.ref 43, .ref 41, iv 0, am_ph, am_ph]) rfl rfl ?_
  exact q9
theorem rw_168 (S : fS h) (v2 : h.2.2.2 78 2 = iv L) : am_ev d 168 0 (am_ent [.ref 78] 1) [] h (none, (am_put (am_put (am_put h 78 3 (iv ((L : Int)))) 78 2 (iv 0)) 78 5 (iv 0))) := by
  show am_ev d 168 0 [.ref 78] [] h _
  refine am_ev.step (pc' := 1) rfl rfl ?_
  refine am_ev.step (pc' := 2) rfl rfl ?_
  refine ax_gf (p' := 5) rfl rfl (S.ob rfl) v2 ?_
  refine ax_pf (p' := 8) rfl rfl (S.ob rfl) rfl ?_
  refine am_ev.step (pc' := 9) rfl rfl ?_
  refine am_ev.step (pc' := 10) rfl rfl ?_
  refine ax_pf (p' := 13) rfl rfl (fO (S.ob rfl)) rfl ?_
  refine am_ev.step (pc' := 14) rfl rfl ?_
  refine am_ev.step (pc' := 15) rfl rfl ?_
  refine ax_pf (p' := 18) rfl rfl (fO (fO (S.ob rfl))) rfl ?_
  exact am_ev.retv rfl rfl
end RWA
section RWB
variable {d : Nat} {h g : am_H} {b : Nat → Int} {L s e r : Nat} {k v w : Int} {V Y τ : Nat → Int}
theorem rw_169 (S : fS h) (B : tb h 80 b L) (hb : tz_r b) (hL : L ≤ 1600) (v3 : h.2.2.2 78 3 = iv L) (v5 : h.2.2.2 78 5 = iv 0) (v7 : h.2.2.2 78 7 = iv w) (t0 : tz_t b L 0 s e k v) : am_ev (d + 2) 169 0 (am_ent [.ref 78] 1) [] h (none, (am_put (am_put (am_put (am_put (am_put (am_put h 78 8 (iv 0)) 78 9 (iv (-1))) 78 4 (iv ((s : Int)))) 78 7 (iv ((tV b L s (w))))) 78 5 (iv ((e : Int)))) 78 6 (iv ((tH k))))) := by
  show am_ev (d + 2) 169 0 [.ref 78] [] h _
  refine am_ev.step (pc' := 1) rfl rfl ?_
  refine am_ev.step (pc' := 2) rfl rfl ?_
  refine ax_pf (p' := 5) rfl rfl (S.ob rfl) rfl ?_
  refine am_ev.step (pc' := 6) rfl rfl ?_
  refine am_ev.step (pc' := 7) rfl rfl ?_
  refine ax_pf (p' := 10) rfl rfl (fO (S.ob rfl)) rfl ?_
  refine am_ev.step (pc' := 11) rfl rfl ?_
  refine ax_call (z := 170) (p' := 14) (as := [_]) rfl (Or.inr (Or.inl ⟨_, rfl⟩)) rfl rfl rfl rfl rfl rfl (fO (fO (S.ob rfl))) rfl (md_170 (p := 0) ((S.po rfl rfl).po rfl rfl) ((B.put (by decide)).put (by decide)) hb hL (ax_put_o (Or.inr (by decide)) (ax_put_o (Or.inr (by decide)) v3)) (ax_put_o (Or.inr (by decide)) (ax_put_o (Or.inr (by decide)) v5)) (ax_put_o (Or.inr (by decide)) (ax_put_o (Or.inr (by decide)) v7)) t0) rfl ?_
  exact am_ev.retv rfl rfl
theorem sv_41 : ∀ c, c < 7 → cq_sv 4 c = cq_sv 1 c := by decide +kernel
theorem rw_174 (S : fS h) (B : tb h 80 b L) (v3 : h.2.2.2 78 3 = iv L) (v4 : h.2.2.2 78 4 = iv s) (v5 : h.2.2.2 78 5 = iv e) (v6 : h.2.2.2 78 6 = iv (tH k)) (v7 : h.2.2.2 78 7 = iv w) (v8 : h.2.2.2 78 8 = iv 0) (v9 : h.2.2.2 78 9 = iv (-1)) (v2 : h.2.2.2 78 2 = iv 0) (t0 : tz_t b L 0 s e k v) (y0 : (k = 2 → w = v) ∧ (43 ≤ k → w = k)) : ∃ H : am_H, MS H h b L 0 s e k v w (fun _ => 0) (fun i => cq_sv 1 i) (fun _ => 70) ∧ ∀ x, am_ev (d + 7) 174 70 [.ref 78, iv ((0 : Nat) : Int), am_ph] [] H x → am_ev (d + 7) 174 0 (am_ent [.ref 78] 3) [] h x := by
  refine ⟨(am_put (am_put (am_put (am_put (am_put (am_put (am_put (am_put (am_put (am_put (am_put (am_put (am_put (am_put (am_put (am_put (am_put (am_put (am_put (am_put (am_put (am_put (am_put (am_put (am_put (am_put h 83 0 (iv 20)) 83 1 (iv 8)) 83 2 (iv 2)) 83 3 (iv 4)) 83 4 (iv 4)) 83 5 (iv 99999)) 83 6 (iv 9)) 84 0 (iv 70)) 84 1 (iv 70)) 84 2 (iv 70)) 84 3 (iv 70)) 84 4 (iv 70)) 84 5 (iv 70)) 85 0 (iv 0)) 85 1 (iv 0)) 85 2 (iv 0)) 85 3 (iv 0)) 85 4 (iv 0)) 85 5 (iv 0)) 85 6 (iv 0)) 85 7 (iv 0)) 85 8 (iv 0)) 85 9 (iv 0)) 85 10 (iv 0)) 85 11 (iv 0)) 85 12 (iv 0)), ⟨((((((((((((((((((((((((((S.pa rfl).pa rfl).pa rfl).pa rfl).pa rfl).pa rfl).pa rfl).pa rfl).pa rfl).pa rfl).pa rfl).pa rfl).pa rfl).pa rfl).pa rfl).pa rfl).pa rfl).pa rfl).pa rfl).pa rfl).pa rfl).pa rfl).pa rfl).pa rfl).pa rfl).pa rfl), ((((((((((((((((((((((((((B.put (by decide)).put (by decide)).put (by decide)).put (by decide)).put (by decide)).put (by decide)).put (by decide)).put (by decide)).put (by decide)).put (by decide)).put (by decide)).put (by decide)).put (by decide)).put (by decide)).put (by decide)).put (by decide)).put (by decide)).put (by decide)).put (by decide)).put (by decide)).put (by decide)).put (by decide)).put (by decide)).put (by decide)).put (by decide)).put (by decide)), (ax_put_o (Or.inl (by decide)) (ax_put_o (Or.inl (by decide)) (ax_put_o (Or.inl (by decide)) (ax_put_o (Or.inl (by decide)) (ax_put_o (Or.inl (by decide)) (ax_put_o (Or.inl (by decide)) (ax_put_o (Or.inl (by decide)) (ax_put_o (Or.inl (by decide)) (ax_put_o (Or.inl (by decide)) (ax_put_o (Or.inl (by decide)) (ax_put_o (Or.inl (by decide)) (ax_put_o (Or.inl (by decide)) (ax_put_o (Or.inl (by decide)) (ax_put_o (Or.inl (by decide)) (ax_put_o (Or.inl (by decide)) (ax_put_o (Or.inl (by decide)) (ax_put_o (Or.inl (by decide)) (ax_put_o (Or.inl (by decide)) (ax_put_o (Or.inl (by decide)) (ax_put_o (Or.inl (by decide)) (ax_put_o (Or.inl (by decide)) (ax_put_o (Or.inl (by decide)) (ax_put_o (Or.inl (by decide)) (ax_put_o (Or.inl (by decide)) (ax_put_o (Or.inl (by decide)) (ax_put_o (Or.inl (by decide)) v3)))))))))))))))))))))))))), t0, (ax_put_o (Or.inl (by decide)) (ax_put_o (Or.inl (by decide)) (ax_put_o (Or.inl (by decide)) (ax_put_o (Or.inl (by decide)) (ax_put_o (Or.inl (by decide)) (ax_put_o (Or.inl (by decide)) (ax_put_o (Or.inl (by decide)) (ax_put_o (Or.inl (by decide)) (ax_put_o (Or.inl (by decide)) (ax_put_o (Or.inl (by decide)) (ax_put_o (Or.inl (by decide)) (ax_put_o (Or.inl (by decide)) (ax_put_o (Or.inl (by decide)) (ax_put_o (Or.inl (by decide)) (ax_put_o (Or.inl (by decide)) (ax_put_o (Or.inl (by decide)) (ax_put_o (Or.inl (by decide)) (ax_put_o (Or.inl (by decide)) (ax_put_o (Or.inl (by decide)) (ax_put_o (Or.inl (by decide)) (ax_put_o (Or.inl (by decide)) (ax_put_o (Or.inl (by decide)) (ax_put_o (Or.inl (by decide)) (ax_put_o (Or.inl (by decide)) (ax_put_o (Or.inl (by decide)) (ax_put_o (Or.inl (by decide)) v4)))))))))))))))))))))))))), (ax_put_o (Or.inl (by decide)) (ax_put_o (Or.inl (by decide)) (ax_put_o (Or.inl (by decide)) (ax_put_o (Or.inl (by decide)) (ax_put_o (Or.inl (by decide)) (ax_put_o (Or.inl (by decide)) (ax_put_o (Or.inl (by decide)) (ax_put_o (Or.inl (by decide)) (ax_put_o (Or.inl (by decide)) (ax_put_o (Or.inl (by decide)) (ax_put_o (Or.inl (by decide)) (ax_put_o (Or.inl (by decide)) (ax_put_o (Or.inl (by decide)) (ax_put_o (Or.inl (by decide)) (ax_put_o (Or.inl (by decide)) (ax_put_o (Or.inl (by decide)) (ax_put_o (Or.inl (by decide)) (ax_put_o (Or.inl (by decide)) (ax_put_o (Or.inl (by decide)) (ax_put_o (Or.inl (by decide)) (ax_put_o (Or.inl (by decide)) (ax_put_o (Or.inl (by decide)) (ax_put_o (Or.inl (by decide)) (ax_put_o (Or.inl (by decide)) (ax_put_o (Or.inl (by decide)) (ax_put_o (Or.inl (by decide)) v5)))))))))))))))))))))))))), (ax_put_o (Or.inl (by decide)) (ax_put_o (Or.inl (by decide)) (ax_put_o (Or.inl (by decide)) (ax_put_o (Or.inl (by decide)) (ax_put_o (Or.inl (by decide)) (ax_put_o (Or.inl (by decide)) (ax_put_o (Or.inl (by decide)) (ax_put_o (Or.inl (by decide)) (ax_put_o (Or.inl (by decide)) (ax_put_o (Or.inl (by decide)) (ax_put_o (Or.inl (by decide)) (ax_put_o (Or.inl (by decide)) (ax_put_o (Or.inl (by decide)) (ax_put_o (Or.inl (by decide)) (ax_put_o (Or.inl (by decide)) (ax_put_o (Or.inl (by decide)) (ax_put_o (Or.inl (by decide)) (ax_put_o (Or.inl (by decide)) (ax_put_o (Or.inl (by decide)) (ax_put_o (Or.inl (by decide)) (ax_put_o (Or.inl (by decide)) (ax_put_o (Or.inl (by decide)) (ax_put_o (Or.inl (by decide)) (ax_put_o (Or.inl (by decide)) (ax_put_o (Or.inl (by decide)) (ax_put_o (Or.inl (by decide)) v6)))))))))))))))))))))))))), (ax_put_o (Or.inl (by decide)) (ax_put_o (Or.inl (by decide)) (ax_put_o (Or.inl (by decide)) (ax_put_o (Or.inl (by decide)) (ax_put_o (Or.inl (by decide)) (ax_put_o (Or.inl (by decide)) (ax_put_o (Or.inl (by decide)) (ax_put_o (Or.inl (by decide)) (ax_put_o (Or.inl (by decide)) (ax_put_o (Or.inl (by decide)) (ax_put_o (Or.inl (by decide)) (ax_put_o (Or.inl (by decide)) (ax_put_o (Or.inl (by decide)) (ax_put_o (Or.inl (by decide)) (ax_put_o (Or.inl (by decide)) (ax_put_o (Or.inl (by decide)) (ax_put_o (Or.inl (by decide)) (ax_put_o (Or.inl (by decide)) (ax_put_o (Or.inl (by decide)) (ax_put_o (Or.inl (by decide)) (ax_put_o (Or.inl (by decide)) (ax_put_o (Or.inl (by decide)) (ax_put_o (Or.inl (by decide)) (ax_put_o (Or.inl (by decide)) (ax_put_o (Or.inl (by decide)) (ax_put_o (Or.inl (by decide)) v7)))))))))))))))))))))))))), y0.1, y0.2, (ax_put_o (Or.inl (by decide)) (ax_put_o (Or.inl (by decide)) (ax_put_o (Or.inl (by decide)) (ax_put_o (Or.inl (by decide)) (ax_put_o (Or.inl (by decide)) (ax_put_o (Or.inl (by decide)) (ax_put_o (Or.inl (by decide)) (ax_put_o (Or.inl (by decide)) (ax_put_o (Or.inl (by decide)) (ax_put_o (Or.inl (by decide)) (ax_put_o (Or.inl (by decide)) (ax_put_o (Or.inl (by decide)) (ax_put_o (Or.inl (by decide)) (ax_put_o (Or.inl (by decide)) (ax_put_o (Or.inl (by decide)) (ax_put_o (Or.inl (by decide)) (ax_put_o (Or.inl (by decide)) (ax_put_o (Or.inl (by decide)) (ax_put_o (Or.inl (by decide)) (ax_put_o (Or.inl (by decide)) (ax_put_o (Or.inl (by decide)) (ax_put_o (Or.inl (by decide)) (ax_put_o (Or.inl (by decide)) (ax_put_o (Or.inl (by decide)) (ax_put_o (Or.inl (by decide)) (ax_put_o (Or.inl (by decide)) v8)))))))))))))))))))))))))), (ax_put_o (Or.inl (by decide)) (ax_put_o (Or.inl (by decide)) (ax_put_o (Or.inl (by decide)) (ax_put_o (Or.inl (by decide)) (ax_put_o (Or.inl (by decide)) (ax_put_o (Or.inl (by decide)) (ax_put_o (Or.inl (by decide)) (ax_put_o (Or.inl (by decide)) (ax_put_o (Or.inl (by decide)) (ax_put_o (Or.inl (by decide)) (ax_put_o (Or.inl (by decide)) (ax_put_o (Or.inl (by decide)) (ax_put_o (Or.inl (by decide)) (ax_put_o (Or.inl (by decide)) (ax_put_o (Or.inl (by decide)) (ax_put_o (Or.inl (by decide)) (ax_put_o (Or.inl (by decide)) (ax_put_o (Or.inl (by decide)) (ax_put_o (Or.inl (by decide)) (ax_put_o (Or.inl (by decide)) (ax_put_o (Or.inl (by decide)) (ax_put_o (Or.inl (by decide)) (ax_put_o (Or.inl (by decide)) (ax_put_o (Or.inl (by decide)) (ax_put_o (Or.inl (by decide)) (ax_put_o (Or.inl (by decide)) v9)))))))))))))))))))))))))), (fun j hj => by
      have hj2 : j = 0 ∨ j = 1 ∨ j = 2 ∨ j = 3 ∨ j = 4 ∨ j = 5 ∨ j = 6 ∨ j = 7 ∨ j = 8 ∨ j = 9 ∨ j = 10 ∨ j = 11 ∨ j = 12 := by omega
      rcases hj2 with rfl | rfl | rfl | rfl | rfl | rfl | rfl | rfl | rfl | rfl | rfl | rfl | rfl
      · exact (ax_put_o (Or.inr (by decide)) (ax_put_o (Or.inr (by decide)) (ax_put_o (Or.inr (by decide)) (ax_put_o (Or.inr (by decide)) (ax_put_o (Or.inr (by decide)) (ax_put_o (Or.inr (by decide)) (ax_put_o (Or.inr (by decide)) (ax_put_o (Or.inr (by decide)) (ax_put_o (Or.inr (by decide)) (ax_put_o (Or.inr (by decide)) (ax_put_o (Or.inr (by decide)) (ax_put_o (Or.inr (by decide)) (ax_put_s _ _ _)))))))))))))
      · exact (ax_put_o (Or.inr (by decide)) (ax_put_o (Or.inr (by decide)) (ax_put_o (Or.inr (by decide)) (ax_put_o (Or.inr (by decide)) (ax_put_o (Or.inr (by decide)) (ax_put_o (Or.inr (by decide)) (ax_put_o (Or.inr (by decide)) (ax_put_o (Or.inr (by decide)) (ax_put_o (Or.inr (by decide)) (ax_put_o (Or.inr (by decide)) (ax_put_o (Or.inr (by decide)) (ax_put_s _ _ _))))))))))))
      · exact (ax_put_o (Or.inr (by decide)) (ax_put_o (Or.inr (by decide)) (ax_put_o (Or.inr (by decide)) (ax_put_o (Or.inr (by decide)) (ax_put_o (Or.inr (by decide)) (ax_put_o (Or.inr (by decide)) (ax_put_o (Or.inr (by decide)) (ax_put_o (Or.inr (by decide)) (ax_put_o (Or.inr (by decide)) (ax_put_o (Or.inr (by decide)) (ax_put_s _ _ _)))))))))))
      · exact (ax_put_o (Or.inr (by decide)) (ax_put_o (Or.inr (by decide)) (ax_put_o (Or.inr (by decide)) (ax_put_o (Or.inr (by decide)) (ax_put_o (Or.inr (by decide)) (ax_put_o (Or.inr (by decide)) (ax_put_o (Or.inr (by decide)) (ax_put_o (Or.inr (by decide)) (ax_put_o (Or.inr (by decide)) (ax_put_s _ _ _))))))))))
      · exact (ax_put_o (Or.inr (by decide)) (ax_put_o (Or.inr (by decide)) (ax_put_o (Or.inr (by decide)) (ax_put_o (Or.inr (by decide)) (ax_put_o (Or.inr (by decide)) (ax_put_o (Or.inr (by decide)) (ax_put_o (Or.inr (by decide)) (ax_put_o (Or.inr (by decide)) (ax_put_s _ _ _)))))))))
      · exact (ax_put_o (Or.inr (by decide)) (ax_put_o (Or.inr (by decide)) (ax_put_o (Or.inr (by decide)) (ax_put_o (Or.inr (by decide)) (ax_put_o (Or.inr (by decide)) (ax_put_o (Or.inr (by decide)) (ax_put_o (Or.inr (by decide)) (ax_put_s _ _ _))))))))
      · exact (ax_put_o (Or.inr (by decide)) (ax_put_o (Or.inr (by decide)) (ax_put_o (Or.inr (by decide)) (ax_put_o (Or.inr (by decide)) (ax_put_o (Or.inr (by decide)) (ax_put_o (Or.inr (by decide)) (ax_put_s _ _ _)))))))
      · exact (ax_put_o (Or.inr (by decide)) (ax_put_o (Or.inr (by decide)) (ax_put_o (Or.inr (by decide)) (ax_put_o (Or.inr (by decide)) (ax_put_o (Or.inr (by decide)) (ax_put_s _ _ _))))))
      · exact (ax_put_o (Or.inr (by decide)) (ax_put_o (Or.inr (by decide)) (ax_put_o (Or.inr (by decide)) (ax_put_o (Or.inr (by decide)) (ax_put_s _ _ _)))))
      · exact (ax_put_o (Or.inr (by decide)) (ax_put_o (Or.inr (by decide)) (ax_put_o (Or.inr (by decide)) (ax_put_s _ _ _))))
      · exact (ax_put_o (Or.inr (by decide)) (ax_put_o (Or.inr (by decide)) (ax_put_s _ _ _)))
      · exact (ax_put_o (Or.inr (by decide)) (ax_put_s _ _ _))
      · exact (ax_put_s _ _ _)), (fun j hj => by
      have hj2 : j = 0 ∨ j = 1 ∨ j = 2 ∨ j = 3 ∨ j = 4 ∨ j = 5 ∨ j = 6 := by omega
      rcases hj2 with rfl | rfl | rfl | rfl | rfl | rfl | rfl
      · exact (ax_put_o (Or.inl (by decide)) (ax_put_o (Or.inl (by decide)) (ax_put_o (Or.inl (by decide)) (ax_put_o (Or.inl (by decide)) (ax_put_o (Or.inl (by decide)) (ax_put_o (Or.inl (by decide)) (ax_put_o (Or.inl (by decide)) (ax_put_o (Or.inl (by decide)) (ax_put_o (Or.inl (by decide)) (ax_put_o (Or.inl (by decide)) (ax_put_o (Or.inl (by decide)) (ax_put_o (Or.inl (by decide)) (ax_put_o (Or.inl (by decide)) (ax_put_o (Or.inl (by decide)) (ax_put_o (Or.inl (by decide)) (ax_put_o (Or.inl (by decide)) (ax_put_o (Or.inl (by decide)) (ax_put_o (Or.inl (by decide)) (ax_put_o (Or.inl (by decide)) (ax_put_o (Or.inr (by decide)) (ax_put_o (Or.inr (by decide)) (ax_put_o (Or.inr (by decide)) (ax_put_o (Or.inr (by decide)) (ax_put_o (Or.inr (by decide)) (ax_put_o (Or.inr (by decide)) (ax_put_s _ _ _))))))))))))))))))))))))))
      · exact (ax_put_o (Or.inl (by decide)) (ax_put_o (Or.inl (by decide)) (ax_put_o (Or.inl (by decide)) (ax_put_o (Or.inl (by decide)) (ax_put_o (Or.inl (by decide)) (ax_put_o (Or.inl (by decide)) (ax_put_o (Or.inl (by decide)) (ax_put_o (Or.inl (by decide)) (ax_put_o (Or.inl (by decide)) (ax_put_o (Or.inl (by decide)) (ax_put_o (Or.inl (by decide)) (ax_put_o (Or.inl (by decide)) (ax_put_o (Or.inl (by decide)) (ax_put_o (Or.inl (by decide)) (ax_put_o (Or.inl (by decide)) (ax_put_o (Or.inl (by decide)) (ax_put_o (Or.inl (by decide)) (ax_put_o (Or.inl (by decide)) (ax_put_o (Or.inl (by decide)) (ax_put_o (Or.inr (by decide)) (ax_put_o (Or.inr (by decide)) (ax_put_o (Or.inr (by decide)) (ax_put_o (Or.inr (by decide)) (ax_put_o (Or.inr (by decide)) (ax_put_s _ _ _)))))))))))))))))))))))))
      · exact (ax_put_o (Or.inl (by decide)) (ax_put_o (Or.inl (by decide)) (ax_put_o (Or.inl (by decide)) (ax_put_o (Or.inl (by decide)) (ax_put_o (Or.inl (by decide)) (ax_put_o (Or.inl (by decide)) (ax_put_o (Or.inl (by decide)) (ax_put_o (Or.inl (by decide)) (ax_put_o (Or.inl (by decide)) (ax_put_o (Or.inl (by decide)) (ax_put_o (Or.inl (by decide)) (ax_put_o (Or.inl (by decide)) (ax_put_o (Or.inl (by decide)) (ax_put_o (Or.inl (by decide)) (ax_put_o (Or.inl (by decide)) (ax_put_o (Or.inl (by decide)) (ax_put_o (Or.inl (by decide)) (ax_put_o (Or.inl (by decide)) (ax_put_o (Or.inl (by decide)) (ax_put_o (Or.inr (by decide)) (ax_put_o (Or.inr (by decide)) (ax_put_o (Or.inr (by decide)) (ax_put_o (Or.inr (by decide)) (ax_put_s _ _ _))))))))))))))))))))))))
      · exact (ax_put_o (Or.inl (by decide)) (ax_put_o (Or.inl (by decide)) (ax_put_o (Or.inl (by decide)) (ax_put_o (Or.inl (by decide)) (ax_put_o (Or.inl (by decide)) (ax_put_o (Or.inl (by decide)) (ax_put_o (Or.inl (by decide)) (ax_put_o (Or.inl (by decide)) (ax_put_o (Or.inl (by decide)) (ax_put_o (Or.inl (by decide)) (ax_put_o (Or.inl (by decide)) (ax_put_o (Or.inl (by decide)) (ax_put_o (Or.inl (by decide)) (ax_put_o (Or.inl (by decide)) (ax_put_o (Or.inl (by decide)) (ax_put_o (Or.inl (by decide)) (ax_put_o (Or.inl (by decide)) (ax_put_o (Or.inl (by decide)) (ax_put_o (Or.inl (by decide)) (ax_put_o (Or.inr (by decide)) (ax_put_o (Or.inr (by decide)) (ax_put_o (Or.inr (by decide)) (ax_put_s _ _ _)))))))))))))))))))))))
      · exact (ax_put_o (Or.inl (by decide)) (ax_put_o (Or.inl (by decide)) (ax_put_o (Or.inl (by decide)) (ax_put_o (Or.inl (by decide)) (ax_put_o (Or.inl (by decide)) (ax_put_o (Or.inl (by decide)) (ax_put_o (Or.inl (by decide)) (ax_put_o (Or.inl (by decide)) (ax_put_o (Or.inl (by decide)) (ax_put_o (Or.inl (by decide)) (ax_put_o (Or.inl (by decide)) (ax_put_o (Or.inl (by decide)) (ax_put_o (Or.inl (by decide)) (ax_put_o (Or.inl (by decide)) (ax_put_o (Or.inl (by decide)) (ax_put_o (Or.inl (by decide)) (ax_put_o (Or.inl (by decide)) (ax_put_o (Or.inl (by decide)) (ax_put_o (Or.inl (by decide)) (ax_put_o (Or.inr (by decide)) (ax_put_o (Or.inr (by decide)) (ax_put_s _ _ _))))))))))))))))))))))
      · exact (ax_put_o (Or.inl (by decide)) (ax_put_o (Or.inl (by decide)) (ax_put_o (Or.inl (by decide)) (ax_put_o (Or.inl (by decide)) (ax_put_o (Or.inl (by decide)) (ax_put_o (Or.inl (by decide)) (ax_put_o (Or.inl (by decide)) (ax_put_o (Or.inl (by decide)) (ax_put_o (Or.inl (by decide)) (ax_put_o (Or.inl (by decide)) (ax_put_o (Or.inl (by decide)) (ax_put_o (Or.inl (by decide)) (ax_put_o (Or.inl (by decide)) (ax_put_o (Or.inl (by decide)) (ax_put_o (Or.inl (by decide)) (ax_put_o (Or.inl (by decide)) (ax_put_o (Or.inl (by decide)) (ax_put_o (Or.inl (by decide)) (ax_put_o (Or.inl (by decide)) (ax_put_o (Or.inr (by decide)) (ax_put_s _ _ _)))))))))))))))))))))
      · exact (ax_put_o (Or.inl (by decide)) (ax_put_o (Or.inl (by decide)) (ax_put_o (Or.inl (by decide)) (ax_put_o (Or.inl (by decide)) (ax_put_o (Or.inl (by decide)) (ax_put_o (Or.inl (by decide)) (ax_put_o (Or.inl (by decide)) (ax_put_o (Or.inl (by decide)) (ax_put_o (Or.inl (by decide)) (ax_put_o (Or.inl (by decide)) (ax_put_o (Or.inl (by decide)) (ax_put_o (Or.inl (by decide)) (ax_put_o (Or.inl (by decide)) (ax_put_o (Or.inl (by decide)) (ax_put_o (Or.inl (by decide)) (ax_put_o (Or.inl (by decide)) (ax_put_o (Or.inl (by decide)) (ax_put_o (Or.inl (by decide)) (ax_put_o (Or.inl (by decide)) (ax_put_s _ _ _))))))))))))))))))))), (fun j hj => by
      have hj2 : j = 0 ∨ j = 1 ∨ j = 2 ∨ j = 3 ∨ j = 4 ∨ j = 5 := by omega
      rcases hj2 with rfl | rfl | rfl | rfl | rfl | rfl
      · exact (ax_put_o (Or.inl (by decide)) (ax_put_o (Or.inl (by decide)) (ax_put_o (Or.inl (by decide)) (ax_put_o (Or.inl (by decide)) (ax_put_o (Or.inl (by decide)) (ax_put_o (Or.inl (by decide)) (ax_put_o (Or.inl (by decide)) (ax_put_o (Or.inl (by decide)) (ax_put_o (Or.inl (by decide)) (ax_put_o (Or.inl (by decide)) (ax_put_o (Or.inl (by decide)) (ax_put_o (Or.inl (by decide)) (ax_put_o (Or.inl (by decide)) (ax_put_o (Or.inr (by decide)) (ax_put_o (Or.inr (by decide)) (ax_put_o (Or.inr (by decide)) (ax_put_o (Or.inr (by decide)) (ax_put_o (Or.inr (by decide)) (ax_put_s _ _ _)))))))))))))))))))
      · exact (ax_put_o (Or.inl (by decide)) (ax_put_o (Or.inl (by decide)) (ax_put_o (Or.inl (by decide)) (ax_put_o (Or.inl (by decide)) (ax_put_o (Or.inl (by decide)) (ax_put_o (Or.inl (by decide)) (ax_put_o (Or.inl (by decide)) (ax_put_o (Or.inl (by decide)) (ax_put_o (Or.inl (by decide)) (ax_put_o (Or.inl (by decide)) (ax_put_o (Or.inl (by decide)) (ax_put_o (Or.inl (by decide)) (ax_put_o (Or.inl (by decide)) (ax_put_o (Or.inr (by decide)) (ax_put_o (Or.inr (by decide)) (ax_put_o (Or.inr (by decide)) (ax_put_o (Or.inr (by decide)) (ax_put_s _ _ _))))))))))))))))))
      · exact (ax_put_o (Or.inl (by decide)) (ax_put_o (Or.inl (by decide)) (ax_put_o (Or.inl (by decide)) (ax_put_o (Or.inl (by decide)) (ax_put_o (Or.inl (by decide)) (ax_put_o (Or.inl (by decide)) (ax_put_o (Or.inl (by decide)) (ax_put_o (Or.inl (by decide)) (ax_put_o (Or.inl (by decide)) (ax_put_o (Or.inl (by decide)) (ax_put_o (Or.inl (by decide)) (ax_put_o (Or.inl (by decide)) (ax_put_o (Or.inl (by decide)) (ax_put_o (Or.inr (by decide)) (ax_put_o (Or.inr (by decide)) (ax_put_o (Or.inr (by decide)) (ax_put_s _ _ _)))))))))))))))))
      · exact (ax_put_o (Or.inl (by decide)) (ax_put_o (Or.inl (by decide)) (ax_put_o (Or.inl (by decide)) (ax_put_o (Or.inl (by decide)) (ax_put_o (Or.inl (by decide)) (ax_put_o (Or.inl (by decide)) (ax_put_o (Or.inl (by decide)) (ax_put_o (Or.inl (by decide)) (ax_put_o (Or.inl (by decide)) (ax_put_o (Or.inl (by decide)) (ax_put_o (Or.inl (by decide)) (ax_put_o (Or.inl (by decide)) (ax_put_o (Or.inl (by decide)) (ax_put_o (Or.inr (by decide)) (ax_put_o (Or.inr (by decide)) (ax_put_s _ _ _))))))))))))))))
      · exact (ax_put_o (Or.inl (by decide)) (ax_put_o (Or.inl (by decide)) (ax_put_o (Or.inl (by decide)) (ax_put_o (Or.inl (by decide)) (ax_put_o (Or.inl (by decide)) (ax_put_o (Or.inl (by decide)) (ax_put_o (Or.inl (by decide)) (ax_put_o (Or.inl (by decide)) (ax_put_o (Or.inl (by decide)) (ax_put_o (Or.inl (by decide)) (ax_put_o (Or.inl (by decide)) (ax_put_o (Or.inl (by decide)) (ax_put_o (Or.inl (by decide)) (ax_put_o (Or.inr (by decide)) (ax_put_s _ _ _)))))))))))))))
      · exact (ax_put_o (Or.inl (by decide)) (ax_put_o (Or.inl (by decide)) (ax_put_o (Or.inl (by decide)) (ax_put_o (Or.inl (by decide)) (ax_put_o (Or.inl (by decide)) (ax_put_o (Or.inl (by decide)) (ax_put_o (Or.inl (by decide)) (ax_put_o (Or.inl (by decide)) (ax_put_o (Or.inl (by decide)) (ax_put_o (Or.inl (by decide)) (ax_put_o (Or.inl (by decide)) (ax_put_o (Or.inl (by decide)) (ax_put_o (Or.inl (by decide)) (ax_put_s _ _ _))))))))))))))), fun j => (ax_put_o (Or.inl (by decide)) (ax_put_o (Or.inl (by decide)) (ax_put_o (Or.inl (by decide)) (ax_put_o (Or.inl (by decide)) (ax_put_o (Or.inl (by decide)) (ax_put_o (Or.inl (by decide)) (ax_put_o (Or.inl (by decide)) (ax_put_o (Or.inl (by decide)) (ax_put_o (Or.inl (by decide)) (ax_put_o (Or.inl (by decide)) (ax_put_o (Or.inl (by decide)) (ax_put_o (Or.inl (by decide)) (ax_put_o (Or.inl (by decide)) (ax_put_o (Or.inl (by decide)) (ax_put_o (Or.inl (by decide)) (ax_put_o (Or.inl (by decide)) (ax_put_o (Or.inl (by decide)) (ax_put_o (Or.inl (by decide)) (ax_put_o (Or.inl (by decide)) (ax_put_o (Or.inl (by decide)) (ax_put_o (Or.inl (by decide)) (ax_put_o (Or.inl (by decide)) (ax_put_o (Or.inl (by decide)) (ax_put_o (Or.inl (by decide)) (ax_put_o (Or.inl (by decide)) (ax_put_o (Or.inl (by decide)) rfl)))))))))))))))))))))))))), fun j => (ax_put_o (Or.inl (by decide)) (ax_put_o (Or.inl (by decide)) (ax_put_o (Or.inl (by decide)) (ax_put_o (Or.inl (by decide)) (ax_put_o (Or.inl (by decide)) (ax_put_o (Or.inl (by decide)) (ax_put_o (Or.inl (by decide)) (ax_put_o (Or.inl (by decide)) (ax_put_o (Or.inl (by decide)) (ax_put_o (Or.inl (by decide)) (ax_put_o (Or.inl (by decide)) (ax_put_o (Or.inl (by decide)) (ax_put_o (Or.inl (by decide)) (ax_put_o (Or.inl (by decide)) (ax_put_o (Or.inl (by decide)) (ax_put_o (Or.inl (by decide)) (ax_put_o (Or.inl (by decide)) (ax_put_o (Or.inl (by decide)) (ax_put_o (Or.inl (by decide)) (ax_put_o (Or.inl (by decide)) (ax_put_o (Or.inl (by decide)) (ax_put_o (Or.inl (by decide)) (ax_put_o (Or.inl (by decide)) (ax_put_o (Or.inl (by decide)) (ax_put_o (Or.inl (by decide)) (ax_put_o (Or.inl (by decide)) rfl)))))))))))))))))))))))))), (ax_put_o (Or.inl (by decide)) (ax_put_o (Or.inl (by decide)) (ax_put_o (Or.inl (by decide)) (ax_put_o (Or.inl (by decide)) (ax_put_o (Or.inl (by decide)) (ax_put_o (Or.inl (by decide)) (ax_put_o (Or.inl (by decide)) (ax_put_o (Or.inl (by decide)) (ax_put_o (Or.inl (by decide)) (ax_put_o (Or.inl (by decide)) (ax_put_o (Or.inl (by decide)) (ax_put_o (Or.inl (by decide)) (ax_put_o (Or.inl (by decide)) (ax_put_o (Or.inl (by decide)) (ax_put_o (Or.inl (by decide)) (ax_put_o (Or.inl (by decide)) (ax_put_o (Or.inl (by decide)) (ax_put_o (Or.inl (by decide)) (ax_put_o (Or.inl (by decide)) (ax_put_o (Or.inl (by decide)) (ax_put_o (Or.inl (by decide)) (ax_put_o (Or.inl (by decide)) (ax_put_o (Or.inl (by decide)) (ax_put_o (Or.inl (by decide)) (ax_put_o (Or.inl (by decide)) (ax_put_o (Or.inl (by decide)) v2))))))))))))))))))))))))))⟩, fun x q9 => ?_⟩
  show am_ev (d + 7) 174 0 [.ref 78, am_ph, am_ph] [] h x
  refine am_ev.step (pc' := 1) rfl rfl ?_
  refine am_ev.step (pc' := 2) (ls' := [.ref 78, iv 0, am_ph]) rfl rfl ?_
  refine am_ev.step (pc' := 3) rfl rfl ?_
  refine fx_bip (p' := 5) rfl rfl rfl ?_
  refine fx_c_ge_F (pF := 8) rfl (by omega) (by omega) rfl (by omega) ?_
  refine am_ev.step (pc' := 9) rfl rfl ?_
  refine ax_gf (p' := 12) rfl rfl (S.ob rfl) (S.rf rfl rfl) ?_
  refine am_ev.step (pc' := 13) rfl rfl ?_
  refine am_ev.step (pc' := 16) rfl rfl ?_
  refine am_ev.step (pc' := 17) rfl rfl ?_
  refine ax_iaload (p' := 18) rfl rfl (S.rs (k := 0) rfl rfl (by decide)) ?_
  refine ax_iastore (p' := 19) rfl rfl (S.wr (k := 0) rfl rfl rfl rfl (by decide)) ?_
  refine fx_inc (p' := 22) (e := 1) (ls' := [.ref 78, iv 1, am_ph]) rfl rfl rfl (by omega) rfl ?_
  refine am_ev.step (pc' := 2) rfl rfl ?_
  refine am_ev.step (pc' := 3) rfl rfl ?_
  refine fx_bip (p' := 5) rfl rfl rfl ?_
  refine fx_c_ge_F (pF := 8) rfl (by omega) (by omega) rfl (by omega) ?_
  refine am_ev.step (pc' := 9) rfl rfl ?_
  refine ax_gf (p' := 12) rfl rfl (fO (S.ob rfl)) (ax_put_o (Or.inl (by decide)) (S.rf rfl rfl)) ?_
  refine am_ev.step (pc' := 13) rfl rfl ?_
  refine am_ev.step (pc' := 16) rfl rfl ?_
  refine am_ev.step (pc' := 17) rfl rfl ?_
  refine ax_iaload (p' := 18) rfl rfl ((S.pa rfl).rs (k := 1) rfl rfl (by decide)) ?_
  refine ax_iastore (p' := 19) rfl rfl ((S.pa rfl).wr (k := 1) rfl rfl rfl rfl (by decide)) ?_
  refine fx_inc (p' := 22) (e := 2) (ls' := [.ref 78, iv 2, am_ph]) rfl rfl rfl (by omega) rfl ?_
  refine am_ev.step (pc' := 2) rfl rfl ?_
  refine am_ev.step (pc' := 3) rfl rfl ?_
  refine fx_bip (p' := 5) rfl rfl rfl ?_
  refine fx_c_ge_F (pF := 8) rfl (by omega) (by omega) rfl (by omega) ?_
  refine am_ev.step (pc' := 9) rfl rfl ?_
  refine ax_gf (p' := 12) rfl rfl (fO (fO (S.ob rfl))) (ax_put_o (Or.inl (by decide)) (ax_put_o (Or.inl (by decide)) (S.rf rfl rfl))) ?_
  refine am_ev.step (pc' := 13) rfl rfl ?_
  refine am_ev.step (pc' := 16) rfl rfl ?_
  refine am_ev.step (pc' := 17) rfl rfl ?_
  refine ax_iaload (p' := 18) rfl rfl (((S.pa rfl).pa rfl).rs (k := 2) rfl rfl (by decide)) ?_
  refine ax_iastore (p' := 19) rfl rfl (((S.pa rfl).pa rfl).wr (k := 2) rfl rfl rfl rfl (by decide)) ?_
  refine fx_inc (p' := 22) (e := 3) (ls' := [.ref 78, iv 3, am_ph]) rfl rfl rfl (by omega) rfl ?_
  refine am_ev.step (pc' := 2) rfl rfl ?_
  refine am_ev.step (pc' := 3) rfl rfl ?_
  refine fx_bip (p' := 5) rfl rfl rfl ?_
  refine fx_c_ge_F (pF := 8) rfl (by omega) (by omega) rfl (by omega) ?_
  refine am_ev.step (pc' := 9) rfl rfl ?_
  refine ax_gf (p' := 12) rfl rfl (fO (fO (fO (S.ob rfl)))) (ax_put_o (Or.inl (by decide)) (ax_put_o (Or.inl (by decide)) (ax_put_o (Or.inl (by decide)) (S.rf rfl rfl)))) ?_
  refine am_ev.step (pc' := 13) rfl rfl ?_
  refine am_ev.step (pc' := 16) rfl rfl ?_
  refine am_ev.step (pc' := 17) rfl rfl ?_
  refine ax_iaload (p' := 18) rfl rfl ((((S.pa rfl).pa rfl).pa rfl).rs (k := 3) rfl rfl (by decide)) ?_
  refine ax_iastore (p' := 19) rfl rfl ((((S.pa rfl).pa rfl).pa rfl).wr (k := 3) rfl rfl rfl rfl (by decide)) ?_
  refine fx_inc (p' := 22) (e := 4) (ls' := [.ref 78, iv 4, am_ph]) rfl rfl rfl (by omega) rfl ?_
  refine am_ev.step (pc' := 2) rfl rfl ?_
  refine am_ev.step (pc' := 3) rfl rfl ?_
  refine fx_bip (p' := 5) rfl rfl rfl ?_
  refine fx_c_ge_F (pF := 8) rfl (by omega) (by omega) rfl (by omega) ?_
  refine am_ev.step (pc' := 9) rfl rfl ?_
  refine ax_gf (p' := 12) rfl rfl (fO (fO (fO (fO (S.ob rfl))))) (ax_put_o (Or.inl (by decide)) (ax_put_o (Or.inl (by decide)) (ax_put_o (Or.inl (by decide)) (ax_put_o (Or.inl (by decide)) (S.rf rfl rfl))))) ?_
  refine am_ev.step (pc' := 13) rfl rfl ?_
  refine am_ev.step (pc' := 16) rfl rfl ?_
  refine am_ev.step (pc' := 17) rfl rfl ?_
  refine ax_iaload (p' := 18) rfl rfl (((((S.pa rfl).pa rfl).pa rfl).pa rfl).rs (k := 4) rfl rfl (by decide)) ?_
  refine ax_iastore (p' := 19) rfl rfl (((((S.pa rfl).pa rfl).pa rfl).pa rfl).wr (k := 4) rfl rfl rfl rfl (by decide)) ?_
  refine fx_inc (p' := 22) (e := 5) (ls' := [.ref 78, iv 5, am_ph]) rfl rfl rfl (by omega) rfl ?_
  refine am_ev.step (pc' := 2) rfl rfl ?_
  refine am_ev.step (pc' := 3) rfl rfl ?_
  refine fx_bip (p' := 5) rfl rfl rfl ?_
  refine fx_c_ge_F (pF := 8) rfl (by omega) (by omega) rfl (by omega) ?_
  refine am_ev.step (pc' := 9) rfl rfl ?_
  refine ax_gf (p' := 12) rfl rfl (fO (fO (fO (fO (fO (S.ob rfl)))))) (ax_put_o (Or.inl (by decide)) (ax_put_o (Or.inl (by decide)) (ax_put_o (Or.inl (by decide)) (ax_put_o (Or.inl (by decide)) (ax_put_o (Or.inl (by decide)) (S.rf rfl rfl)))))) ?_
  refine am_ev.step (pc' := 13) rfl rfl ?_
  refine am_ev.step (pc' := 16) rfl rfl ?_
  refine am_ev.step (pc' := 17) rfl rfl ?_
  refine ax_iaload (p' := 18) rfl rfl ((((((S.pa rfl).pa rfl).pa rfl).pa rfl).pa rfl).rs (k := 5) rfl rfl (by decide)) ?_
  refine ax_iastore (p' := 19) rfl rfl ((((((S.pa rfl).pa rfl).pa rfl).pa rfl).pa rfl).wr (k := 5) rfl rfl rfl rfl (by decide)) ?_
  refine fx_inc (p' := 22) (e := 6) (ls' := [.ref 78, iv 6, am_ph]) rfl rfl rfl (by omega) rfl ?_
  refine am_ev.step (pc' := 2) rfl rfl ?_
  refine am_ev.step (pc' := 3) rfl rfl ?_
  refine fx_bip (p' := 5) rfl rfl rfl ?_
  refine fx_c_ge_F (pF := 8) rfl (by omega) (by omega) rfl (by omega) ?_
  refine am_ev.step (pc' := 9) rfl rfl ?_
  refine ax_gf (p' := 12) rfl rfl (fO (fO (fO (fO (fO (fO (S.ob rfl))))))) (ax_put_o (Or.inl (by decide)) (ax_put_o (Or.inl (by decide)) (ax_put_o (Or.inl (by decide)) (ax_put_o (Or.inl (by decide)) (ax_put_o (Or.inl (by decide)) (ax_put_o (Or.inl (by decide)) (S.rf rfl rfl))))))) ?_
  refine am_ev.step (pc' := 13) rfl rfl ?_
  refine am_ev.step (pc' := 16) rfl rfl ?_
  refine am_ev.step (pc' := 17) rfl rfl ?_
  refine ax_iaload (p' := 18) rfl rfl (((((((S.pa rfl).pa rfl).pa rfl).pa rfl).pa rfl).pa rfl).rs (k := 6) rfl rfl (by decide)) ?_
  refine ax_iastore (p' := 19) rfl rfl (((((((S.pa rfl).pa rfl).pa rfl).pa rfl).pa rfl).pa rfl).wr (k := 6) rfl rfl rfl rfl (by decide)) ?_
  refine fx_inc (p' := 22) (e := 7) (ls' := [.ref 78, iv 7, am_ph]) rfl rfl rfl (by omega) rfl ?_
  refine am_ev.step (pc' := 2) rfl rfl ?_
  refine am_ev.step (pc' := 3) rfl rfl ?_
  refine fx_bip (p' := 5) rfl rfl rfl ?_
  refine fx_c_ge_T (pT := 25) rfl (by omega) (by omega) rfl (by omega) ?_
  refine am_ev.step (pc' := 26) rfl rfl ?_
  refine am_ev.step (pc' := 27) (ls' := [.ref 78, iv 0, am_ph]) rfl rfl ?_
  refine am_ev.step (pc' := 28) rfl rfl ?_
  refine fx_bip (p' := 30) rfl rfl rfl ?_
  refine fx_c_ge_F (pF := 33) rfl (by omega) (by omega) rfl (by omega) ?_
  refine am_ev.step (pc' := 34) rfl rfl ?_
  refine ax_gf (p' := 37) rfl rfl (fO (fO (fO (fO (fO (fO (fO (S.ob rfl)))))))) (ax_put_o (Or.inl (by decide)) (ax_put_o (Or.inl (by decide)) (ax_put_o (Or.inl (by decide)) (ax_put_o (Or.inl (by decide)) (ax_put_o (Or.inl (by decide)) (ax_put_o (Or.inl (by decide)) (ax_put_o (Or.inl (by decide)) (S.rf rfl rfl)))))))) ?_
  refine am_ev.step (pc' := 38) rfl rfl ?_
  refine fx_bip (p' := 40) rfl rfl rfl ?_
  refine ax_iastore (p' := 41) rfl rfl ((((((((S.pa rfl).pa rfl).pa rfl).pa rfl).pa rfl).pa rfl).pa rfl).wr (k := 0) rfl rfl rfl rfl (by decide)) ?_
  refine fx_inc (p' := 44) (e := 1) (ls' := [.ref 78, iv 1, am_ph]) rfl rfl rfl (by omega) rfl ?_
  refine am_ev.step (pc' := 27) rfl rfl ?_
  refine am_ev.step (pc' := 28) rfl rfl ?_
  refine fx_bip (p' := 30) rfl rfl rfl ?_
  refine fx_c_ge_F (pF := 33) rfl (by omega) (by omega) rfl (by omega) ?_
  refine am_ev.step (pc' := 34) rfl rfl ?_
  refine ax_gf (p' := 37) rfl rfl (fO (fO (fO (fO (fO (fO (fO (fO (S.ob rfl))))))))) (ax_put_o (Or.inl (by decide)) (ax_put_o (Or.inl (by decide)) (ax_put_o (Or.inl (by decide)) (ax_put_o (Or.inl (by decide)) (ax_put_o (Or.inl (by decide)) (ax_put_o (Or.inl (by decide)) (ax_put_o (Or.inl (by decide)) (ax_put_o (Or.inl (by decide)) (S.rf rfl rfl))))))))) ?_
  refine am_ev.step (pc' := 38) rfl rfl ?_
  refine fx_bip (p' := 40) rfl rfl rfl ?_
  refine ax_iastore (p' := 41) rfl rfl (((((((((S.pa rfl).pa rfl).pa rfl).pa rfl).pa rfl).pa rfl).pa rfl).pa rfl).wr (k := 1) rfl rfl rfl rfl (by decide)) ?_
  refine fx_inc (p' := 44) (e := 2) (ls' := [.ref 78, iv 2, am_ph]) rfl rfl rfl (by omega) rfl ?_
  refine am_ev.step (pc' := 27) rfl rfl ?_
  refine am_ev.step (pc' := 28) rfl rfl ?_
  refine fx_bip (p' := 30) rfl rfl rfl ?_
  refine fx_c_ge_F (pF := 33) rfl (by omega) (by omega) rfl (by omega) ?_
  refine am_ev.step (pc' := 34) rfl rfl ?_
  refine ax_gf (p' := 37) rfl rfl (fO (fO (fO (fO (fO (fO (fO (fO (fO (S.ob rfl)))))))))) (ax_put_o (Or.inl (by decide)) (ax_put_o (Or.inl (by decide)) (ax_put_o (Or.inl (by decide)) (ax_put_o (Or.inl (by decide)) (ax_put_o (Or.inl (by decide)) (ax_put_o (Or.inl (by decide)) (ax_put_o (Or.inl (by decide)) (ax_put_o (Or.inl (by decide)) (ax_put_o (Or.inl (by decide)) (S.rf rfl rfl)))))))))) ?_
  refine am_ev.step (pc' := 38) rfl rfl ?_
  refine fx_bip (p' := 40) rfl rfl rfl ?_
  refine ax_iastore (p' := 41) rfl rfl ((((((((((S.pa rfl).pa rfl).pa rfl).pa rfl).pa rfl).pa rfl).pa rfl).pa rfl).pa rfl).wr (k := 2) rfl rfl rfl rfl (by decide)) ?_
  refine fx_inc (p' := 44) (e := 3) (ls' := [.ref 78, iv 3, am_ph]) rfl rfl rfl (by omega) rfl ?_
  refine am_ev.step (pc' := 27) rfl rfl ?_
  refine am_ev.step (pc' := 28) rfl rfl ?_
  refine fx_bip (p' := 30) rfl rfl rfl ?_
  refine fx_c_ge_F (pF := 33) rfl (by omega) (by omega) rfl (by omega) ?_
  refine am_ev.step (pc' := 34) rfl rfl ?_
  refine ax_gf (p' := 37) rfl rfl (fO (fO (fO (fO (fO (fO (fO (fO (fO (fO (S.ob rfl))))))))))) (ax_put_o (Or.inl (by decide)) (ax_put_o (Or.inl (by decide)) (ax_put_o (Or.inl (by decide)) (ax_put_o (Or.inl (by decide)) (ax_put_o (Or.inl (by decide)) (ax_put_o (Or.inl (by decide)) (ax_put_o (Or.inl (by decide)) (ax_put_o (Or.inl (by decide)) (ax_put_o (Or.inl (by decide)) (ax_put_o (Or.inl (by decide)) (S.rf rfl rfl))))))))))) ?_
  refine am_ev.step (pc' := 38) rfl rfl ?_
  refine fx_bip (p' := 40) rfl rfl rfl ?_
  refine ax_iastore (p' := 41) rfl rfl (((((((((((S.pa rfl).pa rfl).pa rfl).pa rfl).pa rfl).pa rfl).pa rfl).pa rfl).pa rfl).pa rfl).wr (k := 3) rfl rfl rfl rfl (by decide)) ?_
  refine fx_inc (p' := 44) (e := 4) (ls' := [.ref 78, iv 4, am_ph]) rfl rfl rfl (by omega) rfl ?_
  refine am_ev.step (pc' := 27) rfl rfl ?_
  refine am_ev.step (pc' := 28) rfl rfl ?_
  refine fx_bip (p' := 30) rfl rfl rfl ?_
  refine fx_c_ge_F (pF := 33) rfl (by omega) (by omega) rfl (by omega) ?_
  refine am_ev.step (pc' := 34) rfl rfl ?_
  refine ax_gf (p' := 37) rfl rfl (fO (fO (fO (fO (fO (fO (fO (fO (fO (fO (fO (S.ob rfl)))))))))))) (ax_put_o (Or.inl (by decide)) (ax_put_o (Or.inl (by decide)) (ax_put_o (Or.inl (by decide)) (ax_put_o (Or.inl (by decide)) (ax_put_o (Or.inl (by decide)) (ax_put_o (Or.inl (by decide)) (ax_put_o (Or.inl (by decide)) (ax_put_o (Or.inl (by decide)) (ax_put_o (Or.inl (by decide)) (ax_put_o (Or.inl (by decide)) (ax_put_o (Or.inl (by decide)) (S.rf rfl rfl)))))))))))) ?_
  refine am_ev.step (pc' := 38) rfl rfl ?_
  refine fx_bip (p' := 40) rfl rfl rfl ?_
  refine ax_iastore (p' := 41) rfl rfl ((((((((((((S.pa rfl).pa rfl).pa rfl).pa rfl).pa rfl).pa rfl).pa rfl).pa rfl).pa rfl).pa rfl).pa rfl).wr (k := 4) rfl rfl rfl rfl (by decide)) ?_
  refine fx_inc (p' := 44) (e := 5) (ls' := [.ref 78, iv 5, am_ph]) rfl rfl rfl (by omega) rfl ?_
  refine am_ev.step (pc' := 27) rfl rfl ?_
  refine am_ev.step (pc' := 28) rfl rfl ?_
  refine fx_bip (p' := 30) rfl rfl rfl ?_
  refine fx_c_ge_F (pF := 33) rfl (by omega) (by omega) rfl (by omega) ?_
  refine am_ev.step (pc' := 34) rfl rfl ?_
  refine ax_gf (p' := 37) rfl rfl (fO (fO (fO (fO (fO (fO (fO (fO (fO (fO (fO (fO (S.ob rfl))))))))))))) (ax_put_o (Or.inl (by decide)) (ax_put_o (Or.inl (by decide)) (ax_put_o (Or.inl (by decide)) (ax_put_o (Or.inl (by decide)) (ax_put_o (Or.inl (by decide)) (ax_put_o (Or.inl (by decide)) (ax_put_o (Or.inl (by decide)) (ax_put_o (Or.inl (by decide)) (ax_put_o (Or.inl (by decide)) (ax_put_o (Or.inl (by decide)) (ax_put_o (Or.inl (by decide)) (ax_put_o (Or.inl (by decide)) (S.rf rfl rfl))))))))))))) ?_
  refine am_ev.step (pc' := 38) rfl rfl ?_
  refine fx_bip (p' := 40) rfl rfl rfl ?_
  refine ax_iastore (p' := 41) rfl rfl (((((((((((((S.pa rfl).pa rfl).pa rfl).pa rfl).pa rfl).pa rfl).pa rfl).pa rfl).pa rfl).pa rfl).pa rfl).pa rfl).wr (k := 5) rfl rfl rfl rfl (by decide)) ?_
  refine fx_inc (p' := 44) (e := 6) (ls' := [.ref 78, iv 6, am_ph]) rfl rfl rfl (by omega) rfl ?_
  refine am_ev.step (pc' := 27) rfl rfl ?_
  refine am_ev.step (pc' := 28) rfl rfl ?_
  refine fx_bip (p' := 30) rfl rfl rfl ?_
  refine fx_c_ge_T (pT := 47) rfl (by omega) (by omega) rfl (by omega) ?_
  refine am_ev.step (pc' := 48) rfl rfl ?_
  refine am_ev.step (pc' := 49) (ls' := [.ref 78, iv 0, am_ph]) rfl rfl ?_
  refine am_ev.step (pc' := 50) rfl rfl ?_
  refine fx_bip (p' := 52) rfl rfl rfl ?_
  refine fx_c_ge_F (pF := 55) rfl (by omega) (by omega) rfl (by omega) ?_
  refine am_ev.step (pc' := 56) rfl rfl ?_
  refine ax_gf (p' := 59) rfl rfl (fO (fO (fO (fO (fO (fO (fO (fO (fO (fO (fO (fO (fO (S.ob rfl)))))))))))))) (ax_put_o (Or.inl (by decide)) (ax_put_o (Or.inl (by decide)) (ax_put_o (Or.inl (by decide)) (ax_put_o (Or.inl (by decide)) (ax_put_o (Or.inl (by decide)) (ax_put_o (Or.inl (by decide)) (ax_put_o (Or.inl (by decide)) (ax_put_o (Or.inl (by decide)) (ax_put_o (Or.inl (by decide)) (ax_put_o (Or.inl (by decide)) (ax_put_o (Or.inl (by decide)) (ax_put_o (Or.inl (by decide)) (ax_put_o (Or.inl (by decide)) (S.rf rfl rfl)))))))))))))) ?_
  refine am_ev.step (pc' := 60) rfl rfl ?_
  refine am_ev.step (pc' := 61) rfl rfl ?_
  refine ax_bas2 (p' := 62) rfl rfl ((((((((((((((S.pa rfl).pa rfl).pa rfl).pa rfl).pa rfl).pa rfl).pa rfl).pa rfl).pa rfl).pa rfl).pa rfl).pa rfl).pa rfl).wr (k := 0) rfl rfl rfl rfl (by decide)) ((((((((((((((S.pa rfl).pa rfl).pa rfl).pa rfl).pa rfl).pa rfl).pa rfl).pa rfl).pa rfl).pa rfl).pa rfl).pa rfl).pa rfl).sb rfl rfl) (by decide) ?_
  refine fx_inc (p' := 65) (e := 1) (ls' := [.ref 78, iv 1, am_ph]) rfl rfl rfl (by omega) rfl ?_
  refine am_ev.step (pc' := 49) rfl rfl ?_
  refine am_ev.step (pc' := 50) rfl rfl ?_
  refine fx_bip (p' := 52) rfl rfl rfl ?_
  refine fx_c_ge_F (pF := 55) rfl (by omega) (by omega) rfl (by omega) ?_
  refine am_ev.step (pc' := 56) rfl rfl ?_
  refine ax_gf (p' := 59) rfl rfl (fO (fO (fO (fO (fO (fO (fO (fO (fO (fO (fO (fO (fO (fO (S.ob rfl))))))))))))))) (ax_put_o (Or.inl (by decide)) (ax_put_o (Or.inl (by decide)) (ax_put_o (Or.inl (by decide)) (ax_put_o (Or.inl (by decide)) (ax_put_o (Or.inl (by decide)) (ax_put_o (Or.inl (by decide)) (ax_put_o (Or.inl (by decide)) (ax_put_o (Or.inl (by decide)) (ax_put_o (Or.inl (by decide)) (ax_put_o (Or.inl (by decide)) (ax_put_o (Or.inl (by decide)) (ax_put_o (Or.inl (by decide)) (ax_put_o (Or.inl (by decide)) (ax_put_o (Or.inl (by decide)) (S.rf rfl rfl))))))))))))))) ?_
  refine am_ev.step (pc' := 60) rfl rfl ?_
  refine am_ev.step (pc' := 61) rfl rfl ?_
  refine ax_bas2 (p' := 62) rfl rfl (((((((((((((((S.pa rfl).pa rfl).pa rfl).pa rfl).pa rfl).pa rfl).pa rfl).pa rfl).pa rfl).pa rfl).pa rfl).pa rfl).pa rfl).pa rfl).wr (k := 1) rfl rfl rfl rfl (by decide)) (((((((((((((((S.pa rfl).pa rfl).pa rfl).pa rfl).pa rfl).pa rfl).pa rfl).pa rfl).pa rfl).pa rfl).pa rfl).pa rfl).pa rfl).pa rfl).sb rfl rfl) (by decide) ?_
  refine fx_inc (p' := 65) (e := 2) (ls' := [.ref 78, iv 2, am_ph]) rfl rfl rfl (by omega) rfl ?_
  refine am_ev.step (pc' := 49) rfl rfl ?_
  refine am_ev.step (pc' := 50) rfl rfl ?_
  refine fx_bip (p' := 52) rfl rfl rfl ?_
  refine fx_c_ge_F (pF := 55) rfl (by omega) (by omega) rfl (by omega) ?_
  refine am_ev.step (pc' := 56) rfl rfl ?_
  refine ax_gf (p' := 59) rfl rfl (fO (fO (fO (fO (fO (fO (fO (fO (fO (fO (fO (fO (fO (fO (fO (S.ob rfl)))))))))))))))) (ax_put_o (Or.inl (by decide)) (ax_put_o (Or.inl (by decide)) (ax_put_o (Or.inl (by decide)) (ax_put_o (Or.inl (by decide)) (ax_put_o (Or.inl (by decide)) (ax_put_o (Or.inl (by decide)) (ax_put_o (Or.inl (by decide)) (ax_put_o (Or.inl (by decide)) (ax_put_o (Or.inl (by decide)) (ax_put_o (Or.inl (by decide)) (ax_put_o (Or.inl (by decide)) (ax_put_o (Or.inl (by decide)) (ax_put_o (Or.inl (by decide)) (ax_put_o (Or.inl (by decide)) (ax_put_o (Or.inl (by decide)) (S.rf rfl rfl)))))))))))))))) ?_
  refine am_ev.step (pc' := 60) rfl rfl ?_
  refine am_ev.step (pc' := 61) rfl rfl ?_
  refine ax_bas2 (p' := 62) rfl rfl ((((((((((((((((S.pa rfl).pa rfl).pa rfl).pa rfl).pa rfl).pa rfl).pa rfl).pa rfl).pa rfl).pa rfl).pa rfl).pa rfl).pa rfl).pa rfl).pa rfl).wr (k := 2) rfl rfl rfl rfl (by decide)) ((((((((((((((((S.pa rfl).pa rfl).pa rfl).pa rfl).pa rfl).pa rfl).pa rfl).pa rfl).pa rfl).pa rfl).pa rfl).pa rfl).pa rfl).pa rfl).pa rfl).sb rfl rfl) (by decide) ?_
  refine fx_inc (p' := 65) (e := 3) (ls' := [.ref 78, iv 3, am_ph]) rfl rfl rfl (by omega) rfl ?_
  refine am_ev.step (pc' := 49) rfl rfl ?_
  refine am_ev.step (pc' := 50) rfl rfl ?_
  refine fx_bip (p' := 52) rfl rfl rfl ?_
  refine fx_c_ge_F (pF := 55) rfl (by omega) (by omega) rfl (by omega) ?_
  refine am_ev.step (pc' := 56) rfl rfl ?_
  refine ax_gf (p' := 59) rfl rfl (fO (fO (fO (fO (fO (fO (fO (fO (fO (fO (fO (fO (fO (fO (fO (fO (S.ob rfl))))))))))))))))) (ax_put_o (Or.inl (by decide)) (ax_put_o (Or.inl (by decide)) (ax_put_o (Or.inl (by decide)) (ax_put_o (Or.inl (by decide)) (ax_put_o (Or.inl (by decide)) (ax_put_o (Or.inl (by decide)) (ax_put_o (Or.inl (by decide)) (ax_put_o (Or.inl (by decide)) (ax_put_o (Or.inl (by decide)) (ax_put_o (Or.inl (by decide)) (ax_put_o (Or.inl (by decide)) (ax_put_o (Or.inl (by decide)) (ax_put_o (Or.inl (by decide)) (ax_put_o (Or.inl (by decide)) (ax_put_o (Or.inl (by decide)) (ax_put_o (Or.inl (by decide)) (S.rf rfl rfl))))))))))))))))) ?_
  refine am_ev.step (pc' := 60) rfl rfl ?_
  refine am_ev.step (pc' := 61) rfl rfl ?_
  refine ax_bas2 (p' := 62) rfl rfl (((((((((((((((((S.pa rfl).pa rfl).pa rfl).pa rfl).pa rfl).pa rfl).pa rfl).pa rfl).pa rfl).pa rfl).pa rfl).pa rfl).pa rfl).pa rfl).pa rfl).pa rfl).wr (k := 3) rfl rfl rfl rfl (by decide)) (((((((((((((((((S.pa rfl).pa rfl).pa rfl).pa rfl).pa rfl).pa rfl).pa rfl).pa rfl).pa rfl).pa rfl).pa rfl).pa rfl).pa rfl).pa rfl).pa rfl).pa rfl).sb rfl rfl) (by decide) ?_
  refine fx_inc (p' := 65) (e := 4) (ls' := [.ref 78, iv 4, am_ph]) rfl rfl rfl (by omega) rfl ?_
  refine am_ev.step (pc' := 49) rfl rfl ?_
  refine am_ev.step (pc' := 50) rfl rfl ?_
  refine fx_bip (p' := 52) rfl rfl rfl ?_
  refine fx_c_ge_F (pF := 55) rfl (by omega) (by omega) rfl (by omega) ?_
  refine am_ev.step (pc' := 56) rfl rfl ?_
  refine ax_gf (p' := 59) rfl rfl (fO (fO (fO (fO (fO (fO (fO (fO (fO (fO (fO (fO (fO (fO (fO (fO (fO (S.ob rfl)))))))))))))))))) (ax_put_o (Or.inl (by decide)) (ax_put_o (Or.inl (by decide)) (ax_put_o (Or.inl (by decide)) (ax_put_o (Or.inl (by decide)) (ax_put_o (Or.inl (by decide)) (ax_put_o (Or.inl (by decide)) (ax_put_o (Or.inl (by decide)) (ax_put_o (Or.inl (by decide)) (ax_put_o (Or.inl (by decide)) (ax_put_o (Or.inl (by decide)) (ax_put_o (Or.inl (by decide)) (ax_put_o (Or.inl (by decide)) (ax_put_o (Or.inl (by decide)) (ax_put_o (Or.inl (by decide)) (ax_put_o (Or.inl (by decide)) (ax_put_o (Or.inl (by decide)) (ax_put_o (Or.inl (by decide)) (S.rf rfl rfl)))))))))))))))))) ?_
  refine am_ev.step (pc' := 60) rfl rfl ?_
  refine am_ev.step (pc' := 61) rfl rfl ?_
  refine ax_bas2 (p' := 62) rfl rfl ((((((((((((((((((S.pa rfl).pa rfl).pa rfl).pa rfl).pa rfl).pa rfl).pa rfl).pa rfl).pa rfl).pa rfl).pa rfl).pa rfl).pa rfl).pa rfl).pa rfl).pa rfl).pa rfl).wr (k := 4) rfl rfl rfl rfl (by decide)) ((((((((((((((((((S.pa rfl).pa rfl).pa rfl).pa rfl).pa rfl).pa rfl).pa rfl).pa rfl).pa rfl).pa rfl).pa rfl).pa rfl).pa rfl).pa rfl).pa rfl).pa rfl).pa rfl).sb rfl rfl) (by decide) ?_
  refine fx_inc (p' := 65) (e := 5) (ls' := [.ref 78, iv 5, am_ph]) rfl rfl rfl (by omega) rfl ?_
  refine am_ev.step (pc' := 49) rfl rfl ?_
  refine am_ev.step (pc' := 50) rfl rfl ?_
  refine fx_bip (p' := 52) rfl rfl rfl ?_
  refine fx_c_ge_F (pF := 55) rfl (by omega) (by omega) rfl (by omega) ?_
  refine am_ev.step (pc' := 56) rfl rfl ?_
  refine ax_gf (p' := 59) rfl rfl (fO (fO (fO (fO (fO (fO (fO (fO (fO (fO (fO (fO (fO (fO (fO (fO (fO (fO (S.ob rfl))))))))))))))))))) (ax_put_o (Or.inl (by decide)) (ax_put_o (Or.inl (by decide)) (ax_put_o (Or.inl (by decide)) (ax_put_o (Or.inl (by decide)) (ax_put_o (Or.inl (by decide)) (ax_put_o (Or.inl (by decide)) (ax_put_o (Or.inl (by decide)) (ax_put_o (Or.inl (by decide)) (ax_put_o (Or.inl (by decide)) (ax_put_o (Or.inl (by decide)) (ax_put_o (Or.inl (by decide)) (ax_put_o (Or.inl (by decide)) (ax_put_o (Or.inl (by decide)) (ax_put_o (Or.inl (by decide)) (ax_put_o (Or.inl (by decide)) (ax_put_o (Or.inl (by decide)) (ax_put_o (Or.inl (by decide)) (ax_put_o (Or.inl (by decide)) (S.rf rfl rfl))))))))))))))))))) ?_
  refine am_ev.step (pc' := 60) rfl rfl ?_
  refine am_ev.step (pc' := 61) rfl rfl ?_
  refine ax_bas2 (p' := 62) rfl rfl (((((((((((((((((((S.pa rfl).pa rfl).pa rfl).pa rfl).pa rfl).pa rfl).pa rfl).pa rfl).pa rfl).pa rfl).pa rfl).pa rfl).pa rfl).pa rfl).pa rfl).pa rfl).pa rfl).pa rfl).wr (k := 5) rfl rfl rfl rfl (by decide)) (((((((((((((((((((S.pa rfl).pa rfl).pa rfl).pa rfl).pa rfl).pa rfl).pa rfl).pa rfl).pa rfl).pa rfl).pa rfl).pa rfl).pa rfl).pa rfl).pa rfl).pa rfl).pa rfl).pa rfl).sb rfl rfl) (by decide) ?_
  refine fx_inc (p' := 65) (e := 6) (ls' := [.ref 78, iv 6, am_ph]) rfl rfl rfl (by omega) rfl ?_
  refine am_ev.step (pc' := 49) rfl rfl ?_
  refine am_ev.step (pc' := 50) rfl rfl ?_
  refine fx_bip (p' := 52) rfl rfl rfl ?_
  refine fx_c_ge_F (pF := 55) rfl (by omega) (by omega) rfl (by omega) ?_
  refine am_ev.step (pc' := 56) rfl rfl ?_
  refine ax_gf (p' := 59) rfl rfl (fO (fO (fO (fO (fO (fO (fO (fO (fO (fO (fO (fO (fO (fO (fO (fO (fO (fO (fO (S.ob rfl)))))))))))))))))))) (ax_put_o (Or.inl (by decide)) (ax_put_o (Or.inl (by decide)) (ax_put_o (Or.inl (by decide)) (ax_put_o (Or.inl (by decide)) (ax_put_o (Or.inl (by decide)) (ax_put_o (Or.inl (by decide)) (ax_put_o (Or.inl (by decide)) (ax_put_o (Or.inl (by decide)) (ax_put_o (Or.inl (by decide)) (ax_put_o (Or.inl (by decide)) (ax_put_o (Or.inl (by decide)) (ax_put_o (Or.inl (by decide)) (ax_put_o (Or.inl (by decide)) (ax_put_o (Or.inl (by decide)) (ax_put_o (Or.inl (by decide)) (ax_put_o (Or.inl (by decide)) (ax_put_o (Or.inl (by decide)) (ax_put_o (Or.inl (by decide)) (ax_put_o (Or.inl (by decide)) (S.rf rfl rfl)))))))))))))))))))) ?_
  refine am_ev.step (pc' := 60) rfl rfl ?_
  refine am_ev.step (pc' := 61) rfl rfl ?_
  refine ax_bas2 (p' := 62) rfl rfl ((((((((((((((((((((S.pa rfl).pa rfl).pa rfl).pa rfl).pa rfl).pa rfl).pa rfl).pa rfl).pa rfl).pa rfl).pa rfl).pa rfl).pa rfl).pa rfl).pa rfl).pa rfl).pa rfl).pa rfl).pa rfl).wr (k := 6) rfl rfl rfl rfl (by decide)) ((((((((((((((((((((S.pa rfl).pa rfl).pa rfl).pa rfl).pa rfl).pa rfl).pa rfl).pa rfl).pa rfl).pa rfl).pa rfl).pa rfl).pa rfl).pa rfl).pa rfl).pa rfl).pa rfl).pa rfl).pa rfl).sb rfl rfl) (by decide) ?_
  refine fx_inc (p' := 65) (e := 7) (ls' := [.ref 78, iv 7, am_ph]) rfl rfl rfl (by omega) rfl ?_
  refine am_ev.step (pc' := 49) rfl rfl ?_
  refine am_ev.step (pc' := 50) rfl rfl ?_
  refine fx_bip (p' := 52) rfl rfl rfl ?_
  refine fx_c_ge_F (pF := 55) rfl (by omega) (by omega) rfl (by omega) ?_
  refine am_ev.step (pc' := 56) rfl rfl ?_
  refine ax_gf (p' := 59) rfl rfl (fO (fO (fO (fO (fO (fO (fO (fO (fO (fO (fO (fO (fO (fO (fO (fO (fO (fO (fO (fO (S.ob rfl))))))))))))))))))))) (ax_put_o (Or.inl (by decide)) (ax_put_o (Or.inl (by decide)) (ax_put_o (Or.inl (by decide)) (ax_put_o (Or.inl (by decide)) (ax_put_o (Or.inl (by decide)) (ax_put_o (Or.inl (by decide)) (ax_put_o (Or.inl (by decide)) (ax_put_o (Or.inl (by decide)) (ax_put_o (Or.inl (by decide)) (ax_put_o (Or.inl (by decide)) (ax_put_o (Or.inl (by decide)) (ax_put_o (Or.inl (by decide)) (ax_put_o (Or.inl (by decide)) (ax_put_o (Or.inl (by decide)) (ax_put_o (Or.inl (by decide)) (ax_put_o (Or.inl (by decide)) (ax_put_o (Or.inl (by decide)) (ax_put_o (Or.inl (by decide)) (ax_put_o (Or.inl (by decide)) (ax_put_o (Or.inl (by decide)) (S.rf rfl rfl))))))))))))))))))))) ?_
  refine am_ev.step (pc' := 60) rfl rfl ?_
  refine am_ev.step (pc' := 61) rfl rfl ?_
  refine ax_bas2 (p' := 62) rfl rfl (((((((((((((((((((((S.pa rfl).pa rfl).pa rfl).pa rfl).pa rfl).pa rfl).pa rfl).pa rfl).pa rfl).pa rfl).pa rfl).pa rfl).pa rfl).pa rfl).pa rfl).pa rfl).pa rfl).pa rfl).pa rfl).pa rfl).wr (k := 7) rfl rfl rfl rfl (by decide)) (((((((((((((((((((((S.pa rfl).pa rfl).pa rfl).pa rfl).pa rfl).pa rfl).pa rfl).pa rfl).pa rfl).pa rfl).pa rfl).pa rfl).pa rfl).pa rfl).pa rfl).pa rfl).pa rfl).pa rfl).pa rfl).pa rfl).sb rfl rfl) (by decide) ?_
  refine fx_inc (p' := 65) (e := 8) (ls' := [.ref 78, iv 8, am_ph]) rfl rfl rfl (by omega) rfl ?_
  refine am_ev.step (pc' := 49) rfl rfl ?_
  refine am_ev.step (pc' := 50) rfl rfl ?_
  refine fx_bip (p' := 52) rfl rfl rfl ?_
  refine fx_c_ge_F (pF := 55) rfl (by omega) (by omega) rfl (by omega) ?_
  refine am_ev.step (pc' := 56) rfl rfl ?_
  refine ax_gf (p' := 59) rfl rfl (fO (fO (fO (fO (fO (fO (fO (fO (fO (fO (fO (fO (fO (fO (fO (fO (fO (fO (fO (fO (fO (S.ob rfl)))))))))))))))))))))) (ax_put_o (Or.inl (by decide)) (ax_put_o (Or.inl (by decide)) (ax_put_o (Or.inl (by decide)) (ax_put_o (Or.inl (by decide)) (ax_put_o (Or.inl (by decide)) (ax_put_o (Or.inl (by decide)) (ax_put_o (Or.inl (by decide)) (ax_put_o (Or.inl (by decide)) (ax_put_o (Or.inl (by decide)) (ax_put_o (Or.inl (by decide)) (ax_put_o (Or.inl (by decide)) (ax_put_o (Or.inl (by decide)) (ax_put_o (Or.inl (by decide)) (ax_put_o (Or.inl (by decide)) (ax_put_o (Or.inl (by decide)) (ax_put_o (Or.inl (by decide)) (ax_put_o (Or.inl (by decide)) (ax_put_o (Or.inl (by decide)) (ax_put_o (Or.inl (by decide)) (ax_put_o (Or.inl (by decide)) (ax_put_o (Or.inl (by decide)) (S.rf rfl rfl)))))))))))))))))))))) ?_
  refine am_ev.step (pc' := 60) rfl rfl ?_
  refine am_ev.step (pc' := 61) rfl rfl ?_
  refine ax_bas2 (p' := 62) rfl rfl ((((((((((((((((((((((S.pa rfl).pa rfl).pa rfl).pa rfl).pa rfl).pa rfl).pa rfl).pa rfl).pa rfl).pa rfl).pa rfl).pa rfl).pa rfl).pa rfl).pa rfl).pa rfl).pa rfl).pa rfl).pa rfl).pa rfl).pa rfl).wr (k := 8) rfl rfl rfl rfl (by decide)) ((((((((((((((((((((((S.pa rfl).pa rfl).pa rfl).pa rfl).pa rfl).pa rfl).pa rfl).pa rfl).pa rfl).pa rfl).pa rfl).pa rfl).pa rfl).pa rfl).pa rfl).pa rfl).pa rfl).pa rfl).pa rfl).pa rfl).pa rfl).sb rfl rfl) (by decide) ?_
  refine fx_inc (p' := 65) (e := 9) (ls' := [.ref 78, iv 9, am_ph]) rfl rfl rfl (by omega) rfl ?_
  refine am_ev.step (pc' := 49) rfl rfl ?_
  refine am_ev.step (pc' := 50) rfl rfl ?_
  refine fx_bip (p' := 52) rfl rfl rfl ?_
  refine fx_c_ge_F (pF := 55) rfl (by omega) (by omega) rfl (by omega) ?_
  refine am_ev.step (pc' := 56) rfl rfl ?_
  refine ax_gf (p' := 59) rfl rfl (fO (fO (fO (fO (fO (fO (fO (fO (fO (fO (fO (fO (fO (fO (fO (fO (fO (fO (fO (fO (fO (fO (S.ob rfl))))))))))))))))))))))) (ax_put_o (Or.inl (by decide)) (ax_put_o (Or.inl (by decide)) (ax_put_o (Or.inl (by decide)) (ax_put_o (Or.inl (by decide)) (ax_put_o (Or.inl (by decide)) (ax_put_o (Or.inl (by decide)) (ax_put_o (Or.inl (by decide)) (ax_put_o (Or.inl (by decide)) (ax_put_o (Or.inl (by decide)) (ax_put_o (Or.inl (by decide)) (ax_put_o (Or.inl (by decide)) (ax_put_o (Or.inl (by decide)) (ax_put_o (Or.inl (by decide)) (ax_put_o (Or.inl (by decide)) (ax_put_o (Or.inl (by decide)) (ax_put_o (Or.inl (by decide)) (ax_put_o (Or.inl (by decide)) (ax_put_o (Or.inl (by decide)) (ax_put_o (Or.inl (by decide)) (ax_put_o (Or.inl (by decide)) (ax_put_o (Or.inl (by decide)) (ax_put_o (Or.inl (by decide)) (S.rf rfl rfl))))))))))))))))))))))) ?_
  refine am_ev.step (pc' := 60) rfl rfl ?_
  refine am_ev.step (pc' := 61) rfl rfl ?_
  refine ax_bas2 (p' := 62) rfl rfl (((((((((((((((((((((((S.pa rfl).pa rfl).pa rfl).pa rfl).pa rfl).pa rfl).pa rfl).pa rfl).pa rfl).pa rfl).pa rfl).pa rfl).pa rfl).pa rfl).pa rfl).pa rfl).pa rfl).pa rfl).pa rfl).pa rfl).pa rfl).pa rfl).wr (k := 9) rfl rfl rfl rfl (by decide)) (((((((((((((((((((((((S.pa rfl).pa rfl).pa rfl).pa rfl).pa rfl).pa rfl).pa rfl).pa rfl).pa rfl).pa rfl).pa rfl).pa rfl).pa rfl).pa rfl).pa rfl).pa rfl).pa rfl).pa rfl).pa rfl).pa rfl).pa rfl).pa rfl).sb rfl rfl) (by decide) ?_
  refine fx_inc (p' := 65) (e := 10) (ls' := [.ref 78, iv 10, am_ph]) rfl rfl rfl (by omega) rfl ?_
  refine am_ev.step (pc' := 49) rfl rfl ?_
  refine am_ev.step (pc' := 50) rfl rfl ?_
  refine fx_bip (p' := 52) rfl rfl rfl ?_
  refine fx_c_ge_F (pF := 55) rfl (by omega) (by omega) rfl (by omega) ?_
  refine am_ev.step (pc' := 56) rfl rfl ?_
  refine ax_gf (p' := 59) rfl rfl (fO (fO (fO (fO (fO (fO (fO (fO (fO (fO (fO (fO (fO (fO (fO (fO (fO (fO (fO (fO (fO (fO (fO (S.ob rfl)))))))))))))))))))))))) (ax_put_o (Or.inl (by decide)) (ax_put_o (Or.inl (by decide)) (ax_put_o (Or.inl (by decide)) (ax_put_o (Or.inl (by decide)) (ax_put_o (Or.inl (by decide)) (ax_put_o (Or.inl (by decide)) (ax_put_o (Or.inl (by decide)) (ax_put_o (Or.inl (by decide)) (ax_put_o (Or.inl (by decide)) (ax_put_o (Or.inl (by decide)) (ax_put_o (Or.inl (by decide)) (ax_put_o (Or.inl (by decide)) (ax_put_o (Or.inl (by decide)) (ax_put_o (Or.inl (by decide)) (ax_put_o (Or.inl (by decide)) (ax_put_o (Or.inl (by decide)) (ax_put_o (Or.inl (by decide)) (ax_put_o (Or.inl (by decide)) (ax_put_o (Or.inl (by decide)) (ax_put_o (Or.inl (by decide)) (ax_put_o (Or.inl (by decide)) (ax_put_o (Or.inl (by decide)) (ax_put_o (Or.inl (by decide)) (S.rf rfl rfl)))))))))))))))))))))))) ?_
  refine am_ev.step (pc' := 60) rfl rfl ?_
  refine am_ev.step (pc' := 61) rfl rfl ?_
  refine ax_bas2 (p' := 62) rfl rfl ((((((((((((((((((((((((S.pa rfl).pa rfl).pa rfl).pa rfl).pa rfl).pa rfl).pa rfl).pa rfl).pa rfl).pa rfl).pa rfl).pa rfl).pa rfl).pa rfl).pa rfl).pa rfl).pa rfl).pa rfl).pa rfl).pa rfl).pa rfl).pa rfl).pa rfl).wr (k := 10) rfl rfl rfl rfl (by decide)) ((((((((((((((((((((((((S.pa rfl).pa rfl).pa rfl).pa rfl).pa rfl).pa rfl).pa rfl).pa rfl).pa rfl).pa rfl).pa rfl).pa rfl).pa rfl).pa rfl).pa rfl).pa rfl).pa rfl).pa rfl).pa rfl).pa rfl).pa rfl).pa rfl).pa rfl).sb rfl rfl) (by decide) ?_
  refine fx_inc (p' := 65) (e := 11) (ls' := [.ref 78, iv 11, am_ph]) rfl rfl rfl (by omega) rfl ?_
  refine am_ev.step (pc' := 49) rfl rfl ?_
  refine am_ev.step (pc' := 50) rfl rfl ?_
  refine fx_bip (p' := 52) rfl rfl rfl ?_
  refine fx_c_ge_F (pF := 55) rfl (by omega) (by omega) rfl (by omega) ?_
  refine am_ev.step (pc' := 56) rfl rfl ?_
  refine ax_gf (p' := 59) rfl rfl (fO (fO (fO (fO (fO (fO (fO (fO (fO (fO (fO (fO (fO (fO (fO (fO (fO (fO (fO (fO (fO (fO (fO (fO (S.ob rfl))))))))))))))))))))))))) (ax_put_o (Or.inl (by decide)) (ax_put_o (Or.inl (by decide)) (ax_put_o (Or.inl (by decide)) (ax_put_o (Or.inl (by decide)) (ax_put_o (Or.inl (by decide)) (ax_put_o (Or.inl (by decide)) (ax_put_o (Or.inl (by decide)) (ax_put_o (Or.inl (by decide)) (ax_put_o (Or.inl (by decide)) (ax_put_o (Or.inl (by decide)) (ax_put_o (Or.inl (by decide)) (ax_put_o (Or.inl (by decide)) (ax_put_o (Or.inl (by decide)) (ax_put_o (Or.inl (by decide)) (ax_put_o (Or.inl (by decide)) (ax_put_o (Or.inl (by decide)) (ax_put_o (Or.inl (by decide)) (ax_put_o (Or.inl (by decide)) (ax_put_o (Or.inl (by decide)) (ax_put_o (Or.inl (by decide)) (ax_put_o (Or.inl (by decide)) (ax_put_o (Or.inl (by decide)) (ax_put_o (Or.inl (by decide)) (ax_put_o (Or.inl (by decide)) (S.rf rfl rfl))))))))))))))))))))))))) ?_
  refine am_ev.step (pc' := 60) rfl rfl ?_
  refine am_ev.step (pc' := 61) rfl rfl ?_
  refine ax_bas2 (p' := 62) rfl rfl (((((((((((((((((((((((((S.pa rfl).pa rfl).pa rfl).pa rfl).pa rfl).pa rfl).pa rfl).pa rfl).pa rfl).pa rfl).pa rfl).pa rfl).pa rfl).pa rfl).pa rfl).pa rfl).pa rfl).pa rfl).pa rfl).pa rfl).pa rfl).pa rfl).pa rfl).pa rfl).wr (k := 11) rfl rfl rfl rfl (by decide)) (((((((((((((((((((((((((S.pa rfl).pa rfl).pa rfl).pa rfl).pa rfl).pa rfl).pa rfl).pa rfl).pa rfl).pa rfl).pa rfl).pa rfl).pa rfl).pa rfl).pa rfl).pa rfl).pa rfl).pa rfl).pa rfl).pa rfl).pa rfl).pa rfl).pa rfl).pa rfl).sb rfl rfl) (by decide) ?_
  refine fx_inc (p' := 65) (e := 12) (ls' := [.ref 78, iv 12, am_ph]) rfl rfl rfl (by omega) rfl ?_
  refine am_ev.step (pc' := 49) rfl rfl ?_
  refine am_ev.step (pc' := 50) rfl rfl ?_
  refine fx_bip (p' := 52) rfl rfl rfl ?_
  refine fx_c_ge_F (pF := 55) rfl (by omega) (by omega) rfl (by omega) ?_
  refine am_ev.step (pc' := 56) rfl rfl ?_
  refine ax_gf (p' := 59) rfl rfl (fO (fO (fO (fO (fO (fO (fO (fO (fO (fO (fO (fO (fO (fO (fO (fO (fO (fO (fO (fO (fO (fO (fO (fO (fO (S.ob rfl)))))))))))))))))))))))))) (ax_put_o (Or.inl (by decide)) (ax_put_o (Or.inl (by decide)) (ax_put_o (Or.inl (by decide)) (ax_put_o (Or.inl (by decide)) (ax_put_o (Or.inl (by decide)) (ax_put_o (Or.inl (by decide)) (ax_put_o (Or.inl (by decide)) (ax_put_o (Or.inl (by decide)) (ax_put_o (Or.inl (by decide)) (ax_put_o (Or.inl (by decide)) (ax_put_o (Or.inl (by decide)) (ax_put_o (Or.inl (by decide)) (ax_put_o (Or.inl (by decide)) (ax_put_o (Or.inl (by decide)) (ax_put_o (Or.inl (by decide)) (ax_put_o (Or.inl (by decide)) (ax_put_o (Or.inl (by decide)) (ax_put_o (Or.inl (by decide)) (ax_put_o (Or.inl (by decide)) (ax_put_o (Or.inl (by decide)) (ax_put_o (Or.inl (by decide)) (ax_put_o (Or.inl (by decide)) (ax_put_o (Or.inl (by decide)) (ax_put_o (Or.inl (by decide)) (ax_put_o (Or.inl (by decide)) (S.rf rfl rfl)))))))))))))))))))))))))) ?_
  refine am_ev.step (pc' := 60) rfl rfl ?_
  refine am_ev.step (pc' := 61) rfl rfl ?_
  refine ax_bas2 (p' := 62) rfl rfl ((((((((((((((((((((((((((S.pa rfl).pa rfl).pa rfl).pa rfl).pa rfl).pa rfl).pa rfl).pa rfl).pa rfl).pa rfl).pa rfl).pa rfl).pa rfl).pa rfl).pa rfl).pa rfl).pa rfl).pa rfl).pa rfl).pa rfl).pa rfl).pa rfl).pa rfl).pa rfl).pa rfl).wr (k := 12) rfl rfl rfl rfl (by decide)) ((((((((((((((((((((((((((S.pa rfl).pa rfl).pa rfl).pa rfl).pa rfl).pa rfl).pa rfl).pa rfl).pa rfl).pa rfl).pa rfl).pa rfl).pa rfl).pa rfl).pa rfl).pa rfl).pa rfl).pa rfl).pa rfl).pa rfl).pa rfl).pa rfl).pa rfl).pa rfl).pa rfl).sb rfl rfl) (by decide) ?_
  refine fx_inc (p' := 65) (e := 13) (ls' := [.ref 78, iv 13, am_ph]) rfl rfl rfl (by omega) rfl ?_
  refine am_ev.step (pc' := 49) rfl rfl ?_
  refine am_ev.step (pc' := 50) rfl rfl ?_
  refine fx_bip (p' := 52) rfl rfl rfl ?_
  refine fx_c_ge_T (pT := 68) rfl (by omega) (by omega) rfl (by omega) ?_
  refine am_ev.step (pc' := 69) rfl rfl ?_
  refine am_ev.step (pc' := 70) (ls' := [.ref 78, iv 0, am_ph]) rfl rfl ?_
  exact q9
theorem rw_167e (S : fS g) (dV : ∀ i, i < 7 → g.2.2.2 83 i = iv (V i)) (dY : ∀ i, i < 6 → g.2.2.2 84 i = iv (Y i)) : ∃ H : am_H, am_ev d 167 19 [.ref 78, iv r, am_ph] [] g (some (iv r), H) ∧ (∀ i, i < 7 → H.2.2.2 81 i = iv (V i)) ∧ (∀ i, i < 6 → H.2.2.2 82 i = iv (Y i)) ∧ H.2.2.2 78 8 = g.2.2.2 78 8 ∧ H.2.2.2 78 9 = g.2.2.2 78 9 ∧ H.2.2.2 78 2 = g.2.2.2 78 2 := by
  refine ⟨(am_put (am_put (am_put (am_put (am_put (am_put (am_put (am_put (am_put (am_put (am_put (am_put (am_put g 81 0 (iv ((V 0)))) 81 1 (iv ((V 1)))) 81 2 (iv ((V 2)))) 81 3 (iv ((V 3)))) 81 4 (iv ((V 4)))) 81 5 (iv ((V 5)))) 81 6 (iv ((V 6)))) 82 0 (iv ((Y 0)))) 82 1 (iv ((Y 1)))) 82 2 (iv ((Y 2)))) 82 3 (iv ((Y 3)))) 82 4 (iv ((Y 4)))) 82 5 (iv ((Y 5)))), ?_, (fun j hj => by
      have hj2 : j = 0 ∨ j = 1 ∨ j = 2 ∨ j = 3 ∨ j = 4 ∨ j = 5 ∨ j = 6 := by omega
      rcases hj2 with rfl | rfl | rfl | rfl | rfl | rfl | rfl
      · exact (ax_put_o (Or.inl (by decide)) (ax_put_o (Or.inl (by decide)) (ax_put_o (Or.inl (by decide)) (ax_put_o (Or.inl (by decide)) (ax_put_o (Or.inl (by decide)) (ax_put_o (Or.inl (by decide)) (ax_put_o (Or.inr (by decide)) (ax_put_o (Or.inr (by decide)) (ax_put_o (Or.inr (by decide)) (ax_put_o (Or.inr (by decide)) (ax_put_o (Or.inr (by decide)) (ax_put_o (Or.inr (by decide)) (ax_put_s _ _ _)))))))))))))
      · exact (ax_put_o (Or.inl (by decide)) (ax_put_o (Or.inl (by decide)) (ax_put_o (Or.inl (by decide)) (ax_put_o (Or.inl (by decide)) (ax_put_o (Or.inl (by decide)) (ax_put_o (Or.inl (by decide)) (ax_put_o (Or.inr (by decide)) (ax_put_o (Or.inr (by decide)) (ax_put_o (Or.inr (by decide)) (ax_put_o (Or.inr (by decide)) (ax_put_o (Or.inr (by decide)) (ax_put_s _ _ _))))))))))))
      · exact (ax_put_o (Or.inl (by decide)) (ax_put_o (Or.inl (by decide)) (ax_put_o (Or.inl (by decide)) (ax_put_o (Or.inl (by decide)) (ax_put_o (Or.inl (by decide)) (ax_put_o (Or.inl (by decide)) (ax_put_o (Or.inr (by decide)) (ax_put_o (Or.inr (by decide)) (ax_put_o (Or.inr (by decide)) (ax_put_o (Or.inr (by decide)) (ax_put_s _ _ _)))))))))))
      · exact (ax_put_o (Or.inl (by decide)) (ax_put_o (Or.inl (by decide)) (ax_put_o (Or.inl (by decide)) (ax_put_o (Or.inl (by decide)) (ax_put_o (Or.inl (by decide)) (ax_put_o (Or.inl (by decide)) (ax_put_o (Or.inr (by decide)) (ax_put_o (Or.inr (by decide)) (ax_put_o (Or.inr (by decide)) (ax_put_s _ _ _))))))))))
      · exact (ax_put_o (Or.inl (by decide)) (ax_put_o (Or.inl (by decide)) (ax_put_o (Or.inl (by decide)) (ax_put_o (Or.inl (by decide)) (ax_put_o (Or.inl (by decide)) (ax_put_o (Or.inl (by decide)) (ax_put_o (Or.inr (by decide)) (ax_put_o (Or.inr (by decide)) (ax_put_s _ _ _)))))))))
      · exact (ax_put_o (Or.inl (by decide)) (ax_put_o (Or.inl (by decide)) (ax_put_o (Or.inl (by decide)) (ax_put_o (Or.inl (by decide)) (ax_put_o (Or.inl (by decide)) (ax_put_o (Or.inl (by decide)) (ax_put_o (Or.inr (by decide)) (ax_put_s _ _ _))))))))
      · exact (ax_put_o (Or.inl (by decide)) (ax_put_o (Or.inl (by decide)) (ax_put_o (Or.inl (by decide)) (ax_put_o (Or.inl (by decide)) (ax_put_o (Or.inl (by decide)) (ax_put_o (Or.inl (by decide)) (ax_put_s _ _ _)))))))), (fun j hj => by
      have hj2 : j = 0 ∨ j = 1 ∨ j = 2 ∨ j = 3 ∨ j = 4 ∨ j = 5 := by omega
      rcases hj2 with rfl | rfl | rfl | rfl | rfl | rfl
      · exact (ax_put_o (Or.inr (by decide)) (ax_put_o (Or.inr (by decide)) (ax_put_o (Or.inr (by decide)) (ax_put_o (Or.inr (by decide)) (ax_put_o (Or.inr (by decide)) (ax_put_s _ _ _))))))
      · exact (ax_put_o (Or.inr (by decide)) (ax_put_o (Or.inr (by decide)) (ax_put_o (Or.inr (by decide)) (ax_put_o (Or.inr (by decide)) (ax_put_s _ _ _)))))
      · exact (ax_put_o (Or.inr (by decide)) (ax_put_o (Or.inr (by decide)) (ax_put_o (Or.inr (by decide)) (ax_put_s _ _ _))))
      · exact (ax_put_o (Or.inr (by decide)) (ax_put_o (Or.inr (by decide)) (ax_put_s _ _ _)))
      · exact (ax_put_o (Or.inr (by decide)) (ax_put_s _ _ _))
      · exact (ax_put_s _ _ _)), (ax_put_o (Or.inl (by decide)) (ax_put_o (Or.inl (by decide)) (ax_put_o (Or.inl (by decide)) (ax_put_o (Or.inl (by decide)) (ax_put_o (Or.inl (by decide)) (ax_put_o (Or.inl (by decide)) (ax_put_o (Or.inl (by decide)) (ax_put_o (Or.inl (by decide)) (ax_put_o (Or.inl (by decide)) (ax_put_o (Or.inl (by decide)) (ax_put_o (Or.inl (by decide)) (ax_put_o (Or.inl (by decide)) (ax_put_o (Or.inl (by decide)) rfl))))))))))))), (ax_put_o (Or.inl (by decide)) (ax_put_o (Or.inl (by decide)) (ax_put_o (Or.inl (by decide)) (ax_put_o (Or.inl (by decide)) (ax_put_o (Or.inl (by decide)) (ax_put_o (Or.inl (by decide)) (ax_put_o (Or.inl (by decide)) (ax_put_o (Or.inl (by decide)) (ax_put_o (Or.inl (by decide)) (ax_put_o (Or.inl (by decide)) (ax_put_o (Or.inl (by decide)) (ax_put_o (Or.inl (by decide)) (ax_put_o (Or.inl (by decide)) rfl))))))))))))), (ax_put_o (Or.inl (by decide)) (ax_put_o (Or.inl (by decide)) (ax_put_o (Or.inl (by decide)) (ax_put_o (Or.inl (by decide)) (ax_put_o (Or.inl (by decide)) (ax_put_o (Or.inl (by decide)) (ax_put_o (Or.inl (by decide)) (ax_put_o (Or.inl (by decide)) (ax_put_o (Or.inl (by decide)) (ax_put_o (Or.inl (by decide)) (ax_put_o (Or.inl (by decide)) (ax_put_o (Or.inl (by decide)) (ax_put_o (Or.inl (by decide)) rfl)))))))))))))⟩
  refine am_ev.step (pc' := 20) rfl rfl ?_
  refine am_ev.step (pc' := 21) (ls' := [.ref 78, iv ((r : Int)), iv 0]) rfl rfl ?_
  refine am_ev.step (pc' := 22) rfl rfl ?_
  refine fx_bip (p' := 24) rfl rfl rfl ?_
  refine fx_c_ge_F (pF := 27) rfl (by omega) (by omega) rfl (by omega) ?_
  refine am_ev.step (pc' := 28) rfl rfl ?_
  refine ax_gf (p' := 31) rfl rfl (S.ob rfl) (S.rf rfl rfl) ?_
  refine am_ev.step (pc' := 32) rfl rfl ?_
  refine am_ev.step (pc' := 33) rfl rfl ?_
  refine ax_gf (p' := 36) rfl rfl (S.ob rfl) (S.rf rfl rfl) ?_
  refine am_ev.step (pc' := 37) rfl rfl ?_
  refine ax_iaload (p' := 38) rfl rfl (S.rd (k := 0) rfl rfl rfl rfl rfl (by decide) (dV 0 (by decide))) ?_
  refine ax_iastore (p' := 39) rfl rfl (S.wr (k := 0) rfl rfl rfl rfl (by decide)) ?_
  refine fx_inc (p' := 42) (e := 1) (ls' := [.ref 78, iv ((r : Int)), iv 1]) rfl rfl rfl (by omega) rfl ?_
  refine am_ev.step (pc' := 21) rfl rfl ?_
  refine am_ev.step (pc' := 22) rfl rfl ?_
  refine fx_bip (p' := 24) rfl rfl rfl ?_
  refine fx_c_ge_F (pF := 27) rfl (by omega) (by omega) rfl (by omega) ?_
  refine am_ev.step (pc' := 28) rfl rfl ?_
  refine ax_gf (p' := 31) rfl rfl (fO (S.ob rfl)) (ax_put_o (Or.inl (by decide)) (S.rf rfl rfl)) ?_
  refine am_ev.step (pc' := 32) rfl rfl ?_
  refine am_ev.step (pc' := 33) rfl rfl ?_
  refine ax_gf (p' := 36) rfl rfl (fO (S.ob rfl)) (ax_put_o (Or.inl (by decide)) (S.rf rfl rfl)) ?_
  refine am_ev.step (pc' := 37) rfl rfl ?_
  refine ax_iaload (p' := 38) rfl rfl ((S.pa rfl).rd (k := 1) rfl rfl rfl rfl rfl (by decide) (ax_put_o (Or.inl (by decide)) (dV 1 (by decide)))) ?_
  refine ax_iastore (p' := 39) rfl rfl ((S.pa rfl).wr (k := 1) rfl rfl rfl rfl (by decide)) ?_
  refine fx_inc (p' := 42) (e := 2) (ls' := [.ref 78, iv ((r : Int)), iv 2]) rfl rfl rfl (by omega) rfl ?_
  refine am_ev.step (pc' := 21) rfl rfl ?_
  refine am_ev.step (pc' := 22) rfl rfl ?_
  refine fx_bip (p' := 24) rfl rfl rfl ?_
  refine fx_c_ge_F (pF := 27) rfl (by omega) (by omega) rfl (by omega) ?_
  refine am_ev.step (pc' := 28) rfl rfl ?_
  refine ax_gf (p' := 31) rfl rfl (fO (fO (S.ob rfl))) (ax_put_o (Or.inl (by decide)) (ax_put_o (Or.inl (by decide)) (S.rf rfl rfl))) ?_
  refine am_ev.step (pc' := 32) rfl rfl ?_
  refine am_ev.step (pc' := 33) rfl rfl ?_
  refine ax_gf (p' := 36) rfl rfl (fO (fO (S.ob rfl))) (ax_put_o (Or.inl (by decide)) (ax_put_o (Or.inl (by decide)) (S.rf rfl rfl))) ?_
  refine am_ev.step (pc' := 37) rfl rfl ?_
  refine ax_iaload (p' := 38) rfl rfl (((S.pa rfl).pa rfl).rd (k := 2) rfl rfl rfl rfl rfl (by decide) (ax_put_o (Or.inl (by decide)) (ax_put_o (Or.inl (by decide)) (dV 2 (by decide))))) ?_
  refine ax_iastore (p' := 39) rfl rfl (((S.pa rfl).pa rfl).wr (k := 2) rfl rfl rfl rfl (by decide)) ?_
  refine fx_inc (p' := 42) (e := 3) (ls' := [.ref 78, iv ((r : Int)), iv 3]) rfl rfl rfl (by omega) rfl ?_
  refine am_ev.step (pc' := 21) rfl rfl ?_
  refine am_ev.step (pc' := 22) rfl rfl ?_
  refine fx_bip (p' := 24) rfl rfl rfl ?_
  refine fx_c_ge_F (pF := 27) rfl (by omega) (by omega) rfl (by omega) ?_
  refine am_ev.step (pc' := 28) rfl rfl ?_
  refine ax_gf (p' := 31) rfl rfl (fO (fO (fO (S.ob rfl)))) (ax_put_o (Or.inl (by decide)) (ax_put_o (Or.inl (by decide)) (ax_put_o (Or.inl (by decide)) (S.rf rfl rfl)))) ?_
  refine am_ev.step (pc' := 32) rfl rfl ?_
  refine am_ev.step (pc' := 33) rfl rfl ?_
  refine ax_gf (p' := 36) rfl rfl (fO (fO (fO (S.ob rfl)))) (ax_put_o (Or.inl (by decide)) (ax_put_o (Or.inl (by decide)) (ax_put_o (Or.inl (by decide)) (S.rf rfl rfl)))) ?_
  refine am_ev.step (pc' := 37) rfl rfl ?_
  refine ax_iaload (p' := 38) rfl rfl ((((S.pa rfl).pa rfl).pa rfl).rd (k := 3) rfl rfl rfl rfl rfl (by decide) (ax_put_o (Or.inl (by decide)) (ax_put_o (Or.inl (by decide)) (ax_put_o (Or.inl (by decide)) (dV 3 (by decide)))))) ?_
  refine ax_iastore (p' := 39) rfl rfl ((((S.pa rfl).pa rfl).pa rfl).wr (k := 3) rfl rfl rfl rfl (by decide)) ?_
  refine fx_inc (p' := 42) (e := 4) (ls' := [.ref 78, iv ((r : Int)), iv 4]) rfl rfl rfl (by omega) rfl ?_
  refine am_ev.step (pc' := 21) rfl rfl ?_
  refine am_ev.step (pc' := 22) rfl rfl ?_
  refine fx_bip (p' := 24) rfl rfl rfl ?_
  refine fx_c_ge_F (pF := 27) rfl (by omega) (by omega) rfl (by omega) ?_
  refine am_ev.step (pc' := 28) rfl rfl ?_
  refine ax_gf (p' := 31) rfl rfl (fO (fO (fO (fO (S.ob rfl))))) (ax_put_o (Or.inl (by decide)) (ax_put_o (Or.inl (by decide)) (ax_put_o (Or.inl (by decide)) (ax_put_o (Or.inl (by decide)) (S.rf rfl rfl))))) ?_
  refine am_ev.step (pc' := 32) rfl rfl ?_
  refine am_ev.step (pc' := 33) rfl rfl ?_
  refine ax_gf (p' := 36) rfl rfl (fO (fO (fO (fO (S.ob rfl))))) (ax_put_o (Or.inl (by decide)) (ax_put_o (Or.inl (by decide)) (ax_put_o (Or.inl (by decide)) (ax_put_o (Or.inl (by decide)) (S.rf rfl rfl))))) ?_
  refine am_ev.step (pc' := 37) rfl rfl ?_
  refine ax_iaload (p' := 38) rfl rfl (((((S.pa rfl).pa rfl).pa rfl).pa rfl).rd (k := 4) rfl rfl rfl rfl rfl (by decide) (ax_put_o (Or.inl (by decide)) (ax_put_o (Or.inl (by decide)) (ax_put_o (Or.inl (by decide)) (ax_put_o (Or.inl (by decide)) (dV 4 (by decide))))))) ?_
  refine ax_iastore (p' := 39) rfl rfl (((((S.pa rfl).pa rfl).pa rfl).pa rfl).wr (k := 4) rfl rfl rfl rfl (by decide)) ?_
  refine fx_inc (p' := 42) (e := 5) (ls' := [.ref 78, iv ((r : Int)), iv 5]) rfl rfl rfl (by omega) rfl ?_
  refine am_ev.step (pc' := 21) rfl rfl ?_
  refine am_ev.step (pc' := 22) rfl rfl ?_
  refine fx_bip (p' := 24) rfl rfl rfl ?_
  refine fx_c_ge_F (pF := 27) rfl (by omega) (by omega) rfl (by omega) ?_
  refine am_ev.step (pc' := 28) rfl rfl ?_
  refine ax_gf (p' := 31) rfl rfl (fO (fO (fO (fO (fO (S.ob rfl)))))) (ax_put_o (Or.inl (by decide)) (ax_put_o (Or.inl (by decide)) (ax_put_o (Or.inl (by decide)) (ax_put_o (Or.inl (by decide)) (ax_put_o (Or.inl (by decide)) (S.rf rfl rfl)))))) ?_
  refine am_ev.step (pc' := 32) rfl rfl ?_
  refine am_ev.step (pc' := 33) rfl rfl ?_
  refine ax_gf (p' := 36) rfl rfl (fO (fO (fO (fO (fO (S.ob rfl)))))) (ax_put_o (Or.inl (by decide)) (ax_put_o (Or.inl (by decide)) (ax_put_o (Or.inl (by decide)) (ax_put_o (Or.inl (by decide)) (ax_put_o (Or.inl (by decide)) (S.rf rfl rfl)))))) ?_
  refine am_ev.step (pc' := 37) rfl rfl ?_
  refine ax_iaload (p' := 38) rfl rfl ((((((S.pa rfl).pa rfl).pa rfl).pa rfl).pa rfl).rd (k := 5) rfl rfl rfl rfl rfl (by decide) (ax_put_o (Or.inl (by decide)) (ax_put_o (Or.inl (by decide)) (ax_put_o (Or.inl (by decide)) (ax_put_o (Or.inl (by decide)) (ax_put_o (Or.inl (by decide)) (dV 5 (by decide)))))))) ?_
  refine ax_iastore (p' := 39) rfl rfl ((((((S.pa rfl).pa rfl).pa rfl).pa rfl).pa rfl).wr (k := 5) rfl rfl rfl rfl (by decide)) ?_
  refine fx_inc (p' := 42) (e := 6) (ls' := [.ref 78, iv ((r : Int)), iv 6]) rfl rfl rfl (by omega) rfl ?_
  refine am_ev.step (pc' := 21) rfl rfl ?_
  refine am_ev.step (pc' := 22) rfl rfl ?_
  refine fx_bip (p' := 24) rfl rfl rfl ?_
  refine fx_c_ge_F (pF := 27) rfl (by omega) (by omega) rfl (by omega) ?_
  refine am_ev.step (pc' := 28) rfl rfl ?_
  refine ax_gf (p' := 31) rfl rfl (fO (fO (fO (fO (fO (fO (S.ob rfl))))))) (ax_put_o (Or.inl (by decide)) (ax_put_o (Or.inl (by decide)) (ax_put_o (Or.inl (by decide)) (ax_put_o (Or.inl (by decide)) (ax_put_o (Or.inl (by decide)) (ax_put_o (Or.inl (by decide)) (S.rf rfl rfl))))))) ?_
  refine am_ev.step (pc' := 32) rfl rfl ?_
  refine am_ev.step (pc' := 33) rfl rfl ?_
  refine ax_gf (p' := 36) rfl rfl (fO (fO (fO (fO (fO (fO (S.ob rfl))))))) (ax_put_o (Or.inl (by decide)) (ax_put_o (Or.inl (by decide)) (ax_put_o (Or.inl (by decide)) (ax_put_o (Or.inl (by decide)) (ax_put_o (Or.inl (by decide)) (ax_put_o (Or.inl (by decide)) (S.rf rfl rfl))))))) ?_
  refine am_ev.step (pc' := 37) rfl rfl ?_
  refine ax_iaload (p' := 38) rfl rfl (((((((S.pa rfl).pa rfl).pa rfl).pa rfl).pa rfl).pa rfl).rd (k := 6) rfl rfl rfl rfl rfl (by decide) (ax_put_o (Or.inl (by decide)) (ax_put_o (Or.inl (by decide)) (ax_put_o (Or.inl (by decide)) (ax_put_o (Or.inl (by decide)) (ax_put_o (Or.inl (by decide)) (ax_put_o (Or.inl (by decide)) (dV 6 (by decide))))))))) ?_
  refine ax_iastore (p' := 39) rfl rfl (((((((S.pa rfl).pa rfl).pa rfl).pa rfl).pa rfl).pa rfl).wr (k := 6) rfl rfl rfl rfl (by decide)) ?_
  refine fx_inc (p' := 42) (e := 7) (ls' := [.ref 78, iv ((r : Int)), iv 7]) rfl rfl rfl (by omega) rfl ?_
  refine am_ev.step (pc' := 21) rfl rfl ?_
  refine am_ev.step (pc' := 22) rfl rfl ?_
  refine fx_bip (p' := 24) rfl rfl rfl ?_
  refine fx_c_ge_T (pT := 45) rfl (by omega) (by omega) rfl (by omega) ?_
  refine am_ev.step (pc' := 46) rfl rfl ?_
  refine am_ev.step (pc' := 47) (ls' := [.ref 78, iv ((r : Int)), iv 0]) rfl rfl ?_
  refine am_ev.step (pc' := 48) rfl rfl ?_
  refine fx_bip (p' := 50) rfl rfl rfl ?_
  refine fx_c_ge_F (pF := 53) rfl (by omega) (by omega) rfl (by omega) ?_
  refine am_ev.step (pc' := 54) rfl rfl ?_
  refine ax_gf (p' := 57) rfl rfl (fO (fO (fO (fO (fO (fO (fO (S.ob rfl)))))))) (ax_put_o (Or.inl (by decide)) (ax_put_o (Or.inl (by decide)) (ax_put_o (Or.inl (by decide)) (ax_put_o (Or.inl (by decide)) (ax_put_o (Or.inl (by decide)) (ax_put_o (Or.inl (by decide)) (ax_put_o (Or.inl (by decide)) (S.rf rfl rfl)))))))) ?_
  refine am_ev.step (pc' := 58) rfl rfl ?_
  refine am_ev.step (pc' := 59) rfl rfl ?_
  refine ax_gf (p' := 62) rfl rfl (fO (fO (fO (fO (fO (fO (fO (S.ob rfl)))))))) (ax_put_o (Or.inl (by decide)) (ax_put_o (Or.inl (by decide)) (ax_put_o (Or.inl (by decide)) (ax_put_o (Or.inl (by decide)) (ax_put_o (Or.inl (by decide)) (ax_put_o (Or.inl (by decide)) (ax_put_o (Or.inl (by decide)) (S.rf rfl rfl)))))))) ?_
  refine am_ev.step (pc' := 63) rfl rfl ?_
  refine ax_iaload (p' := 64) rfl rfl ((((((((S.pa rfl).pa rfl).pa rfl).pa rfl).pa rfl).pa rfl).pa rfl).rd (k := 0) rfl rfl rfl rfl rfl (by decide) (ax_put_o (Or.inl (by decide)) (ax_put_o (Or.inl (by decide)) (ax_put_o (Or.inl (by decide)) (ax_put_o (Or.inl (by decide)) (ax_put_o (Or.inl (by decide)) (ax_put_o (Or.inl (by decide)) (ax_put_o (Or.inl (by decide)) (dY 0 (by decide)))))))))) ?_
  refine ax_iastore (p' := 65) rfl rfl ((((((((S.pa rfl).pa rfl).pa rfl).pa rfl).pa rfl).pa rfl).pa rfl).wr (k := 0) rfl rfl rfl rfl (by decide)) ?_
  refine fx_inc (p' := 68) (e := 1) (ls' := [.ref 78, iv ((r : Int)), iv 1]) rfl rfl rfl (by omega) rfl ?_
  refine am_ev.step (pc' := 47) rfl rfl ?_
  refine am_ev.step (pc' := 48) rfl rfl ?_
  refine fx_bip (p' := 50) rfl rfl rfl ?_
  refine fx_c_ge_F (pF := 53) rfl (by omega) (by omega) rfl (by omega) ?_
  refine am_ev.step (pc' := 54) rfl rfl ?_
  refine ax_gf (p' := 57) rfl rfl (fO (fO (fO (fO (fO (fO (fO (fO (S.ob rfl))))))))) (ax_put_o (Or.inl (by decide)) (ax_put_o (Or.inl (by decide)) (ax_put_o (Or.inl (by decide)) (ax_put_o (Or.inl (by decide)) (ax_put_o (Or.inl (by decide)) (ax_put_o (Or.inl (by decide)) (ax_put_o (Or.inl (by decide)) (ax_put_o (Or.inl (by decide)) (S.rf rfl rfl))))))))) ?_
  refine am_ev.step (pc' := 58) rfl rfl ?_
  refine am_ev.step (pc' := 59) rfl rfl ?_
  refine ax_gf (p' := 62) rfl rfl (fO (fO (fO (fO (fO (fO (fO (fO (S.ob rfl))))))))) (ax_put_o (Or.inl (by decide)) (ax_put_o (Or.inl (by decide)) (ax_put_o (Or.inl (by decide)) (ax_put_o (Or.inl (by decide)) (ax_put_o (Or.inl (by decide)) (ax_put_o (Or.inl (by decide)) (ax_put_o (Or.inl (by decide)) (ax_put_o (Or.inl (by decide)) (S.rf rfl rfl))))))))) ?_
  refine am_ev.step (pc' := 63) rfl rfl ?_
  refine ax_iaload (p' := 64) rfl rfl (((((((((S.pa rfl).pa rfl).pa rfl).pa rfl).pa rfl).pa rfl).pa rfl).pa rfl).rd (k := 1) rfl rfl rfl rfl rfl (by decide) (ax_put_o (Or.inl (by decide)) (ax_put_o (Or.inl (by decide)) (ax_put_o (Or.inl (by decide)) (ax_put_o (Or.inl (by decide)) (ax_put_o (Or.inl (by decide)) (ax_put_o (Or.inl (by decide)) (ax_put_o (Or.inl (by decide)) (ax_put_o (Or.inl (by decide)) (dY 1 (by decide))))))))))) ?_
  refine ax_iastore (p' := 65) rfl rfl (((((((((S.pa rfl).pa rfl).pa rfl).pa rfl).pa rfl).pa rfl).pa rfl).pa rfl).wr (k := 1) rfl rfl rfl rfl (by decide)) ?_
  refine fx_inc (p' := 68) (e := 2) (ls' := [.ref 78, iv ((r : Int)), iv 2]) rfl rfl rfl (by omega) rfl ?_
  refine am_ev.step (pc' := 47) rfl rfl ?_
  refine am_ev.step (pc' := 48) rfl rfl ?_
  refine fx_bip (p' := 50) rfl rfl rfl ?_
  refine fx_c_ge_F (pF := 53) rfl (by omega) (by omega) rfl (by omega) ?_
  refine am_ev.step (pc' := 54) rfl rfl ?_
  refine ax_gf (p' := 57) rfl rfl (fO (fO (fO (fO (fO (fO (fO (fO (fO (S.ob rfl)))))))))) (ax_put_o (Or.inl (by decide)) (ax_put_o (Or.inl (by decide)) (ax_put_o (Or.inl (by decide)) (ax_put_o (Or.inl (by decide)) (ax_put_o (Or.inl (by decide)) (ax_put_o (Or.inl (by decide)) (ax_put_o (Or.inl (by decide)) (ax_put_o (Or.inl (by decide)) (ax_put_o (Or.inl (by decide)) (S.rf rfl rfl)))))))))) ?_
  refine am_ev.step (pc' := 58) rfl rfl ?_
  refine am_ev.step (pc' := 59) rfl rfl ?_
  refine ax_gf (p' := 62) rfl rfl (fO (fO (fO (fO (fO (fO (fO (fO (fO (S.ob rfl)))))))))) (ax_put_o (Or.inl (by decide)) (ax_put_o (Or.inl (by decide)) (ax_put_o (Or.inl (by decide)) (ax_put_o (Or.inl (by decide)) (ax_put_o (Or.inl (by decide)) (ax_put_o (Or.inl (by decide)) (ax_put_o (Or.inl (by decide)) (ax_put_o (Or.inl (by decide)) (ax_put_o (Or.inl (by decide)) (S.rf rfl rfl)))))))))) ?_
  refine am_ev.step (pc' := 63) rfl rfl ?_
  refine ax_iaload (p' := 64) rfl rfl ((((((((((S.pa rfl).pa rfl).pa rfl).pa rfl).pa rfl).pa rfl).pa rfl).pa rfl).pa rfl).rd (k := 2) rfl rfl rfl rfl rfl (by decide) (ax_put_o (Or.inl (by decide)) (ax_put_o (Or.inl (by decide)) (ax_put_o (Or.inl (by decide)) (ax_put_o (Or.inl (by decide)) (ax_put_o (Or.inl (by decide)) (ax_put_o (Or.inl (by decide)) (ax_put_o (Or.inl (by decide)) (ax_put_o (Or.inl (by decide)) (ax_put_o (Or.inl (by decide)) (dY 2 (by decide)))))))))))) ?_
  refine ax_iastore (p' := 65) rfl rfl ((((((((((S.pa rfl).pa rfl).pa rfl).pa rfl).pa rfl).pa rfl).pa rfl).pa rfl).pa rfl).wr (k := 2) rfl rfl rfl rfl (by decide)) ?_
  refine fx_inc (p' := 68) (e := 3) (ls' := [.ref 78, iv ((r : Int)), iv 3]) rfl rfl rfl (by omega) rfl ?_
  refine am_ev.step (pc' := 47) rfl rfl ?_
  refine am_ev.step (pc' := 48) rfl rfl ?_
  refine fx_bip (p' := 50) rfl rfl rfl ?_
  refine fx_c_ge_F (pF := 53) rfl (by omega) (by omega) rfl (by omega) ?_
  refine am_ev.step (pc' := 54) rfl rfl ?_
  refine ax_gf (p' := 57) rfl rfl (fO (fO (fO (fO (fO (fO (fO (fO (fO (fO (S.ob rfl))))))))))) (ax_put_o (Or.inl (by decide)) (ax_put_o (Or.inl (by decide)) (ax_put_o (Or.inl (by decide)) (ax_put_o (Or.inl (by decide)) (ax_put_o (Or.inl (by decide)) (ax_put_o (Or.inl (by decide)) (ax_put_o (Or.inl (by decide)) (ax_put_o (Or.inl (by decide)) (ax_put_o (Or.inl (by decide)) (ax_put_o (Or.inl (by decide)) (S.rf rfl rfl))))))))))) ?_
  refine am_ev.step (pc' := 58) rfl rfl ?_
  refine am_ev.step (pc' := 59) rfl rfl ?_
  refine ax_gf (p' := 62) rfl rfl (fO (fO (fO (fO (fO (fO (fO (fO (fO (fO (S.ob rfl))))))))))) (ax_put_o (Or.inl (by decide)) (ax_put_o (Or.inl (by decide)) (ax_put_o (Or.inl (by decide)) (ax_put_o (Or.inl (by decide)) (ax_put_o (Or.inl (by decide)) (ax_put_o (Or.inl (by decide)) (ax_put_o (Or.inl (by decide)) (ax_put_o (Or.inl (by decide)) (ax_put_o (Or.inl (by decide)) (ax_put_o (Or.inl (by decide)) (S.rf rfl rfl))))))))))) ?_
  refine am_ev.step (pc' := 63) rfl rfl ?_
  refine ax_iaload (p' := 64) rfl rfl (((((((((((S.pa rfl).pa rfl).pa rfl).pa rfl).pa rfl).pa rfl).pa rfl).pa rfl).pa rfl).pa rfl).rd (k := 3) rfl rfl rfl rfl rfl (by decide) (ax_put_o (Or.inl (by decide)) (ax_put_o (Or.inl (by decide)) (ax_put_o (Or.inl (by decide)) (ax_put_o (Or.inl (by decide)) (ax_put_o (Or.inl (by decide)) (ax_put_o (Or.inl (by decide)) (ax_put_o (Or.inl (by decide)) (ax_put_o (Or.inl (by decide)) (ax_put_o (Or.inl (by decide)) (ax_put_o (Or.inl (by decide)) (dY 3 (by decide))))))))))))) ?_
  refine ax_iastore (p' := 65) rfl rfl (((((((((((S.pa rfl).pa rfl).pa rfl).pa rfl).pa rfl).pa rfl).pa rfl).pa rfl).pa rfl).pa rfl).wr (k := 3) rfl rfl rfl rfl (by decide)) ?_
  refine fx_inc (p' := 68) (e := 4) (ls' := [.ref 78, iv ((r : Int)), iv 4]) rfl rfl rfl (by omega) rfl ?_
  refine am_ev.step (pc' := 47) rfl rfl ?_
  refine am_ev.step (pc' := 48) rfl rfl ?_
  refine fx_bip (p' := 50) rfl rfl rfl ?_
  refine fx_c_ge_F (pF := 53) rfl (by omega) (by omega) rfl (by omega) ?_
  refine am_ev.step (pc' := 54) rfl rfl ?_
  refine ax_gf (p' := 57) rfl rfl (fO (fO (fO (fO (fO (fO (fO (fO (fO (fO (fO (S.ob rfl)))))))))))) (ax_put_o (Or.inl (by decide)) (ax_put_o (Or.inl (by decide)) (ax_put_o (Or.inl (by decide)) (ax_put_o (Or.inl (by decide)) (ax_put_o (Or.inl (by decide)) (ax_put_o (Or.inl (by decide)) (ax_put_o (Or.inl (by decide)) (ax_put_o (Or.inl (by decide)) (ax_put_o (Or.inl (by decide)) (ax_put_o (Or.inl (by decide)) (ax_put_o (Or.inl (by decide)) (S.rf rfl rfl)))))))))))) ?_
  refine am_ev.step (pc' := 58) rfl rfl ?_
  refine am_ev.step (pc' := 59) rfl rfl ?_
  refine ax_gf (p' := 62) rfl rfl (fO (fO (fO (fO (fO (fO (fO (fO (fO (fO (fO (S.ob rfl)))))))))))) (ax_put_o (Or.inl (by decide)) (ax_put_o (Or.inl (by decide)) (ax_put_o (Or.inl (by decide)) (ax_put_o (Or.inl (by decide)) (ax_put_o (Or.inl (by decide)) (ax_put_o (Or.inl (by decide)) (ax_put_o (Or.inl (by decide)) (ax_put_o (Or.inl (by decide)) (ax_put_o (Or.inl (by decide)) (ax_put_o (Or.inl (by decide)) (ax_put_o (Or.inl (by decide)) (S.rf rfl rfl)))))))))))) ?_
  refine am_ev.step (pc' := 63) rfl rfl ?_
  refine ax_iaload (p' := 64) rfl rfl ((((((((((((S.pa rfl).pa rfl).pa rfl).pa rfl).pa rfl).pa rfl).pa rfl).pa rfl).pa rfl).pa rfl).pa rfl).rd (k := 4) rfl rfl rfl rfl rfl (by decide) (ax_put_o (Or.inl (by decide)) (ax_put_o (Or.inl (by decide)) (ax_put_o (Or.inl (by decide)) (ax_put_o (Or.inl (by decide)) (ax_put_o (Or.inl (by decide)) (ax_put_o (Or.inl (by decide)) (ax_put_o (Or.inl (by decide)) (ax_put_o (Or.inl (by decide)) (ax_put_o (Or.inl (by decide)) (ax_put_o (Or.inl (by decide)) (ax_put_o (Or.inl (by decide)) (dY 4 (by decide)))))))))))))) ?_
  refine ax_iastore (p' := 65) rfl rfl ((((((((((((S.pa rfl).pa rfl).pa rfl).pa rfl).pa rfl).pa rfl).pa rfl).pa rfl).pa rfl).pa rfl).pa rfl).wr (k := 4) rfl rfl rfl rfl (by decide)) ?_
  refine fx_inc (p' := 68) (e := 5) (ls' := [.ref 78, iv ((r : Int)), iv 5]) rfl rfl rfl (by omega) rfl ?_
  refine am_ev.step (pc' := 47) rfl rfl ?_
  refine am_ev.step (pc' := 48) rfl rfl ?_
  refine fx_bip (p' := 50) rfl rfl rfl ?_
  refine fx_c_ge_F (pF := 53) rfl (by omega) (by omega) rfl (by omega) ?_
  refine am_ev.step (pc' := 54) rfl rfl ?_
  refine ax_gf (p' := 57) rfl rfl (fO (fO (fO (fO (fO (fO (fO (fO (fO (fO (fO (fO (S.ob rfl))))))))))))) (ax_put_o (Or.inl (by decide)) (ax_put_o (Or.inl (by decide)) (ax_put_o (Or.inl (by decide)) (ax_put_o (Or.inl (by decide)) (ax_put_o (Or.inl (by decide)) (ax_put_o (Or.inl (by decide)) (ax_put_o (Or.inl (by decide)) (ax_put_o (Or.inl (by decide)) (ax_put_o (Or.inl (by decide)) (ax_put_o (Or.inl (by decide)) (ax_put_o (Or.inl (by decide)) (ax_put_o (Or.inl (by decide)) (S.rf rfl rfl))))))))))))) ?_
  refine am_ev.step (pc' := 58) rfl rfl ?_
  refine am_ev.step (pc' := 59) rfl rfl ?_
  refine ax_gf (p' := 62) rfl rfl (fO (fO (fO (fO (fO (fO (fO (fO (fO (fO (fO (fO (S.ob rfl))))))))))))) (ax_put_o (Or.inl (by decide)) (ax_put_o (Or.inl (by decide)) (ax_put_o (Or.inl (by decide)) (ax_put_o (Or.inl (by decide)) (ax_put_o (Or.inl (by decide)) (ax_put_o (Or.inl (by decide)) (ax_put_o (Or.inl (by decide)) (ax_put_o (Or.inl (by decide)) (ax_put_o (Or.inl (by decide)) (ax_put_o (Or.inl (by decide)) (ax_put_o (Or.inl (by decide)) (ax_put_o (Or.inl (by decide)) (S.rf rfl rfl))))))))))))) ?_
  refine am_ev.step (pc' := 63) rfl rfl ?_
  refine ax_iaload (p' := 64) rfl rfl (((((((((((((S.pa rfl).pa rfl).pa rfl).pa rfl).pa rfl).pa rfl).pa rfl).pa rfl).pa rfl).pa rfl).pa rfl).pa rfl).rd (k := 5) rfl rfl rfl rfl rfl (by decide) (ax_put_o (Or.inl (by decide)) (ax_put_o (Or.inl (by decide)) (ax_put_o (Or.inl (by decide)) (ax_put_o (Or.inl (by decide)) (ax_put_o (Or.inl (by decide)) (ax_put_o (Or.inl (by decide)) (ax_put_o (Or.inl (by decide)) (ax_put_o (Or.inl (by decide)) (ax_put_o (Or.inl (by decide)) (ax_put_o (Or.inl (by decide)) (ax_put_o (Or.inl (by decide)) (ax_put_o (Or.inl (by decide)) (dY 5 (by decide))))))))))))))) ?_
  refine ax_iastore (p' := 65) rfl rfl (((((((((((((S.pa rfl).pa rfl).pa rfl).pa rfl).pa rfl).pa rfl).pa rfl).pa rfl).pa rfl).pa rfl).pa rfl).pa rfl).wr (k := 5) rfl rfl rfl rfl (by decide)) ?_
  refine fx_inc (p' := 68) (e := 6) (ls' := [.ref 78, iv ((r : Int)), iv 6]) rfl rfl rfl (by omega) rfl ?_
  refine am_ev.step (pc' := 47) rfl rfl ?_
  refine am_ev.step (pc' := 48) rfl rfl ?_
  refine fx_bip (p' := 50) rfl rfl rfl ?_
  refine fx_c_ge_T (pT := 71) rfl (by omega) (by omega) rfl (by omega) ?_
  refine am_ev.step (pc' := 72) rfl rfl ?_
  exact fx_reti rfl rfl rfl
/-- the model's call, from the reading's start -/
theorem rw_167 (S : fS h) (B : tb h 80 b L) (hb : tz_r b) (hL : L ≤ 1600) (v2 : h.2.2.2 78 2 = iv L) (v7 : h.2.2.2 78 7 = iv w) : ∃ (g : am_H) (s e : Nat) (k v w' : Int), tz_t b L 0 s e k v ∧ MS g h b L 0 s e k v w' (fun _ => 0) (fun i => cq_sv 1 i) (fun _ => 70) ∧ (∀ (G : am_H) (r : Nat) (x : Option Value × am_H), fS G → am_ev (d + 7) 174 70 [.ref 78, iv ((0 : Nat) : Int), am_ph] [] g (some (iv r), G) → am_ev (d + 8) 167 19 [.ref 78, iv r, am_ph] [] G x → am_ev (d + 8) 167 0 (am_ent [.ref 78] 3) [] h x) ∧ (∀ (G : am_H), fS G → am_ev (d + 7) 174 70 [.ref 78, iv ((0 : Nat) : Int), am_ph] [] g (some (.retAddr (79 + 1)), G) → am_ev (d + 8) 167 0 (am_ent [.ref 78] 3) [] h (some (iv (-1)), G)) := by
  obtain ⟨s, e, k, v, t0⟩ := tz_t_ex (b := b) (Nat.zero_le L)
  obtain ⟨g, M, st⟩ := rw_174 (d := d) (h := (am_put (am_put (am_put (am_put (am_put (am_put (am_put (am_put (am_put h 78 3 (iv ((L : Int)))) 78 2 (iv 0)) 78 5 (iv 0)) 78 8 (iv 0)) 78 9 (iv (-1))) 78 4 (iv ((s : Int)))) 78 7 (iv ((tV b L s (w))))) 78 5 (iv ((e : Int)))) 78 6 (iv ((tH k))))) (((((((((S.po rfl rfl).po rfl rfl).po rfl rfl).po rfl rfl).po rfl rfl).po rfl rfl).po rfl rfl).po rfl rfl).po rfl rfl) (((((((((B.put (by decide)).put (by decide)).put (by decide)).put (by decide)).put (by decide)).put (by decide)).put (by decide)).put (by decide)).put (by decide)) (ax_put_o (Or.inr (by decide)) (ax_put_o (Or.inr (by decide)) (ax_put_o (Or.inr (by decide)) (ax_put_o (Or.inr (by decide)) (ax_put_o (Or.inr (by decide)) (ax_put_o (Or.inr (by decide)) (ax_put_o (Or.inr (by decide)) (ax_put_o (Or.inr (by decide)) (ax_put_s _ _ _))))))))) (ax_put_o (Or.inr (by decide)) (ax_put_o (Or.inr (by decide)) (ax_put_o (Or.inr (by decide)) (ax_put_s _ _ _)))) (ax_put_o (Or.inr (by decide)) (ax_put_s _ _ _)) (ax_put_s _ _ _) (ax_put_o (Or.inr (by decide)) (ax_put_o (Or.inr (by decide)) (ax_put_s _ _ _))) (ax_put_o (Or.inr (by decide)) (ax_put_o (Or.inr (by decide)) (ax_put_o (Or.inr (by decide)) (ax_put_o (Or.inr (by decide)) (ax_put_o (Or.inr (by decide)) (ax_put_s _ _ _)))))) (ax_put_o (Or.inr (by decide)) (ax_put_o (Or.inr (by decide)) (ax_put_o (Or.inr (by decide)) (ax_put_o (Or.inr (by decide)) (ax_put_s _ _ _))))) (ax_put_o (Or.inr (by decide)) (ax_put_o (Or.inr (by decide)) (ax_put_o (Or.inr (by decide)) (ax_put_o (Or.inr (by decide)) (ax_put_o (Or.inr (by decide)) (ax_put_o (Or.inr (by decide)) (ax_put_o (Or.inr (by decide)) (ax_put_s _ _ _)))))))) t0 (t0.v w)
  obtain ⟨S', B', w3, t', w4, w5, w6, w7, ya, yb, f8, f9, dT, dV, dY, z81, z82, z2⟩ := M
  refine ⟨g, s, e, k, v, _, t0, ⟨S', B', w3, t', w4, w5, w6, w7, ya, yb, f8, f9, dT, dV, dY, fun j => Eq.trans (z81 j) (ax_put_o (Or.inl (by decide)) (ax_put_o (Or.inl (by decide)) (ax_put_o (Or.inl (by decide)) (ax_put_o (Or.inl (by decide)) (ax_put_o (Or.inl (by decide)) (ax_put_o (Or.inl (by decide)) (ax_put_o (Or.inl (by decide)) (ax_put_o (Or.inl (by decide)) (ax_put_o (Or.inl (by decide)) rfl))))))))), fun j => Eq.trans (z82 j) (ax_put_o (Or.inl (by decide)) (ax_put_o (Or.inl (by decide)) (ax_put_o (Or.inl (by decide)) (ax_put_o (Or.inl (by decide)) (ax_put_o (Or.inl (by decide)) (ax_put_o (Or.inl (by decide)) (ax_put_o (Or.inl (by decide)) (ax_put_o (Or.inl (by decide)) (ax_put_o (Or.inl (by decide)) rfl))))))))), z2⟩, fun G r x SG q0 q2 => ?_, fun G SG q0 => ?_⟩
  · have q1 := st _ q0
    show am_ev (d + 8) 167 0 [.ref 78, am_ph, am_ph] [] h x
    refine am_ev.step (pc' := 1) rfl rfl ?_
    refine ax_call (z := 168) (p' := 4) (as := [_]) rfl (Or.inr (Or.inl ⟨_, rfl⟩)) rfl rfl rfl rfl rfl rfl (S.ob rfl) rfl (rw_168 S v2) rfl ?_
    refine am_ev.step (pc' := 5) rfl rfl ?_
    refine ax_call (z := 169) (p' := 8) (as := [_]) rfl (Or.inr (Or.inl ⟨_, rfl⟩)) rfl rfl rfl rfl rfl rfl (fO (fO (fO (S.ob rfl)))) rfl (rw_169 (((S.po rfl rfl).po rfl rfl).po rfl rfl) (((B.put (by decide)).put (by decide)).put (by decide)) hb hL (ax_put_o (Or.inr (by decide)) (ax_put_o (Or.inr (by decide)) (ax_put_s _ _ _))) (ax_put_s _ _ _) (ax_put_o (Or.inr (by decide)) (ax_put_o (Or.inr (by decide)) (ax_put_o (Or.inr (by decide)) v7))) t0) rfl ?_
    refine am_ev.step (pc' := 9) rfl rfl ?_
    refine ax_call (z := 174) (p' := 12) (as := [_]) rfl (Or.inr (Or.inl ⟨_, rfl⟩)) rfl rfl rfl rfl rfl rfl (fO (fO (fO (fO (fO (fO (fO (fO (fO (S.ob rfl)))))))))) rfl q1 rfl ?_
    refine am_ev.step (pc' := 13) (ls' := [.ref 78, iv ((r : Int)), am_ph]) rfl rfl ?_
    refine am_ev.step (pc' := 19) rfl rfl ?_
    exact q2
  · have q1 := st _ q0
    show am_ev (d + 8) 167 0 [.ref 78, am_ph, am_ph] [] h _
    refine am_ev.step (pc' := 1) rfl rfl ?_
    refine ax_call (z := 168) (p' := 4) (as := [_]) rfl (Or.inr (Or.inl ⟨_, rfl⟩)) rfl rfl rfl rfl rfl rfl (S.ob rfl) rfl (rw_168 S v2) rfl ?_
    refine am_ev.step (pc' := 5) rfl rfl ?_
    refine ax_call (z := 169) (p' := 8) (as := [_]) rfl (Or.inr (Or.inl ⟨_, rfl⟩)) rfl rfl rfl rfl rfl rfl (fO (fO (fO (S.ob rfl)))) rfl (rw_169 (((S.po rfl rfl).po rfl rfl).po rfl rfl) (((B.put (by decide)).put (by decide)).put (by decide)) hb hL (ax_put_o (Or.inr (by decide)) (ax_put_o (Or.inr (by decide)) (ax_put_s _ _ _))) (ax_put_s _ _ _) (ax_put_o (Or.inr (by decide)) (ax_put_o (Or.inr (by decide)) (ax_put_o (Or.inr (by decide)) v7))) t0) rfl ?_
    refine am_ev.step (pc' := 9) rfl rfl ?_
    refine ax_callC (p' := 16) (z := 174) (as := [_]) rfl (Or.inr (Or.inl ⟨_, rfl⟩)) rfl rfl rfl rfl rfl rfl (fO (fO (fO (fO (fO (fO (fO (fO (fO (S.ob rfl)))))))))) q1 rfl rfl (SG.ob rfl) rfl ?_
    refine am_ev.step (pc' := 17) (ls' := [.ref 78, am_ph, .ref 79]) rfl rfl ?_
    refine am_ev.step (pc' := 18) rfl rfl ?_
    exact fx_reti rfl rfl rfl
theorem rw_18 (S : fS h) {G : am_H} {a : Int32} (SG : fS G) (q1 : am_ev (d + 7) 19 0 (am_ent [.ref 43, .ref 41] 5) [] h (some (.int a), G)) : am_ev (d + 8) 18 0 (am_ent [.ref 40] 2) [] h (some (.int a), am_put G 41 1 (iv 0)) := by
  show am_ev (d + 8) 18 0 [.ref 40, am_ph] [] h _
  refine am_ev.step (pc' := 1) rfl rfl ?_
  refine ax_gf (p' := 4) rfl rfl (S.ob rfl) (S.rf rfl rfl) ?_
  refine am_ev.step (pc' := 5) rfl rfl ?_
  refine ax_gf (p' := 8) rfl rfl (S.ob rfl) (S.rf rfl rfl) ?_
  refine ax_call (z := 19) (p' := 11) (as := [_, _]) rfl (Or.inr (Or.inl ⟨_, rfl⟩)) rfl rfl rfl rfl rfl rfl (S.ob rfl) rfl q1 rfl ?_
  refine am_ev.step (pc' := 12) (ls' := [.ref 40, .int a]) rfl rfl ?_
  refine am_ev.step (pc' := 13) rfl rfl ?_
  refine ax_gf (p' := 16) rfl rfl (SG.ob rfl) (SG.rf rfl rfl) ?_
  refine am_ev.step (pc' := 17) rfl rfl ?_
  refine ax_pf (p' := 20) rfl rfl (SG.ob rfl) rfl ?_
  refine am_ev.step (pc' := 21) rfl rfl ?_
  exact fx_reti rfl rfl rfl
end RWB
section RWC
variable {d : Nat} {h g : am_H} {b : Nat → Int} {L : Nat} {w : Int}
/-- the program's rules are within their bounds -/
def rbV (h : am_H) : Prop := ∃ V Y : Nat → Int, rV V Y ∧ (∀ j, j < 7 → h.2.2.2 44 j = iv (V j)) ∧ ∀ j, j < 6 → h.2.2.2 45 j = iv (Y j)
theorem rV_0 : rV (fun i => cq_sv 1 i) (fun _ => 70) := ⟨by decide +kernel, fun _ _ => ⟨(by decide : (0 : Int) ≤ 70), (by decide : (70 : Int) ≤ 99)⟩⟩
/-- the rules are read alike -/
theorem rw_all (S : fS h) (B : tb h 42 b L) (hb : tz_r b) (hL : L ≤ 1600) (v1 : h.2.2.2 41 1 = iv L) (S' : fS g) (B' : tb g 80 b L) (v2 : g.2.2.2 78 2 = iv L) (v7 : g.2.2.2 78 7 = iv w) (Tv : ∀ j, j < 7 → h.2.2.2 44 j = g.2.2.2 81 j) (Ty : ∀ j, j < 6 → h.2.2.2 45 j = g.2.2.2 82 j) (XB : rbV h) : ∃ (a : Int) (H G : am_H), am_ev (d + 8) 18 0 (am_ent [.ref 40] 2) [] h (some (iv a), am_put H 41 1 (iv 0)) ∧ am_ev (d + 8) 167 0 (am_ent [.ref 78] 3) [] g (some (iv a), G) ∧ G.2.2.2 78 2 = iv 0 ∧ H.2.2.2 41 3 = G.2.2.2 78 8 ∧ H.2.2.2 41 4 = G.2.2.2 78 9 ∧ (∀ j, j < 7 → H.2.2.2 44 j = G.2.2.2 81 j) ∧ (∀ j, j < 6 → H.2.2.2 45 j = G.2.2.2 82 j) ∧ rbV H := by
  obtain ⟨h1, C, st⟩ := rw_19 (d := d) S B v1
  obtain ⟨g1, s, e, k, v, w', t0, M, e1, e2⟩ := rw_167 (d := d) S' B' hb hL v2 v7
  obtain ⟨H, G, ⟨r, V, Y, q1, q2, hr, SH, SG, qz, q3, q4, q5, q6, q7, q8, q9, q10, qB⟩ | ⟨f, sn, q1, q2, SH, SG, qz, q3, q4, q5, q6, q7, q8, q9, q10⟩⟩ := rr_loop (d := d) (h0 := h) (g0 := g) hb hL 14 0 0 s e _ _ k v w' _ _ _ h1 g1 am_ph am_ph am_ph (by omega) rfl C M (fun i hi => Or.inl rfl) (fun i hi => by rw [bt_0 i (by omega)]; exact ⟨fun z => Bool.noConfusion z, fun z => absurd (show (0 : Int) = 1 from z) (by decide)⟩) (fun i hi => by rw [bt_0 i (by omega)]; exact ⟨fun z => Bool.noConfusion z, fun z => absurd (show (0 : Int) = 1 from z) (by decide)⟩) rV_0
  · obtain ⟨G2, p1, p2, p3, p4, p5, p6⟩ := rw_167e (d := d + 8) (r := r) SG q9 q10
    refine ⟨r, H, G2, rw_18 S SH (st _ q1), e1 G r _ SG q2 p1, Eq.trans p6 qz, ?_, ?_, fun j hj => ?_, fun j hj => ?_, ⟨V, Y, qB, q7, q8⟩⟩
    · rw [p4, q3, q5]
    · rw [p5, q4, q6]
    · rw [q7 j hj, p2 j hj]
    · rw [q8 j hj, p3 j hj]
  · refine ⟨-1, H, G, rw_18 S SH (st _ q1), e2 G SG q2, qz, ?_, ?_, fun j hj => ?_, fun j hj => ?_, ?_⟩
    · rw [q3, q5]
    · rw [q4, q6]
    · rw [q7 j, q9 j, Tv j hj]
    · rw [q8 j, q10 j, Ty j hj]
    · obtain ⟨V, Y, B, x1, x2⟩ := XB
      exact ⟨V, Y, B, fun j hj => (q7 j).trans (x1 j hj), fun j hj => (q8 j).trans (x2 j hj)⟩
end RWC
