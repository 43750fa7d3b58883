/-! RULES, the program's side: drafts, the loop over clauses -/
section RLA
variable {d : Nat} {h : am_H} {b : Nat → Int} {L p s e s1 e1 s2 e2 s3 e3 l n : Nat} {k v k1 k2 k3 v1 v2 v3 w c : Int} {t u : Int32} {V Y : Nat → Int} {a3 a4 : Value}
theorem rl_5 (S : fS h) : am_ev d 5 0 (am_ent [.ref 47, iv 70] 4) [] h (none, (am_put (am_put (am_put (am_put (am_put (am_put h 47 0 (iv 70)) 47 1 (iv 70)) 47 2 (iv 70)) 47 3 (iv 70)) 47 4 (iv 70)) 47 5 (iv 70))) := by
  show am_ev d 5 0 [.ref 47, iv 70, am_ph, am_ph] [] h _
  refine am_ev.step (pc' := 1) rfl rfl ?_
  refine am_ev.step (pc' := 2) (ls' := [.ref 47, iv 70, iv 0, am_ph]) rfl rfl ?_
  refine am_ev.step (pc' := 3) rfl rfl ?_
  refine fx_alen (p' := 4) (n := 6) rfl rfl (S.al rfl rfl) ?_
  refine am_ev.step (pc' := 5) (ls' := [.ref 47, iv 70, iv 0, iv 6]) rfl rfl ?_
  refine am_ev.step (pc' := 6) rfl rfl ?_
  refine am_ev.step (pc' := 7) rfl rfl ?_
  refine fx_c_ge_F (pF := 10) rfl (by omega) (by omega) rfl (by omega) ?_
  refine am_ev.step (pc' := 11) rfl rfl ?_
  refine am_ev.step (pc' := 12) rfl rfl ?_
  refine am_ev.step (pc' := 13) rfl rfl ?_
  refine ax_iastore (p' := 14) rfl rfl (S.wr (k := 0) rfl rfl rfl rfl (by decide)) ?_
  refine fx_inc (p' := 17) (e := 1) (ls' := [.ref 47, iv 70, iv 1, iv 6]) rfl rfl rfl (by omega) rfl ?_
  refine am_ev.step (pc' := 5) rfl rfl ?_
  refine am_ev.step (pc' := 6) rfl rfl ?_
  refine am_ev.step (pc' := 7) rfl rfl ?_
  refine fx_c_ge_F (pF := 10) rfl (by omega) (by omega) rfl (by omega) ?_
  refine am_ev.step (pc' := 11) rfl rfl ?_
  refine am_ev.step (pc' := 12) rfl rfl ?_
  refine am_ev.step (pc' := 13) rfl rfl ?_
  refine ax_iastore (p' := 14) rfl rfl ((S.pa rfl).wr (k := 1) rfl rfl rfl rfl (by decide)) ?_
  refine fx_inc (p' := 17) (e := 2) (ls' := [.ref 47, iv 70, iv 2, iv 6]) rfl rfl rfl (by omega) rfl ?_
  refine am_ev.step (pc' := 5) rfl rfl ?_
  refine am_ev.step (pc' := 6) rfl rfl ?_
  refine am_ev.step (pc' := 7) rfl rfl ?_
  refine fx_c_ge_F (pF := 10) rfl (by omega) (by omega) rfl (by omega) ?_
  refine am_ev.step (pc' := 11) rfl rfl ?_
  refine am_ev.step (pc' := 12) rfl rfl ?_
  refine am_ev.step (pc' := 13) rfl rfl ?_
  refine ax_iastore (p' := 14) rfl rfl (((S.pa rfl).pa rfl).wr (k := 2) rfl rfl rfl rfl (by decide)) ?_
  refine fx_inc (p' := 17) (e := 3) (ls' := [.ref 47, iv 70, iv 3, iv 6]) rfl rfl rfl (by omega) rfl ?_
  refine am_ev.step (pc' := 5) rfl rfl ?_
  refine am_ev.step (pc' := 6) rfl rfl ?_
  refine am_ev.step (pc' := 7) rfl rfl ?_
  refine fx_c_ge_F (pF := 10) rfl (by omega) (by omega) rfl (by omega) ?_
  refine am_ev.step (pc' := 11) rfl rfl ?_
  refine am_ev.step (pc' := 12) rfl rfl ?_
  refine am_ev.step (pc' := 13) rfl rfl ?_
  refine ax_iastore (p' := 14) rfl rfl ((((S.pa rfl).pa rfl).pa rfl).wr (k := 3) rfl rfl rfl rfl (by decide)) ?_
  refine fx_inc (p' := 17) (e := 4) (ls' := [.ref 47, iv 70, iv 4, iv 6]) rfl rfl rfl (by omega) rfl ?_
  refine am_ev.step (pc' := 5) rfl rfl ?_
  refine am_ev.step (pc' := 6) rfl rfl ?_
  refine am_ev.step (pc' := 7) rfl rfl ?_
  refine fx_c_ge_F (pF := 10) rfl (by omega) (by omega) rfl (by omega) ?_
  refine am_ev.step (pc' := 11) rfl rfl ?_
  refine am_ev.step (pc' := 12) rfl rfl ?_
  refine am_ev.step (pc' := 13) rfl rfl ?_
  refine ax_iastore (p' := 14) rfl rfl (((((S.pa rfl).pa rfl).pa rfl).pa rfl).wr (k := 4) rfl rfl rfl rfl (by decide)) ?_
  refine fx_inc (p' := 17) (e := 5) (ls' := [.ref 47, iv 70, iv 5, iv 6]) rfl rfl rfl (by omega) rfl ?_
  refine am_ev.step (pc' := 5) rfl rfl ?_
  refine am_ev.step (pc' := 6) rfl rfl ?_
  refine am_ev.step (pc' := 7) rfl rfl ?_
  refine fx_c_ge_F (pF := 10) rfl (by omega) (by omega) rfl (by omega) ?_
  refine am_ev.step (pc' := 11) rfl rfl ?_
  refine am_ev.step (pc' := 12) rfl rfl ?_
  refine am_ev.step (pc' := 13) rfl rfl ?_
  refine ax_iastore (p' := 14) rfl rfl ((((((S.pa rfl).pa rfl).pa rfl).pa rfl).pa rfl).wr (k := 5) rfl rfl rfl rfl (by decide)) ?_
  refine fx_inc (p' := 17) (e := 6) (ls' := [.ref 47, iv 70, iv 6, iv 6]) rfl rfl rfl (by omega) rfl ?_
  refine am_ev.step (pc' := 5) rfl rfl ?_
  refine am_ev.step (pc' := 6) rfl rfl ?_
  refine am_ev.step (pc' := 7) rfl rfl ?_
  refine fx_c_ge_T (pT := 20) rfl (by omega) (by omega) rfl (by omega) ?_
  exact am_ev.retv rfl rfl
theorem rl_4 (S : fS h) : am_ev (d + 1) 4 0 (am_ent [.ref 43] 1) [] h (none, (am_put (am_put (am_put (am_put (am_put (am_put (am_put (am_put (am_put (am_put (am_put (am_put (am_put (am_put (am_put h 46 0 (iv ((cq_sv 1 0)))) 46 1 (iv ((cq_sv 1 1)))) 46 2 (iv ((cq_sv 1 2)))) 46 3 (iv ((cq_sv 1 3)))) 46 4 (iv ((cq_sv 1 4)))) 46 5 (iv ((cq_sv 1 5)))) 46 6 (iv ((cq_sv 1 6)))) 47 0 (iv 70)) 47 1 (iv 70)) 47 2 (iv 70)) 47 3 (iv 70)) 47 4 (iv 70)) 47 5 (iv 70)) 43 4 (iv 0)) 43 5 (iv 0))) := by
  show am_ev (d + 1) 4 0 [.ref 43] [] h _
  refine am_ev.step (pc' := 3) rfl rfl ?_
  refine am_ev.step (pc' := 4) rfl rfl ?_
  refine am_ev.step (pc' := 5) rfl rfl ?_
  refine ax_gf (p' := 8) rfl rfl (S.ob rfl) (S.rf rfl rfl) ?_
  refine am_ev.step (pc' := 9) rfl rfl ?_
  refine fx_bip (p' := 11) rfl rfl rfl ?_
  refine fx_cpy7 (p' := 14) (fun i => (cq_sv 1 i)) rfl (Or.inl ⟨_, rfl⟩) rfl rfl rfl (S.lt rfl) (S.lt rfl) (S.ss rfl) rfl (S.sh rfl rfl) rfl (S.sv rfl) ?_
  refine am_ev.step (pc' := 15) rfl rfl ?_
  refine ax_gf (p' := 18) rfl rfl (fO (fO (fO (fO (fO (fO (fO (S.ob rfl)))))))) (ax_put_o (Or.inl (by decide)) (ax_put_o (Or.inl (by decide)) (ax_put_o (Or.inl (by decide)) (ax_put_o (Or.inl (by decide)) (ax_put_o (Or.inl (by decide)) (ax_put_o (Or.inl (by decide)) (ax_put_o (Or.inl (by decide)) (S.rf rfl rfl)))))))) ?_
  refine fx_bip (p' := 20) rfl rfl rfl ?_
  refine ax_call (z := 5) (p' := 23) (as := [_, _]) rfl (Or.inl ⟨_, rfl⟩) rfl rfl rfl rfl rfl rfl rfl rfl (rl_5 (((((((S.pa rfl).pa rfl).pa rfl).pa rfl).pa rfl).pa rfl).pa rfl)) rfl ?_
  refine am_ev.step (pc' := 24) rfl rfl ?_
  refine am_ev.step (pc' := 25) rfl rfl ?_
  refine ax_pf (p' := 28) rfl rfl (fO (fO (fO (fO (fO (fO (fO (fO (fO (fO (fO (fO (fO (S.ob rfl)))))))))))))) rfl ?_
  refine am_ev.step (pc' := 29) rfl rfl ?_
  refine am_ev.step (pc' := 30) rfl rfl ?_
  refine ax_pf (p' := 33) rfl rfl (fO (fO (fO (fO (fO (fO (fO (fO (fO (fO (fO (fO (fO (fO (S.ob rfl))))))))))))))) rfl ?_
  exact am_ev.retv rfl rfl
theorem rl_20 (S : fS h) : am_ev d 20 0 (am_ent [.ref 41] 1) [] h (none, (am_put (am_put (am_put h 41 6 (iv 0)) 41 3 (iv 0)) 41 4 (iv (-1)))) := by
  show am_ev d 20 0 [.ref 41] [] h _
  refine am_ev.step (pc' := 1) rfl rfl ?_
  refine am_ev.step (pc' := 2) rfl rfl ?_
  refine ax_pf (p' := 5) rfl rfl (S.ob rfl) rfl ?_
  refine am_ev.step (pc' := 6) rfl rfl ?_
  refine am_ev.step (pc' := 7) rfl rfl ?_
  refine ax_pf (p' := 10) rfl rfl (fO (S.ob rfl)) rfl ?_
  refine am_ev.step (pc' := 11) rfl rfl ?_
  refine am_ev.step (pc' := 12) rfl rfl ?_
  refine ax_pf (p' := 15) rfl rfl (fO (fO (S.ob rfl))) rfl ?_
  exact am_ev.retv rfl rfl
theorem rl_6 (S : fS h) (dV : ∀ i, i < 7 → h.2.2.2 46 i = iv (V i)) (dY : ∀ i, i < 6 → h.2.2.2 47 i = iv (Y i)) : am_ev (d + 1) 6 0 (am_ent [.ref 43] 1) [] h (none, (am_put (am_put (am_put (am_put (am_put (am_put (am_put (am_put (am_put (am_put (am_put (am_put (am_put h 44 0 (iv ((V 0)))) 44 1 (iv ((V 1)))) 44 2 (iv ((V 2)))) 44 3 (iv ((V 3)))) 44 4 (iv ((V 4)))) 44 5 (iv ((V 5)))) 44 6 (iv ((V 6)))) 45 0 (iv ((Y 0)))) 45 1 (iv ((Y 1)))) 45 2 (iv ((Y 2)))) 45 3 (iv ((Y 3)))) 45 4 (iv ((Y 4)))) 45 5 (iv ((Y 5))))) := by
  show am_ev (d + 1) 6 0 [.ref 43] [] h _
  refine am_ev.step (pc' := 1) rfl rfl ?_
  refine ax_gf (p' := 4) rfl rfl (S.ob rfl) (S.rf rfl rfl) ?_
  refine am_ev.step (pc' := 5) rfl rfl ?_
  refine am_ev.step (pc' := 6) rfl rfl ?_
  refine ax_gf (p' := 9) rfl rfl (S.ob rfl) (S.rf rfl rfl) ?_
  refine am_ev.step (pc' := 10) rfl rfl ?_
  refine fx_bip (p' := 12) rfl rfl rfl ?_
  refine fx_cpy7 (p' := 15) (fun i => (V i)) rfl (Or.inl ⟨_, rfl⟩) rfl rfl rfl (S.lt rfl) (S.lt rfl) (S.sh rfl rfl) rfl (S.sh rfl rfl) rfl (fun i hi => (dV i hi)) ?_
  refine am_ev.step (pc' := 16) rfl rfl ?_
  refine ax_gf (p' := 19) rfl rfl (fO (fO (fO (fO (fO (fO (fO (S.ob rfl)))))))) (ax_put_o (Or.inl (by decide)) (ax_put_o (Or.inl (by decide)) (ax_put_o (Or.inl (by decide)) (ax_put_o (Or.inl (by decide)) (ax_put_o (Or.inl (by decide)) (ax_put_o (Or.inl (by decide)) (ax_put_o (Or.inl (by decide)) (S.rf rfl rfl)))))))) ?_
  refine am_ev.step (pc' := 20) rfl rfl ?_
  refine am_ev.step (pc' := 21) rfl rfl ?_
  refine ax_gf (p' := 24) rfl rfl (fO (fO (fO (fO (fO (fO (fO (S.ob rfl)))))))) (ax_put_o (Or.inl (by decide)) (ax_put_o (Or.inl (by decide)) (ax_put_o (Or.inl (by decide)) (ax_put_o (Or.inl (by decide)) (ax_put_o (Or.inl (by decide)) (ax_put_o (Or.inl (by decide)) (ax_put_o (Or.inl (by decide)) (S.rf rfl rfl)))))))) ?_
  refine am_ev.step (pc' := 25) rfl rfl ?_
  refine fx_bip (p' := 27) rfl rfl rfl ?_
  refine fx_cpy6 (p' := 30) (fun i => (Y i)) rfl (Or.inl ⟨_, rfl⟩) rfl rfl rfl ((((((((S.pa rfl).pa rfl).pa rfl).pa rfl).pa rfl).pa rfl).pa rfl).lt rfl) ((((((((S.pa rfl).pa rfl).pa rfl).pa rfl).pa rfl).pa rfl).pa rfl).lt rfl) ((((((((S.pa rfl).pa rfl).pa rfl).pa rfl).pa rfl).pa rfl).pa rfl).sh rfl rfl) rfl ((((((((S.pa rfl).pa rfl).pa rfl).pa rfl).pa rfl).pa rfl).pa rfl).sh rfl rfl) rfl (fun i hi => (ax_put_o (Or.inl (by decide)) (ax_put_o (Or.inl (by decide)) (ax_put_o (Or.inl (by decide)) (ax_put_o (Or.inl (by decide)) (ax_put_o (Or.inl (by decide)) (ax_put_o (Or.inl (by decide)) (ax_put_o (Or.inl (by decide)) (dY i hi))))))))) ?_
  exact am_ev.retv rfl rfl
end RLA
/-- what holds of the program's side where a clause is to be read -/
def CS (h h0 : am_H) (b : Nat → Int) (L p : Nat) (t u : Int32) (V Y : Nat → Int) : Prop := fS h ∧ tb h 42 b L ∧ h.2.2.2 41 1 = iv L ∧ h.2.2.2 41 6 = iv p ∧ h.2.2.2 41 3 = iv 0 ∧ h.2.2.2 41 4 = iv (-1) ∧ h.2.2.2 43 4 = .int t ∧ h.2.2.2 43 5 = .int u ∧ (∀ i, i < 7 → h.2.2.2 46 i = iv (V i)) ∧ (∀ i, i < 6 → h.2.2.2 47 i = iv (Y i)) ∧ (∀ j, h.2.2.2 44 j = h0.2.2.2 44 j) ∧ (∀ j, h.2.2.2 45 j = h0.2.2.2 45 j)
/-- and of the other side -/
def MS (h h0 : am_H) (b : Nat → Int) (L p s e : Nat) (k v w : Int) (τ V Y : Nat → Int) : Prop := fS h ∧ tb h 80 b L ∧ h.2.2.2 78 3 = iv L ∧ tz_t b L p s e k v ∧ h.2.2.2 78 4 = iv s ∧ h.2.2.2 78 5 = iv e ∧ h.2.2.2 78 6 = iv (tH k) ∧ h.2.2.2 78 7 = iv w ∧ (k = 2 → w = v) ∧ (43 ≤ k → w = k) ∧ h.2.2.2 78 8 = iv 0 ∧ h.2.2.2 78 9 = iv (-1) ∧ (∀ i, i < 13 → h.2.2.2 85 i = iv (τ i)) ∧ (∀ i, i < 7 → h.2.2.2 83 i = iv (V i)) ∧ (∀ i, i < 6 → h.2.2.2 84 i = iv (Y i)) ∧ (∀ j, h.2.2.2 81 j = h0.2.2.2 81 j) ∧ (∀ j, h.2.2.2 82 j = h0.2.2.2 82 j) ∧ h.2.2.2 78 2 = iv 0
def up1 (V : Nat → Int) (c : Nat) (v : Int) : Nat → Int := fun i => if i = c then v else V i
theorem tz_t.k3 {b : Nat → Int} {L p s e : Nat} {k v : Int} (t : tz_t b L p s e k v) : k ≤ 3 ∨ 43 ≤ k := by
  obtain ⟨hp, rfl, rfl, rfl, rfl⟩ := t
  unfold tK
  repeat' split
  all_goals omega
section RLB
variable {d : Nat} {h h0 : am_H} {b : Nat → Int} {L p s e s1 e1 s2 e2 s3 e3 l n : Nat} {k v k1 k2 k3 v1 v2 v3 w c : Int} {t u : Int32} {V Y τ : Nat → Int} {a3 a4 : Value}
theorem rl_E (hb : tz_r b) (hL : L ≤ 1600) (C : CS h h0 b L p t u V Y) (hn : n ≤ 13) (t0 : tz_t b L p s e k v) (q : k = 0) : ∃ H : am_H, am_ev (d + 7) 19 10 [.ref 43, .ref 41, iv ((n : Int)), a3, a4] [] h  (some (iv n), H) ∧ H.2.2.2 41 3 = iv 0 ∧ H.2.2.2 41 4 = iv (-1) ∧ (∀ j, j < 7 → H.2.2.2 44 j = iv (V j)) ∧ (∀ j, j < 6 → H.2.2.2 45 j = iv (Y j)) ∧ fS H := by
  obtain ⟨S, B, w1, v6, f3, f4, g4, g5, dV, dY, z44, z45⟩ := C
  have f0 := t0.f hb
  refine ⟨(am_put (am_put (am_put (am_put (am_put (am_put (am_put (am_put (am_put (am_put (am_put (am_put (am_put (am_put (am_put (am_put h 41 5 (iv ((s : Int)))) 41 6 (iv ((e : Int)))) 41 2 (iv (k))) 44 0 (iv ((V 0)))) 44 1 (iv ((V 1)))) 44 2 (iv ((V 2)))) 44 3 (iv ((V 3)))) 44 4 (iv ((V 4)))) 44 5 (iv ((V 5)))) 44 6 (iv ((V 6)))) 45 0 (iv ((Y 0)))) 45 1 (iv ((Y 1)))) 45 2 (iv ((Y 2)))) 45 3 (iv ((Y 3)))) 45 4 (iv ((Y 4)))) 45 5 (iv ((Y 5)))), ?_, (ax_put_o (Or.inl (by decide)) (ax_put_o (Or.inl (by decide)) (ax_put_o (Or.inl (by decide)) (ax_put_o (Or.inl (by decide)) (ax_put_o (Or.inl (by decide)) (ax_put_o (Or.inl (by decide)) (ax_put_o (Or.inl (by decide)) (ax_put_o (Or.inl (by decide)) (ax_put_o (Or.inl (by decide)) (ax_put_o (Or.inl (by decide)) (ax_put_o (Or.inl (by decide)) (ax_put_o (Or.inl (by decide)) (ax_put_o (Or.inl (by decide)) (ax_put_o (Or.inr (by decide)) (ax_put_o (Or.inr (by decide)) (ax_put_o (Or.inr (by decide)) f3)))))))))))))))), (ax_put_o (Or.inl (by decide)) (ax_put_o (Or.inl (by decide)) (ax_put_o (Or.inl (by decide)) (ax_put_o (Or.inl (by decide)) (ax_put_o (Or.inl (by decide)) (ax_put_o (Or.inl (by decide)) (ax_put_o (Or.inl (by decide)) (ax_put_o (Or.inl (by decide)) (ax_put_o (Or.inl (by decide)) (ax_put_o (Or.inl (by decide)) (ax_put_o (Or.inl (by decide)) (ax_put_o (Or.inl (by decide)) (ax_put_o (Or.inl (by decide)) (ax_put_o (Or.inr (by decide)) (ax_put_o (Or.inr (by decide)) (ax_put_o (Or.inr (by decide)) f4)))))))))))))))), (fun j hj => by
      have hj2 : j = 0 ∨ j = 1 ∨ j = 2 ∨ j = 3 ∨ j = 4 ∨ j = 5 ∨ j = 6 := by omega
      rcases hj2 with rfl | rfl | rfl | rfl | rfl | rfl | rfl
      · exact (ax_put_o (Or.inl (by decide)) (ax_put_o (Or.inl (by decide)) (ax_put_o (Or.inl (by decide)) (ax_put_o (Or.inl (by decide)) (ax_put_o (Or.inl (by decide)) (ax_put_o (Or.inl (by decide)) (ax_put_o (Or.inr (by decide)) (ax_put_o (Or.inr (by decide)) (ax_put_o (Or.inr (by decide)) (ax_put_o (Or.inr (by decide)) (ax_put_o (Or.inr (by decide)) (ax_put_o (Or.inr (by decide)) (ax_put_s _ _ _)))))))))))))
      · exact (ax_put_o (Or.inl (by decide)) (ax_put_o (Or.inl (by decide)) (ax_put_o (Or.inl (by decide)) (ax_put_o (Or.inl (by decide)) (ax_put_o (Or.inl (by decide)) (ax_put_o (Or.inl (by decide)) (ax_put_o (Or.inr (by decide)) (ax_put_o (Or.inr (by decide)) (ax_put_o (Or.inr (by decide)) (ax_put_o (Or.inr (by decide)) (ax_put_o (Or.inr (by decide)) (ax_put_s _ _ _))))))))))))
      · exact (ax_put_o (Or.inl (by decide)) (ax_put_o (Or.inl (by decide)) (ax_put_o (Or.inl (by decide)) (ax_put_o (Or.inl (by decide)) (ax_put_o (Or.inl (by decide)) (ax_put_o (Or.inl (by decide)) (ax_put_o (Or.inr (by decide)) (ax_put_o (Or.inr (by decide)) (ax_put_o (Or.inr (by decide)) (ax_put_o (Or.inr (by decide)) (ax_put_s _ _ _)))))))))))
      · exact (ax_put_o (Or.inl (by decide)) (ax_put_o (Or.inl (by decide)) (ax_put_o (Or.inl (by decide)) (ax_put_o (Or.inl (by decide)) (ax_put_o (Or.inl (by decide)) (ax_put_o (Or.inl (by decide)) (ax_put_o (Or.inr (by decide)) (ax_put_o (Or.inr (by decide)) (ax_put_o (Or.inr (by decide)) (ax_put_s _ _ _))))))))))
      · exact (ax_put_o (Or.inl (by decide)) (ax_put_o (Or.inl (by decide)) (ax_put_o (Or.inl (by decide)) (ax_put_o (Or.inl (by decide)) (ax_put_o (Or.inl (by decide)) (ax_put_o (Or.inl (by decide)) (ax_put_o (Or.inr (by decide)) (ax_put_o (Or.inr (by decide)) (ax_put_s _ _ _)))))))))
      · exact (ax_put_o (Or.inl (by decide)) (ax_put_o (Or.inl (by decide)) (ax_put_o (Or.inl (by decide)) (ax_put_o (Or.inl (by decide)) (ax_put_o (Or.inl (by decide)) (ax_put_o (Or.inl (by decide)) (ax_put_o (Or.inr (by decide)) (ax_put_s _ _ _))))))))
      · exact (ax_put_o (Or.inl (by decide)) (ax_put_o (Or.inl (by decide)) (ax_put_o (Or.inl (by decide)) (ax_put_o (Or.inl (by decide)) (ax_put_o (Or.inl (by decide)) (ax_put_o (Or.inl (by decide)) (ax_put_s _ _ _)))))))), (fun j hj => by
      have hj2 : j = 0 ∨ j = 1 ∨ j = 2 ∨ j = 3 ∨ j = 4 ∨ j = 5 := by omega
      rcases hj2 with rfl | rfl | rfl | rfl | rfl | rfl
      · exact (ax_put_o (Or.inr (by decide)) (ax_put_o (Or.inr (by decide)) (ax_put_o (Or.inr (by decide)) (ax_put_o (Or.inr (by decide)) (ax_put_o (Or.inr (by decide)) (ax_put_s _ _ _))))))
      · exact (ax_put_o (Or.inr (by decide)) (ax_put_o (Or.inr (by decide)) (ax_put_o (Or.inr (by decide)) (ax_put_o (Or.inr (by decide)) (ax_put_s _ _ _)))))
      · exact (ax_put_o (Or.inr (by decide)) (ax_put_o (Or.inr (by decide)) (ax_put_o (Or.inr (by decide)) (ax_put_s _ _ _))))
      · exact (ax_put_o (Or.inr (by decide)) (ax_put_o (Or.inr (by decide)) (ax_put_s _ _ _)))
      · exact (ax_put_o (Or.inr (by decide)) (ax_put_s _ _ _))
      · exact (ax_put_s _ _ _)), ((((((((((((((((S.po rfl rfl).po rfl rfl).po rfl rfl).pa rfl).pa rfl).pa rfl).pa rfl).pa rfl).pa rfl).pa rfl).pa rfl).pa rfl).pa rfl).pa rfl).pa rfl).pa rfl)⟩
  refine am_ev.step (pc' := 11) rfl rfl ?_
  refine fx_bip (p' := 13) rfl rfl rfl ?_
  refine fx_c_gt_F (pF := 16) rfl (by omega) (by omega) rfl (by omega) ?_
  refine am_ev.step (pc' := 17) rfl rfl ?_
  refine ax_call (z := 21) (p' := 20) (as := [_]) rfl (Or.inr (Or.inl ⟨_, rfl⟩)) rfl rfl rfl rfl rfl rfl (S.ob rfl) rfl (tk_21w S B hb hL w1 v6 t0) rfl ?_
  refine am_ev.step (pc' := 21) rfl rfl ?_
  refine ax_gf (p' := 24) rfl rfl (fO (fO (fO (S.ob rfl)))) (ax_put_s _ _ _) ?_
  refine fx_z_ne_F (pF := 27) rfl (by omega) rfl (by omega) ?_
  refine am_ev.step (pc' := 28) rfl rfl ?_
  refine ax_call (z := 6) (p' := 31) (as := [_]) rfl (Or.inr (Or.inl ⟨_, rfl⟩)) rfl rfl rfl rfl rfl rfl (fO (fO (fO (S.ob rfl)))) rfl (rl_6 (V := V) (Y := Y) (((S.po rfl rfl).po rfl rfl).po rfl rfl) (fun i hi => (ax_put_o (Or.inl (by decide)) (ax_put_o (Or.inl (by decide)) (ax_put_o (Or.inl (by decide)) (dV i hi))))) (fun i hi => (ax_put_o (Or.inl (by decide)) (ax_put_o (Or.inl (by decide)) (ax_put_o (Or.inl (by decide)) (dY i hi)))))) rfl ?_
  refine am_ev.step (pc' := 32) rfl rfl ?_
  exact fx_reti rfl rfl rfl
theorem rl_Fx (hb : tz_r b) (hL : L ≤ 1600) (C : CS h h0 b L p t u V Y) (hn : n ≤ 13) (t0 : tz_t b L p s e k v) (kn : k ≠ 0) (q : cl_r b s e k (-1)) : ∃ H : am_H, am_ev (d + 7) 19 10 [.ref 43, .ref 41, iv ((n : Int)), a3, a4] [] h  (some (iv (-1)), H) ∧ H.2.2.2 41 3 = iv 1 ∧ H.2.2.2 41 4 = iv s ∧ (∀ j, H.2.2.2 44 j = h0.2.2.2 44 j) ∧ (∀ j, H.2.2.2 45 j = h0.2.2.2 45 j) ∧ fS H := by
  obtain ⟨S, B, w1, v6, f3, f4, g4, g5, dV, dY, z44, z45⟩ := C
  have f0 := t0.f hb
  refine ⟨(am_put (am_put (am_put (am_put (am_put h 41 5 (iv ((s : Int)))) 41 6 (iv ((e : Int)))) 41 2 (iv (k))) 41 3 (iv 1)) 41 4 (iv ((s : Int)))), ?_, (ax_put_o (Or.inr (by decide)) (ax_put_s _ _ _)), (ax_put_s _ _ _), fun j => (ax_put_o (Or.inl (by decide)) (ax_put_o (Or.inl (by decide)) (ax_put_o (Or.inl (by decide)) (ax_put_o (Or.inl (by decide)) (ax_put_o (Or.inl (by decide)) (z44 j)))))), fun j => (ax_put_o (Or.inl (by decide)) (ax_put_o (Or.inl (by decide)) (ax_put_o (Or.inl (by decide)) (ax_put_o (Or.inl (by decide)) (ax_put_o (Or.inl (by decide)) (z45 j)))))), (((((S.po rfl rfl).po rfl rfl).po rfl rfl).po rfl rfl).po rfl rfl)⟩
  refine am_ev.step (pc' := 11) rfl rfl ?_
  refine fx_bip (p' := 13) rfl rfl rfl ?_
  refine fx_c_gt_F (pF := 16) rfl (by omega) (by omega) rfl (by omega) ?_
  refine am_ev.step (pc' := 17) rfl rfl ?_
  refine ax_call (z := 21) (p' := 20) (as := [_]) rfl (Or.inr (Or.inl ⟨_, rfl⟩)) rfl rfl rfl rfl rfl rfl (S.ob rfl) rfl (tk_21w S B hb hL w1 v6 t0) rfl ?_
  refine am_ev.step (pc' := 21) rfl rfl ?_
  refine ax_gf (p' := 24) rfl rfl (fO (fO (fO (S.ob rfl)))) (ax_put_s _ _ _) ?_
  refine fx_z_ne_T (pT := 33) rfl (by omega) rfl (by omega) ?_
  refine am_ev.step (pc' := 34) rfl rfl ?_
  refine ax_call (z := 25) (p' := 37) (as := [_]) rfl (Or.inl ⟨_, rfl⟩) rfl rfl rfl rfl rfl rfl rfl rfl (tk_25 (((S.po rfl rfl).po rfl rfl).po rfl rfl) (((B.put (by decide)).put (by decide)).put (by decide)) hb hL (ax_put_o (Or.inr (by decide)) (ax_put_o (Or.inr (by decide)) (ax_put_o (Or.inr (by decide)) w1))) (ax_put_s _ _ _) (ax_put_o (Or.inr (by decide)) (ax_put_o (Or.inr (by decide)) (ax_put_s _ _ _))) (ax_put_o (Or.inr (by decide)) (ax_put_s _ _ _)) ⟨f0.2.1, f0.2.2.1⟩ ⟨f0.2.2.2.1, by omega⟩ q) rfl ?_
  refine am_ev.step (pc' := 38) (ls' := [.ref 43, .ref 41, iv ((n : Int)), iv (-1), a4]) rfl rfl ?_
  refine am_ev.step (pc' := 39) rfl rfl ?_
  refine fx_bip (p' := 41) rfl rfl rfl ?_
  refine fx_c_ne_T (pT := 52) rfl (by omega) (by omega) rfl (by omega) ?_
  refine am_ev.step (pc' := 53) rfl rfl ?_
  refine am_ev.step (pc' := 54) rfl rfl ?_
  refine am_ev.step (pc' := 55) rfl rfl ?_
  refine ax_call (z := 33) (p' := 58) (as := [_, _, _]) rfl (Or.inr (Or.inl ⟨_, rfl⟩)) rfl rfl rfl rfl rfl rfl (fO (fO (fO (S.ob rfl)))) rfl (tk_33x (((S.po rfl rfl).po rfl rfl).po rfl rfl) (((B.put (by decide)).put (by decide)).put (by decide)) hb hL (ax_put_o (Or.inr (by decide)) (ax_put_o (Or.inr (by decide)) (ax_put_o (Or.inr (by decide)) w1))) (ax_put_o (Or.inr (by decide)) (ax_put_o (Or.inr (by decide)) (ax_put_s _ _ _))) (ax_put_o (Or.inr (by decide)) (ax_put_s _ _ _)) ) rfl ?_
  refine am_ev.step (pc' := 60) (ls' := [.ref 43, .ref 41, iv ((n : Int)), iv (-1), iv 0]) rfl rfl ?_
  refine am_ev.step (pc' := 62) rfl rfl ?_
  refine fx_z_ne_F (pF := 65) rfl (by omega) rfl (by omega) ?_
  refine am_ev.step (pc' := 66) rfl rfl ?_
  exact fx_reti rfl rfl rfl
theorem rl_Fa (hb : tz_r b) (hL : L ≤ 1600) (C : CS h h0 b L p t u V Y) (hn : n ≤ 13) (t0 : tz_t b L p s e k v) (kn : k ≠ 0) (hl : l < 7) (q : cl_r b s e k l) (q0 : bt t l = true) : ∃ H : am_H, am_ev (d + 7) 19 10 [.ref 43, .ref 41, iv ((n : Int)), a3, a4] [] h  (some (iv (-1)), H) ∧ H.2.2.2 41 3 = iv 3 ∧ H.2.2.2 41 4 = iv s ∧ (∀ j, H.2.2.2 44 j = h0.2.2.2 44 j) ∧ (∀ j, H.2.2.2 45 j = h0.2.2.2 45 j) ∧ fS H := by
  obtain ⟨S, B, w1, v6, f3, f4, g4, g5, dV, dY, z44, z45⟩ := C
  have f0 := t0.f hb
  refine ⟨(am_put (am_put (am_put (am_put (am_put h 41 5 (iv ((s : Int)))) 41 6 (iv ((e : Int)))) 41 2 (iv (k))) 41 3 (iv 3)) 41 4 (iv ((s : Int)))), ?_, (ax_put_o (Or.inr (by decide)) (ax_put_s _ _ _)), (ax_put_s _ _ _), fun j => (ax_put_o (Or.inl (by decide)) (ax_put_o (Or.inl (by decide)) (ax_put_o (Or.inl (by decide)) (ax_put_o (Or.inl (by decide)) (ax_put_o (Or.inl (by decide)) (z44 j)))))), fun j => (ax_put_o (Or.inl (by decide)) (ax_put_o (Or.inl (by decide)) (ax_put_o (Or.inl (by decide)) (ax_put_o (Or.inl (by decide)) (ax_put_o (Or.inl (by decide)) (z45 j)))))), (((((S.po rfl rfl).po rfl rfl).po rfl rfl).po rfl rfl).po rfl rfl)⟩
  refine am_ev.step (pc' := 11) rfl rfl ?_
  refine fx_bip (p' := 13) rfl rfl rfl ?_
  refine fx_c_gt_F (pF := 16) rfl (by omega) (by omega) rfl (by omega) ?_
  refine am_ev.step (pc' := 17) rfl rfl ?_
  refine ax_call (z := 21) (p' := 20) (as := [_]) rfl (Or.inr (Or.inl ⟨_, rfl⟩)) rfl rfl rfl rfl rfl rfl (S.ob rfl) rfl (tk_21w S B hb hL w1 v6 t0) rfl ?_
  refine am_ev.step (pc' := 21) rfl rfl ?_
  refine ax_gf (p' := 24) rfl rfl (fO (fO (fO (S.ob rfl)))) (ax_put_s _ _ _) ?_
  refine fx_z_ne_T (pT := 33) rfl (by omega) rfl (by omega) ?_
  refine am_ev.step (pc' := 34) rfl rfl ?_
  refine ax_call (z := 25) (p' := 37) (as := [_]) rfl (Or.inl ⟨_, rfl⟩) rfl rfl rfl rfl rfl rfl rfl rfl (tk_25 (((S.po rfl rfl).po rfl rfl).po rfl rfl) (((B.put (by decide)).put (by decide)).put (by decide)) hb hL (ax_put_o (Or.inr (by decide)) (ax_put_o (Or.inr (by decide)) (ax_put_o (Or.inr (by decide)) w1))) (ax_put_s _ _ _) (ax_put_o (Or.inr (by decide)) (ax_put_o (Or.inr (by decide)) (ax_put_s _ _ _))) (ax_put_o (Or.inr (by decide)) (ax_put_s _ _ _)) ⟨f0.2.1, f0.2.2.1⟩ ⟨f0.2.2.2.1, by omega⟩ q) rfl ?_
  refine am_ev.step (pc' := 38) (ls' := [.ref 43, .ref 41, iv ((n : Int)), iv ((l : Int)), a4]) rfl rfl ?_
  refine am_ev.step (pc' := 39) rfl rfl ?_
  refine fx_bip (p' := 41) rfl rfl rfl ?_
  refine fx_c_ne_T (pT := 52) rfl (by omega) (by omega) rfl (by omega) ?_
  refine am_ev.step (pc' := 53) rfl rfl ?_
  refine am_ev.step (pc' := 54) rfl rfl ?_
  refine am_ev.step (pc' := 55) rfl rfl ?_
  refine ax_call (z := 33) (p' := 58) (as := [_, _, _]) rfl (Or.inr (Or.inl ⟨_, rfl⟩)) rfl rfl rfl rfl rfl rfl (fO (fO (fO (S.ob rfl)))) rfl (tk_33a (((S.po rfl rfl).po rfl rfl).po rfl rfl) (((B.put (by decide)).put (by decide)).put (by decide)) hb hL (ax_put_o (Or.inr (by decide)) (ax_put_o (Or.inr (by decide)) (ax_put_o (Or.inr (by decide)) w1))) (ax_put_o (Or.inr (by decide)) (ax_put_o (Or.inr (by decide)) (ax_put_s _ _ _))) (ax_put_o (Or.inr (by decide)) (ax_put_s _ _ _)) hl (ax_put_o (Or.inl (by decide)) (ax_put_o (Or.inl (by decide)) (ax_put_o (Or.inl (by decide)) g4))) q0) rfl ?_
  refine am_ev.step (pc' := 60) (ls' := [.ref 43, .ref 41, iv ((n : Int)), iv ((l : Int)), iv 0]) rfl rfl ?_
  refine am_ev.step (pc' := 62) rfl rfl ?_
  refine fx_z_ne_F (pF := 65) rfl (by omega) rfl (by omega) ?_
  refine am_ev.step (pc' := 66) rfl rfl ?_
  exact fx_reti rfl rfl rfl
theorem rl_Fb (hb : tz_r b) (hL : L ≤ 1600) (C : CS h h0 b L p t u V Y) (hn : n ≤ 13) (t0 : tz_t b L p s e k v) (kn : k ≠ 0) (hl : l < 7) (q : cl_r b s e k l) (q0 : bt t l = false) (t1 : tz_t b L e s1 e1 k1 v1) (q1 : k1 ≠ 2) : ∃ H : am_H, am_ev (d + 7) 19 10 [.ref 43, .ref 41, iv ((n : Int)), a3, a4] [] h  (some (iv (-1)), H) ∧ H.2.2.2 41 3 = iv 1 ∧ H.2.2.2 41 4 = iv s1 ∧ (∀ j, H.2.2.2 44 j = h0.2.2.2 44 j) ∧ (∀ j, H.2.2.2 45 j = h0.2.2.2 45 j) ∧ fS H := by
  obtain ⟨S, B, w1, v6, f3, f4, g4, g5, dV, dY, z44, z45⟩ := C
  have f0 := t0.f hb
  refine ⟨(am_put (am_put (am_put (am_put (am_put (am_put (am_put (am_put (am_put h 41 5 (iv ((s : Int)))) 41 6 (iv ((e : Int)))) 41 2 (iv (k))) 43 4 (.int (t ||| ((Int32.ofInt 1) <<< ((Int32.ofInt ((l : Int))) &&& 31))))) 41 5 (iv ((s1 : Int)))) 41 6 (iv ((e1 : Int)))) 41 2 (iv (k1))) 41 3 (iv 1)) 41 4 (iv ((s1 : Int)))), ?_, (ax_put_o (Or.inr (by decide)) (ax_put_s _ _ _)), (ax_put_s _ _ _), fun j => (ax_put_o (Or.inl (by decide)) (ax_put_o (Or.inl (by decide)) (ax_put_o (Or.inl (by decide)) (ax_put_o (Or.inl (by decide)) (ax_put_o (Or.inl (by decide)) (ax_put_o (Or.inl (by decide)) (ax_put_o (Or.inl (by decide)) (ax_put_o (Or.inl (by decide)) (ax_put_o (Or.inl (by decide)) (z44 j)))))))))), fun j => (ax_put_o (Or.inl (by decide)) (ax_put_o (Or.inl (by decide)) (ax_put_o (Or.inl (by decide)) (ax_put_o (Or.inl (by decide)) (ax_put_o (Or.inl (by decide)) (ax_put_o (Or.inl (by decide)) (ax_put_o (Or.inl (by decide)) (ax_put_o (Or.inl (by decide)) (ax_put_o (Or.inl (by decide)) (z45 j)))))))))), (((((((((S.po rfl rfl).po rfl rfl).po rfl rfl).po rfl rfl).po rfl rfl).po rfl rfl).po rfl rfl).po rfl rfl).po rfl rfl)⟩
  refine am_ev.step (pc' := 11) rfl rfl ?_
  refine fx_bip (p' := 13) rfl rfl rfl ?_
  refine fx_c_gt_F (pF := 16) rfl (by omega) (by omega) rfl (by omega) ?_
  refine am_ev.step (pc' := 17) rfl rfl ?_
  refine ax_call (z := 21) (p' := 20) (as := [_]) rfl (Or.inr (Or.inl ⟨_, rfl⟩)) rfl rfl rfl rfl rfl rfl (S.ob rfl) rfl (tk_21w S B hb hL w1 v6 t0) rfl ?_
  refine am_ev.step (pc' := 21) rfl rfl ?_
  refine ax_gf (p' := 24) rfl rfl (fO (fO (fO (S.ob rfl)))) (ax_put_s _ _ _) ?_
  refine fx_z_ne_T (pT := 33) rfl (by omega) rfl (by omega) ?_
  refine am_ev.step (pc' := 34) rfl rfl ?_
  refine ax_call (z := 25) (p' := 37) (as := [_]) rfl (Or.inl ⟨_, rfl⟩) rfl rfl rfl rfl rfl rfl rfl rfl (tk_25 (((S.po rfl rfl).po rfl rfl).po rfl rfl) (((B.put (by decide)).put (by decide)).put (by decide)) hb hL (ax_put_o (Or.inr (by decide)) (ax_put_o (Or.inr (by decide)) (ax_put_o (Or.inr (by decide)) w1))) (ax_put_s _ _ _) (ax_put_o (Or.inr (by decide)) (ax_put_o (Or.inr (by decide)) (ax_put_s _ _ _))) (ax_put_o (Or.inr (by decide)) (ax_put_s _ _ _)) ⟨f0.2.1, f0.2.2.1⟩ ⟨f0.2.2.2.1, by omega⟩ q) rfl ?_
  refine am_ev.step (pc' := 38) (ls' := [.ref 43, .ref 41, iv ((n : Int)), iv ((l : Int)), a4]) rfl rfl ?_
  refine am_ev.step (pc' := 39) rfl rfl ?_
  refine fx_bip (p' := 41) rfl rfl rfl ?_
  refine fx_c_ne_T (pT := 52) rfl (by omega) (by omega) rfl (by omega) ?_
  refine am_ev.step (pc' := 53) rfl rfl ?_
  refine am_ev.step (pc' := 54) rfl rfl ?_
  refine am_ev.step (pc' := 55) rfl rfl ?_
  refine ax_call (z := 33) (p' := 58) (as := [_, _, _]) rfl (Or.inr (Or.inl ⟨_, rfl⟩)) rfl rfl rfl rfl rfl rfl (fO (fO (fO (S.ob rfl)))) rfl (tk_33b (((S.po rfl rfl).po rfl rfl).po rfl rfl) (((B.put (by decide)).put (by decide)).put (by decide)) hb hL (ax_put_o (Or.inr (by decide)) (ax_put_o (Or.inr (by decide)) (ax_put_o (Or.inr (by decide)) w1))) (ax_put_o (Or.inr (by decide)) (ax_put_o (Or.inr (by decide)) (ax_put_s _ _ _))) (ax_put_o (Or.inr (by decide)) (ax_put_s _ _ _)) hl (ax_put_o (Or.inl (by decide)) (ax_put_o (Or.inl (by decide)) (ax_put_o (Or.inl (by decide)) g4))) q0 t1 q1) rfl ?_
  refine am_ev.step (pc' := 60) (ls' := [.ref 43, .ref 41, iv ((n : Int)), iv ((l : Int)), iv 0]) rfl rfl ?_
  refine am_ev.step (pc' := 62) rfl rfl ?_
  refine fx_z_ne_F (pF := 65) rfl (by omega) rfl (by omega) ?_
  refine am_ev.step (pc' := 66) rfl rfl ?_
  exact fx_reti rfl rfl rfl
theorem rl_Fc (hb : tz_r b) (hL : L ≤ 1600) (C : CS h h0 b L p t u V Y) (hn : n ≤ 13) (t0 : tz_t b L p s e k v) (kn : k ≠ 0) (hl : l < 7) (q : cl_r b s e k l) (q0 : bt t l = false) (t1 : tz_t b L e s1 e1 k1 v1) (q1 : k1 = 2 ∧ ¬ (cq_sv 2 l ≤ v1 ∧ v1 ≤ cq_sv 3 l)) : ∃ H : am_H, am_ev (d + 7) 19 10 [.ref 43, .ref 41, iv ((n : Int)), a3, a4] [] h  (some (iv (-1)), H) ∧ H.2.2.2 41 3 = iv 2 ∧ H.2.2.2 41 4 = iv s1 ∧ (∀ j, H.2.2.2 44 j = h0.2.2.2 44 j) ∧ (∀ j, H.2.2.2 45 j = h0.2.2.2 45 j) ∧ fS H := by
  obtain ⟨S, B, w1, v6, f3, f4, g4, g5, dV, dY, z44, z45⟩ := C
  have f0 := t0.f hb
  refine ⟨(am_put (am_put (am_put (am_put (am_put (am_put (am_put (am_put (am_put h 41 5 (iv ((s : Int)))) 41 6 (iv ((e : Int)))) 41 2 (iv (k))) 43 4 (.int (t ||| ((Int32.ofInt 1) <<< ((Int32.ofInt ((l : Int))) &&& 31))))) 41 5 (iv ((s1 : Int)))) 41 6 (iv ((e1 : Int)))) 41 2 (iv (k1))) 41 3 (iv 2)) 41 4 (iv ((s1 : Int)))), ?_, (ax_put_o (Or.inr (by decide)) (ax_put_s _ _ _)), (ax_put_s _ _ _), fun j => (ax_put_o (Or.inl (by decide)) (ax_put_o (Or.inl (by decide)) (ax_put_o (Or.inl (by decide)) (ax_put_o (Or.inl (by decide)) (ax_put_o (Or.inl (by decide)) (ax_put_o (Or.inl (by decide)) (ax_put_o (Or.inl (by decide)) (ax_put_o (Or.inl (by decide)) (ax_put_o (Or.inl (by decide)) (z44 j)))))))))), fun j => (ax_put_o (Or.inl (by decide)) (ax_put_o (Or.inl (by decide)) (ax_put_o (Or.inl (by decide)) (ax_put_o (Or.inl (by decide)) (ax_put_o (Or.inl (by decide)) (ax_put_o (Or.inl (by decide)) (ax_put_o (Or.inl (by decide)) (ax_put_o (Or.inl (by decide)) (ax_put_o (Or.inl (by decide)) (z45 j)))))))))), (((((((((S.po rfl rfl).po rfl rfl).po rfl rfl).po rfl rfl).po rfl rfl).po rfl rfl).po rfl rfl).po rfl rfl).po rfl rfl)⟩
  refine am_ev.step (pc' := 11) rfl rfl ?_
  refine fx_bip (p' := 13) rfl rfl rfl ?_
  refine fx_c_gt_F (pF := 16) rfl (by omega) (by omega) rfl (by omega) ?_
  refine am_ev.step (pc' := 17) rfl rfl ?_
  refine ax_call (z := 21) (p' := 20) (as := [_]) rfl (Or.inr (Or.inl ⟨_, rfl⟩)) rfl rfl rfl rfl rfl rfl (S.ob rfl) rfl (tk_21w S B hb hL w1 v6 t0) rfl ?_
  refine am_ev.step (pc' := 21) rfl rfl ?_
  refine ax_gf (p' := 24) rfl rfl (fO (fO (fO (S.ob rfl)))) (ax_put_s _ _ _) ?_
  refine fx_z_ne_T (pT := 33) rfl (by omega) rfl (by omega) ?_
  refine am_ev.step (pc' := 34) rfl rfl ?_
  refine ax_call (z := 25) (p' := 37) (as := [_]) rfl (Or.inl ⟨_, rfl⟩) rfl rfl rfl rfl rfl rfl rfl rfl (tk_25 (((S.po rfl rfl).po rfl rfl).po rfl rfl) (((B.put (by decide)).put (by decide)).put (by decide)) hb hL (ax_put_o (Or.inr (by decide)) (ax_put_o (Or.inr (by decide)) (ax_put_o (Or.inr (by decide)) w1))) (ax_put_s _ _ _) (ax_put_o (Or.inr (by decide)) (ax_put_o (Or.inr (by decide)) (ax_put_s _ _ _))) (ax_put_o (Or.inr (by decide)) (ax_put_s _ _ _)) ⟨f0.2.1, f0.2.2.1⟩ ⟨f0.2.2.2.1, by omega⟩ q) rfl ?_
  refine am_ev.step (pc' := 38) (ls' := [.ref 43, .ref 41, iv ((n : Int)), iv ((l : Int)), a4]) rfl rfl ?_
  refine am_ev.step (pc' := 39) rfl rfl ?_
  refine fx_bip (p' := 41) rfl rfl rfl ?_
  refine fx_c_ne_T (pT := 52) rfl (by omega) (by omega) rfl (by omega) ?_
  refine am_ev.step (pc' := 53) rfl rfl ?_
  refine am_ev.step (pc' := 54) rfl rfl ?_
  refine am_ev.step (pc' := 55) rfl rfl ?_
  refine ax_call (z := 33) (p' := 58) (as := [_, _, _]) rfl (Or.inr (Or.inl ⟨_, rfl⟩)) rfl rfl rfl rfl rfl rfl (fO (fO (fO (S.ob rfl)))) rfl (tk_33c (((S.po rfl rfl).po rfl rfl).po rfl rfl) (((B.put (by decide)).put (by decide)).put (by decide)) hb hL (ax_put_o (Or.inr (by decide)) (ax_put_o (Or.inr (by decide)) (ax_put_o (Or.inr (by decide)) w1))) (ax_put_o (Or.inr (by decide)) (ax_put_o (Or.inr (by decide)) (ax_put_s _ _ _))) (ax_put_o (Or.inr (by decide)) (ax_put_s _ _ _)) hl (ax_put_o (Or.inl (by decide)) (ax_put_o (Or.inl (by decide)) (ax_put_o (Or.inl (by decide)) g4))) q0 t1 q1) rfl ?_
  refine am_ev.step (pc' := 60) (ls' := [.ref 43, .ref 41, iv ((n : Int)), iv ((l : Int)), iv 0]) rfl rfl ?_
  refine am_ev.step (pc' := 62) rfl rfl ?_
  refine fx_z_ne_F (pF := 65) rfl (by omega) rfl (by omega) ?_
  refine am_ev.step (pc' := 66) rfl rfl ?_
  exact fx_reti rfl rfl rfl
theorem rl_Fd (hb : tz_r b) (hL : L ≤ 1600) (C : CS h h0 b L p t u V Y) (hn : n ≤ 13) (t0 : tz_t b L p s e k v) (kn : k ≠ 0) (hl : l < 7) (q : cl_r b s e k l) (q0 : bt t l = false) (t1 : tz_t b L e s1 e1 k1 v1) (q1 : k1 = 2 ∧ cq_sv 2 l ≤ v1 ∧ v1 ≤ cq_sv 3 l) (t2 : tz_t b L e1 s2 e2 k2 v2) (q2 : k2 ≠ 59) : ∃ H : am_H, am_ev (d + 7) 19 10 [.ref 43, .ref 41, iv ((n : Int)), a3, a4] [] h  (some (iv (-1)), H) ∧ H.2.2.2 41 3 = iv 1 ∧ H.2.2.2 41 4 = iv s2 ∧ (∀ j, H.2.2.2 44 j = h0.2.2.2 44 j) ∧ (∀ j, H.2.2.2 45 j = h0.2.2.2 45 j) ∧ fS H := by
  obtain ⟨S, B, w1, v6, f3, f4, g4, g5, dV, dY, z44, z45⟩ := C
  have f0 := t0.f hb
  refine ⟨(am_put (am_put (am_put (am_put (am_put (am_put (am_put (am_put (am_put (am_put (am_put (am_put (am_put h 41 5 (iv ((s : Int)))) 41 6 (iv ((e : Int)))) 41 2 (iv (k))) 43 4 (.int (t ||| ((Int32.ofInt 1) <<< ((Int32.ofInt ((l : Int))) &&& 31))))) 41 5 (iv ((s1 : Int)))) 41 6 (iv ((e1 : Int)))) 41 2 (iv (k1))) 46 l (iv (v1))) 41 5 (iv ((s2 : Int)))) 41 6 (iv ((e2 : Int)))) 41 2 (iv (k2))) 41 3 (iv 1)) 41 4 (iv ((s2 : Int)))), ?_, (ax_put_o (Or.inr (by decide)) (ax_put_s _ _ _)), (ax_put_s _ _ _), fun j => (ax_put_o (Or.inl (by decide)) (ax_put_o (Or.inl (by decide)) (ax_put_o (Or.inl (by decide)) (ax_put_o (Or.inl (by decide)) (ax_put_o (Or.inl (by decide)) (ax_put_o (Or.inl (by decide)) (ax_put_o (Or.inl (by decide)) (ax_put_o (Or.inl (by decide)) (ax_put_o (Or.inl (by decide)) (ax_put_o (Or.inl (by decide)) (ax_put_o (Or.inl (by decide)) (ax_put_o (Or.inl (by decide)) (ax_put_o (Or.inl (by decide)) (z44 j)))))))))))))), fun j => (ax_put_o (Or.inl (by decide)) (ax_put_o (Or.inl (by decide)) (ax_put_o (Or.inl (by decide)) (ax_put_o (Or.inl (by decide)) (ax_put_o (Or.inl (by decide)) (ax_put_o (Or.inl (by decide)) (ax_put_o (Or.inl (by decide)) (ax_put_o (Or.inl (by decide)) (ax_put_o (Or.inl (by decide)) (ax_put_o (Or.inl (by decide)) (ax_put_o (Or.inl (by decide)) (ax_put_o (Or.inl (by decide)) (ax_put_o (Or.inl (by decide)) (z45 j)))))))))))))), (((((((((((((S.po rfl rfl).po rfl rfl).po rfl rfl).po rfl rfl).po rfl rfl).po rfl rfl).po rfl rfl).pa rfl).po rfl rfl).po rfl rfl).po rfl rfl).po rfl rfl).po rfl rfl)⟩
  refine am_ev.step (pc' := 11) rfl rfl ?_
  refine fx_bip (p' := 13) rfl rfl rfl ?_
  refine fx_c_gt_F (pF := 16) rfl (by omega) (by omega) rfl (by omega) ?_
  refine am_ev.step (pc' := 17) rfl rfl ?_
  refine ax_call (z := 21) (p' := 20) (as := [_]) rfl (Or.inr (Or.inl ⟨_, rfl⟩)) rfl rfl rfl rfl rfl rfl (S.ob rfl) rfl (tk_21w S B hb hL w1 v6 t0) rfl ?_
  refine am_ev.step (pc' := 21) rfl rfl ?_
  refine ax_gf (p' := 24) rfl rfl (fO (fO (fO (S.ob rfl)))) (ax_put_s _ _ _) ?_
  refine fx_z_ne_T (pT := 33) rfl (by omega) rfl (by omega) ?_
  refine am_ev.step (pc' := 34) rfl rfl ?_
  refine ax_call (z := 25) (p' := 37) (as := [_]) rfl (Or.inl ⟨_, rfl⟩) rfl rfl rfl rfl rfl rfl rfl rfl (tk_25 (((S.po rfl rfl).po rfl rfl).po rfl rfl) (((B.put (by decide)).put (by decide)).put (by decide)) hb hL (ax_put_o (Or.inr (by decide)) (ax_put_o (Or.inr (by decide)) (ax_put_o (Or.inr (by decide)) w1))) (ax_put_s _ _ _) (ax_put_o (Or.inr (by decide)) (ax_put_o (Or.inr (by decide)) (ax_put_s _ _ _))) (ax_put_o (Or.inr (by decide)) (ax_put_s _ _ _)) ⟨f0.2.1, f0.2.2.1⟩ ⟨f0.2.2.2.1, by omega⟩ q) rfl ?_
  refine am_ev.step (pc' := 38) (ls' := [.ref 43, .ref 41, iv ((n : Int)), iv ((l : Int)), a4]) rfl rfl ?_
  refine am_ev.step (pc' := 39) rfl rfl ?_
  refine fx_bip (p' := 41) rfl rfl rfl ?_
  refine fx_c_ne_T (pT := 52) rfl (by omega) (by omega) rfl (by omega) ?_
  refine am_ev.step (pc' := 53) rfl rfl ?_
  refine am_ev.step (pc' := 54) rfl rfl ?_
  refine am_ev.step (pc' := 55) rfl rfl ?_
  refine ax_call (z := 33) (p' := 58) (as := [_, _, _]) rfl (Or.inr (Or.inl ⟨_, rfl⟩)) rfl rfl rfl rfl rfl rfl (fO (fO (fO (S.ob rfl)))) rfl (tk_33d (((S.po rfl rfl).po rfl rfl).po rfl rfl) (((B.put (by decide)).put (by decide)).put (by decide)) hb hL (ax_put_o (Or.inr (by decide)) (ax_put_o (Or.inr (by decide)) (ax_put_o (Or.inr (by decide)) w1))) (ax_put_o (Or.inr (by decide)) (ax_put_o (Or.inr (by decide)) (ax_put_s _ _ _))) (ax_put_o (Or.inr (by decide)) (ax_put_s _ _ _)) hl (ax_put_o (Or.inl (by decide)) (ax_put_o (Or.inl (by decide)) (ax_put_o (Or.inl (by decide)) g4))) q0 t1 q1 t2 q2) rfl ?_
  refine am_ev.step (pc' := 60) (ls' := [.ref 43, .ref 41, iv ((n : Int)), iv ((l : Int)), iv 0]) rfl rfl ?_
  refine am_ev.step (pc' := 62) rfl rfl ?_
  refine fx_z_ne_F (pF := 65) rfl (by omega) rfl (by omega) ?_
  refine am_ev.step (pc' := 66) rfl rfl ?_
  exact fx_reti rfl rfl rfl
theorem rl_Ffa (hb : tz_r b) (hL : L ≤ 1600) (C : CS h h0 b L p t u V Y) (hn : n ≤ 13) (t0 : tz_t b L p s e k v) (kn : k ≠ 0) (q : cl_r b s e k 7) (t1 : tz_t b L e s1 e1 k1 v1) (q1 : k1 ≠ 2) : ∃ H : am_H, am_ev (d + 7) 19 10 [.ref 43, .ref 41, iv ((n : Int)), a3, a4] [] h  (some (iv (-1)), H) ∧ H.2.2.2 41 3 = iv 1 ∧ H.2.2.2 41 4 = iv s1 ∧ (∀ j, H.2.2.2 44 j = h0.2.2.2 44 j) ∧ (∀ j, H.2.2.2 45 j = h0.2.2.2 45 j) ∧ fS H := by
  obtain ⟨S, B, w1, v6, f3, f4, g4, g5, dV, dY, z44, z45⟩ := C
  have f0 := t0.f hb
  refine ⟨(am_put (am_put (am_put (am_put (am_put (am_put (am_put (am_put h 41 5 (iv ((s : Int)))) 41 6 (iv ((e : Int)))) 41 2 (iv (k))) 41 5 (iv ((s1 : Int)))) 41 6 (iv ((e1 : Int)))) 41 2 (iv (k1))) 41 3 (iv 1)) 41 4 (iv ((s1 : Int)))), ?_, (ax_put_o (Or.inr (by decide)) (ax_put_s _ _ _)), (ax_put_s _ _ _), fun j => (ax_put_o (Or.inl (by decide)) (ax_put_o (Or.inl (by decide)) (ax_put_o (Or.inl (by decide)) (ax_put_o (Or.inl (by decide)) (ax_put_o (Or.inl (by decide)) (ax_put_o (Or.inl (by decide)) (ax_put_o (Or.inl (by decide)) (ax_put_o (Or.inl (by decide)) (z44 j))))))))), fun j => (ax_put_o (Or.inl (by decide)) (ax_put_o (Or.inl (by decide)) (ax_put_o (Or.inl (by decide)) (ax_put_o (Or.inl (by decide)) (ax_put_o (Or.inl (by decide)) (ax_put_o (Or.inl (by decide)) (ax_put_o (Or.inl (by decide)) (ax_put_o (Or.inl (by decide)) (z45 j))))))))), ((((((((S.po rfl rfl).po rfl rfl).po rfl rfl).po rfl rfl).po rfl rfl).po rfl rfl).po rfl rfl).po rfl rfl)⟩
  refine am_ev.step (pc' := 11) rfl rfl ?_
  refine fx_bip (p' := 13) rfl rfl rfl ?_
  refine fx_c_gt_F (pF := 16) rfl (by omega) (by omega) rfl (by omega) ?_
  refine am_ev.step (pc' := 17) rfl rfl ?_
  refine ax_call (z := 21) (p' := 20) (as := [_]) rfl (Or.inr (Or.inl ⟨_, rfl⟩)) rfl rfl rfl rfl rfl rfl (S.ob rfl) rfl (tk_21w S B hb hL w1 v6 t0) rfl ?_
  refine am_ev.step (pc' := 21) rfl rfl ?_
  refine ax_gf (p' := 24) rfl rfl (fO (fO (fO (S.ob rfl)))) (ax_put_s _ _ _) ?_
  refine fx_z_ne_T (pT := 33) rfl (by omega) rfl (by omega) ?_
  refine am_ev.step (pc' := 34) rfl rfl ?_
  refine ax_call (z := 25) (p' := 37) (as := [_]) rfl (Or.inl ⟨_, rfl⟩) rfl rfl rfl rfl rfl rfl rfl rfl (tk_25 (((S.po rfl rfl).po rfl rfl).po rfl rfl) (((B.put (by decide)).put (by decide)).put (by decide)) hb hL (ax_put_o (Or.inr (by decide)) (ax_put_o (Or.inr (by decide)) (ax_put_o (Or.inr (by decide)) w1))) (ax_put_s _ _ _) (ax_put_o (Or.inr (by decide)) (ax_put_o (Or.inr (by decide)) (ax_put_s _ _ _))) (ax_put_o (Or.inr (by decide)) (ax_put_s _ _ _)) ⟨f0.2.1, f0.2.2.1⟩ ⟨f0.2.2.2.1, by omega⟩ q) rfl ?_
  refine am_ev.step (pc' := 38) (ls' := [.ref 43, .ref 41, iv ((n : Int)), iv 7, a4]) rfl rfl ?_
  refine am_ev.step (pc' := 39) rfl rfl ?_
  refine fx_bip (p' := 41) rfl rfl rfl ?_
  refine fx_c_ne_F (pF := 44) rfl (by omega) (by omega) rfl (by omega) ?_
  refine am_ev.step (pc' := 45) rfl rfl ?_
  refine am_ev.step (pc' := 46) rfl rfl ?_
  refine ax_call (z := 27) (p' := 49) (as := [_, _]) rfl (Or.inr (Or.inl ⟨_, rfl⟩)) rfl rfl rfl rfl rfl rfl (fO (fO (fO (S.ob rfl)))) rfl (tk_27a (((S.po rfl rfl).po rfl rfl).po rfl rfl) (((B.put (by decide)).put (by decide)).put (by decide)) hb hL (ax_put_o (Or.inr (by decide)) (ax_put_o (Or.inr (by decide)) (ax_put_o (Or.inr (by decide)) w1))) (ax_put_o (Or.inr (by decide)) (ax_put_s _ _ _)) (ax_put_o (Or.inl (by decide)) (ax_put_o (Or.inl (by decide)) (ax_put_o (Or.inl (by decide)) g5))) t1 q1) rfl ?_
  refine am_ev.step (pc' := 58) rfl rfl ?_
  refine am_ev.step (pc' := 60) (ls' := [.ref 43, .ref 41, iv ((n : Int)), iv 7, iv 0]) rfl rfl ?_
  refine am_ev.step (pc' := 62) rfl rfl ?_
  refine fx_z_ne_F (pF := 65) rfl (by omega) rfl (by omega) ?_
  refine am_ev.step (pc' := 66) rfl rfl ?_
  exact fx_reti rfl rfl rfl
theorem rl_Ffb (hb : tz_r b) (hL : L ≤ 1600) (C : CS h h0 b L p t u V Y) (hn : n ≤ 13) (t0 : tz_t b L p s e k v) (kn : k ≠ 0) (q : cl_r b s e k 7) (t1 : tz_t b L e s1 e1 k1 v1) (q1 : k1 = 2 ∧ ¬ (0 ≤ v1 ∧ v1 ≤ 5)) : ∃ H : am_H, am_ev (d + 7) 19 10 [.ref 43, .ref 41, iv ((n : Int)), a3, a4] [] h  (some (iv (-1)), H) ∧ H.2.2.2 41 3 = iv 2 ∧ H.2.2.2 41 4 = iv s1 ∧ (∀ j, H.2.2.2 44 j = h0.2.2.2 44 j) ∧ (∀ j, H.2.2.2 45 j = h0.2.2.2 45 j) ∧ fS H := by
  obtain ⟨S, B, w1, v6, f3, f4, g4, g5, dV, dY, z44, z45⟩ := C
  have f0 := t0.f hb
  refine ⟨(am_put (am_put (am_put (am_put (am_put (am_put (am_put (am_put h 41 5 (iv ((s : Int)))) 41 6 (iv ((e : Int)))) 41 2 (iv (k))) 41 5 (iv ((s1 : Int)))) 41 6 (iv ((e1 : Int)))) 41 2 (iv (k1))) 41 3 (iv 2)) 41 4 (iv ((s1 : Int)))), ?_, (ax_put_o (Or.inr (by decide)) (ax_put_s _ _ _)), (ax_put_s _ _ _), fun j => (ax_put_o (Or.inl (by decide)) (ax_put_o (Or.inl (by decide)) (ax_put_o (Or.inl (by decide)) (ax_put_o (Or.inl (by decide)) (ax_put_o (Or.inl (by decide)) (ax_put_o (Or.inl (by decide)) (ax_put_o (Or.inl (by decide)) (ax_put_o (Or.inl (by decide)) (z44 j))))))))), fun j => (ax_put_o (Or.inl (by decide)) (ax_put_o (Or.inl (by decide)) (ax_put_o (Or.inl (by decide)) (ax_put_o (Or.inl (by decide)) (ax_put_o (Or.inl (by decide)) (ax_put_o (Or.inl (by decide)) (ax_put_o (Or.inl (by decide)) (ax_put_o (Or.inl (by decide)) (z45 j))))))))), ((((((((S.po rfl rfl).po rfl rfl).po rfl rfl).po rfl rfl).po rfl rfl).po rfl rfl).po rfl rfl).po rfl rfl)⟩
  refine am_ev.step (pc' := 11) rfl rfl ?_
  refine fx_bip (p' := 13) rfl rfl rfl ?_
  refine fx_c_gt_F (pF := 16) rfl (by omega) (by omega) rfl (by omega) ?_
  refine am_ev.step (pc' := 17) rfl rfl ?_
  refine ax_call (z := 21) (p' := 20) (as := [_]) rfl (Or.inr (Or.inl ⟨_, rfl⟩)) rfl rfl rfl rfl rfl rfl (S.ob rfl) rfl (tk_21w S B hb hL w1 v6 t0) rfl ?_
  refine am_ev.step (pc' := 21) rfl rfl ?_
  refine ax_gf (p' := 24) rfl rfl (fO (fO (fO (S.ob rfl)))) (ax_put_s _ _ _) ?_
  refine fx_z_ne_T (pT := 33) rfl (by omega) rfl (by omega) ?_
  refine am_ev.step (pc' := 34) rfl rfl ?_
  refine ax_call (z := 25) (p' := 37) (as := [_]) rfl (Or.inl ⟨_, rfl⟩) rfl rfl rfl rfl rfl rfl rfl rfl (tk_25 (((S.po rfl rfl).po rfl rfl).po rfl rfl) (((B.put (by decide)).put (by decide)).put (by decide)) hb hL (ax_put_o (Or.inr (by decide)) (ax_put_o (Or.inr (by decide)) (ax_put_o (Or.inr (by decide)) w1))) (ax_put_s _ _ _) (ax_put_o (Or.inr (by decide)) (ax_put_o (Or.inr (by decide)) (ax_put_s _ _ _))) (ax_put_o (Or.inr (by decide)) (ax_put_s _ _ _)) ⟨f0.2.1, f0.2.2.1⟩ ⟨f0.2.2.2.1, by omega⟩ q) rfl ?_
  refine am_ev.step (pc' := 38) (ls' := [.ref 43, .ref 41, iv ((n : Int)), iv 7, a4]) rfl rfl ?_
  refine am_ev.step (pc' := 39) rfl rfl ?_
  refine fx_bip (p' := 41) rfl rfl rfl ?_
  refine fx_c_ne_F (pF := 44) rfl (by omega) (by omega) rfl (by omega) ?_
  refine am_ev.step (pc' := 45) rfl rfl ?_
  refine am_ev.step (pc' := 46) rfl rfl ?_
  refine ax_call (z := 27) (p' := 49) (as := [_, _]) rfl (Or.inr (Or.inl ⟨_, rfl⟩)) rfl rfl rfl rfl rfl rfl (fO (fO (fO (S.ob rfl)))) rfl (tk_27b (((S.po rfl rfl).po rfl rfl).po rfl rfl) (((B.put (by decide)).put (by decide)).put (by decide)) hb hL (ax_put_o (Or.inr (by decide)) (ax_put_o (Or.inr (by decide)) (ax_put_o (Or.inr (by decide)) w1))) (ax_put_o (Or.inr (by decide)) (ax_put_s _ _ _)) (ax_put_o (Or.inl (by decide)) (ax_put_o (Or.inl (by decide)) (ax_put_o (Or.inl (by decide)) g5))) t1 q1) rfl ?_
  refine am_ev.step (pc' := 58) rfl rfl ?_
  refine am_ev.step (pc' := 60) (ls' := [.ref 43, .ref 41, iv ((n : Int)), iv 7, iv 0]) rfl rfl ?_
  refine am_ev.step (pc' := 62) rfl rfl ?_
  refine fx_z_ne_F (pF := 65) rfl (by omega) rfl (by omega) ?_
  refine am_ev.step (pc' := 66) rfl rfl ?_
  exact fx_reti rfl rfl rfl
theorem rl_Ffc (hb : tz_r b) (hL : L ≤ 1600) (C : CS h h0 b L p t u V Y) (hn : n ≤ 13) (t0 : tz_t b L p s e k v) (kn : k ≠ 0) (q : cl_r b s e k 7) (hl : l < 6) (t1 : tz_t b L e s1 e1 k1 (l : Int)) (q1 : k1 = 2) (q0 : bt u l = true) : ∃ H : am_H, am_ev (d + 7) 19 10 [.ref 43, .ref 41, iv ((n : Int)), a3, a4] [] h  (some (iv (-1)), H) ∧ H.2.2.2 41 3 = iv 3 ∧ H.2.2.2 41 4 = iv s1 ∧ (∀ j, H.2.2.2 44 j = h0.2.2.2 44 j) ∧ (∀ j, H.2.2.2 45 j = h0.2.2.2 45 j) ∧ fS H := by
  obtain ⟨S, B, w1, v6, f3, f4, g4, g5, dV, dY, z44, z45⟩ := C
  have f0 := t0.f hb
  refine ⟨(am_put (am_put (am_put (am_put (am_put (am_put (am_put (am_put h 41 5 (iv ((s : Int)))) 41 6 (iv ((e : Int)))) 41 2 (iv (k))) 41 5 (iv ((s1 : Int)))) 41 6 (iv ((e1 : Int)))) 41 2 (iv (k1))) 41 3 (iv 3)) 41 4 (iv ((s1 : Int)))), ?_, (ax_put_o (Or.inr (by decide)) (ax_put_s _ _ _)), (ax_put_s _ _ _), fun j => (ax_put_o (Or.inl (by decide)) (ax_put_o (Or.inl (by decide)) (ax_put_o (Or.inl (by decide)) (ax_put_o (Or.inl (by decide)) (ax_put_o (Or.inl (by decide)) (ax_put_o (Or.inl (by decide)) (ax_put_o (Or.inl (by decide)) (ax_put_o (Or.inl (by decide)) (z44 j))))))))), fun j => (ax_put_o (Or.inl (by decide)) (ax_put_o (Or.inl (by decide)) (ax_put_o (Or.inl (by decide)) (ax_put_o (Or.inl (by decide)) (ax_put_o (Or.inl (by decide)) (ax_put_o (Or.inl (by decide)) (ax_put_o (Or.inl (by decide)) (ax_put_o (Or.inl (by decide)) (z45 j))))))))), ((((((((S.po rfl rfl).po rfl rfl).po rfl rfl).po rfl rfl).po rfl rfl).po rfl rfl).po rfl rfl).po rfl rfl)⟩
  refine am_ev.step (pc' := 11) rfl rfl ?_
  refine fx_bip (p' := 13) rfl rfl rfl ?_
  refine fx_c_gt_F (pF := 16) rfl (by omega) (by omega) rfl (by omega) ?_
  refine am_ev.step (pc' := 17) rfl rfl ?_
  refine ax_call (z := 21) (p' := 20) (as := [_]) rfl (Or.inr (Or.inl ⟨_, rfl⟩)) rfl rfl rfl rfl rfl rfl (S.ob rfl) rfl (tk_21w S B hb hL w1 v6 t0) rfl ?_
  refine am_ev.step (pc' := 21) rfl rfl ?_
  refine ax_gf (p' := 24) rfl rfl (fO (fO (fO (S.ob rfl)))) (ax_put_s _ _ _) ?_
  refine fx_z_ne_T (pT := 33) rfl (by omega) rfl (by omega) ?_
  refine am_ev.step (pc' := 34) rfl rfl ?_
  refine ax_call (z := 25) (p' := 37) (as := [_]) rfl (Or.inl ⟨_, rfl⟩) rfl rfl rfl rfl rfl rfl rfl rfl (tk_25 (((S.po rfl rfl).po rfl rfl).po rfl rfl) (((B.put (by decide)).put (by decide)).put (by decide)) hb hL (ax_put_o (Or.inr (by decide)) (ax_put_o (Or.inr (by decide)) (ax_put_o (Or.inr (by decide)) w1))) (ax_put_s _ _ _) (ax_put_o (Or.inr (by decide)) (ax_put_o (Or.inr (by decide)) (ax_put_s _ _ _))) (ax_put_o (Or.inr (by decide)) (ax_put_s _ _ _)) ⟨f0.2.1, f0.2.2.1⟩ ⟨f0.2.2.2.1, by omega⟩ q) rfl ?_
  refine am_ev.step (pc' := 38) (ls' := [.ref 43, .ref 41, iv ((n : Int)), iv 7, a4]) rfl rfl ?_
  refine am_ev.step (pc' := 39) rfl rfl ?_
  refine fx_bip (p' := 41) rfl rfl rfl ?_
  refine fx_c_ne_F (pF := 44) rfl (by omega) (by omega) rfl (by omega) ?_
  refine am_ev.step (pc' := 45) rfl rfl ?_
  refine am_ev.step (pc' := 46) rfl rfl ?_
  refine ax_call (z := 27) (p' := 49) (as := [_, _]) rfl (Or.inr (Or.inl ⟨_, rfl⟩)) rfl rfl rfl rfl rfl rfl (fO (fO (fO (S.ob rfl)))) rfl (tk_27c (((S.po rfl rfl).po rfl rfl).po rfl rfl) (((B.put (by decide)).put (by decide)).put (by decide)) hb hL (ax_put_o (Or.inr (by decide)) (ax_put_o (Or.inr (by decide)) (ax_put_o (Or.inr (by decide)) w1))) (ax_put_o (Or.inr (by decide)) (ax_put_s _ _ _)) (ax_put_o (Or.inl (by decide)) (ax_put_o (Or.inl (by decide)) (ax_put_o (Or.inl (by decide)) g5))) hl t1 q1 q0) rfl ?_
  refine am_ev.step (pc' := 58) rfl rfl ?_
  refine am_ev.step (pc' := 60) (ls' := [.ref 43, .ref 41, iv ((n : Int)), iv 7, iv 0]) rfl rfl ?_
  refine am_ev.step (pc' := 62) rfl rfl ?_
  refine fx_z_ne_F (pF := 65) rfl (by omega) rfl (by omega) ?_
  refine am_ev.step (pc' := 66) rfl rfl ?_
  exact fx_reti rfl rfl rfl
theorem rl_Ffd (hb : tz_r b) (hL : L ≤ 1600) (C : CS h h0 b L p t u V Y) (hn : n ≤ 13) (t0 : tz_t b L p s e k v) (kn : k ≠ 0) (q : cl_r b s e k 7) (hl : l < 6) (t1 : tz_t b L e s1 e1 k1 (l : Int)) (q1 : k1 = 2) (q0 : bt u l = false) (t2 : tz_t b L e1 s2 e2 k2 v2) (q2 : k2 ≠ 2) : ∃ H : am_H, am_ev (d + 7) 19 10 [.ref 43, .ref 41, iv ((n : Int)), a3, a4] [] h  (some (iv (-1)), H) ∧ H.2.2.2 41 3 = iv 1 ∧ H.2.2.2 41 4 = iv s2 ∧ (∀ j, H.2.2.2 44 j = h0.2.2.2 44 j) ∧ (∀ j, H.2.2.2 45 j = h0.2.2.2 45 j) ∧ fS H := by
  obtain ⟨S, B, w1, v6, f3, f4, g4, g5, dV, dY, z44, z45⟩ := C
  have f0 := t0.f hb
  refine ⟨(am_put (am_put (am_put (am_put (am_put (am_put (am_put (am_put (am_put (am_put (am_put (am_put h 41 5 (iv ((s : Int)))) 41 6 (iv ((e : Int)))) 41 2 (iv (k))) 41 5 (iv ((s1 : Int)))) 41 6 (iv ((e1 : Int)))) 41 2 (iv (k1))) 43 5 (.int (u ||| ((Int32.ofInt 1) <<< ((Int32.ofInt ((l : Int))) &&& 31))))) 41 5 (iv ((s2 : Int)))) 41 6 (iv ((e2 : Int)))) 41 2 (iv (k2))) 41 3 (iv 1)) 41 4 (iv ((s2 : Int)))), ?_, (ax_put_o (Or.inr (by decide)) (ax_put_s _ _ _)), (ax_put_s _ _ _), fun j => (ax_put_o (Or.inl (by decide)) (ax_put_o (Or.inl (by decide)) (ax_put_o (Or.inl (by decide)) (ax_put_o (Or.inl (by decide)) (ax_put_o (Or.inl (by decide)) (ax_put_o (Or.inl (by decide)) (ax_put_o (Or.inl (by decide)) (ax_put_o (Or.inl (by decide)) (ax_put_o (Or.inl (by decide)) (ax_put_o (Or.inl (by decide)) (ax_put_o (Or.inl (by decide)) (ax_put_o (Or.inl (by decide)) (z44 j))))))))))))), fun j => (ax_put_o (Or.inl (by decide)) (ax_put_o (Or.inl (by decide)) (ax_put_o (Or.inl (by decide)) (ax_put_o (Or.inl (by decide)) (ax_put_o (Or.inl (by decide)) (ax_put_o (Or.inl (by decide)) (ax_put_o (Or.inl (by decide)) (ax_put_o (Or.inl (by decide)) (ax_put_o (Or.inl (by decide)) (ax_put_o (Or.inl (by decide)) (ax_put_o (Or.inl (by decide)) (ax_put_o (Or.inl (by decide)) (z45 j))))))))))))), ((((((((((((S.po rfl rfl).po rfl rfl).po rfl rfl).po rfl rfl).po rfl rfl).po rfl rfl).po rfl rfl).po rfl rfl).po rfl rfl).po rfl rfl).po rfl rfl).po rfl rfl)⟩
  refine am_ev.step (pc' := 11) rfl rfl ?_
  refine fx_bip (p' := 13) rfl rfl rfl ?_
  refine fx_c_gt_F (pF := 16) rfl (by omega) (by omega) rfl (by omega) ?_
  refine am_ev.step (pc' := 17) rfl rfl ?_
  refine ax_call (z := 21) (p' := 20) (as := [_]) rfl (Or.inr (Or.inl ⟨_, rfl⟩)) rfl rfl rfl rfl rfl rfl (S.ob rfl) rfl (tk_21w S B hb hL w1 v6 t0) rfl ?_
  refine am_ev.step (pc' := 21) rfl rfl ?_
  refine ax_gf (p' := 24) rfl rfl (fO (fO (fO (S.ob rfl)))) (ax_put_s _ _ _) ?_
  refine fx_z_ne_T (pT := 33) rfl (by omega) rfl (by omega) ?_
  refine am_ev.step (pc' := 34) rfl rfl ?_
  refine ax_call (z := 25) (p' := 37) (as := [_]) rfl (Or.inl ⟨_, rfl⟩) rfl rfl rfl rfl rfl rfl rfl rfl (tk_25 (((S.po rfl rfl).po rfl rfl).po rfl rfl) (((B.put (by decide)).put (by decide)).put (by decide)) hb hL (ax_put_o (Or.inr (by decide)) (ax_put_o (Or.inr (by decide)) (ax_put_o (Or.inr (by decide)) w1))) (ax_put_s _ _ _) (ax_put_o (Or.inr (by decide)) (ax_put_o (Or.inr (by decide)) (ax_put_s _ _ _))) (ax_put_o (Or.inr (by decide)) (ax_put_s _ _ _)) ⟨f0.2.1, f0.2.2.1⟩ ⟨f0.2.2.2.1, by omega⟩ q) rfl ?_
  refine am_ev.step (pc' := 38) (ls' := [.ref 43, .ref 41, iv ((n : Int)), iv 7, a4]) rfl rfl ?_
  refine am_ev.step (pc' := 39) rfl rfl ?_
  refine fx_bip (p' := 41) rfl rfl rfl ?_
  refine fx_c_ne_F (pF := 44) rfl (by omega) (by omega) rfl (by omega) ?_
  refine am_ev.step (pc' := 45) rfl rfl ?_
  refine am_ev.step (pc' := 46) rfl rfl ?_
  refine ax_call (z := 27) (p' := 49) (as := [_, _]) rfl (Or.inr (Or.inl ⟨_, rfl⟩)) rfl rfl rfl rfl rfl rfl (fO (fO (fO (S.ob rfl)))) rfl (tk_27d (((S.po rfl rfl).po rfl rfl).po rfl rfl) (((B.put (by decide)).put (by decide)).put (by decide)) hb hL (ax_put_o (Or.inr (by decide)) (ax_put_o (Or.inr (by decide)) (ax_put_o (Or.inr (by decide)) w1))) (ax_put_o (Or.inr (by decide)) (ax_put_s _ _ _)) (ax_put_o (Or.inl (by decide)) (ax_put_o (Or.inl (by decide)) (ax_put_o (Or.inl (by decide)) g5))) hl t1 q1 q0 t2 q2) rfl ?_
  refine am_ev.step (pc' := 58) rfl rfl ?_
  refine am_ev.step (pc' := 60) (ls' := [.ref 43, .ref 41, iv ((n : Int)), iv 7, iv 0]) rfl rfl ?_
  refine am_ev.step (pc' := 62) rfl rfl ?_
  refine fx_z_ne_F (pF := 65) rfl (by omega) rfl (by omega) ?_
  refine am_ev.step (pc' := 66) rfl rfl ?_
  exact fx_reti rfl rfl rfl
theorem rl_Ffe (hb : tz_r b) (hL : L ≤ 1600) (C : CS h h0 b L p t u V Y) (hn : n ≤ 13) (t0 : tz_t b L p s e k v) (kn : k ≠ 0) (q : cl_r b s e k 7) (hl : l < 6) (t1 : tz_t b L e s1 e1 k1 (l : Int)) (q1 : k1 = 2) (q0 : bt u l = false) (t2 : tz_t b L e1 s2 e2 k2 v2) (q2 : k2 = 2 ∧ ¬ (0 ≤ v2 ∧ v2 ≤ 99)) : ∃ H : am_H, am_ev (d + 7) 19 10 [.ref 43, .ref 41, iv ((n : Int)), a3, a4] [] h  (some (iv (-1)), H) ∧ H.2.2.2 41 3 = iv 2 ∧ H.2.2.2 41 4 = iv s2 ∧ (∀ j, H.2.2.2 44 j = h0.2.2.2 44 j) ∧ (∀ j, H.2.2.2 45 j = h0.2.2.2 45 j) ∧ fS H := by
  obtain ⟨S, B, w1, v6, f3, f4, g4, g5, dV, dY, z44, z45⟩ := C
  have f0 := t0.f hb
  refine ⟨(am_put (am_put (am_put (am_put (am_put (am_put (am_put (am_put (am_put (am_put (am_put (am_put h 41 5 (iv ((s : Int)))) 41 6 (iv ((e : Int)))) 41 2 (iv (k))) 41 5 (iv ((s1 : Int)))) 41 6 (iv ((e1 : Int)))) 41 2 (iv (k1))) 43 5 (.int (u ||| ((Int32.ofInt 1) <<< ((Int32.ofInt ((l : Int))) &&& 31))))) 41 5 (iv ((s2 : Int)))) 41 6 (iv ((e2 : Int)))) 41 2 (iv (k2))) 41 3 (iv 2)) 41 4 (iv ((s2 : Int)))), ?_, (ax_put_o (Or.inr (by decide)) (ax_put_s _ _ _)), (ax_put_s _ _ _), fun j => (ax_put_o (Or.inl (by decide)) (ax_put_o (Or.inl (by decide)) (ax_put_o (Or.inl (by decide)) (ax_put_o (Or.inl (by decide)) (ax_put_o (Or.inl (by decide)) (ax_put_o (Or.inl (by decide)) (ax_put_o (Or.inl (by decide)) (ax_put_o (Or.inl (by decide)) (ax_put_o (Or.inl (by decide)) (ax_put_o (Or.inl (by decide)) (ax_put_o (Or.inl (by decide)) (ax_put_o (Or.inl (by decide)) (z44 j))))))))))))), fun j => (ax_put_o (Or.inl (by decide)) (ax_put_o (Or.inl (by decide)) (ax_put_o (Or.inl (by decide)) (ax_put_o (Or.inl (by decide)) (ax_put_o (Or.inl (by decide)) (ax_put_o (Or.inl (by decide)) (ax_put_o (Or.inl (by decide)) (ax_put_o (Or.inl (by decide)) (ax_put_o (Or.inl (by decide)) (ax_put_o (Or.inl (by decide)) (ax_put_o (Or.inl (by decide)) (ax_put_o (Or.inl (by decide)) (z45 j))))))))))))), ((((((((((((S.po rfl rfl).po rfl rfl).po rfl rfl).po rfl rfl).po rfl rfl).po rfl rfl).po rfl rfl).po rfl rfl).po rfl rfl).po rfl rfl).po rfl rfl).po rfl rfl)⟩
  refine am_ev.step (pc' := 11) rfl rfl ?_
  refine fx_bip (p' := 13) rfl rfl rfl ?_
  refine fx_c_gt_F (pF := 16) rfl (by omega) (by omega) rfl (by omega) ?_
  refine am_ev.step (pc' := 17) rfl rfl ?_
  refine ax_call (z := 21) (p' := 20) (as := [_]) rfl (Or.inr (Or.inl ⟨_, rfl⟩)) rfl rfl rfl rfl rfl rfl (S.ob rfl) rfl (tk_21w S B hb hL w1 v6 t0) rfl ?_
  refine am_ev.step (pc' := 21) rfl rfl ?_
  refine ax_gf (p' := 24) rfl rfl (fO (fO (fO (S.ob rfl)))) (ax_put_s _ _ _) ?_
  refine fx_z_ne_T (pT := 33) rfl (by omega) rfl (by omega) ?_
  refine am_ev.step (pc' := 34) rfl rfl ?_
  refine ax_call (z := 25) (p' := 37) (as := [_]) rfl (Or.inl ⟨_, rfl⟩) rfl rfl rfl rfl rfl rfl rfl rfl (tk_25 (((S.po rfl rfl).po rfl rfl).po rfl rfl) (((B.put (by decide)).put (by decide)).put (by decide)) hb hL (ax_put_o (Or.inr (by decide)) (ax_put_o (Or.inr (by decide)) (ax_put_o (Or.inr (by decide)) w1))) (ax_put_s _ _ _) (ax_put_o (Or.inr (by decide)) (ax_put_o (Or.inr (by decide)) (ax_put_s _ _ _))) (ax_put_o (Or.inr (by decide)) (ax_put_s _ _ _)) ⟨f0.2.1, f0.2.2.1⟩ ⟨f0.2.2.2.1, by omega⟩ q) rfl ?_
  refine am_ev.step (pc' := 38) (ls' := [.ref 43, .ref 41, iv ((n : Int)), iv 7, a4]) rfl rfl ?_
  refine am_ev.step (pc' := 39) rfl rfl ?_
  refine fx_bip (p' := 41) rfl rfl rfl ?_
  refine fx_c_ne_F (pF := 44) rfl (by omega) (by omega) rfl (by omega) ?_
  refine am_ev.step (pc' := 45) rfl rfl ?_
  refine am_ev.step (pc' := 46) rfl rfl ?_
  refine ax_call (z := 27) (p' := 49) (as := [_, _]) rfl (Or.inr (Or.inl ⟨_, rfl⟩)) rfl rfl rfl rfl rfl rfl (fO (fO (fO (S.ob rfl)))) rfl (tk_27e (((S.po rfl rfl).po rfl rfl).po rfl rfl) (((B.put (by decide)).put (by decide)).put (by decide)) hb hL (ax_put_o (Or.inr (by decide)) (ax_put_o (Or.inr (by decide)) (ax_put_o (Or.inr (by decide)) w1))) (ax_put_o (Or.inr (by decide)) (ax_put_s _ _ _)) (ax_put_o (Or.inl (by decide)) (ax_put_o (Or.inl (by decide)) (ax_put_o (Or.inl (by decide)) g5))) hl t1 q1 q0 t2 q2) rfl ?_
  refine am_ev.step (pc' := 58) rfl rfl ?_
  refine am_ev.step (pc' := 60) (ls' := [.ref 43, .ref 41, iv ((n : Int)), iv 7, iv 0]) rfl rfl ?_
  refine am_ev.step (pc' := 62) rfl rfl ?_
  refine fx_z_ne_F (pF := 65) rfl (by omega) rfl (by omega) ?_
  refine am_ev.step (pc' := 66) rfl rfl ?_
  exact fx_reti rfl rfl rfl
theorem rl_Fff (hb : tz_r b) (hL : L ≤ 1600) (C : CS h h0 b L p t u V Y) (hn : n ≤ 13) (t0 : tz_t b L p s e k v) (kn : k ≠ 0) (q : cl_r b s e k 7) (hl : l < 6) (t1 : tz_t b L e s1 e1 k1 (l : Int)) (q1 : k1 = 2) (q0 : bt u l = false) (t2 : tz_t b L e1 s2 e2 k2 v2) (q2 : k2 = 2 ∧ 0 ≤ v2 ∧ v2 ≤ 99) (t3 : tz_t b L e2 s3 e3 k3 v3) (q3 : k3 ≠ 59) : ∃ H : am_H, am_ev (d + 7) 19 10 [.ref 43, .ref 41, iv ((n : Int)), a3, a4] [] h  (some (iv (-1)), H) ∧ H.2.2.2 41 3 = iv 1 ∧ H.2.2.2 41 4 = iv s3 ∧ (∀ j, H.2.2.2 44 j = h0.2.2.2 44 j) ∧ (∀ j, H.2.2.2 45 j = h0.2.2.2 45 j) ∧ fS H := by
  obtain ⟨S, B, w1, v6, f3, f4, g4, g5, dV, dY, z44, z45⟩ := C
  have f0 := t0.f hb
  refine ⟨(am_put (am_put (am_put (am_put (am_put (am_put (am_put (am_put (am_put (am_put (am_put (am_put (am_put (am_put (am_put (am_put h 41 5 (iv ((s : Int)))) 41 6 (iv ((e : Int)))) 41 2 (iv (k))) 41 5 (iv ((s1 : Int)))) 41 6 (iv ((e1 : Int)))) 41 2 (iv (k1))) 43 5 (.int (u ||| ((Int32.ofInt 1) <<< ((Int32.ofInt ((l : Int))) &&& 31))))) 41 5 (iv ((s2 : Int)))) 41 6 (iv ((e2 : Int)))) 41 2 (iv (k2))) 47 l (iv (v2))) 41 5 (iv ((s3 : Int)))) 41 6 (iv ((e3 : Int)))) 41 2 (iv (k3))) 41 3 (iv 1)) 41 4 (iv ((s3 : Int)))), ?_, (ax_put_o (Or.inr (by decide)) (ax_put_s _ _ _)), (ax_put_s _ _ _), fun j => (ax_put_o (Or.inl (by decide)) (ax_put_o (Or.inl (by decide)) (ax_put_o (Or.inl (by decide)) (ax_put_o (Or.inl (by decide)) (ax_put_o (Or.inl (by decide)) (ax_put_o (Or.inl (by decide)) (ax_put_o (Or.inl (by decide)) (ax_put_o (Or.inl (by decide)) (ax_put_o (Or.inl (by decide)) (ax_put_o (Or.inl (by decide)) (ax_put_o (Or.inl (by decide)) (ax_put_o (Or.inl (by decide)) (ax_put_o (Or.inl (by decide)) (ax_put_o (Or.inl (by decide)) (ax_put_o (Or.inl (by decide)) (ax_put_o (Or.inl (by decide)) (z44 j))))))))))))))))), fun j => (ax_put_o (Or.inl (by decide)) (ax_put_o (Or.inl (by decide)) (ax_put_o (Or.inl (by decide)) (ax_put_o (Or.inl (by decide)) (ax_put_o (Or.inl (by decide)) (ax_put_o (Or.inl (by decide)) (ax_put_o (Or.inl (by decide)) (ax_put_o (Or.inl (by decide)) (ax_put_o (Or.inl (by decide)) (ax_put_o (Or.inl (by decide)) (ax_put_o (Or.inl (by decide)) (ax_put_o (Or.inl (by decide)) (ax_put_o (Or.inl (by decide)) (ax_put_o (Or.inl (by decide)) (ax_put_o (Or.inl (by decide)) (ax_put_o (Or.inl (by decide)) (z45 j))))))))))))))))), ((((((((((((((((S.po rfl rfl).po rfl rfl).po rfl rfl).po rfl rfl).po rfl rfl).po rfl rfl).po rfl rfl).po rfl rfl).po rfl rfl).po rfl rfl).pa rfl).po rfl rfl).po rfl rfl).po rfl rfl).po rfl rfl).po rfl rfl)⟩
  refine am_ev.step (pc' := 11) rfl rfl ?_
  refine fx_bip (p' := 13) rfl rfl rfl ?_
  refine fx_c_gt_F (pF := 16) rfl (by omega) (by omega) rfl (by omega) ?_
  refine am_ev.step (pc' := 17) rfl rfl ?_
  refine ax_call (z := 21) (p' := 20) (as := [_]) rfl (Or.inr (Or.inl ⟨_, rfl⟩)) rfl rfl rfl rfl rfl rfl (S.ob rfl) rfl (tk_21w S B hb hL w1 v6 t0) rfl ?_
  refine am_ev.step (pc' := 21) rfl rfl ?_
  refine ax_gf (p' := 24) rfl rfl (fO (fO (fO (S.ob rfl)))) (ax_put_s _ _ _) ?_
  refine fx_z_ne_T (pT := 33) rfl (by omega) rfl (by omega) ?_
  refine am_ev.step (pc' := 34) rfl rfl ?_
  refine ax_call (z := 25) (p' := 37) (as := [_]) rfl (Or.inl ⟨_, rfl⟩) rfl rfl rfl rfl rfl rfl rfl rfl (tk_25 (((S.po rfl rfl).po rfl rfl).po rfl rfl) (((B.put (by decide)).put (by decide)).put (by decide)) hb hL (ax_put_o (Or.inr (by decide)) (ax_put_o (Or.inr (by decide)) (ax_put_o (Or.inr (by decide)) w1))) (ax_put_s _ _ _) (ax_put_o (Or.inr (by decide)) (ax_put_o (Or.inr (by decide)) (ax_put_s _ _ _))) (ax_put_o (Or.inr (by decide)) (ax_put_s _ _ _)) ⟨f0.2.1, f0.2.2.1⟩ ⟨f0.2.2.2.1, by omega⟩ q) rfl ?_
  refine am_ev.step (pc' := 38) (ls' := [.ref 43, .ref 41, iv ((n : Int)), iv 7, a4]) rfl rfl ?_
  refine am_ev.step (pc' := 39) rfl rfl ?_
  refine fx_bip (p' := 41) rfl rfl rfl ?_
  refine fx_c_ne_F (pF := 44) rfl (by omega) (by omega) rfl (by omega) ?_
  refine am_ev.step (pc' := 45) rfl rfl ?_
  refine am_ev.step (pc' := 46) rfl rfl ?_
  refine ax_call (z := 27) (p' := 49) (as := [_, _]) rfl (Or.inr (Or.inl ⟨_, rfl⟩)) rfl rfl rfl rfl rfl rfl (fO (fO (fO (S.ob rfl)))) rfl (tk_27f (((S.po rfl rfl).po rfl rfl).po rfl rfl) (((B.put (by decide)).put (by decide)).put (by decide)) hb hL (ax_put_o (Or.inr (by decide)) (ax_put_o (Or.inr (by decide)) (ax_put_o (Or.inr (by decide)) w1))) (ax_put_o (Or.inr (by decide)) (ax_put_s _ _ _)) (ax_put_o (Or.inl (by decide)) (ax_put_o (Or.inl (by decide)) (ax_put_o (Or.inl (by decide)) g5))) hl t1 q1 q0 t2 q2 t3 q3) rfl ?_
  refine am_ev.step (pc' := 58) rfl rfl ?_
  refine am_ev.step (pc' := 60) (ls' := [.ref 43, .ref 41, iv ((n : Int)), iv 7, iv 0]) rfl rfl ?_
  refine am_ev.step (pc' := 62) rfl rfl ?_
  refine fx_z_ne_F (pF := 65) rfl (by omega) rfl (by omega) ?_
  refine am_ev.step (pc' := 66) rfl rfl ?_
  exact fx_reti rfl rfl rfl
theorem rl_Nv (hb : tz_r b) (hL : L ≤ 1600) (C : CS h h0 b L p t u V Y) (hn : n ≤ 13) (t0 : tz_t b L p s e k v) (kn : k ≠ 0) (hl : l < 7) (q : cl_r b s e k l) (q0 : bt t l = false) (t1 : tz_t b L e s1 e1 k1 v1) (q1 : k1 = 2 ∧ cq_sv 2 l ≤ v1 ∧ v1 ≤ cq_sv 3 l) (t2 : tz_t b L e1 s2 e2 k2 v2) (q2 : k2 = 59) : ∃ H : am_H, CS H h0 b L e2 (t ||| ((Int32.ofInt 1) <<< ((Int32.ofInt ((l : Int))) &&& 31))) u (up1 V l v1) Y ∧ ∀ x, am_ev (d + 7) 19 10 [.ref 43, .ref 41, iv ((n : Int) + 1), iv ((l : Int)), iv 1] [] H x → am_ev (d + 7) 19 10 [.ref 43, .ref 41, iv ((n : Int)), a3, a4] [] h  x := by
  obtain ⟨S, B, w1, v6, f3, f4, g4, g5, dV, dY, z44, z45⟩ := C
  have f0 := t0.f hb
  refine ⟨(am_put (am_put (am_put (am_put (am_put (am_put (am_put (am_put (am_put (am_put (am_put h 41 5 (iv ((s : Int)))) 41 6 (iv ((e : Int)))) 41 2 (iv (k))) 43 4 (.int (t ||| ((Int32.ofInt 1) <<< ((Int32.ofInt ((l : Int))) &&& 31))))) 41 5 (iv ((s1 : Int)))) 41 6 (iv ((e1 : Int)))) 41 2 (iv (k1))) 46 l (iv (v1))) 41 5 (iv ((s2 : Int)))) 41 6 (iv ((e2 : Int)))) 41 2 (iv (k2))), ⟨(((((((((((S.po rfl rfl).po rfl rfl).po rfl rfl).po rfl rfl).po rfl rfl).po rfl rfl).po rfl rfl).pa rfl).po rfl rfl).po rfl rfl).po rfl rfl), (((((((((((B.put (by decide)).put (by decide)).put (by decide)).put (by decide)).put (by decide)).put (by decide)).put (by decide)).put (by decide)).put (by decide)).put (by decide)).put (by decide)), (ax_put_o (Or.inr (by decide)) (ax_put_o (Or.inr (by decide)) (ax_put_o (Or.inr (by decide)) (ax_put_o (Or.inl (by decide)) (ax_put_o (Or.inr (by decide)) (ax_put_o (Or.inr (by decide)) (ax_put_o (Or.inr (by decide)) (ax_put_o (Or.inl (by decide)) (ax_put_o (Or.inr (by decide)) (ax_put_o (Or.inr (by decide)) (ax_put_o (Or.inr (by decide)) w1))))))))))), (ax_put_o (Or.inr (by decide)) (ax_put_s _ _ _)), (ax_put_o (Or.inr (by decide)) (ax_put_o (Or.inr (by decide)) (ax_put_o (Or.inr (by decide)) (ax_put_o (Or.inl (by decide)) (ax_put_o (Or.inr (by decide)) (ax_put_o (Or.inr (by decide)) (ax_put_o (Or.inr (by decide)) (ax_put_o (Or.inl (by decide)) (ax_put_o (Or.inr (by decide)) (ax_put_o (Or.inr (by decide)) (ax_put_o (Or.inr (by decide)) f3))))))))))), (ax_put_o (Or.inr (by decide)) (ax_put_o (Or.inr (by decide)) (ax_put_o (Or.inr (by decide)) (ax_put_o (Or.inl (by decide)) (ax_put_o (Or.inr (by decide)) (ax_put_o (Or.inr (by decide)) (ax_put_o (Or.inr (by decide)) (ax_put_o (Or.inl (by decide)) (ax_put_o (Or.inr (by decide)) (ax_put_o (Or.inr (by decide)) (ax_put_o (Or.inr (by decide)) f4))))))))))), (ax_put_o (Or.inl (by decide)) (ax_put_o (Or.inl (by decide)) (ax_put_o (Or.inl (by decide)) (ax_put_o (Or.inl (by decide)) (ax_put_o (Or.inl (by decide)) (ax_put_o (Or.inl (by decide)) (ax_put_o (Or.inl (by decide)) (ax_put_s _ _ _)))))))), (ax_put_o (Or.inl (by decide)) (ax_put_o (Or.inl (by decide)) (ax_put_o (Or.inl (by decide)) (ax_put_o (Or.inl (by decide)) (ax_put_o (Or.inl (by decide)) (ax_put_o (Or.inl (by decide)) (ax_put_o (Or.inl (by decide)) (ax_put_o (Or.inr (by decide)) (ax_put_o (Or.inl (by decide)) (ax_put_o (Or.inl (by decide)) (ax_put_o (Or.inl (by decide)) g5))))))))))), (fun j hj => by
      by_cases ej : j = l
      · subst ej
        rw [show up1 V j v1 j = v1 from if_pos rfl]
        exact (ax_put_o (Or.inl (by decide)) (ax_put_o (Or.inl (by decide)) (ax_put_o (Or.inl (by decide)) (ax_put_s _ _ _))))
      · rw [show up1 V l v1 j = V j from if_neg ej]
        exact (ax_put_o (Or.inl (by decide)) (ax_put_o (Or.inl (by decide)) (ax_put_o (Or.inl (by decide)) (ax_put_o (Or.inr ej) (ax_put_o (Or.inl (by decide)) (ax_put_o (Or.inl (by decide)) (ax_put_o (Or.inl (by decide)) (ax_put_o (Or.inl (by decide)) (ax_put_o (Or.inl (by decide)) (ax_put_o (Or.inl (by decide)) (ax_put_o (Or.inl (by decide)) (dV j hj))))))))))))), (fun j hj => (ax_put_o (Or.inl (by decide)) (ax_put_o (Or.inl (by decide)) (ax_put_o (Or.inl (by decide)) (ax_put_o (Or.inl (by decide)) (ax_put_o (Or.inl (by decide)) (ax_put_o (Or.inl (by decide)) (ax_put_o (Or.inl (by decide)) (ax_put_o (Or.inl (by decide)) (ax_put_o (Or.inl (by decide)) (ax_put_o (Or.inl (by decide)) (ax_put_o (Or.inl (by decide)) (dY j hj))))))))))))), (fun j => (ax_put_o (Or.inl (by decide)) (ax_put_o (Or.inl (by decide)) (ax_put_o (Or.inl (by decide)) (ax_put_o (Or.inl (by decide)) (ax_put_o (Or.inl (by decide)) (ax_put_o (Or.inl (by decide)) (ax_put_o (Or.inl (by decide)) (ax_put_o (Or.inl (by decide)) (ax_put_o (Or.inl (by decide)) (ax_put_o (Or.inl (by decide)) (ax_put_o (Or.inl (by decide)) (z44 j))))))))))))), (fun j => (ax_put_o (Or.inl (by decide)) (ax_put_o (Or.inl (by decide)) (ax_put_o (Or.inl (by decide)) (ax_put_o (Or.inl (by decide)) (ax_put_o (Or.inl (by decide)) (ax_put_o (Or.inl (by decide)) (ax_put_o (Or.inl (by decide)) (ax_put_o (Or.inl (by decide)) (ax_put_o (Or.inl (by decide)) (ax_put_o (Or.inl (by decide)) (ax_put_o (Or.inl (by decide)) (z45 j)))))))))))))⟩, fun x q9 => ?_⟩
  refine am_ev.step (pc' := 11) rfl rfl ?_
  refine fx_bip (p' := 13) rfl rfl rfl ?_
  refine fx_c_gt_F (pF := 16) rfl (by omega) (by omega) rfl (by omega) ?_
  refine am_ev.step (pc' := 17) rfl rfl ?_
  refine ax_call (z := 21) (p' := 20) (as := [_]) rfl (Or.inr (Or.inl ⟨_, rfl⟩)) rfl rfl rfl rfl rfl rfl (S.ob rfl) rfl (tk_21w S B hb hL w1 v6 t0) rfl ?_
  refine am_ev.step (pc' := 21) rfl rfl ?_
  refine ax_gf (p' := 24) rfl rfl (fO (fO (fO (S.ob rfl)))) (ax_put_s _ _ _) ?_
  refine fx_z_ne_T (pT := 33) rfl (by omega) rfl (by omega) ?_
  refine am_ev.step (pc' := 34) rfl rfl ?_
  refine ax_call (z := 25) (p' := 37) (as := [_]) rfl (Or.inl ⟨_, rfl⟩) rfl rfl rfl rfl rfl rfl rfl rfl (tk_25 (((S.po rfl rfl).po rfl rfl).po rfl rfl) (((B.put (by decide)).put (by decide)).put (by decide)) hb hL (ax_put_o (Or.inr (by decide)) (ax_put_o (Or.inr (by decide)) (ax_put_o (Or.inr (by decide)) w1))) (ax_put_s _ _ _) (ax_put_o (Or.inr (by decide)) (ax_put_o (Or.inr (by decide)) (ax_put_s _ _ _))) (ax_put_o (Or.inr (by decide)) (ax_put_s _ _ _)) ⟨f0.2.1, f0.2.2.1⟩ ⟨f0.2.2.2.1, by omega⟩ q) rfl ?_
  refine am_ev.step (pc' := 38) (ls' := [.ref 43, .ref 41, iv ((n : Int)), iv ((l : Int)), a4]) rfl rfl ?_
  refine am_ev.step (pc' := 39) rfl rfl ?_
  refine fx_bip (p' := 41) rfl rfl rfl ?_
  refine fx_c_ne_T (pT := 52) rfl (by omega) (by omega) rfl (by omega) ?_
  refine am_ev.step (pc' := 53) rfl rfl ?_
  refine am_ev.step (pc' := 54) rfl rfl ?_
  refine am_ev.step (pc' := 55) rfl rfl ?_
  refine ax_call (z := 33) (p' := 58) (as := [_, _, _]) rfl (Or.inr (Or.inl ⟨_, rfl⟩)) rfl rfl rfl rfl rfl rfl (fO (fO (fO (S.ob rfl)))) rfl (tk_33e (((S.po rfl rfl).po rfl rfl).po rfl rfl) (((B.put (by decide)).put (by decide)).put (by decide)) hb hL (ax_put_o (Or.inr (by decide)) (ax_put_o (Or.inr (by decide)) (ax_put_o (Or.inr (by decide)) w1))) (ax_put_o (Or.inr (by decide)) (ax_put_o (Or.inr (by decide)) (ax_put_s _ _ _))) (ax_put_o (Or.inr (by decide)) (ax_put_s _ _ _)) hl (ax_put_o (Or.inl (by decide)) (ax_put_o (Or.inl (by decide)) (ax_put_o (Or.inl (by decide)) g4))) q0 t1 q1 t2 q2) rfl ?_
  refine am_ev.step (pc' := 60) (ls' := [.ref 43, .ref 41, iv ((n : Int)), iv ((l : Int)), iv 1]) rfl rfl ?_
  refine am_ev.step (pc' := 62) rfl rfl ?_
  refine fx_z_ne_T (pT := 67) rfl (by omega) rfl (by omega) ?_
  refine fx_inc (p' := 70) (e := ((n : Int) + 1)) (ls' := [.ref 43, .ref 41, iv ((n : Int) + 1), iv ((l : Int)), iv 1]) rfl rfl rfl (by omega) rfl ?_
  refine am_ev.step (pc' := 10) rfl rfl ?_
  exact q9
theorem rl_Nf (hb : tz_r b) (hL : L ≤ 1600) (C : CS h h0 b L p t u V Y) (hn : n ≤ 13) (t0 : tz_t b L p s e k v) (kn : k ≠ 0) (q : cl_r b s e k 7) (hl : l < 6) (t1 : tz_t b L e s1 e1 k1 (l : Int)) (q1 : k1 = 2) (q0 : bt u l = false) (t2 : tz_t b L e1 s2 e2 k2 v2) (q2 : k2 = 2 ∧ 0 ≤ v2 ∧ v2 ≤ 99) (t3 : tz_t b L e2 s3 e3 k3 v3) (q3 : k3 = 59) : ∃ H : am_H, CS H h0 b L e3 t (u ||| ((Int32.ofInt 1) <<< ((Int32.ofInt ((l : Int))) &&& 31))) V (up1 Y l v2) ∧ ∀ x, am_ev (d + 7) 19 10 [.ref 43, .ref 41, iv ((n : Int) + 1), iv 7, iv 1] [] H x → am_ev (d + 7) 19 10 [.ref 43, .ref 41, iv ((n : Int)), a3, a4] [] h  x := by
  obtain ⟨S, B, w1, v6, f3, f4, g4, g5, dV, dY, z44, z45⟩ := C
  have f0 := t0.f hb
  refine ⟨(am_put (am_put (am_put (am_put (am_put (am_put (am_put (am_put (am_put (am_put (am_put (am_put (am_put (am_put h 41 5 (iv ((s : Int)))) 41 6 (iv ((e : Int)))) 41 2 (iv (k))) 41 5 (iv ((s1 : Int)))) 41 6 (iv ((e1 : Int)))) 41 2 (iv (k1))) 43 5 (.int (u ||| ((Int32.ofInt 1) <<< ((Int32.ofInt ((l : Int))) &&& 31))))) 41 5 (iv ((s2 : Int)))) 41 6 (iv ((e2 : Int)))) 41 2 (iv (k2))) 47 l (iv (v2))) 41 5 (iv ((s3 : Int)))) 41 6 (iv ((e3 : Int)))) 41 2 (iv (k3))), ⟨((((((((((((((S.po rfl rfl).po rfl rfl).po rfl rfl).po rfl rfl).po rfl rfl).po rfl rfl).po rfl rfl).po rfl rfl).po rfl rfl).po rfl rfl).pa rfl).po rfl rfl).po rfl rfl).po rfl rfl), ((((((((((((((B.put (by decide)).put (by decide)).put (by decide)).put (by decide)).put (by decide)).put (by decide)).put (by decide)).put (by decide)).put (by decide)).put (by decide)).put (by decide)).put (by decide)).put (by decide)).put (by decide)), (ax_put_o (Or.inr (by decide)) (ax_put_o (Or.inr (by decide)) (ax_put_o (Or.inr (by decide)) (ax_put_o (Or.inl (by decide)) (ax_put_o (Or.inr (by decide)) (ax_put_o (Or.inr (by decide)) (ax_put_o (Or.inr (by decide)) (ax_put_o (Or.inl (by decide)) (ax_put_o (Or.inr (by decide)) (ax_put_o (Or.inr (by decide)) (ax_put_o (Or.inr (by decide)) (ax_put_o (Or.inr (by decide)) (ax_put_o (Or.inr (by decide)) (ax_put_o (Or.inr (by decide)) w1)))))))))))))), (ax_put_o (Or.inr (by decide)) (ax_put_s _ _ _)), (ax_put_o (Or.inr (by decide)) (ax_put_o (Or.inr (by decide)) (ax_put_o (Or.inr (by decide)) (ax_put_o (Or.inl (by decide)) (ax_put_o (Or.inr (by decide)) (ax_put_o (Or.inr (by decide)) (ax_put_o (Or.inr (by decide)) (ax_put_o (Or.inl (by decide)) (ax_put_o (Or.inr (by decide)) (ax_put_o (Or.inr (by decide)) (ax_put_o (Or.inr (by decide)) (ax_put_o (Or.inr (by decide)) (ax_put_o (Or.inr (by decide)) (ax_put_o (Or.inr (by decide)) f3)))))))))))))), (ax_put_o (Or.inr (by decide)) (ax_put_o (Or.inr (by decide)) (ax_put_o (Or.inr (by decide)) (ax_put_o (Or.inl (by decide)) (ax_put_o (Or.inr (by decide)) (ax_put_o (Or.inr (by decide)) (ax_put_o (Or.inr (by decide)) (ax_put_o (Or.inl (by decide)) (ax_put_o (Or.inr (by decide)) (ax_put_o (Or.inr (by decide)) (ax_put_o (Or.inr (by decide)) (ax_put_o (Or.inr (by decide)) (ax_put_o (Or.inr (by decide)) (ax_put_o (Or.inr (by decide)) f4)))))))))))))), (ax_put_o (Or.inl (by decide)) (ax_put_o (Or.inl (by decide)) (ax_put_o (Or.inl (by decide)) (ax_put_o (Or.inl (by decide)) (ax_put_o (Or.inl (by decide)) (ax_put_o (Or.inl (by decide)) (ax_put_o (Or.inl (by decide)) (ax_put_o (Or.inr (by decide)) (ax_put_o (Or.inl (by decide)) (ax_put_o (Or.inl (by decide)) (ax_put_o (Or.inl (by decide)) (ax_put_o (Or.inl (by decide)) (ax_put_o (Or.inl (by decide)) (ax_put_o (Or.inl (by decide)) g4)))))))))))))), (ax_put_o (Or.inl (by decide)) (ax_put_o (Or.inl (by decide)) (ax_put_o (Or.inl (by decide)) (ax_put_o (Or.inl (by decide)) (ax_put_o (Or.inl (by decide)) (ax_put_o (Or.inl (by decide)) (ax_put_o (Or.inl (by decide)) (ax_put_s _ _ _)))))))), (fun j hj => (ax_put_o (Or.inl (by decide)) (ax_put_o (Or.inl (by decide)) (ax_put_o (Or.inl (by decide)) (ax_put_o (Or.inl (by decide)) (ax_put_o (Or.inl (by decide)) (ax_put_o (Or.inl (by decide)) (ax_put_o (Or.inl (by decide)) (ax_put_o (Or.inl (by decide)) (ax_put_o (Or.inl (by decide)) (ax_put_o (Or.inl (by decide)) (ax_put_o (Or.inl (by decide)) (ax_put_o (Or.inl (by decide)) (ax_put_o (Or.inl (by decide)) (ax_put_o (Or.inl (by decide)) (dV j hj)))))))))))))))), (fun j hj => by
      by_cases ej : j = l
      · subst ej
        rw [show up1 Y j v2 j = v2 from if_pos rfl]
        exact (ax_put_o (Or.inl (by decide)) (ax_put_o (Or.inl (by decide)) (ax_put_o (Or.inl (by decide)) (ax_put_s _ _ _))))
      · rw [show up1 Y l v2 j = Y j from if_neg ej]
        exact (ax_put_o (Or.inl (by decide)) (ax_put_o (Or.inl (by decide)) (ax_put_o (Or.inl (by decide)) (ax_put_o (Or.inr ej) (ax_put_o (Or.inl (by decide)) (ax_put_o (Or.inl (by decide)) (ax_put_o (Or.inl (by decide)) (ax_put_o (Or.inl (by decide)) (ax_put_o (Or.inl (by decide)) (ax_put_o (Or.inl (by decide)) (ax_put_o (Or.inl (by decide)) (ax_put_o (Or.inl (by decide)) (ax_put_o (Or.inl (by decide)) (ax_put_o (Or.inl (by decide)) (dY j hj)))))))))))))))), (fun j => (ax_put_o (Or.inl (by decide)) (ax_put_o (Or.inl (by decide)) (ax_put_o (Or.inl (by decide)) (ax_put_o (Or.inl (by decide)) (ax_put_o (Or.inl (by decide)) (ax_put_o (Or.inl (by decide)) (ax_put_o (Or.inl (by decide)) (ax_put_o (Or.inl (by decide)) (ax_put_o (Or.inl (by decide)) (ax_put_o (Or.inl (by decide)) (ax_put_o (Or.inl (by decide)) (ax_put_o (Or.inl (by decide)) (ax_put_o (Or.inl (by decide)) (ax_put_o (Or.inl (by decide)) (z44 j)))))))))))))))), (fun j => (ax_put_o (Or.inl (by decide)) (ax_put_o (Or.inl (by decide)) (ax_put_o (Or.inl (by decide)) (ax_put_o (Or.inl (by decide)) (ax_put_o (Or.inl (by decide)) (ax_put_o (Or.inl (by decide)) (ax_put_o (Or.inl (by decide)) (ax_put_o (Or.inl (by decide)) (ax_put_o (Or.inl (by decide)) (ax_put_o (Or.inl (by decide)) (ax_put_o (Or.inl (by decide)) (ax_put_o (Or.inl (by decide)) (ax_put_o (Or.inl (by decide)) (ax_put_o (Or.inl (by decide)) (z45 j))))))))))))))))⟩, fun x q9 => ?_⟩
  refine am_ev.step (pc' := 11) rfl rfl ?_
  refine fx_bip (p' := 13) rfl rfl rfl ?_
  refine fx_c_gt_F (pF := 16) rfl (by omega) (by omega) rfl (by omega) ?_
  refine am_ev.step (pc' := 17) rfl rfl ?_
  refine ax_call (z := 21) (p' := 20) (as := [_]) rfl (Or.inr (Or.inl ⟨_, rfl⟩)) rfl rfl rfl rfl rfl rfl (S.ob rfl) rfl (tk_21w S B hb hL w1 v6 t0) rfl ?_
  refine am_ev.step (pc' := 21) rfl rfl ?_
  refine ax_gf (p' := 24) rfl rfl (fO (fO (fO (S.ob rfl)))) (ax_put_s _ _ _) ?_
  refine fx_z_ne_T (pT := 33) rfl (by omega) rfl (by omega) ?_
  refine am_ev.step (pc' := 34) rfl rfl ?_
  refine ax_call (z := 25) (p' := 37) (as := [_]) rfl (Or.inl ⟨_, rfl⟩) rfl rfl rfl rfl rfl rfl rfl rfl (tk_25 (((S.po rfl rfl).po rfl rfl).po rfl rfl) (((B.put (by decide)).put (by decide)).put (by decide)) hb hL (ax_put_o (Or.inr (by decide)) (ax_put_o (Or.inr (by decide)) (ax_put_o (Or.inr (by decide)) w1))) (ax_put_s _ _ _) (ax_put_o (Or.inr (by decide)) (ax_put_o (Or.inr (by decide)) (ax_put_s _ _ _))) (ax_put_o (Or.inr (by decide)) (ax_put_s _ _ _)) ⟨f0.2.1, f0.2.2.1⟩ ⟨f0.2.2.2.1, by omega⟩ q) rfl ?_
  refine am_ev.step (pc' := 38) (ls' := [.ref 43, .ref 41, iv ((n : Int)), iv 7, a4]) rfl rfl ?_
  refine am_ev.step (pc' := 39) rfl rfl ?_
  refine fx_bip (p' := 41) rfl rfl rfl ?_
  refine fx_c_ne_F (pF := 44) rfl (by omega) (by omega) rfl (by omega) ?_
  refine am_ev.step (pc' := 45) rfl rfl ?_
  refine am_ev.step (pc' := 46) rfl rfl ?_
  refine ax_call (z := 27) (p' := 49) (as := [_, _]) rfl (Or.inr (Or.inl ⟨_, rfl⟩)) rfl rfl rfl rfl rfl rfl (fO (fO (fO (S.ob rfl)))) rfl (tk_27g (((S.po rfl rfl).po rfl rfl).po rfl rfl) (((B.put (by decide)).put (by decide)).put (by decide)) hb hL (ax_put_o (Or.inr (by decide)) (ax_put_o (Or.inr (by decide)) (ax_put_o (Or.inr (by decide)) w1))) (ax_put_o (Or.inr (by decide)) (ax_put_s _ _ _)) (ax_put_o (Or.inl (by decide)) (ax_put_o (Or.inl (by decide)) (ax_put_o (Or.inl (by decide)) g5))) hl t1 q1 q0 t2 q2 t3 q3) rfl ?_
  refine am_ev.step (pc' := 58) rfl rfl ?_
  refine am_ev.step (pc' := 60) (ls' := [.ref 43, .ref 41, iv ((n : Int)), iv 7, iv 1]) rfl rfl ?_
  refine am_ev.step (pc' := 62) rfl rfl ?_
  refine fx_z_ne_T (pT := 67) rfl (by omega) rfl (by omega) ?_
  refine fx_inc (p' := 70) (e := ((n : Int) + 1)) (ls' := [.ref 43, .ref 41, iv ((n : Int) + 1), iv 7, iv 1]) rfl rfl rfl (by omega) rfl ?_
  refine am_ev.step (pc' := 10) rfl rfl ?_
  exact q9
end RLB
