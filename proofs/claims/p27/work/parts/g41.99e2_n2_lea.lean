section
/-! LEAVES, the other side: bits, words of a credit -/
/-- the reading's state with a token at hand; nothing else has changed -/
def mT (h h0 : am_H) (b : Nat → Int) (L p s e : Nat) (k v w : Int) : Prop := fS h ∧ tb h 80 b L ∧ h.2.2.2 78 3 = iv L ∧ tz_t b L p s e k v ∧ h.2.2.2 78 4 = iv s ∧ h.2.2.2 78 5 = iv e ∧ h.2.2.2 78 6 = iv (tH k) ∧ h.2.2.2 78 7 = iv w ∧ (k = 2 → w = v) ∧ (43 ≤ k → w = k) ∧ h.2.2.2 78 8 = iv 0 ∧ h.2.2.2 78 9 = iv (-1) ∧ h.2.2.2 78 2 = iv 0 ∧ ∀ c j, (c ≠ 78 ∨ 10 ≤ j) → h.2.2.2 c j = h0.2.2.2 c j
def mX (h h0 : am_H) (f : Int) (s : Nat) : Prop := fS h ∧ h.2.2.2 78 8 = iv f ∧ h.2.2.2 78 9 = iv s ∧ h.2.2.2 78 2 = iv 0 ∧ ∀ c j, (c ≠ 78 ∨ 10 ≤ j) → h.2.2.2 c j = h0.2.2.2 c j
theorem b_sand {t : Int32} {l : Nat} (hl : l < 31) : (t >>> (Int32.ofInt (l : Int) &&& 31)) &&& Int32.ofInt 1 = 0 ↔ bt t l = false := by
  rw [b_and1, Int32.ofInt_eq_ofNat, b_sshr l (by omega) _ (by decide), if_pos (by omega), Nat.add_zero]
section LEM
variable {d : Nat} {h h0 : am_H} {b : Nat → Int} {L p s e s1 e1 l n g : Nat} {k k1 v v1 w c : Int} {t : Int32} {x3 : Value}
theorem mb_A (hb : tz_r b) (hL : L ≤ 1600) (C : mT h h0 b L p s e k v w) (hg : g ≤ 19) (q : k ≠ 2) : ∃ H : am_H, am_ev (d + 3) 212 2 [.ref 78, iv ((g : Int) + 1), .int t, x3] [] h  (some (.retAddr (79 + 1)), H) ∧ mX H h0 1 s := by
  obtain ⟨S, B, w3, t0, w4, w5, w6, w7, ya, yb, f8, f9, zt, fr⟩ := C
  have f0 := t0.f5 hb
  have hr0 := tH_r (k := k) ⟨f0.2.2.2.1, f0.2.2.2.2⟩
  clear ya yb
  refine ⟨(am_put (am_put h 78 8 (iv 1)) 78 9 (iv ((s : Int)))), ?_, ⟨((S.po rfl rfl).po rfl rfl), (ax_put_o (Or.inr (by decide)) (ax_put_s _ _ _)), (ax_put_s _ _ _), (ax_put_o (Or.inr (by decide)) (ax_put_o (Or.inr (by decide)) zt)), (fun c j n1 => (ax_put_o (by omega) (ax_put_o (by omega) (fr c j n1))))⟩⟩
  refine am_ev.step (pc' := 3) rfl rfl ?_
  refine am_ev.step (pc' := 4) rfl rfl ?_
  refine am_ev.step (pc' := 5) rfl rfl ?_
  refine am_ev.step (pc' := 6) rfl rfl ?_
  refine fx_sub (p' := 7) (e := ((g : Int))) rfl rfl (by omega) ?_
  refine ax_callT (a := 79) (z := 176) (as := [_, _, _]) rfl (Or.inr (Or.inl ⟨_, rfl⟩)) rfl rfl rfl rfl rfl rfl (S.ob rfl) (md_176a (lo := 0) (hi := ((g : Int))) (k := k) (s := s) S w4 w6 (by omega) (by omega) q) rfl rfl (fO (fO (S.ob rfl))) rfl
theorem mb_B (hb : tz_r b) (hL : L ≤ 1600) (C : mT h h0 b L p s e k v w) (hg : g ≤ 19) (q : k = 2) (q2 : (g : Int) < v) : ∃ H : am_H, am_ev (d + 3) 212 2 [.ref 78, iv ((g : Int) + 1), .int t, x3] [] h  (some (.retAddr (79 + 1)), H) ∧ mX H h0 2 s := by
  obtain ⟨S, B, w3, t0, w4, w5, w6, w7, ya, yb, f8, f9, zt, fr⟩ := C
  have f0 := t0.f5 hb
  have hr0 := tH_r (k := k) ⟨f0.2.2.2.1, f0.2.2.2.2⟩
  have y0 := ya q
  have u0 := t0.bd hb q
  clear ya yb
  refine ⟨(am_put (am_put h 78 8 (iv 2)) 78 9 (iv ((s : Int)))), ?_, ⟨((S.po rfl rfl).po rfl rfl), (ax_put_o (Or.inr (by decide)) (ax_put_s _ _ _)), (ax_put_s _ _ _), (ax_put_o (Or.inr (by decide)) (ax_put_o (Or.inr (by decide)) zt)), (fun c j n1 => (ax_put_o (by omega) (ax_put_o (by omega) (fr c j n1))))⟩⟩
  refine am_ev.step (pc' := 3) rfl rfl ?_
  refine am_ev.step (pc' := 4) rfl rfl ?_
  refine am_ev.step (pc' := 5) rfl rfl ?_
  refine am_ev.step (pc' := 6) rfl rfl ?_
  refine fx_sub (p' := 7) (e := ((g : Int))) rfl rfl (by omega) ?_
  refine ax_callT (a := 79) (z := 176) (as := [_, _, _]) rfl (Or.inr (Or.inl ⟨_, rfl⟩)) rfl rfl rfl rfl rfl rfl (S.ob rfl) (md_176b (lo := 0) (hi := ((g : Int))) (k := k) (s := s) S w4 w6 (by omega) (by omega) w7 (by omega) (by omega)) rfl rfl (fO (fO (S.ob rfl))) rfl
theorem mb_C (hb : tz_r b) (hL : L ≤ 1600) (C : mT h h0 b L p s e k (l : Int) w) (hg : g ≤ 19) (hl : l ≤ g) (q : k = 2) (q2 : bt t l = true) : ∃ H : am_H, am_ev (d + 3) 212 2 [.ref 78, iv ((g : Int) + 1), .int t, x3] [] h  (some (.retAddr (79 + 1)), H) ∧ mX H h0 3 s := by
  obtain ⟨S, B, w3, t0, w4, w5, w6, w7, ya, yb, f8, f9, zt, fr⟩ := C
  have f0 := t0.f5 hb
  have hr0 := tH_r (k := k) ⟨f0.2.2.2.1, f0.2.2.2.2⟩
  have y0 := ya q
  have u0 := t0.bd hb q
  clear ya yb
  refine ⟨(am_put (am_put h 78 8 (iv 3)) 78 9 (iv ((s : Int)))), ?_, ⟨((S.po rfl rfl).po rfl rfl), (ax_put_o (Or.inr (by decide)) (ax_put_s _ _ _)), (ax_put_s _ _ _), (ax_put_o (Or.inr (by decide)) (ax_put_o (Or.inr (by decide)) zt)), (fun c j n1 => (ax_put_o (by omega) (ax_put_o (by omega) (fr c j n1))))⟩⟩
  refine am_ev.step (pc' := 3) rfl rfl ?_
  refine am_ev.step (pc' := 4) rfl rfl ?_
  refine am_ev.step (pc' := 5) rfl rfl ?_
  refine am_ev.step (pc' := 6) rfl rfl ?_
  refine fx_sub (p' := 7) (e := ((g : Int))) rfl rfl (by omega) ?_
  refine ax_call (z := 176) (p' := 10) (as := [_, _, _]) rfl (Or.inr (Or.inl ⟨_, rfl⟩)) rfl rfl rfl rfl rfl rfl (S.ob rfl) rfl (md_176d (lo := 0) (hi := ((g : Int))) (k := k) (s := s) S w4 w6 (by omega) (by omega) w7 (by omega) y0 (by omega)) rfl ?_
  refine am_ev.step (pc' := 11) (ls' := [.ref 78, iv ((g : Int) + 1), .int t, iv ((l : Int))]) rfl rfl ?_
  refine am_ev.step (pc' := 12) rfl rfl ?_
  refine am_ev.step (pc' := 13) rfl rfl ?_
  refine am_ev.step (pc' := 14) rfl rfl ?_
  refine am_ev.step (pc' := 15) rfl rfl ?_
  refine am_ev.step (pc' := 16) rfl rfl ?_
  refine am_ev.step (pc' := 17) rfl rfl ?_
  refine am_ev.step (pc' := 24) rfl (if_neg (fun z => by rw [(b_sand (by omega)).1 z] at q2; cases q2)) ?_
  refine am_ev.step (pc' := 25) rfl rfl ?_
  refine am_ev.step (pc' := 26) rfl rfl ?_
  refine ax_callT (a := 79) (z := 177) (as := [_, _, _]) rfl (Or.inr (Or.inl ⟨_, rfl⟩)) rfl rfl rfl rfl rfl rfl (S.ob rfl) (md_177f (s := s) S w4) rfl rfl (fO (fO (S.ob rfl))) rfl
theorem mb_N (hb : tz_r b) (hL : L ≤ 1600) (C : mT h h0 b L p s e k (l : Int) w) (hg : g ≤ 19) (hl : l ≤ g) (q : k = 2) (q2 : bt t l = false) (t1 : tz_t b L e s1 e1 k1 v1) : ∃ H : am_H, mT H h0 b L e s1 e1 k1 v1 (tV b L s1 w) ∧ ∀ x, am_ev (d + 3) 212 39 [.ref 78, iv ((g : Int) + 1), .int (t ||| ((Int32.ofInt 1) <<< ((Int32.ofInt ((l : Int))) &&& 31))), iv ((l : Int))] [] H x → am_ev (d + 3) 212 2 [.ref 78, iv ((g : Int) + 1), .int t, x3] [] h  x := by
  obtain ⟨S, B, w3, t0, w4, w5, w6, w7, ya, yb, f8, f9, zt, fr⟩ := C
  have f0 := t0.f5 hb
  have hr0 := tH_r (k := k) ⟨f0.2.2.2.1, f0.2.2.2.2⟩
  have y0 := ya q
  have u0 := t0.bd hb q
  clear ya yb
  refine ⟨(am_put (am_put (am_put (am_put h 78 4 (iv ((s1 : Int)))) 78 7 (iv ((tV b L s1 (w))))) 78 5 (iv ((e1 : Int)))) 78 6 (iv ((tH k1)))), ⟨((((S.po rfl rfl).po rfl rfl).po rfl rfl).po rfl rfl), ((((B.put (by decide)).put (by decide)).put (by decide)).put (by decide)), (ax_put_o (Or.inr (by decide)) (ax_put_o (Or.inr (by decide)) (ax_put_o (Or.inr (by decide)) (ax_put_o (Or.inr (by decide)) w3)))), t1, (ax_put_o (Or.inr (by decide)) (ax_put_o (Or.inr (by decide)) (ax_put_o (Or.inr (by decide)) (ax_put_s _ _ _)))), (ax_put_o (Or.inr (by decide)) (ax_put_s _ _ _)), (ax_put_s _ _ _), (ax_put_o (Or.inr (by decide)) (ax_put_o (Or.inr (by decide)) (ax_put_s _ _ _))), (t1.v _).1, (t1.v _).2, (ax_put_o (Or.inr (by decide)) (ax_put_o (Or.inr (by decide)) (ax_put_o (Or.inr (by decide)) (ax_put_o (Or.inr (by decide)) f8)))), (ax_put_o (Or.inr (by decide)) (ax_put_o (Or.inr (by decide)) (ax_put_o (Or.inr (by decide)) (ax_put_o (Or.inr (by decide)) f9)))), (ax_put_o (Or.inr (by decide)) (ax_put_o (Or.inr (by decide)) (ax_put_o (Or.inr (by decide)) (ax_put_o (Or.inr (by decide)) zt)))), (fun c j n1 => (ax_put_o (by omega) (ax_put_o (by omega) (ax_put_o (by omega) (ax_put_o (by omega) (fr c j n1))))))⟩, fun x q9 => ?_⟩
  refine am_ev.step (pc' := 3) rfl rfl ?_
  refine am_ev.step (pc' := 4) rfl rfl ?_
  refine am_ev.step (pc' := 5) rfl rfl ?_
  refine am_ev.step (pc' := 6) rfl rfl ?_
  refine fx_sub (p' := 7) (e := ((g : Int))) rfl rfl (by omega) ?_
  refine ax_call (z := 176) (p' := 10) (as := [_, _, _]) rfl (Or.inr (Or.inl ⟨_, rfl⟩)) rfl rfl rfl rfl rfl rfl (S.ob rfl) rfl (md_176d (lo := 0) (hi := ((g : Int))) (k := k) (s := s) S w4 w6 (by omega) (by omega) w7 (by omega) y0 (by omega)) rfl ?_
  refine am_ev.step (pc' := 11) (ls' := [.ref 78, iv ((g : Int) + 1), .int t, iv ((l : Int))]) rfl rfl ?_
  refine am_ev.step (pc' := 12) rfl rfl ?_
  refine am_ev.step (pc' := 13) rfl rfl ?_
  refine am_ev.step (pc' := 14) rfl rfl ?_
  refine am_ev.step (pc' := 15) rfl rfl ?_
  refine am_ev.step (pc' := 16) rfl rfl ?_
  refine am_ev.step (pc' := 17) rfl rfl ?_
  refine am_ev.step (pc' := 20) rfl (if_pos ((b_sand (by omega)).2 q2)) ?_
  refine am_ev.step (pc' := 21) rfl rfl ?_
  refine am_ev.step (pc' := 25) rfl rfl ?_
  refine am_ev.step (pc' := 26) rfl rfl ?_
  refine ax_call (z := 177) (p' := 29) (as := [_, _, _]) rfl (Or.inr (Or.inl ⟨_, rfl⟩)) rfl rfl rfl rfl rfl rfl (S.ob rfl) rfl md_177t rfl ?_
  refine am_ev.step (pc' := 30) rfl rfl ?_
  refine am_ev.step (pc' := 31) rfl rfl ?_
  refine am_ev.step (pc' := 32) rfl rfl ?_
  refine am_ev.step (pc' := 33) rfl rfl ?_
  refine am_ev.step (pc' := 34) rfl rfl ?_
  refine am_ev.step (pc' := 35) (ls' := [.ref 78, iv ((g : Int) + 1), .int (t ||| ((Int32.ofInt 1) <<< ((Int32.ofInt ((l : Int))) &&& 31))), iv ((l : Int))]) rfl rfl ?_
  refine am_ev.step (pc' := 36) rfl rfl ?_
  refine ax_call (z := 170) (p' := 39) (as := [_]) rfl (Or.inr (Or.inl ⟨_, rfl⟩)) rfl rfl rfl rfl rfl rfl (S.ob rfl) rfl (md_170 S B hb hL w3 w5 w7 t1) rfl ?_
  exact q9
theorem mb_on (hb : tz_r b) (hL : L ≤ 1600) (C : mT h h0 b L p s e k v w) (q : k = 2) : ∀ x, am_ev (d + 3) 212 2 [.ref 78, iv ((g : Int) + 1), .int t, x3] [] h  x → am_ev (d + 3) 212 39 [.ref 78, iv ((g : Int) + 1), .int t, x3] [] h  x := fun x q9 => by
  obtain ⟨S, B, w3, t0, w4, w5, w6, w7, ya, yb, f8, f9, zt, fr⟩ := C
  have f0 := t0.f5 hb
  have hr0 := tH_r (k := k) ⟨f0.2.2.2.1, f0.2.2.2.2⟩
  clear ya yb
  have e2 : tH k = 2 := by
    rw [q]
    rfl
  refine am_ev.step (pc' := 40) rfl rfl ?_
  refine ax_gf (p' := 43) rfl rfl (S.ob rfl) w6 ?_
  refine am_ev.step (pc' := 44) rfl rfl ?_
  refine fx_c_eq_T (pT := 2) rfl (by omega) (by omega) rfl (by omega) ?_
  exact q9
theorem mb_R (hb : tz_r b) (hL : L ≤ 1600) (C : mT h h0 b L p s e k v w) (q : k ≠ 2) : am_ev (d + 3) 212 39 [.ref 78, iv ((g : Int) + 1), .int t, x3] [] h  (some (.int t), h) := by
  obtain ⟨S, B, w3, t0, w4, w5, w6, w7, ya, yb, f8, f9, zt, fr⟩ := C
  have f0 := t0.f5 hb
  have hr0 := tH_r (k := k) ⟨f0.2.2.2.1, f0.2.2.2.2⟩
  clear ya yb
  have hh := tH_c (k := k) ⟨f0.2.2.2.1, f0.2.2.2.2⟩
  refine am_ev.step (pc' := 40) rfl rfl ?_
  refine ax_gf (p' := 43) rfl rfl (S.ob rfl) w6 ?_
  refine am_ev.step (pc' := 44) rfl rfl ?_
  refine fx_c_eq_F (pF := 47) rfl (by omega) (by omega) rfl (by omega) ?_
  refine am_ev.step (pc' := 48) rfl rfl ?_
  exact fx_reti rfl rfl rfl
end LEM
section LEN
variable {d : Nat} {h h0 : am_H} {b : Nat → Int} {L p s e s1 e1 n : Nat} {k k1 v v1 w : Int} {x1 : Value}
/-- as mT, while a credit's words are counted -/
def mC (h h0 : am_H) (b : Nat → Int) (L p s e : Nat) (k v w : Int) (n : Nat) : Prop := fS h ∧ tb h 80 b L ∧ h.2.2.2 78 3 = iv L ∧ tz_t b L p s e k v ∧ h.2.2.2 78 4 = iv s ∧ h.2.2.2 78 5 = iv e ∧ h.2.2.2 78 6 = iv (tH k) ∧ h.2.2.2 78 7 = iv w ∧ (k = 2 → w = v) ∧ (43 ≤ k → w = k) ∧ h.2.2.2 78 8 = iv 0 ∧ h.2.2.2 78 9 = iv (-1) ∧ h.2.2.2 78 2 = iv 0 ∧ h.2.2.2 110 80 = iv n ∧ ∀ c j, (c ≠ 78 ∨ 10 ≤ j) → (c ≠ 110 ∨ j ≠ 80) → h.2.2.2 c j = h0.2.2.2 c j
def mCX (h h0 : am_H) (f : Int) (s : Nat) : Prop := fS h ∧ h.2.2.2 78 8 = iv f ∧ h.2.2.2 78 9 = iv s ∧ h.2.2.2 78 2 = iv 0 ∧ ∀ c j, (c ≠ 78 ∨ 10 ≤ j) → (c ≠ 110 ∨ j ≠ 80) → h.2.2.2 c j = h0.2.2.2 c j
theorem mc_7 (hb : tz_r b) (hL : L ≤ 1600) (C : mC h h0 b L p s e k v w n) (q : k = 1) (n6 : n = 6) : ∃ H : am_H, am_ev (d + 3) 211 208 [.ref 78, x1] [] h  (some (.retAddr (79 + 1)), H) ∧ mCX H h0 4 s := by
  obtain ⟨S, B, w3, t0, w4, w5, w6, w7, -, -, f8, f9, zt, cr, fr⟩ := C
  have f0 := t0.f5 hb
  have hr0 := tH_r (k := k) ⟨f0.2.2.2.1, f0.2.2.2.2⟩
  have e1 : tH k = 1 := by
    rw [q]
    rfl
  refine ⟨(am_put (am_put h 78 8 (iv 4)) 78 9 (iv ((s : Int)))), ?_, ⟨((S.po rfl rfl).po rfl rfl), (ax_put_o (Or.inr (by decide)) (ax_put_s _ _ _)), (ax_put_s _ _ _), (ax_put_o (Or.inr (by decide)) (ax_put_o (Or.inr (by decide)) zt)), (fun c j n1 n2 => (ax_put_o (by omega) (ax_put_o (by omega) (fr c j n1 n2))))⟩⟩
  refine am_ev.step (pc' := 209) rfl rfl ?_
  refine ax_gf (p' := 212) rfl rfl (S.ob rfl) w6 ?_
  refine am_ev.step (pc' := 213) rfl rfl ?_
  refine fx_c_ne_F (pF := 216) rfl (by omega) (by omega) rfl (by omega) ?_
  refine am_ev.step (pc' := 217) rfl rfl ?_
  refine am_ev.step (pc' := 218) rfl rfl ?_
  refine ax_gf (p' := 221) rfl rfl (S.ob rfl) (S.rf rfl rfl) ?_
  refine fx_bip (p' := 223) rfl rfl rfl ?_
  refine ax_iaload (p' := 224) rfl rfl (S.rd (k := 80) rfl rfl rfl rfl rfl (by decide) cr) ?_
  refine fx_bip (p' := 226) rfl rfl rfl ?_
  refine fx_c_ge_T (pT := 233) rfl (by omega) (by omega) rfl (by omega) ?_
  refine am_ev.step (pc' := 234) rfl rfl ?_
  refine am_ev.step (pc' := 235) rfl rfl ?_
  refine ax_callT (a := 79) (z := 177) (as := [_, _, _]) rfl (Or.inr (Or.inl ⟨_, rfl⟩)) rfl rfl rfl rfl rfl rfl (S.ob rfl) (md_177f (s := s) S w4) rfl rfl (fO (fO (S.ob rfl))) rfl
theorem mc_N (hb : tz_r b) (hL : L ≤ 1600) (C : mC h h0 b L p s e k v w n) (q : k = 1) (n6 : n ≤ 5) (t1 : tz_t b L e s1 e1 k1 v1) : ∃ H : am_H, mC H h0 b L e s1 e1 k1 v1 (tV b L s1 w) (n + 1) ∧ ∀ x, am_ev (d + 3) 211 208 [.ref 78, x1] [] H x → am_ev (d + 3) 211 208 [.ref 78, x1] [] h  x := by
  obtain ⟨S, B, w3, t0, w4, w5, w6, w7, -, -, f8, f9, zt, cr, fr⟩ := C
  have f0 := t0.f5 hb
  have hr0 := tH_r (k := k) ⟨f0.2.2.2.1, f0.2.2.2.2⟩
  have ee : tH k = 1 := by
    rw [q]
    rfl
  refine ⟨(am_put (am_put (am_put (am_put (am_put h 110 80 (iv ((n : Int) + 1))) 78 4 (iv ((s1 : Int)))) 78 7 (iv ((tV b L s1 (w))))) 78 5 (iv ((e1 : Int)))) 78 6 (iv ((tH k1)))), ⟨(((((S.pa rfl).po rfl rfl).po rfl rfl).po rfl rfl).po rfl rfl), (((((B.put (by decide)).put (by decide)).put (by decide)).put (by decide)).put (by decide)), (ax_put_o (Or.inr (by decide)) (ax_put_o (Or.inr (by decide)) (ax_put_o (Or.inr (by decide)) (ax_put_o (Or.inr (by decide)) (ax_put_o (Or.inl (by decide)) w3))))), t1, (ax_put_o (Or.inr (by decide)) (ax_put_o (Or.inr (by decide)) (ax_put_o (Or.inr (by decide)) (ax_put_s _ _ _)))), (ax_put_o (Or.inr (by decide)) (ax_put_s _ _ _)), (ax_put_s _ _ _), (ax_put_o (Or.inr (by decide)) (ax_put_o (Or.inr (by decide)) (ax_put_s _ _ _))), (t1.v _).1, (t1.v _).2, (ax_put_o (Or.inr (by decide)) (ax_put_o (Or.inr (by decide)) (ax_put_o (Or.inr (by decide)) (ax_put_o (Or.inr (by decide)) (ax_put_o (Or.inl (by decide)) f8))))), (ax_put_o (Or.inr (by decide)) (ax_put_o (Or.inr (by decide)) (ax_put_o (Or.inr (by decide)) (ax_put_o (Or.inr (by decide)) (ax_put_o (Or.inl (by decide)) f9))))), (ax_put_o (Or.inr (by decide)) (ax_put_o (Or.inr (by decide)) (ax_put_o (Or.inr (by decide)) (ax_put_o (Or.inr (by decide)) (ax_put_o (Or.inl (by decide)) zt))))), Eq.trans (ax_put_o (Or.inl (by decide)) (ax_put_o (Or.inl (by decide)) (ax_put_o (Or.inl (by decide)) (ax_put_o (Or.inl (by decide)) (ax_put_s _ _ _))))) (congrArg iv (by omega)), (fun c j n1 n2 => (ax_put_o (by omega) (ax_put_o (by omega) (ax_put_o (by omega) (ax_put_o (by omega) (ax_put_o (by omega) (fr c j n1 n2)))))))⟩, fun x q9 => ?_⟩
  refine am_ev.step (pc' := 209) rfl rfl ?_
  refine ax_gf (p' := 212) rfl rfl (S.ob rfl) w6 ?_
  refine am_ev.step (pc' := 213) rfl rfl ?_
  refine fx_c_ne_F (pF := 216) rfl (by omega) (by omega) rfl (by omega) ?_
  refine am_ev.step (pc' := 217) rfl rfl ?_
  refine am_ev.step (pc' := 218) rfl rfl ?_
  refine ax_gf (p' := 221) rfl rfl (S.ob rfl) (S.rf rfl rfl) ?_
  refine fx_bip (p' := 223) rfl rfl rfl ?_
  refine ax_iaload (p' := 224) rfl rfl (S.rd (k := 80) rfl rfl rfl rfl rfl (by decide) cr) ?_
  refine fx_bip (p' := 226) rfl rfl rfl ?_
  refine fx_c_ge_F (pF := 229) rfl (by omega) (by omega) rfl (by omega) ?_
  refine am_ev.step (pc' := 230) rfl rfl ?_
  refine am_ev.step (pc' := 234) rfl rfl ?_
  refine am_ev.step (pc' := 235) rfl rfl ?_
  refine ax_call (z := 177) (p' := 238) (as := [_, _, _]) rfl (Or.inr (Or.inl ⟨_, rfl⟩)) rfl rfl rfl rfl rfl rfl (S.ob rfl) rfl md_177t rfl ?_
  refine am_ev.step (pc' := 239) rfl rfl ?_
  refine ax_gf (p' := 242) rfl rfl (S.ob rfl) (S.rf rfl rfl) ?_
  refine fx_bip (p' := 244) rfl rfl rfl ?_
  refine am_ev.step (pc' := 245) rfl rfl ?_
  refine ax_iaload (p' := 246) rfl rfl (S.rd (k := 80) rfl rfl rfl rfl rfl (by decide) cr) ?_
  refine am_ev.step (pc' := 247) rfl rfl ?_
  refine fx_add (p' := 248) (e := ((n : Int) + 1)) rfl rfl (by omega) ?_
  refine ax_iastore (p' := 249) rfl rfl (S.wr (k := 80) rfl rfl rfl rfl (by decide)) ?_
  refine am_ev.step (pc' := 250) rfl rfl ?_
  refine ax_call (z := 170) (p' := 253) (as := [_]) rfl (Or.inr (Or.inl ⟨_, rfl⟩)) rfl rfl rfl rfl rfl rfl (fO (S.ob rfl)) rfl (md_170 (S.pa rfl) (B.put (by decide)) hb hL (ax_put_o (Or.inl (by decide)) w3) (ax_put_o (Or.inl (by decide)) w5) (ax_put_o (Or.inl (by decide)) w7) t1) rfl ?_
  refine am_ev.step (pc' := 208) rfl rfl ?_
  exact q9
theorem mc_R (hb : tz_r b) (hL : L ≤ 1600) (C : mC h h0 b L p s e k v w n) (q : k ≠ 1) : am_ev (d + 3) 211 208 [.ref 78, x1] [] h  (none, h) := by
  obtain ⟨S, B, w3, t0, w4, w5, w6, w7, -, -, f8, f9, zt, cr, fr⟩ := C
  have f0 := t0.f5 hb
  have hr0 := tH_r (k := k) ⟨f0.2.2.2.1, f0.2.2.2.2⟩
  have hh := tH_c (k := k) ⟨f0.2.2.2.1, f0.2.2.2.2⟩
  refine am_ev.step (pc' := 209) rfl rfl ?_
  refine ax_gf (p' := 212) rfl rfl (S.ob rfl) w6 ?_
  refine am_ev.step (pc' := 213) rfl rfl ?_
  refine fx_c_ne_T (pT := 256) rfl (by omega) (by omega) rfl (by omega) ?_
  exact am_ev.retv rfl rfl
end LEN
end
section
/-! LEAVES, both sides: bits and words of a credit -/
theorem cnt_c {τ σ : Nat → Int} : ∀ n, (∀ i, i < n → τ i = σ i) → cnt τ n = cnt σ n
  | 0, _ => rfl
  | n + 1, q => by
    show cnt τ n + τ n = cnt σ n + σ n
    rw [cnt_c n (fun i hi => q i (by omega)), q n (by omega)]
def bv (t : Int32) (i : Nat) : Int := if bt t i = true then 1 else 0
theorem bv_b (t : Int32) (i : Nat) : bv t i = 0 ∨ bv t i = 1 := by
  unfold bv
  split
  · exact Or.inr rfl
  · exact Or.inl rfl
theorem bv_set {t : Int32} {l g : Nat} (hg : g ≤ 19) (hl : l ≤ g) (q : bt t l = false) : cnt (bv (t ||| (Int32.ofInt 1 <<< (Int32.ofInt (l : Int) &&& 31)))) (g + 1) = cnt (bv t) (g + 1) + 1 := by
  have e : cnt (bv (t ||| (Int32.ofInt 1 <<< (Int32.ofInt (l : Int) &&& 31)))) (g + 1) = cnt (up1 (bv t) l 1) (g + 1) := cnt_c _ fun i hi => by
    unfold bv up1
    rw [b_set (by omega) (by omega)]
    by_cases c : i = l
    · rw [if_pos c, c]
      simp
    · rw [if_neg c, decide_eq_false c, Bool.or_false]
  have z : bv t l = 0 := if_neg (by rw [q]; decide)
  rw [e, cnt_u (g + 1) (by omega), z]
  omega
theorem bv_hi {t : Int32} {l g : Nat} (hg : g ≤ 19) (hl : l ≤ g) (q : ∀ i, g < i → i < 31 → bt t i = false) : ∀ i, g < i → i < 31 → bt (t ||| (Int32.ofInt 1 <<< (Int32.ofInt (l : Int) &&& 31))) i = false := fun i a c => by
  rw [b_set (by omega) (by omega), q i a c, decide_eq_false (by omega)]
  rfl
theorem bv_all {t : Int32} {g l : Nat} (hl : l ≤ g) (q : cnt (bv t) (g + 1) = (g : Int) + 1) : bt t l = true := by
  cases z : bt t l with
  | true => rfl
  | false =>
    have e := cnt_u (τ := bv t) (c := l) (v := 1) (g + 1) (by omega)
    have y : bv t l = 0 := if_neg (by rw [z]; decide)
    have u := cnt_b (τ := up1 (bv t) l 1) (g + 1) (fun i hi => by
      unfold up1
      split
      · exact Or.inr rfl
      · exact bv_b t i)
    omega
theorem bv_ne {t : Int32} {g : Nat} (hg : g ≤ 19) (q : ∀ i, g < i → i < 31 → bt t i = false) : t ≠ Int32.ofInt (-1) := fun z => by
  have a := q 30 (by omega) (by decide)
  rw [z] at a
  have c : bt (Int32.ofInt (-1)) 30 = true := by decide +kernel
  rw [c] at a
  cases a
/-- how bits come to their end: well; the sign that ends the clause fails; another fault -/
def BR (d : Nat) (h0 g0 : am_H) (b : Nat → Int) (L g : Nat) (h G : am_H) (l1 : List Value) (pc2 : Nat) (l2 : List Value) : Prop := ∃ H M : am_H,
  (∃ (t : Int32) (p s e : Nat) (v w : Int), am_ev (d + 3) 79 4 l1 [] h (some (.int t), H) ∧ am_ev (d + 3) 212 pc2 l2 [] G (some (.int t), M) ∧ t ≠ Int32.ofInt (-1) ∧ (∀ i, g < i → i < 31 → bt t i = false) ∧ cT H h0 b L e ∧ mT M g0 b L p s e 59 v w) ∨
  (∃ (t : Int32) (p s e : Nat) (k v w : Int), am_ev (d + 3) 79 4 l1 [] h (some (iv (-1)), H) ∧ am_ev (d + 3) 212 pc2 l2 [] G (some (.int t), M) ∧ k ≠ 59 ∧ cX H h0 1 s ∧ mT M g0 b L p s e k v w) ∨
  (∃ (f : Int) (s : Nat), am_ev (d + 3) 79 4 l1 [] h (some (iv (-1)), H) ∧ am_ev (d + 3) 212 pc2 l2 [] G (some (.retAddr (79 + 1)), M) ∧ cX H h0 f s ∧ mX M g0 f s)
section BRA
variable {d : Nat} {h0 g0 : am_H} {b : Nat → Int} {L g : Nat}
theorem BR.on {h G h' G' : am_H} {l1 l1' l2 l2' : List Value} {pc2 pc2' : Nat} (a : ∀ x, am_ev (d + 3) 79 4 l1' [] h' x → am_ev (d + 3) 79 4 l1 [] h x) (c : ∀ x, am_ev (d + 3) 212 pc2' l2' [] G' x → am_ev (d + 3) 212 pc2 l2 [] G x) (q : BR d h0 g0 b L g h' G' l1' pc2' l2') : BR d h0 g0 b L g h G l1 pc2 l2 := by
  obtain ⟨H, M, ⟨t, p, s, e, v, w, q1, q2, q3⟩ | ⟨t, p, s, e, k, v, w, q1, q2, q3⟩ | ⟨f, s, q1, q2, q3⟩⟩ := q
  · exact ⟨H, M, Or.inl ⟨t, p, s, e, v, w, a _ q1, c _ q2, q3⟩⟩
  · exact ⟨H, M, Or.inr (Or.inl ⟨t, p, s, e, k, v, w, a _ q1, c _ q2, q3⟩)⟩
  · exact ⟨H, M, Or.inr (Or.inr ⟨f, s, a _ q1, c _ q2, q3⟩)⟩
theorem BR.fail {h G : am_H} {l1 l2 : List Value} {pc2 s : Nat} {f : Int} (a : ∃ H : am_H, am_ev (d + 3) 79 4 l1 [] h (some (iv (-1)), H) ∧ cX H h0 f s) (c : ∃ M : am_H, am_ev (d + 3) 212 pc2 l2 [] G (some (.retAddr (79 + 1)), M) ∧ mX M g0 f s) : BR d h0 g0 b L g h G l1 pc2 l2 := by
  obtain ⟨H, a1, a2⟩ := a
  obtain ⟨M, c1, c2⟩ := c
  exact ⟨H, M, Or.inr (Or.inr ⟨f, s, a1, c1, a2, c2⟩)⟩
theorem br_loop (hb : tz_r b) (hL : L ≤ 1600) (hg : g ≤ 19) : ∀ (m n p s e : Nat) (k v w : Int) (t : Int32) (h G : am_H) (x3 : Value), g + 2 - n ≤ m → 1 ≤ n → cnt (bv t) (g + 1) = (n : Int) → (∀ i, g < i → i < 31 → bt t i = false) → cT h h0 b L p → mT G g0 b L p s e k v w → BR d h0 g0 b L g h G [.ref 41, iv g, .int t, iv n] 39 [.ref 78, iv ((g : Int) + 1), .int t, x3]
  | 0, n, p, s, e, k, v, w, t, h, G, x3, hm, n1, hc, hi, C, M => by
    have := cnt_b (τ := bv t) (g + 1) (fun i _ => bv_b t i)
    omega
  | m + 1, n, p, s, e, k, v, w, t, h, G, x3, hm, n1, hc, hi, C, M => by
    have hn : n ≤ g + 1 := by
      have := cnt_b (τ := bv t) (g + 1) (fun i _ => bv_b t i)
      omega
    have t0 : tz_t b L p s e k v := M.2.2.2.1
    have f0 := t0.f5 hb
    by_cases k2 : k = 2
    · have on := mb_on (d := d) (t := t) (g := g) (x3 := x3) hb hL M k2
      have u0 := t0.bd hb k2
      by_cases c1 : (g : Int) < v
      · obtain ⟨M1, x1, x2⟩ := mb_B (d := d) (t := t) (x3 := x3) hb hL M hg k2 c1
        exact BR.fail (cb_B1 (d := d + 1) hb hL C t0 hn hg n1 k2 c1) ⟨M1, on _ x1, x2⟩
      · obtain ⟨l, el⟩ : ∃ l : Nat, v = (l : Int) := ⟨v.toNat, by omega⟩
        subst el
        have hl : l ≤ g := by omega
        cases q2 : bt t l with
        | true =>
          obtain ⟨M1, x1, x2⟩ := mb_C (d := d) (x3 := x3) hb hL M hg hl k2 q2
          exact BR.fail (cb_C1 (d := d + 1) hb hL C t0 hn hg n1 hl k2 q2) ⟨M1, on _ x1, x2⟩
        | false =>
          obtain ⟨s1, e1, k1, v1, t1⟩ := tz_t_ex (b := b) f0.2.2.1
          obtain ⟨H1, C1, a1⟩ := cb_N1 (d := d + 1) hb hL C t0 hn hg n1 hl k2 q2
          obtain ⟨G1, M1, a2⟩ := mb_N (d := d) (x3 := x3) hb hL M hg hl k2 q2 t1
          have IH := br_loop hb hL hg m (n + 1) e s1 e1 k1 v1 _ _ H1 G1 (iv l) (by omega) (by omega) (by rw [bv_set hg hl q2]; omega) (bv_hi hg hl hi) C1 M1
          exact IH.on (fun x y => a1 x (rr_n ▸ y)) (fun x y => on x (a2 x y))
    · have R := mb_R (d := d) (t := t) (g := g) (x3 := x3) hb hL M k2
      by_cases k59 : k = 59
      · subst k59
        obtain ⟨H, x1, x2⟩ := cb_R (d := d + 1) hb hL C t0 hn hg n1 rfl
        exact ⟨H, G, Or.inl ⟨t, p, s, e, v, w, x1, R, bv_ne hg hi, hi, x2, M⟩⟩
      · obtain ⟨H, x1, x2⟩ := cb_A1 (d := d + 1) hb hL C t0 hn hg n1 k2 k59
        exact ⟨H, G, Or.inr (Or.inl ⟨t, p, s, e, k, v, w, x1, R, k59, x2, M⟩)⟩
theorem br_all (hb : tz_r b) (hL : L ≤ 1600) (hg : g ≤ 19) {p s e : Nat} {k v w : Int} {h G : am_H} (C : cT h h0 b L p) (M : mT G g0 b L p s e k v w) : BR d h0 g0 b L g h G [.ref 41, iv g, .int (Int32.ofInt 0), iv 0] 2 [.ref 78, iv ((g : Int) + 1), .int (Int32.ofInt 0), am_ph] := by
  have t0 : tz_t b L p s e k v := M.2.2.2.1
  have f0 := t0.f5 hb
  by_cases k2 : k = 2
  · have u0 := t0.bd hb k2
    by_cases c1 : (g : Int) < v
    · exact BR.fail (cb_B0 (d := d + 1) (n := 0) hb hL C t0 (by omega) hg rfl k2 c1) (mb_B (d := d) hb hL M hg k2 c1)
    · obtain ⟨l, el⟩ : ∃ l : Nat, v = (l : Int) := ⟨v.toNat, by omega⟩
      subst el
      have hl : l ≤ g := by omega
      have q2 : bt (Int32.ofInt 0) l = false := bt_0 l (by omega)
      obtain ⟨s1, e1, k1, v1, t1⟩ := tz_t_ex (b := b) f0.2.2.1
      obtain ⟨H1, C1, a1⟩ := cb_N0 (d := d + 1) (n := 0) hb hL C t0 (by omega) hg rfl hl k2 q2
      obtain ⟨G1, M1, a2⟩ := mb_N (d := d) (x3 := am_ph) hb hL M hg hl k2 q2 t1
      have z0 : cnt (bv (Int32.ofInt 0)) (g + 1) = 0 := by
        have e : cnt (bv (Int32.ofInt 0)) (g + 1) = cnt (fun _ => 0) (g + 1) := cnt_c _ fun i hi => if_neg (by rw [bt_0 i (by omega)]; decide)
        rw [e]
        have : ∀ n, cnt (fun _ => (0 : Int)) n = 0 := fun n => by
          induction n with
          | zero => rfl
          | succ n ih =>
            show cnt (fun _ => (0 : Int)) n + 0 = 0
            rw [ih]
            rfl
        exact this _
      have IH := br_loop (d := d) hb hL hg (g + 2) 1 e s1 e1 k1 v1 _ _ H1 G1 (iv l) (by omega) (by omega) (by rw [bv_set hg hl q2, z0]; rfl) (bv_hi hg hl (fun i a c => bt_0 i (by omega))) C1 M1
      exact IH.on (fun x y => a1 x y) (fun x y => a2 x y)
  · exact BR.fail (cb_A0 (d := d + 1) (n := 0) hb hL C t0 (by omega) hg rfl k2) (mb_A (d := d) hb hL M hg k2)
/-- how a credit comes to its end -/
def CRr (d : Nat) (h0 g0 : am_H) (b : Nat → Int) (L q : Nat) (h G : am_H) (l1 l2 : List Value) : Prop := ∃ H M : am_H,
  (∃ (n p s e : Nat) (v w : Int), am_ev (d + 3) 84 2 l1 [] h (some (iv 1), am_put H q 8 (iv n)) ∧ am_ev (d + 4) 211 208 l2 [] G (none, M) ∧ cT H h0 b L e ∧ mC M g0 b L p s e 59 v w n) ∨
  (∃ (n p s e : Nat) (k v w : Int), am_ev (d + 3) 84 2 l1 [] h (some (iv 0), H) ∧ am_ev (d + 4) 211 208 l2 [] G (none, M) ∧ k ≠ 59 ∧ cX H h0 1 s ∧ mC M g0 b L p s e k v w n) ∨
  (∃ (f : Int) (s : Nat), am_ev (d + 3) 84 2 l1 [] h (some (iv 0), H) ∧ am_ev (d + 4) 211 208 l2 [] G (some (.retAddr (79 + 1)), M) ∧ cX H h0 f s ∧ mCX M g0 f s)
theorem CRr.on {q : Nat} {h G h' G' : am_H} {l1 l1' l2 l2' : List Value} (a : ∀ x, am_ev (d + 3) 84 2 l1' [] h' x → am_ev (d + 3) 84 2 l1 [] h x) (c : ∀ x, am_ev (d + 4) 211 208 l2' [] G' x → am_ev (d + 4) 211 208 l2 [] G x) (z : CRr d h0 g0 b L q h' G' l1' l2') : CRr d h0 g0 b L q h G l1 l2 := by
  obtain ⟨H, M, ⟨n, p, s, e, v, w, q1, q2, q3⟩ | ⟨n, p, s, e, k, v, w, q1, q2, q3⟩ | ⟨f, s, q1, q2, q3⟩⟩ := z
  · exact ⟨H, M, Or.inl ⟨n, p, s, e, v, w, a _ q1, c _ q2, q3⟩⟩
  · exact ⟨H, M, Or.inr (Or.inl ⟨n, p, s, e, k, v, w, a _ q1, c _ q2, q3⟩)⟩
  · exact ⟨H, M, Or.inr (Or.inr ⟨f, s, a _ q1, c _ q2, q3⟩)⟩
theorem cr_loop {q : Nat} (hb : tz_r b) (hL : L ≤ 1600) (hq : 130 ≤ q) : ∀ (m n p s e : Nat) (k v w : Int) (h G : am_H) (x1 : Value), 6 - n ≤ m → n ≤ 6 → (n = 0 → k = 1) → am_isO h q 4 = true → am_isO h0 q 4 = true → cT h h0 b L p → mC G g0 b L p s e k v w n → CRr d h0 g0 b L q h G [.ref q, .ref 41, iv n] [.ref 78, x1]
  | m, n, p, s, e, k, v, w, h, G, x1, hm, hn, n0, O, O0, C, M => by
    have t0 : tz_t b L p s e k v := M.2.2.2.1
    have f0 := t0.f5 hb
    by_cases k1 : k = 1
    · by_cases n6 : n = 6
      · obtain ⟨H, a1, a2⟩ := cc_7 (d := d + 1) hb hL C t0 O hq n6 k1
        obtain ⟨M1, c1, c2⟩ := mc_7 (d := d + 1) (x1 := x1) hb hL M k1 n6
        exact ⟨H, M1, Or.inr (Or.inr ⟨4, s, a1, c1, a2, c2⟩)⟩
      · obtain ⟨s1, e1, k1', v1, t1⟩ := tz_t_ex (b := b) f0.2.2.1
        obtain ⟨G1, M1, c1⟩ := mc_N (d := d + 1) (x1 := x1) hb hL M k1 (by omega) t1
        have hc : ∃ H : am_H, cT H h0 b L e ∧ ∀ x, am_ev (d + 3) 84 2 [.ref q, .ref 41, iv ((n : Int) + 1)] [] H x → am_ev (d + 3) 84 2 [.ref q, .ref 41, iv (n : Int)] [] h x := by
          by_cases z : n = 0
          · exact cc_N0 (d := d + 1) hb hL C t0 O hq z k1
          · exact cc_N1 (d := d + 1) hb hL C t0 O hq (by omega) (by omega) k1
        obtain ⟨H1, C1, a1⟩ := hc
        have O1 : am_isO H1 q 4 = true := by
          have z := C1.2.2.2.2.2.2.1
          unfold am_isO at O0 ⊢
          rw [z.1, z.2]
          exact O0
        cases m with
        | zero => omega
        | succ m =>
          have IH := cr_loop hb hL hq m (n + 1) e s1 e1 k1' v1 _ H1 G1 x1 (by omega) (by omega) (fun z => by omega) O1 O0 C1 M1
          exact IH.on (fun x y => a1 x (rr_n ▸ y)) (fun x y => c1 x y)
    · have n1 : 1 ≤ n := by
        rcases Nat.eq_zero_or_pos n with z | z
        · exact absurd (n0 z) k1
        · exact z
      have R := mc_R (d := d + 1) (x1 := x1) hb hL M k1
      by_cases k59 : k = 59
      · subst k59
        obtain ⟨H, a1, a2⟩ := cc_R (d := d + 1) hb hL C t0 O hq n1 hn rfl
        exact ⟨H, G, Or.inl ⟨n, p, s, e, v, w, a1, R, a2, M⟩⟩
      · obtain ⟨H, a1, a2⟩ := cc_A1 (d := d + 1) hb hL C t0 O hq n1 hn k1 k59
        exact ⟨H, G, Or.inr (Or.inl ⟨n, p, s, e, k, v, w, a1, R, k59, a2, M⟩)⟩
end BRA
end
section
/-! LEAVES: the states of a reading -/
def upV (Φ : Nat → Value) (i : Nat) (v : Value) : Nat → Value := fun j => if j = i then v else Φ j
/-- the program's state while a leave at cell q is read -/
def lC (h h0 : am_H) (q : Nat) (b : Nat → Int) (L p : Nat) (Φ : Nat → Value) : Prop := fS h ∧ tb h 42 b L ∧ h.2.2.2 41 1 = iv L ∧ h.2.2.2 41 6 = iv p ∧ h.2.2.2 41 3 = iv 0 ∧ h.2.2.2 41 4 = iv (-1) ∧ (h.1 = h0.1 ∧ h.2.2.1 = h0.2.2.1) ∧ am_isO h q 4 = true ∧ 130 ≤ q ∧ (∀ c j, c ≠ 41 → c ≠ q → h.2.2.2 c j = h0.2.2.2 c j) ∧ (∀ j, 2 ≤ j → j ≤ 8 → h.2.2.2 q j = Φ j) ∧ (∀ j, (j < 2 ∨ 8 < j) → h.2.2.2 q j = h0.2.2.2 q j)
def lX (h h0 : am_H) (q : Nat) (f : Int) (s : Nat) : Prop := fS h ∧ h.2.2.2 41 3 = iv f ∧ h.2.2.2 41 4 = iv s ∧ (h.1 = h0.1 ∧ h.2.2.1 = h0.2.2.1) ∧ 130 ≤ q ∧ (∀ c j, c ≠ 41 → c ≠ q → h.2.2.2 c j = h0.2.2.2 c j)
/-- the other side's -/
def lM (h h0 : am_H) (b : Nat → Int) (L p s e : Nat) (k v w : Int) (τ : Nat → Int) (Φ : Nat → Value) : Prop := fS h ∧ tb h 80 b L ∧ h.2.2.2 78 3 = iv L ∧ tz_t b L p s e k v ∧ h.2.2.2 78 4 = iv s ∧ h.2.2.2 78 5 = iv e ∧ h.2.2.2 78 6 = iv (tH k) ∧ h.2.2.2 78 7 = iv w ∧ (k = 2 → w = v) ∧ (43 ≤ k → w = k) ∧ h.2.2.2 78 8 = iv 0 ∧ h.2.2.2 78 9 = iv (-1) ∧ h.2.2.2 78 2 = iv 0 ∧ (∀ i, i < 6 → h.2.2.2 85 i = iv (τ i)) ∧ (∀ j, 2 ≤ j → j ≤ 8 → h.2.2.2 (102 + j) 80 = Φ j) ∧ ∀ c j, (c ≠ 78 ∨ 10 ≤ j) → c ≠ 85 → (c < 104 ∨ 110 < c ∨ j ≠ 80) → h.2.2.2 c j = h0.2.2.2 c j
def lY (h h0 : am_H) (f : Int) (s : Nat) : Prop := fS h ∧ h.2.2.2 78 8 = iv f ∧ h.2.2.2 78 9 = iv s ∧ h.2.2.2 78 2 = iv 0 ∧ ∀ c j, (c ≠ 78 ∨ 10 ≤ j) → c ≠ 85 → (c < 104 ∨ 110 < c ∨ j ≠ 80) → h.2.2.2 c j = h0.2.2.2 c j
abbrev FMo (h : am_H) (f : Int) (s : Nat) : am_H := am_put (am_put h 78 8 (iv f)) 78 9 (iv s)
section LST
variable {h h0 H g g0 M : am_H} {q : Nat} {b : Nat → Int} {L p s e p' s' e' n : Nat} {k v w k' v' w' f : Int} {τ : Nat → Int} {Φ : Nat → Value}
theorem lC_T1 (C : lC h h0 q b L p Φ) {s e : Nat} {k : Int} : lC (T1 h s e k) h0 q b L e Φ := by
  obtain ⟨S, B, w1, v6, f3, f4, sz, O, hq, fr, F, F2⟩ := C
  exact ⟨((S.po rfl rfl).po rfl rfl).po rfl rfl, ((B.put (by decide)).put (by decide)).put (by decide), ax_put_o (Or.inr (by decide)) (ax_put_o (Or.inr (by decide)) (ax_put_o (Or.inr (by decide)) w1)), ax_put_o (Or.inr (by decide)) (ax_put_s _ _ _), ax_put_o (Or.inr (by decide)) (ax_put_o (Or.inr (by decide)) (ax_put_o (Or.inr (by decide)) f3)), ax_put_o (Or.inr (by decide)) (ax_put_o (Or.inr (by decide)) (ax_put_o (Or.inr (by decide)) f4)), sz, fO (fO (fO O)), hq, fun c j n1 n2 => ax_put_o (Or.inl n1) (ax_put_o (Or.inl n1) (ax_put_o (Or.inl n1) (fr c j n1 n2))), fun j a c => ax_put_o (Or.inl (by omega)) (ax_put_o (Or.inl (by omega)) (ax_put_o (Or.inl (by omega)) (F j a c))), fun j a => ax_put_o (Or.inl (by omega)) (ax_put_o (Or.inl (by omega)) (ax_put_o (Or.inl (by omega)) (F2 j a)))⟩
theorem lC_pu (C : lC h h0 q b L p Φ) {i : Nat} {v : Value} (hi : 2 ≤ i ∧ i ≤ 8) : lC (am_put h q i v) h0 q b L p (upV Φ i v) := by
  obtain ⟨S, B, w1, v6, f3, f4, sz, O, hq, fr, F, F2⟩ := C
  refine ⟨S.pd hq, B.put (by omega), ax_put_o (Or.inl (by omega)) w1, ax_put_o (Or.inl (by omega)) v6, ax_put_o (Or.inl (by omega)) f3, ax_put_o (Or.inl (by omega)) f4, sz, fO O, hq, fun c j n1 n2 => ax_put_o (Or.inl n2) (fr c j n1 n2), fun j a c => ?_, fun j a => ax_put_o (Or.inr (by omega)) (F2 j a)⟩
  by_cases z : j = i
  · rw [z, show upV Φ i v i = v from if_pos rfl]
    exact ax_put_s _ _ _
  · rw [show upV Φ i v j = Φ j from if_neg z]
    exact ax_put_o (Or.inr z) (F j a c)
theorem lC_FL (C : lC h h0 q b L p Φ) {f : Int} {s : Nat} : lX (FL h f s) h0 q f s := by
  obtain ⟨S, B, w1, v6, f3, f4, sz, O, hq, fr, F, F2⟩ := C
  exact ⟨(S.po rfl rfl).po rfl rfl, ax_put_o (Or.inr (by decide)) (ax_put_s _ _ _), ax_put_s _ _ _, sz, hq, fun c j n1 n2 => ax_put_o (Or.inl n1) (ax_put_o (Or.inl n1) (fr c j n1 n2))⟩
theorem lX_pu (C : lX h h0 q f s) {i : Nat} {v : Value} : lX (am_put h q i v) h0 q f s := by
  obtain ⟨S, f3, f4, sz, hq, fr⟩ := C
  exact ⟨S.pd hq, ax_put_o (Or.inl (by omega)) f3, ax_put_o (Or.inl (by omega)) f4, sz, hq, fun c j n1 n2 => ax_put_o (Or.inl n2) (fr c j n1 n2)⟩
theorem lC_cT (C : lC h h0 q b L p Φ) (K : cT H h b L e) : lC H h0 q b L e Φ := by
  obtain ⟨S, B, w1, v6, f3, f4, sz, O, hq, fr, F, F2⟩ := C
  obtain ⟨S', B', w1', v6', f3', f4', sz', fr'⟩ := K
  refine ⟨S', B', w1', v6', f3', f4', ⟨sz'.1.trans sz.1, sz'.2.trans sz.2⟩, ?_, hq, fun c j n1 n2 => (fr' c j n1).trans (fr c j n1 n2), fun j a c => (fr' q j (by omega)).trans (F j a c), fun j a => (fr' q j (by omega)).trans (F2 j a)⟩
  unfold am_isO at O ⊢
  rw [sz'.1, sz'.2]
  exact O
theorem lC_cX (C : lC h h0 q b L p Φ) (K : cX H h f s) : lX H h0 q f s := by
  obtain ⟨S, B, w1, v6, f3, f4, sz, O, hq, fr, F, F2⟩ := C
  obtain ⟨S', f3', f4', sz', fr'⟩ := K
  exact ⟨S', f3', f4', ⟨sz'.1.trans sz.1, sz'.2.trans sz.2⟩, hq, fun c j n1 n2 => (fr' c j n1).trans (fr c j n1 n2)⟩
theorem lC_ct (C : lC h h0 q b L p Φ) : cT h h b L p := by
  obtain ⟨S, B, w1, v6, f3, f4, sz, O, hq, fr, F, F2⟩ := C
  exact ⟨S, B, w1, v6, f3, f4, ⟨rfl, rfl⟩, fun _ _ _ => rfl⟩
theorem lM_mt (C : lM h h0 b L p s e k v w τ Φ) : mT h h b L p s e k v w := by
  obtain ⟨S, B, w3, t0, w4, w5, w6, w7, ya, yb, f8, f9, zt, dT, F, fr⟩ := C
  exact ⟨S, B, w3, t0, w4, w5, w6, w7, ya, yb, f8, f9, zt, fun _ _ _ => rfl⟩
theorem lM_mT (C : lM h h0 b L p s e k v w τ Φ) (K : mT M h b L p' s' e' k' v' w') : lM M h0 b L p' s' e' k' v' w' τ Φ := by
  obtain ⟨S, B, w3, t0, w4, w5, w6, w7, ya, yb, f8, f9, zt, dT, F, fr⟩ := C
  obtain ⟨S', B', w3', t0', w4', w5', w6', w7', ya', yb', f8', f9', zt', fr'⟩ := K
  exact ⟨S', B', w3', t0', w4', w5', w6', w7', ya', yb', f8', f9', zt', fun i hi => (fr' 85 i (Or.inl (by decide))).trans (dT i hi), fun j a c => (fr' (102 + j) 80 (Or.inl (by omega))).trans (F j a c), fun c j n1 n2 n3 => (fr' c j n1).trans (fr c j n1 n2 n3)⟩
theorem lM_mX (C : lM h h0 b L p s e k v w τ Φ) {s' : Nat} (K : mX M h f s') : lY M h0 f s' := by
  obtain ⟨S, B, w3, t0, w4, w5, w6, w7, ya, yb, f8, f9, zt, dT, F, fr⟩ := C
  obtain ⟨S', f8', f9', zt', fr'⟩ := K
  exact ⟨S', f8', f9', zt', fun c j n1 n2 n3 => (fr' c j n1).trans (fr c j n1 n2 n3)⟩
theorem lM_mC (C : lM h h0 b L p s e k v w τ Φ) (K : mC M h b L p' s' e' k' v' w' n) : lM M h0 b L p' s' e' k' v' w' τ (upV Φ 8 (iv n)) := by
  obtain ⟨S, B, w3, t0, w4, w5, w6, w7, ya, yb, f8, f9, zt, dT, F, fr⟩ := C
  obtain ⟨S', B', w3', t0', w4', w5', w6', w7', ya', yb', f8', f9', zt', cr, fr'⟩ := K
  refine ⟨S', B', w3', t0', w4', w5', w6', w7', ya', yb', f8', f9', zt', fun i hi => (fr' 85 i (Or.inl (by decide)) (Or.inl (by decide))).trans (dT i hi), fun j a c => ?_, fun c j n1 n2 n3 => (fr' c j n1 (by omega)).trans (fr c j n1 n2 n3)⟩
  by_cases z : j = 8
  · rw [z, show upV Φ 8 (iv n) 8 = iv n from if_pos rfl]
    exact cr
  · rw [show upV Φ 8 (iv n) j = Φ j from if_neg z]
    exact (fr' (102 + j) 80 (Or.inl (by omega)) (Or.inl (by omega))).trans (F j a c)
theorem lM_mCX (C : lM h h0 b L p s e k v w τ Φ) {s' : Nat} (K : mCX M h f s') : lY M h0 f s' := by
  obtain ⟨S, B, w3, t0, w4, w5, w6, w7, ya, yb, f8, f9, zt, dT, F, fr⟩ := C
  obtain ⟨S', f8', f9', zt', fr'⟩ := K
  exact ⟨S', f8', f9', zt', fun c j n1 n2 n3 => (fr' c j n1 (by omega)).trans (fr c j n1 n2 n3)⟩
theorem lM_M1 (C : lM h h0 b L p s e k v w τ Φ) (t : tz_t b L e s' e' k' v') : lM (M1 h s' e' (tH k') (tV b L s' w)) h0 b L e s' e' k' v' (tV b L s' w) τ Φ := by
  obtain ⟨S, B, w3, t0, w4, w5, w6, w7, ya, yb, f8, f9, zt, dT, F, fr⟩ := C
  exact ⟨(((S.po rfl rfl).po rfl rfl).po rfl rfl).po rfl rfl, (((B.put (by decide)).put (by decide)).put (by decide)).put (by decide), ax_put_o (Or.inr (by decide)) (ax_put_o (Or.inr (by decide)) (ax_put_o (Or.inr (by decide)) (ax_put_o (Or.inr (by decide)) w3))), t, ax_put_o (Or.inr (by decide)) (ax_put_o (Or.inr (by decide)) (ax_put_o (Or.inr (by decide)) (ax_put_s _ _ _))), ax_put_o (Or.inr (by decide)) (ax_put_s _ _ _), ax_put_s _ _ _, ax_put_o (Or.inr (by decide)) (ax_put_o (Or.inr (by decide)) (ax_put_s _ _ _)), (t.v _).1, (t.v _).2, ax_put_o (Or.inr (by decide)) (ax_put_o (Or.inr (by decide)) (ax_put_o (Or.inr (by decide)) (ax_put_o (Or.inr (by decide)) f8))), ax_put_o (Or.inr (by decide)) (ax_put_o (Or.inr (by decide)) (ax_put_o (Or.inr (by decide)) (ax_put_o (Or.inr (by decide)) f9))), ax_put_o (Or.inr (by decide)) (ax_put_o (Or.inr (by decide)) (ax_put_o (Or.inr (by decide)) (ax_put_o (Or.inr (by decide)) zt))), fun i hi => ax_put_o (Or.inl (by decide)) (ax_put_o (Or.inl (by decide)) (ax_put_o (Or.inl (by decide)) (ax_put_o (Or.inl (by decide)) (dT i hi)))), fun j a c => ax_put_o (Or.inl (by omega)) (ax_put_o (Or.inl (by omega)) (ax_put_o (Or.inl (by omega)) (ax_put_o (Or.inl (by omega)) (F j a c)))), fun c j n1 n2 n3 => ax_put_o (by omega) (ax_put_o (by omega) (ax_put_o (by omega) (ax_put_o (by omega) (fr c j n1 n2 n3))))⟩
theorem lM_pu (C : lM h h0 b L p s e k v w τ Φ) {i : Nat} {u : Value} (hi : 2 ≤ i ∧ i ≤ 8) (SS : fS (am_put h (102 + i) 80 u)) : lM (am_put h (102 + i) 80 u) h0 b L p s e k v w τ (upV Φ i u) := by
  obtain ⟨S, B, w3, t0, w4, w5, w6, w7, ya, yb, f8, f9, zt, dT, F, fr⟩ := C
  refine ⟨SS, B.put (by omega), ax_put_o (Or.inl (by omega)) w3, t0, ax_put_o (Or.inl (by omega)) w4, ax_put_o (Or.inl (by omega)) w5, ax_put_o (Or.inl (by omega)) w6, ax_put_o (Or.inl (by omega)) w7, ya, yb, ax_put_o (Or.inl (by omega)) f8, ax_put_o (Or.inl (by omega)) f9, ax_put_o (Or.inl (by omega)) zt, fun i' hi' => ax_put_o (Or.inl (by omega)) (dT i' hi'), fun j a c => ?_, fun c j n1 n2 n3 => ax_put_o (by omega) (fr c j n1 n2 n3)⟩
  by_cases z : j = i
  · rw [z, show upV Φ i u i = u from if_pos rfl]
    exact ax_put_s _ _ _
  · rw [show upV Φ i u j = Φ j from if_neg z]
    exact ax_put_o (Or.inl (by omega)) (F j a c)
theorem lM_pt (C : lM h h0 b L p s e k v w τ Φ) {i : Nat} : lM (am_put h 85 i (iv 1)) h0 b L p s e k v w (up1 τ i 1) Φ := by
  obtain ⟨S, B, w3, t0, w4, w5, w6, w7, ya, yb, f8, f9, zt, dT, F, fr⟩ := C
  refine ⟨S.pa rfl, B.put (by decide), ax_put_o (Or.inl (by decide)) w3, t0, ax_put_o (Or.inl (by decide)) w4, ax_put_o (Or.inl (by decide)) w5, ax_put_o (Or.inl (by decide)) w6, ax_put_o (Or.inl (by decide)) w7, ya, yb, ax_put_o (Or.inl (by decide)) f8, ax_put_o (Or.inl (by decide)) f9, ax_put_o (Or.inl (by decide)) zt, fun j hj => ?_, fun j a c => ax_put_o (Or.inl (by omega)) (F j a c), fun c j n1 n2 n3 => ax_put_o (Or.inl n2) (fr c j n1 n2 n3)⟩
  by_cases z : j = i
  · rw [z, show up1 τ i 1 i = 1 from if_pos rfl]
    exact ax_put_s _ _ _
  · rw [show up1 τ i 1 j = τ j from if_neg z]
    exact ax_put_o (Or.inr z) (dT j hj)
theorem lM_FM (C : lM h h0 b L p s e k v w τ Φ) {f : Int} {s' : Nat} : lY (FMo h f s') h0 f s' := by
  obtain ⟨S, B, w3, t0, w4, w5, w6, w7, ya, yb, f8, f9, zt, dT, F, fr⟩ := C
  exact ⟨(S.po rfl rfl).po rfl rfl, ax_put_o (Or.inr (by decide)) (ax_put_s _ _ _), ax_put_s _ _ _, ax_put_o (Or.inr (by decide)) (ax_put_o (Or.inr (by decide)) zt), fun c j n1 n2 n3 => ax_put_o (by omega) (ax_put_o (by omega) (fr c j n1 n2 n3))⟩
end LST
end
section
/-! LEAVES: clauses, the program's side -/
section LF1
variable {d : Nat} {h h0 H : am_H} {b : Nat → Int} {L p s e n l q : Nat} {k v r : Int} {t : Int32} {Φ : Nat → Value} {a4 : Value}
theorem lf_79 {x : Option Value × am_H} (q9 : am_ev d 79 4 [.ref 41, iv l, .int (Int32.ofInt 0), iv 0] [] h x) : am_ev d 79 0 (am_ent [.ref 41, iv l] 4) [] h x := by
  show am_ev d 79 0 [.ref 41, iv l, am_ph, am_ph] [] h x
  refine am_ev.step (pc' := 1) rfl rfl ?_
  refine am_ev.step (pc' := 2) (ls' := [.ref 41, iv ((l : Int)), iv 0, am_ph]) rfl rfl ?_
  refine am_ev.step (pc' := 3) rfl rfl ?_
  refine am_ev.step (pc' := 4) (ls' := [.ref 41, iv ((l : Int)), iv 0, iv 0]) rfl rfl ?_
  exact q9
theorem lf_84 {x : Option Value × am_H} (q9 : am_ev d 84 2 [.ref q, .ref 41, iv ((0 : Nat) : Int)] [] h x) : am_ev d 84 0 (am_ent [.ref q, .ref 41] 3) [] h x := by
  show am_ev d 84 0 [.ref q, .ref 41, am_ph] [] h x
  refine am_ev.step (pc' := 1) rfl rfl ?_
  refine am_ev.step (pc' := 2) (ls' := [.ref q, .ref 41, iv 0]) rfl rfl ?_
  exact q9
theorem lf_78_0a (O : am_isO h q 4 = true) (SH : fS H) (OH : am_isO H q 4 = true) (hq : 130 ≤ q) (z : am_ev (d + 2) 79 0 (am_ent [.ref 41, iv 5] 4) [] h (some (.int t), H)) (ne : ¬ t = Int32.ofInt (-1)) : am_ev (d + 3) 78 0 (am_ent [.ref q, iv 0, .ref 41] 3) [] h (some (iv 1), am_put H q 2 (.int t)) := by
  show am_ev (d + 3) 78 0 [.ref q, iv 0, .ref 41] [] h _
  refine am_ev.step (pc' := 1) rfl rfl ?_
  refine fx_ts (p' := 36) rfl (by omega) (by omega) rfl (by decide) ?_
  refine am_ev.step (pc' := 37) rfl rfl ?_
  refine am_ev.step (pc' := 38) rfl rfl ?_
  refine am_ev.step (pc' := 39) rfl rfl ?_
  refine ax_call (z := 79) (p' := 42) (as := [_, _]) rfl (Or.inl ⟨_, rfl⟩) rfl rfl rfl rfl rfl rfl rfl rfl z rfl ?_
  refine ax_pf (p' := 45) rfl rfl OH rfl ?_
  refine am_ev.step (pc' := 46) rfl rfl ?_
  refine ax_gf (p' := 49) rfl rfl (fO OH) (ax_put_s _ _ _) ?_
  refine am_ev.step (pc' := 50) rfl rfl ?_
  refine am_ev.step (pc' := 53) rfl (if_neg ne) ?_
  refine am_ev.step (pc' := 54) rfl rfl ?_
  refine am_ev.step (pc' := 58) rfl rfl ?_
  exact fx_reti rfl rfl rfl
theorem lf_78_0b (O : am_isO h q 4 = true) (SH : fS H) (OH : am_isO H q 4 = true) (hq : 130 ≤ q) (z : am_ev (d + 2) 79 0 (am_ent [.ref 41, iv 5] 4) [] h (some (iv (-1)), H)) : am_ev (d + 3) 78 0 (am_ent [.ref q, iv 0, .ref 41] 3) [] h (some (iv 0), am_put H q 2 (iv (-1))) := by
  show am_ev (d + 3) 78 0 [.ref q, iv 0, .ref 41] [] h _
  refine am_ev.step (pc' := 1) rfl rfl ?_
  refine fx_ts (p' := 36) rfl (by omega) (by omega) rfl (by decide) ?_
  refine am_ev.step (pc' := 37) rfl rfl ?_
  refine am_ev.step (pc' := 38) rfl rfl ?_
  refine am_ev.step (pc' := 39) rfl rfl ?_
  refine ax_call (z := 79) (p' := 42) (as := [_, _]) rfl (Or.inl ⟨_, rfl⟩) rfl rfl rfl rfl rfl rfl rfl rfl z rfl ?_
  refine ax_pf (p' := 45) rfl rfl OH rfl ?_
  refine am_ev.step (pc' := 46) rfl rfl ?_
  refine ax_gf (p' := 49) rfl rfl (fO OH) (ax_put_s _ _ _) ?_
  refine am_ev.step (pc' := 50) rfl rfl ?_
  refine fx_c_eq_T (pT := 57) rfl (by omega) (by omega) rfl (by omega) ?_
  refine am_ev.step (pc' := 58) rfl rfl ?_
  exact fx_reti rfl rfl rfl
theorem lf_78_3a (O : am_isO h q 4 = true) (SH : fS H) (OH : am_isO H q 4 = true) (hq : 130 ≤ q) (z : am_ev (d + 2) 79 0 (am_ent [.ref 41, iv 19] 4) [] h (some (.int t), H)) (ne : ¬ t = Int32.ofInt (-1)) : am_ev (d + 3) 78 0 (am_ent [.ref q, iv 3, .ref 41] 3) [] h (some (iv 1), am_put H q 6 (.int t)) := by
  show am_ev (d + 3) 78 0 [.ref q, iv 3, .ref 41] [] h _
  refine am_ev.step (pc' := 1) rfl rfl ?_
  refine fx_ts (p' := 71) rfl (by omega) (by omega) rfl (by decide) ?_
  refine am_ev.step (pc' := 72) rfl rfl ?_
  refine am_ev.step (pc' := 73) rfl rfl ?_
  refine fx_bip (p' := 75) rfl rfl rfl ?_
  refine ax_call (z := 79) (p' := 78) (as := [_, _]) rfl (Or.inl ⟨_, rfl⟩) rfl rfl rfl rfl rfl rfl rfl rfl z rfl ?_
  refine ax_pf (p' := 81) rfl rfl OH rfl ?_
  refine am_ev.step (pc' := 82) rfl rfl ?_
  refine ax_gf (p' := 85) rfl rfl (fO OH) (ax_put_s _ _ _) ?_
  refine am_ev.step (pc' := 86) rfl rfl ?_
  refine am_ev.step (pc' := 89) rfl (if_neg ne) ?_
  refine am_ev.step (pc' := 90) rfl rfl ?_
  refine am_ev.step (pc' := 94) rfl rfl ?_
  exact fx_reti rfl rfl rfl
theorem lf_78_3b (O : am_isO h q 4 = true) (SH : fS H) (OH : am_isO H q 4 = true) (hq : 130 ≤ q) (z : am_ev (d + 2) 79 0 (am_ent [.ref 41, iv 19] 4) [] h (some (iv (-1)), H)) : am_ev (d + 3) 78 0 (am_ent [.ref q, iv 3, .ref 41] 3) [] h (some (iv 0), am_put H q 6 (iv (-1))) := by
  show am_ev (d + 3) 78 0 [.ref q, iv 3, .ref 41] [] h _
  refine am_ev.step (pc' := 1) rfl rfl ?_
  refine fx_ts (p' := 71) rfl (by omega) (by omega) rfl (by decide) ?_
  refine am_ev.step (pc' := 72) rfl rfl ?_
  refine am_ev.step (pc' := 73) rfl rfl ?_
  refine fx_bip (p' := 75) rfl rfl rfl ?_
  refine ax_call (z := 79) (p' := 78) (as := [_, _]) rfl (Or.inl ⟨_, rfl⟩) rfl rfl rfl rfl rfl rfl rfl rfl z rfl ?_
  refine ax_pf (p' := 81) rfl rfl OH rfl ?_
  refine am_ev.step (pc' := 82) rfl rfl ?_
  refine ax_gf (p' := 85) rfl rfl (fO OH) (ax_put_s _ _ _) ?_
  refine am_ev.step (pc' := 86) rfl rfl ?_
  refine fx_c_eq_T (pT := 93) rfl (by omega) (by omega) rfl (by omega) ?_
  refine am_ev.step (pc' := 94) rfl rfl ?_
  exact fx_reti rfl rfl rfl
theorem lf_78_1_0 (O : am_isO h q 4 = true) (z : am_ev d 81 0 (am_ent [.ref q, .ref 41] 2) [] h (some (iv 0), H)) : am_ev (d + 1) 78 0 (am_ent [.ref q, iv 1, .ref 41] 3) [] h (some (iv 0), H) := by
  show am_ev (d + 1) 78 0 [.ref q, iv 1, .ref 41] [] h _
  refine am_ev.step (pc' := 1) rfl rfl ?_
  refine fx_ts (p' := 59) rfl (by omega) (by omega) rfl (by decide) ?_
  refine am_ev.step (pc' := 60) rfl rfl ?_
  refine am_ev.step (pc' := 61) rfl rfl ?_
  refine ax_call (z := 81) (p' := 64) (as := [_, _]) rfl (Or.inr (Or.inl ⟨_, rfl⟩)) rfl rfl rfl rfl rfl rfl O rfl z rfl ?_
  exact fx_reti rfl rfl rfl
theorem lf_78_1_1 (O : am_isO h q 4 = true) (z : am_ev d 81 0 (am_ent [.ref q, .ref 41] 2) [] h (some (iv 1), H)) : am_ev (d + 1) 78 0 (am_ent [.ref q, iv 1, .ref 41] 3) [] h (some (iv 1), H) := by
  show am_ev (d + 1) 78 0 [.ref q, iv 1, .ref 41] [] h _
  refine am_ev.step (pc' := 1) rfl rfl ?_
  refine fx_ts (p' := 59) rfl (by omega) (by omega) rfl (by decide) ?_
  refine am_ev.step (pc' := 60) rfl rfl ?_
  refine am_ev.step (pc' := 61) rfl rfl ?_
  refine ax_call (z := 81) (p' := 64) (as := [_, _]) rfl (Or.inr (Or.inl ⟨_, rfl⟩)) rfl rfl rfl rfl rfl rfl O rfl z rfl ?_
  exact fx_reti rfl rfl rfl
theorem lf_78_2_0 (O : am_isO h q 4 = true) (z : am_ev d 82 0 (am_ent [.ref q, .ref 41] 2) [] h (some (iv 0), H)) : am_ev (d + 1) 78 0 (am_ent [.ref q, iv 2, .ref 41] 3) [] h (some (iv 0), H) := by
  show am_ev (d + 1) 78 0 [.ref q, iv 2, .ref 41] [] h _
  refine am_ev.step (pc' := 1) rfl rfl ?_
  refine fx_ts (p' := 65) rfl (by omega) (by omega) rfl (by decide) ?_
  refine am_ev.step (pc' := 66) rfl rfl ?_
  refine am_ev.step (pc' := 67) rfl rfl ?_
  refine ax_call (z := 82) (p' := 70) (as := [_, _]) rfl (Or.inr (Or.inl ⟨_, rfl⟩)) rfl rfl rfl rfl rfl rfl O rfl z rfl ?_
  exact fx_reti rfl rfl rfl
theorem lf_78_2_1 (O : am_isO h q 4 = true) (z : am_ev d 82 0 (am_ent [.ref q, .ref 41] 2) [] h (some (iv 1), H)) : am_ev (d + 1) 78 0 (am_ent [.ref q, iv 2, .ref 41] 3) [] h (some (iv 1), H) := by
  show am_ev (d + 1) 78 0 [.ref q, iv 2, .ref 41] [] h _
  refine am_ev.step (pc' := 1) rfl rfl ?_
  refine fx_ts (p' := 65) rfl (by omega) (by omega) rfl (by decide) ?_
  refine am_ev.step (pc' := 66) rfl rfl ?_
  refine am_ev.step (pc' := 67) rfl rfl ?_
  refine ax_call (z := 82) (p' := 70) (as := [_, _]) rfl (Or.inr (Or.inl ⟨_, rfl⟩)) rfl rfl rfl rfl rfl rfl O rfl z rfl ?_
  exact fx_reti rfl rfl rfl
theorem lf_78_4_0 (O : am_isO h q 4 = true) (z : am_ev d 83 0 (am_ent [.ref q, .ref 41] 2) [] h (some (iv 0), H)) : am_ev (d + 1) 78 0 (am_ent [.ref q, iv 4, .ref 41] 3) [] h (some (iv 0), H) := by
  show am_ev (d + 1) 78 0 [.ref q, iv 4, .ref 41] [] h _
  refine am_ev.step (pc' := 1) rfl rfl ?_
  refine fx_ts (p' := 95) rfl (by omega) (by omega) rfl (by decide) ?_
  refine am_ev.step (pc' := 96) rfl rfl ?_
  refine am_ev.step (pc' := 97) rfl rfl ?_
  refine ax_call (z := 83) (p' := 100) (as := [_, _]) rfl (Or.inr (Or.inl ⟨_, rfl⟩)) rfl rfl rfl rfl rfl rfl O rfl z rfl ?_
  exact fx_reti rfl rfl rfl
theorem lf_78_4_1 (O : am_isO h q 4 = true) (z : am_ev d 83 0 (am_ent [.ref q, .ref 41] 2) [] h (some (iv 1), H)) : am_ev (d + 1) 78 0 (am_ent [.ref q, iv 4, .ref 41] 3) [] h (some (iv 1), H) := by
  show am_ev (d + 1) 78 0 [.ref q, iv 4, .ref 41] [] h _
  refine am_ev.step (pc' := 1) rfl rfl ?_
  refine fx_ts (p' := 95) rfl (by omega) (by omega) rfl (by decide) ?_
  refine am_ev.step (pc' := 96) rfl rfl ?_
  refine am_ev.step (pc' := 97) rfl rfl ?_
  refine ax_call (z := 83) (p' := 100) (as := [_, _]) rfl (Or.inr (Or.inl ⟨_, rfl⟩)) rfl rfl rfl rfl rfl rfl O rfl z rfl ?_
  exact fx_reti rfl rfl rfl
theorem lf_78_5_0 (O : am_isO h q 4 = true) (z : am_ev d 84 0 (am_ent [.ref q, .ref 41] 3) [] h (some (iv 0), H)) : am_ev (d + 1) 78 0 (am_ent [.ref q, iv 5, .ref 41] 3) [] h (some (iv 0), H) := by
  show am_ev (d + 1) 78 0 [.ref q, iv 5, .ref 41] [] h _
  refine am_ev.step (pc' := 1) rfl rfl ?_
  refine fx_td (p' := 101) rfl (by omega) (by omega) (by decide) ?_
  refine am_ev.step (pc' := 102) rfl rfl ?_
  refine am_ev.step (pc' := 103) rfl rfl ?_
  refine ax_call (z := 84) (p' := 106) (as := [_, _]) rfl (Or.inr (Or.inl ⟨_, rfl⟩)) rfl rfl rfl rfl rfl rfl O rfl z rfl ?_
  exact fx_reti rfl rfl rfl
theorem lf_78_5_1 (O : am_isO h q 4 = true) (z : am_ev d 84 0 (am_ent [.ref q, .ref 41] 3) [] h (some (iv 1), H)) : am_ev (d + 1) 78 0 (am_ent [.ref q, iv 5, .ref 41] 3) [] h (some (iv 1), H) := by
  show am_ev (d + 1) 78 0 [.ref q, iv 5, .ref 41] [] h _
  refine am_ev.step (pc' := 1) rfl rfl ?_
  refine fx_td (p' := 101) rfl (by omega) (by omega) (by decide) ?_
  refine am_ev.step (pc' := 102) rfl rfl ?_
  refine am_ev.step (pc' := 103) rfl rfl ?_
  refine ax_call (z := 84) (p' := 106) (as := [_, _]) rfl (Or.inr (Or.inl ⟨_, rfl⟩)) rfl rfl rfl rfl rfl rfl O rfl z rfl ?_
  exact fx_reti rfl rfl rfl
theorem lf_E (hb : tz_r b) (hL : L ≤ 1600) (C : lC h h0 q b L p Φ) (hn : n ≤ 6) (t0 : tz_t b L p s e k v) (q0 : k = 0) : am_ev (d + 8) 76 8 [.ref q, .ref 41, .int t, iv ((n : Int)), a4] [] h  (some (iv 1), T1 h s e k) := by
  obtain ⟨S, B, w1, v6, f3, f4, sz, O, hq, fr, F, F2⟩ := C
  have f0 := t0.f5 hb
  refine am_ev.step (pc' := 9) rfl rfl ?_
  refine fx_bip (p' := 11) rfl rfl rfl ?_
  refine fx_c_gt_F (pF := 14) rfl (by omega) (by omega) rfl (by omega) ?_
  refine am_ev.step (pc' := 15) rfl rfl ?_
  refine ax_call (z := 21) (p' := 18) (as := [_]) rfl (Or.inr (Or.inl ⟨_, rfl⟩)) rfl rfl rfl rfl rfl rfl (S.ob rfl) rfl (tk_21w S B hb hL w1 v6 t0) rfl ?_
  refine am_ev.step (pc' := 19) rfl rfl ?_
  refine ax_gf (p' := 22) rfl rfl (fO (fO (fO (S.ob rfl)))) (ax_put_s _ _ _) ?_
  refine fx_z_ne_F (pF := 25) rfl (by omega) rfl (by omega) ?_
  refine am_ev.step (pc' := 26) rfl rfl ?_
  exact fx_reti rfl rfl rfl
theorem lf_x (hb : tz_r b) (hL : L ≤ 1600) (C : lC h h0 q b L p Φ) (hn : n ≤ 6) (t0 : tz_t b L p s e k v) (q0 : k ≠ 0) (q1 : cl_l b s e k (-1)) : am_ev (d + 8) 76 8 [.ref q, .ref 41, .int t, iv ((n : Int)), a4] [] h  (some (iv 0), FL (T1 h s e k) 1 s) := by
  obtain ⟨S, B, w1, v6, f3, f4, sz, O, hq, fr, F, F2⟩ := C
  have f0 := t0.f5 hb
  refine am_ev.step (pc' := 9) rfl rfl ?_
  refine fx_bip (p' := 11) rfl rfl rfl ?_
  refine fx_c_gt_F (pF := 14) rfl (by omega) (by omega) rfl (by omega) ?_
  refine am_ev.step (pc' := 15) rfl rfl ?_
  refine ax_call (z := 21) (p' := 18) (as := [_]) rfl (Or.inr (Or.inl ⟨_, rfl⟩)) rfl rfl rfl rfl rfl rfl (S.ob rfl) rfl (tk_21w S B hb hL w1 v6 t0) rfl ?_
  refine am_ev.step (pc' := 19) rfl rfl ?_
  refine ax_gf (p' := 22) rfl rfl (fO (fO (fO (S.ob rfl)))) (ax_put_s _ _ _) ?_
  refine fx_z_ne_T (pT := 27) rfl (by omega) rfl (by omega) ?_
  refine am_ev.step (pc' := 28) rfl rfl ?_
  refine ax_call (z := 77) (p' := 31) (as := [_]) rfl (Or.inl ⟨_, rfl⟩) rfl rfl rfl rfl rfl rfl rfl rfl (le_77 (((S.po rfl rfl).po rfl rfl).po rfl rfl) (((B.put (by decide)).put (by decide)).put (by decide)) hb hL (ax_put_o (Or.inr (by decide)) (ax_put_o (Or.inr (by decide)) (ax_put_o (Or.inr (by decide)) w1))) (ax_put_s _ _ _) (ax_put_o (Or.inr (by decide)) (ax_put_o (Or.inr (by decide)) (ax_put_s _ _ _))) (ax_put_o (Or.inr (by decide)) (ax_put_s _ _ _)) t0 q1) rfl ?_
  refine am_ev.step (pc' := 33) (ls' := [.ref q, .ref 41, .int t, iv ((n : Int)), iv (-1)]) rfl rfl ?_
  refine am_ev.step (pc' := 35) rfl rfl ?_
  refine am_ev.step (pc' := 36) rfl rfl ?_
  refine fx_c_ne_F (pF := 39) rfl (by omega) (by omega) rfl (by omega) ?_
  refine am_ev.step (pc' := 40) rfl rfl ?_
  refine am_ev.step (pc' := 41) rfl rfl ?_
  refine ax_call (z := 29) (p' := 44) (as := [_, _]) rfl (Or.inr (Or.inl ⟨_, rfl⟩)) rfl rfl rfl rfl rfl rfl (fO (fO (fO (S.ob rfl)))) rfl (tk_29 (s := s) (((S.po rfl rfl).po rfl rfl).po rfl rfl) (ax_put_o (Or.inr (by decide)) (ax_put_o (Or.inr (by decide)) (ax_put_s _ _ _)))) rfl ?_
  exact fx_reti rfl rfl rfl
theorem lf_a (hb : tz_r b) (hL : L ≤ 1600) (C : lC h h0 q b L p Φ) (hn : n ≤ 6) (t0 : tz_t b L p s e k v) (q0 : k ≠ 0) (hl : l < 6) (q1 : cl_l b s e k l) (q2 : bt t l = true) : am_ev (d + 8) 76 8 [.ref q, .ref 41, .int t, iv ((n : Int)), a4] [] h  (some (iv 0), FL (T1 h s e k) 3 s) := by
  obtain ⟨S, B, w1, v6, f3, f4, sz, O, hq, fr, F, F2⟩ := C
  have f0 := t0.f5 hb
  refine am_ev.step (pc' := 9) rfl rfl ?_
  refine fx_bip (p' := 11) rfl rfl rfl ?_
  refine fx_c_gt_F (pF := 14) rfl (by omega) (by omega) rfl (by omega) ?_
  refine am_ev.step (pc' := 15) rfl rfl ?_
  refine ax_call (z := 21) (p' := 18) (as := [_]) rfl (Or.inr (Or.inl ⟨_, rfl⟩)) rfl rfl rfl rfl rfl rfl (S.ob rfl) rfl (tk_21w S B hb hL w1 v6 t0) rfl ?_
  refine am_ev.step (pc' := 19) rfl rfl ?_
  refine ax_gf (p' := 22) rfl rfl (fO (fO (fO (S.ob rfl)))) (ax_put_s _ _ _) ?_
  refine fx_z_ne_T (pT := 27) rfl (by omega) rfl (by omega) ?_
  refine am_ev.step (pc' := 28) rfl rfl ?_
  refine ax_call (z := 77) (p' := 31) (as := [_]) rfl (Or.inl ⟨_, rfl⟩) rfl rfl rfl rfl rfl rfl rfl rfl (le_77 (((S.po rfl rfl).po rfl rfl).po rfl rfl) (((B.put (by decide)).put (by decide)).put (by decide)) hb hL (ax_put_o (Or.inr (by decide)) (ax_put_o (Or.inr (by decide)) (ax_put_o (Or.inr (by decide)) w1))) (ax_put_s _ _ _) (ax_put_o (Or.inr (by decide)) (ax_put_o (Or.inr (by decide)) (ax_put_s _ _ _))) (ax_put_o (Or.inr (by decide)) (ax_put_s _ _ _)) t0 q1) rfl ?_
  refine am_ev.step (pc' := 33) (ls' := [.ref q, .ref 41, .int t, iv ((n : Int)), iv ((l : Int))]) rfl rfl ?_
  refine am_ev.step (pc' := 35) rfl rfl ?_
  refine am_ev.step (pc' := 36) rfl rfl ?_
  refine fx_c_ne_T (pT := 45) rfl (by omega) (by omega) rfl (by omega) ?_
  refine am_ev.step (pc' := 46) rfl rfl ?_
  refine am_ev.step (pc' := 48) rfl rfl ?_
  refine ax_call (z := 31) (p' := 51) (as := [_, _]) rfl (Or.inl ⟨_, rfl⟩) rfl rfl rfl rfl rfl rfl rfl rfl ((tk_31 (c := l) (by omega)).1 q2) rfl ?_
  refine fx_z_eq_F (pF := 54) rfl (by omega) rfl (by omega) ?_
  refine am_ev.step (pc' := 55) rfl rfl ?_
  refine am_ev.step (pc' := 56) rfl rfl ?_
  refine ax_call (z := 29) (p' := 59) (as := [_, _]) rfl (Or.inr (Or.inl ⟨_, rfl⟩)) rfl rfl rfl rfl rfl rfl (fO (fO (fO (S.ob rfl)))) rfl (tk_29 (s := s) (((S.po rfl rfl).po rfl rfl).po rfl rfl) (ax_put_o (Or.inr (by decide)) (ax_put_o (Or.inr (by decide)) (ax_put_s _ _ _)))) rfl ?_
  exact fx_reti rfl rfl rfl
theorem lf_f (hb : tz_r b) (hL : L ≤ 1600) (C : lC h h0 q b L p Φ) (hn : n ≤ 6) (t0 : tz_t b L p s e k v) (q0 : k ≠ 0) (hl : l < 6) (q1 : cl_l b s e k l) (q2 : bt t l = false) (z : am_ev (d + 7) 78 0 (am_ent [.ref q, iv l, .ref 41] 3) [] (T1 h s e k) (some (iv 0), H)) : am_ev (d + 8) 76 8 [.ref q, .ref 41, .int t, iv ((n : Int)), a4] [] h  (some (iv 0), H) := by
  obtain ⟨S, B, w1, v6, f3, f4, sz, O, hq, fr, F, F2⟩ := C
  have f0 := t0.f5 hb
  refine am_ev.step (pc' := 9) rfl rfl ?_
  refine fx_bip (p' := 11) rfl rfl rfl ?_
  refine fx_c_gt_F (pF := 14) rfl (by omega) (by omega) rfl (by omega) ?_
  refine am_ev.step (pc' := 15) rfl rfl ?_
  refine ax_call (z := 21) (p' := 18) (as := [_]) rfl (Or.inr (Or.inl ⟨_, rfl⟩)) rfl rfl rfl rfl rfl rfl (S.ob rfl) rfl (tk_21w S B hb hL w1 v6 t0) rfl ?_
  refine am_ev.step (pc' := 19) rfl rfl ?_
  refine ax_gf (p' := 22) rfl rfl (fO (fO (fO (S.ob rfl)))) (ax_put_s _ _ _) ?_
  refine fx_z_ne_T (pT := 27) rfl (by omega) rfl (by omega) ?_
  refine am_ev.step (pc' := 28) rfl rfl ?_
  refine ax_call (z := 77) (p' := 31) (as := [_]) rfl (Or.inl ⟨_, rfl⟩) rfl rfl rfl rfl rfl rfl rfl rfl (le_77 (((S.po rfl rfl).po rfl rfl).po rfl rfl) (((B.put (by decide)).put (by decide)).put (by decide)) hb hL (ax_put_o (Or.inr (by decide)) (ax_put_o (Or.inr (by decide)) (ax_put_o (Or.inr (by decide)) w1))) (ax_put_s _ _ _) (ax_put_o (Or.inr (by decide)) (ax_put_o (Or.inr (by decide)) (ax_put_s _ _ _))) (ax_put_o (Or.inr (by decide)) (ax_put_s _ _ _)) t0 q1) rfl ?_
  refine am_ev.step (pc' := 33) (ls' := [.ref q, .ref 41, .int t, iv ((n : Int)), iv ((l : Int))]) rfl rfl ?_
  refine am_ev.step (pc' := 35) rfl rfl ?_
  refine am_ev.step (pc' := 36) rfl rfl ?_
  refine fx_c_ne_T (pT := 45) rfl (by omega) (by omega) rfl (by omega) ?_
  refine am_ev.step (pc' := 46) rfl rfl ?_
  refine am_ev.step (pc' := 48) rfl rfl ?_
  refine ax_call (z := 31) (p' := 51) (as := [_, _]) rfl (Or.inl ⟨_, rfl⟩) rfl rfl rfl rfl rfl rfl rfl rfl ((tk_31 (c := l) (by omega)).2 q2) rfl ?_
  refine fx_z_eq_T (pT := 60) rfl (by omega) rfl (by omega) ?_
  refine am_ev.step (pc' := 61) rfl rfl ?_
  refine am_ev.step (pc' := 62) rfl rfl ?_
  refine am_ev.step (pc' := 64) rfl rfl ?_
  refine am_ev.step (pc' := 65) rfl rfl ?_
  refine am_ev.step (pc' := 66) rfl rfl ?_
  refine am_ev.step (pc' := 67) (ls' := [.ref q, .ref 41, .int (t ||| ((Int32.ofInt 1) <<< ((Int32.ofInt ((l : Int))) &&& 31))), iv ((n : Int)), iv ((l : Int))]) rfl rfl ?_
  refine am_ev.step (pc' := 68) rfl rfl ?_
  refine am_ev.step (pc' := 70) rfl rfl ?_
  refine am_ev.step (pc' := 71) rfl rfl ?_
  refine ax_call (z := 78) (p' := 74) (as := [_, _, _]) rfl (Or.inr (Or.inl ⟨_, rfl⟩)) rfl rfl rfl rfl rfl rfl (fO (fO (fO O))) rfl z rfl ?_
  refine fx_z_ne_F (pF := 77) rfl (by omega) rfl (by omega) ?_
  refine am_ev.step (pc' := 78) rfl rfl ?_
  exact fx_reti rfl rfl rfl
theorem lf_n (hb : tz_r b) (hL : L ≤ 1600) (C : lC h h0 q b L p Φ) (hn : n ≤ 6) (t0 : tz_t b L p s e k v) (q0 : k ≠ 0) (hl : l < 6) (q1 : cl_l b s e k l) (q2 : bt t l = false) (z : am_ev (d + 7) 78 0 (am_ent [.ref q, iv l, .ref 41] 3) [] (T1 h s e k) (some (iv 1), H)) {x : Option Value × am_H} (q9 : am_ev (d + 8) 76 8 [.ref q, .ref 41, .int (t ||| ((Int32.ofInt 1) <<< ((Int32.ofInt ((l : Int))) &&& 31))), iv ((n : Int) + 1), iv ((l : Int))] [] H x) : am_ev (d + 8) 76 8 [.ref q, .ref 41, .int t, iv ((n : Int)), a4] [] h  x := by
  obtain ⟨S, B, w1, v6, f3, f4, sz, O, hq, fr, F, F2⟩ := C
  have f0 := t0.f5 hb
  refine am_ev.step (pc' := 9) rfl rfl ?_
  refine fx_bip (p' := 11) rfl rfl rfl ?_
  refine fx_c_gt_F (pF := 14) rfl (by omega) (by omega) rfl (by omega) ?_
  refine am_ev.step (pc' := 15) rfl rfl ?_
  refine ax_call (z := 21) (p' := 18) (as := [_]) rfl (Or.inr (Or.inl ⟨_, rfl⟩)) rfl rfl rfl rfl rfl rfl (S.ob rfl) rfl (tk_21w S B hb hL w1 v6 t0) rfl ?_
  refine am_ev.step (pc' := 19) rfl rfl ?_
  refine ax_gf (p' := 22) rfl rfl (fO (fO (fO (S.ob rfl)))) (ax_put_s _ _ _) ?_
  refine fx_z_ne_T (pT := 27) rfl (by omega) rfl (by omega) ?_
  refine am_ev.step (pc' := 28) rfl rfl ?_
  refine ax_call (z := 77) (p' := 31) (as := [_]) rfl (Or.inl ⟨_, rfl⟩) rfl rfl rfl rfl rfl rfl rfl rfl (le_77 (((S.po rfl rfl).po rfl rfl).po rfl rfl) (((B.put (by decide)).put (by decide)).put (by decide)) hb hL (ax_put_o (Or.inr (by decide)) (ax_put_o (Or.inr (by decide)) (ax_put_o (Or.inr (by decide)) w1))) (ax_put_s _ _ _) (ax_put_o (Or.inr (by decide)) (ax_put_o (Or.inr (by decide)) (ax_put_s _ _ _))) (ax_put_o (Or.inr (by decide)) (ax_put_s _ _ _)) t0 q1) rfl ?_
  refine am_ev.step (pc' := 33) (ls' := [.ref q, .ref 41, .int t, iv ((n : Int)), iv ((l : Int))]) rfl rfl ?_
  refine am_ev.step (pc' := 35) rfl rfl ?_
  refine am_ev.step (pc' := 36) rfl rfl ?_
  refine fx_c_ne_T (pT := 45) rfl (by omega) (by omega) rfl (by omega) ?_
  refine am_ev.step (pc' := 46) rfl rfl ?_
  refine am_ev.step (pc' := 48) rfl rfl ?_
  refine ax_call (z := 31) (p' := 51) (as := [_, _]) rfl (Or.inl ⟨_, rfl⟩) rfl rfl rfl rfl rfl rfl rfl rfl ((tk_31 (c := l) (by omega)).2 q2) rfl ?_
  refine fx_z_eq_T (pT := 60) rfl (by omega) rfl (by omega) ?_
  refine am_ev.step (pc' := 61) rfl rfl ?_
  refine am_ev.step (pc' := 62) rfl rfl ?_
  refine am_ev.step (pc' := 64) rfl rfl ?_
  refine am_ev.step (pc' := 65) rfl rfl ?_
  refine am_ev.step (pc' := 66) rfl rfl ?_
  refine am_ev.step (pc' := 67) (ls' := [.ref q, .ref 41, .int (t ||| ((Int32.ofInt 1) <<< ((Int32.ofInt ((l : Int))) &&& 31))), iv ((n : Int)), iv ((l : Int))]) rfl rfl ?_
  refine am_ev.step (pc' := 68) rfl rfl ?_
  refine am_ev.step (pc' := 70) rfl rfl ?_
  refine am_ev.step (pc' := 71) rfl rfl ?_
  refine ax_call (z := 78) (p' := 74) (as := [_, _, _]) rfl (Or.inr (Or.inl ⟨_, rfl⟩)) rfl rfl rfl rfl rfl rfl (fO (fO (fO O))) rfl z rfl ?_
  refine fx_z_ne_T (pT := 79) rfl (by omega) rfl (by omega) ?_
  refine fx_inc (p' := 82) (e := ((n : Int) + 1)) (ls' := [.ref q, .ref 41, .int (t ||| ((Int32.ofInt 1) <<< ((Int32.ofInt ((l : Int))) &&& 31))), iv ((n : Int) + 1), iv ((l : Int))]) rfl rfl rfl (by omega) rfl ?_
  refine am_ev.step (pc' := 8) rfl rfl ?_
  exact q9
end LF1
/-! LEAVES: clauses, the other side -/
section LF2
variable {d : Nat} {h h0 G M M' : am_H} {b : Nat → Int} {L p s e s1 e1 s2 e2 s3 e3 l n : Nat} {k k1 k2 k3 v v1 v2 v3 w r : Int} {t : Int32} {Φ : Nat → Value} {τ : Nat → Int} {a1 : Value}
theorem lg_212 {x : Option Value × am_H} (q9 : am_ev d 212 2 [.ref 78, iv r, .int (Int32.ofInt 0), am_ph] [] h x) : am_ev d 212 0 (am_ent [.ref 78, iv r] 4) [] h x := by
  show am_ev d 212 0 [.ref 78, iv r, am_ph, am_ph] [] h x
  refine am_ev.step (pc' := 1) rfl rfl ?_
  refine am_ev.step (pc' := 2) (ls' := [.ref 78, iv (r), iv 0, am_ph]) rfl rfl ?_
  exact q9
theorem lg_211_0n (S : fS G) (SM : fS M) (z : am_ev d 212 0 (am_ent [.ref 78, iv 6] 4) [] G (some (.int t), M)) : am_ev (d + 1) 211 0 (am_ent [.ref 78, iv 0] 2) [] G (none, am_put M 104 80 (.int t)) := by
  show am_ev (d + 1) 211 0 [.ref 78, iv 0] [] G _
  refine am_ev.step (pc' := 1) rfl rfl ?_
  refine fx_ts (p' := 36) rfl (by omega) (by omega) rfl (by decide) ?_
  refine am_ev.step (pc' := 37) rfl rfl ?_
  refine ax_gf (p' := 40) rfl rfl (S.ob rfl) (S.rf rfl rfl) ?_
  refine fx_bip (p' := 42) rfl rfl rfl ?_
  refine am_ev.step (pc' := 43) rfl rfl ?_
  refine fx_bip (p' := 45) rfl rfl rfl ?_
  refine ax_call (z := 212) (p' := 48) (as := [_, _]) rfl (Or.inr (Or.inl ⟨_, rfl⟩)) rfl rfl rfl rfl rfl rfl (S.ob rfl) rfl z rfl ?_
  refine ax_iastore (p' := 49) rfl rfl (SM.wr (k := 80) rfl rfl rfl rfl (by decide)) ?_
  refine am_ev.step (pc' := 256) rfl rfl ?_
  exact am_ev.retv rfl rfl
theorem lg_211_0t (S : fS G) (SM : fS M) (z : am_ev d 212 0 (am_ent [.ref 78, iv 6] 4) [] G (some (.retAddr (79 + 1)), M)) : am_ev (d + 1) 211 0 (am_ent [.ref 78, iv 0] 2) [] G (some (.retAddr (79 + 1)), M) := by
  show am_ev (d + 1) 211 0 [.ref 78, iv 0] [] G _
  refine am_ev.step (pc' := 1) rfl rfl ?_
  refine fx_ts (p' := 36) rfl (by omega) (by omega) rfl (by decide) ?_
  refine am_ev.step (pc' := 37) rfl rfl ?_
  refine ax_gf (p' := 40) rfl rfl (S.ob rfl) (S.rf rfl rfl) ?_
  refine fx_bip (p' := 42) rfl rfl rfl ?_
  refine am_ev.step (pc' := 43) rfl rfl ?_
  refine fx_bip (p' := 45) rfl rfl rfl ?_
  refine ax_callT (a := 79) (z := 212) (as := [_, _]) rfl (Or.inr (Or.inl ⟨_, rfl⟩)) rfl rfl rfl rfl rfl rfl (S.ob rfl) z rfl rfl (SM.ob rfl) rfl
theorem lg_211_3n (S : fS G) (SM : fS M) (z : am_ev d 212 0 (am_ent [.ref 78, iv 20] 4) [] G (some (.int t), M)) : am_ev (d + 1) 211 0 (am_ent [.ref 78, iv 3] 2) [] G (none, am_put M 108 80 (.int t)) := by
  show am_ev (d + 1) 211 0 [.ref 78, iv 3] [] G _
  refine am_ev.step (pc' := 1) rfl rfl ?_
  refine fx_ts (p' := 158) rfl (by omega) (by omega) rfl (by decide) ?_
  refine am_ev.step (pc' := 159) rfl rfl ?_
  refine ax_gf (p' := 162) rfl rfl (S.ob rfl) (S.rf rfl rfl) ?_
  refine fx_bip (p' := 164) rfl rfl rfl ?_
  refine am_ev.step (pc' := 165) rfl rfl ?_
  refine fx_bip (p' := 167) rfl rfl rfl ?_
  refine ax_call (z := 212) (p' := 170) (as := [_, _]) rfl (Or.inr (Or.inl ⟨_, rfl⟩)) rfl rfl rfl rfl rfl rfl (S.ob rfl) rfl z rfl ?_
  refine ax_iastore (p' := 171) rfl rfl (SM.wr (k := 80) rfl rfl rfl rfl (by decide)) ?_
  refine am_ev.step (pc' := 256) rfl rfl ?_
  exact am_ev.retv rfl rfl
theorem lg_211_3t (S : fS G) (SM : fS M) (z : am_ev d 212 0 (am_ent [.ref 78, iv 20] 4) [] G (some (.retAddr (79 + 1)), M)) : am_ev (d + 1) 211 0 (am_ent [.ref 78, iv 3] 2) [] G (some (.retAddr (79 + 1)), M) := by
  show am_ev (d + 1) 211 0 [.ref 78, iv 3] [] G _
  refine am_ev.step (pc' := 1) rfl rfl ?_
  refine fx_ts (p' := 158) rfl (by omega) (by omega) rfl (by decide) ?_
  refine am_ev.step (pc' := 159) rfl rfl ?_
  refine ax_gf (p' := 162) rfl rfl (S.ob rfl) (S.rf rfl rfl) ?_
  refine fx_bip (p' := 164) rfl rfl rfl ?_
  refine am_ev.step (pc' := 165) rfl rfl ?_
  refine fx_bip (p' := 167) rfl rfl rfl ?_
  refine ax_callT (a := 79) (z := 212) (as := [_, _]) rfl (Or.inr (Or.inl ⟨_, rfl⟩)) rfl rfl rfl rfl rfl rfl (S.ob rfl) z rfl rfl (SM.ob rfl) rfl
theorem lg_211_1a (hb : tz_r b) (hL : L ≤ 1600) (C : lM h h0 b L p s e k v w τ Φ) (q1 : k ≠ 2) : am_ev (d + 6) 211 0 (am_ent [.ref 78, iv 1] 2) [] h (some (.retAddr (79 + 1)), (am_put (am_put h 78 8 (iv 1)) 78 9 (iv ((s : Int))))) := by
  obtain ⟨S, B, w3, t0, w4, w5, w6, w7, ya, yb, f8, f9, zt, dT, F, fr⟩ := C
  have f0 := t0.f5 hb
  clear ya yb
  show am_ev (d + 6) 211 0 [.ref 78, iv 1] [] h _
  refine am_ev.step (pc' := 1) rfl rfl ?_
  refine fx_ts (p' := 52) rfl (by omega) (by omega) rfl (by decide) ?_
  refine am_ev.step (pc' := 53) rfl rfl ?_
  refine ax_gf (p' := 56) rfl rfl (S.ob rfl) (S.rf rfl rfl) ?_
  refine fx_bip (p' := 58) rfl rfl rfl ?_
  refine am_ev.step (pc' := 59) rfl rfl ?_
  refine am_ev.step (pc' := 60) rfl rfl ?_
  refine fx_sip (p' := 63) rfl rfl rfl ?_
  refine ax_callT (a := 79) (z := 179) (as := [_, _, _]) rfl (Or.inr (Or.inl ⟨_, rfl⟩)) rfl rfl rfl rfl rfl rfl (S.ob rfl) (md_179a (lo := 0) (hi := 29999) (k := k) (s := s) S w4 w6 (by omega) (by omega) (by omega)) rfl rfl (fO (fO (S.ob rfl))) rfl
theorem lg_211_1b (hb : tz_r b) (hL : L ≤ 1600) (C : lM h h0 b L p s e k v w τ Φ) (q1 : k = 2) (q2 : ¬ (0 ≤ v ∧ v ≤ 29999)) : am_ev (d + 6) 211 0 (am_ent [.ref 78, iv 1] 2) [] h (some (.retAddr (79 + 1)), (am_put (am_put h 78 8 (iv 2)) 78 9 (iv ((s : Int))))) := by
  obtain ⟨S, B, w3, t0, w4, w5, w6, w7, ya, yb, f8, f9, zt, dT, F, fr⟩ := C
  have f0 := t0.f5 hb
  have y0 := ya q1
  have u0 := t0.bd hb q1
  clear ya yb
  show am_ev (d + 6) 211 0 [.ref 78, iv 1] [] h _
  refine am_ev.step (pc' := 1) rfl rfl ?_
  refine fx_ts (p' := 52) rfl (by omega) (by omega) rfl (by decide) ?_
  refine am_ev.step (pc' := 53) rfl rfl ?_
  refine ax_gf (p' := 56) rfl rfl (S.ob rfl) (S.rf rfl rfl) ?_
  refine fx_bip (p' := 58) rfl rfl rfl ?_
  refine am_ev.step (pc' := 59) rfl rfl ?_
  refine am_ev.step (pc' := 60) rfl rfl ?_
  refine fx_sip (p' := 63) rfl rfl rfl ?_
  refine ax_callT (a := 79) (z := 179) (as := [_, _, _]) rfl (Or.inr (Or.inl ⟨_, rfl⟩)) rfl rfl rfl rfl rfl rfl (S.ob rfl) (md_179b (lo := 0) (hi := 29999) (k := k) (s := s) S w4 w6 (by omega) (by omega) w7 (by omega) (by omega)) rfl rfl (fO (fO (S.ob rfl))) rfl
theorem lg_211_1c (hb : tz_r b) (hL : L ≤ 1600) (C : lM h h0 b L p s e k v w τ Φ) (q1 : k = 2) (q2 : 0 ≤ v ∧ v ≤ 29999) (t1 : tz_t b L e s1 e1 k1 v1) : am_ev (d + 6) 211 0 (am_ent [.ref 78, iv 1] 2) [] h (none, (am_put (am_put (am_put (am_put (am_put h 78 4 (iv ((s1 : Int)))) 78 7 (iv ((tV b L s1 (w))))) 78 5 (iv ((e1 : Int)))) 78 6 (iv ((tH k1)))) 105 80 (iv (w)))) := by
  obtain ⟨S, B, w3, t0, w4, w5, w6, w7, ya, yb, f8, f9, zt, dT, F, fr⟩ := C
  have f0 := t0.f5 hb
  have y0 := ya q1
  have u0 := t0.bd hb q1
  clear ya yb
  show am_ev (d + 6) 211 0 [.ref 78, iv 1] [] h _
  refine am_ev.step (pc' := 1) rfl rfl ?_
  refine fx_ts (p' := 52) rfl (by omega) (by omega) rfl (by decide) ?_
  refine am_ev.step (pc' := 53) rfl rfl ?_
  refine ax_gf (p' := 56) rfl rfl (S.ob rfl) (S.rf rfl rfl) ?_
  refine fx_bip (p' := 58) rfl rfl rfl ?_
  refine am_ev.step (pc' := 59) rfl rfl ?_
  refine am_ev.step (pc' := 60) rfl rfl ?_
  refine fx_sip (p' := 63) rfl rfl rfl ?_
  refine ax_call (z := 179) (p' := 66) (as := [_, _, _]) rfl (Or.inr (Or.inl ⟨_, rfl⟩)) rfl rfl rfl rfl rfl rfl (S.ob rfl) rfl (md_179c (lo := 0) (hi := 29999) (k := k) (s := s) S w4 w6 (by omega) (by omega) w7 (by omega) B hb hL w3 w5 t1 (by omega)) rfl ?_
  refine ax_iastore (p' := 67) rfl rfl (((((S.po rfl rfl).po rfl rfl).po rfl rfl).po rfl rfl).wr (k := 80) rfl rfl rfl rfl (by decide)) ?_
  refine am_ev.step (pc' := 256) rfl rfl ?_
  exact am_ev.retv rfl rfl
theorem lg_211_4a (hb : tz_r b) (hL : L ≤ 1600) (C : lM h h0 b L p s e k v w τ Φ) (q1 : k ≠ 2) : am_ev (d + 6) 211 0 (am_ent [.ref 78, iv 4] 2) [] h (some (.retAddr (79 + 1)), (am_put (am_put h 78 8 (iv 1)) 78 9 (iv ((s : Int))))) := by
  obtain ⟨S, B, w3, t0, w4, w5, w6, w7, ya, yb, f8, f9, zt, dT, F, fr⟩ := C
  have f0 := t0.f5 hb
  clear ya yb
  show am_ev (d + 6) 211 0 [.ref 78, iv 4] [] h _
  refine am_ev.step (pc' := 1) rfl rfl ?_
  refine fx_ts (p' := 174) rfl (by omega) (by omega) rfl (by decide) ?_
  refine am_ev.step (pc' := 175) rfl rfl ?_
  refine ax_gf (p' := 178) rfl rfl (S.ob rfl) (S.rf rfl rfl) ?_
  refine fx_bip (p' := 180) rfl rfl rfl ?_
  refine am_ev.step (pc' := 181) rfl rfl ?_
  refine am_ev.step (pc' := 182) rfl rfl ?_
  refine am_ev.step (pc' := 183) rfl rfl ?_
  refine ax_callT (a := 79) (z := 179) (as := [_, _, _]) rfl (Or.inr (Or.inl ⟨_, rfl⟩)) rfl rfl rfl rfl rfl rfl (S.ob rfl) (md_179a (lo := 0) (hi := 2) (k := k) (s := s) S w4 w6 (by omega) (by omega) (by omega)) rfl rfl (fO (fO (S.ob rfl))) rfl
theorem lg_211_4b (hb : tz_r b) (hL : L ≤ 1600) (C : lM h h0 b L p s e k v w τ Φ) (q1 : k = 2) (q2 : ¬ (0 ≤ v ∧ v ≤ 2)) : am_ev (d + 6) 211 0 (am_ent [.ref 78, iv 4] 2) [] h (some (.retAddr (79 + 1)), (am_put (am_put h 78 8 (iv 2)) 78 9 (iv ((s : Int))))) := by
  obtain ⟨S, B, w3, t0, w4, w5, w6, w7, ya, yb, f8, f9, zt, dT, F, fr⟩ := C
  have f0 := t0.f5 hb
  have y0 := ya q1
  have u0 := t0.bd hb q1
  clear ya yb
  show am_ev (d + 6) 211 0 [.ref 78, iv 4] [] h _
  refine am_ev.step (pc' := 1) rfl rfl ?_
  refine fx_ts (p' := 174) rfl (by omega) (by omega) rfl (by decide) ?_
  refine am_ev.step (pc' := 175) rfl rfl ?_
  refine ax_gf (p' := 178) rfl rfl (S.ob rfl) (S.rf rfl rfl) ?_
  refine fx_bip (p' := 180) rfl rfl rfl ?_
  refine am_ev.step (pc' := 181) rfl rfl ?_
  refine am_ev.step (pc' := 182) rfl rfl ?_
  refine am_ev.step (pc' := 183) rfl rfl ?_
  refine ax_callT (a := 79) (z := 179) (as := [_, _, _]) rfl (Or.inr (Or.inl ⟨_, rfl⟩)) rfl rfl rfl rfl rfl rfl (S.ob rfl) (md_179b (lo := 0) (hi := 2) (k := k) (s := s) S w4 w6 (by omega) (by omega) w7 (by omega) (by omega)) rfl rfl (fO (fO (S.ob rfl))) rfl
theorem lg_211_4c (hb : tz_r b) (hL : L ≤ 1600) (C : lM h h0 b L p s e k v w τ Φ) (q1 : k = 2) (q2 : 0 ≤ v ∧ v ≤ 2) (t1 : tz_t b L e s1 e1 k1 v1) : am_ev (d + 6) 211 0 (am_ent [.ref 78, iv 4] 2) [] h (none, (am_put (am_put (am_put (am_put (am_put h 78 4 (iv ((s1 : Int)))) 78 7 (iv ((tV b L s1 (w))))) 78 5 (iv ((e1 : Int)))) 78 6 (iv ((tH k1)))) 109 80 (iv (w)))) := by
  obtain ⟨S, B, w3, t0, w4, w5, w6, w7, ya, yb, f8, f9, zt, dT, F, fr⟩ := C
  have f0 := t0.f5 hb
  have y0 := ya q1
  have u0 := t0.bd hb q1
  clear ya yb
  show am_ev (d + 6) 211 0 [.ref 78, iv 4] [] h _
  refine am_ev.step (pc' := 1) rfl rfl ?_
  refine fx_ts (p' := 174) rfl (by omega) (by omega) rfl (by decide) ?_
  refine am_ev.step (pc' := 175) rfl rfl ?_
  refine ax_gf (p' := 178) rfl rfl (S.ob rfl) (S.rf rfl rfl) ?_
  refine fx_bip (p' := 180) rfl rfl rfl ?_
  refine am_ev.step (pc' := 181) rfl rfl ?_
  refine am_ev.step (pc' := 182) rfl rfl ?_
  refine am_ev.step (pc' := 183) rfl rfl ?_
  refine ax_call (z := 179) (p' := 186) (as := [_, _, _]) rfl (Or.inr (Or.inl ⟨_, rfl⟩)) rfl rfl rfl rfl rfl rfl (S.ob rfl) rfl (md_179c (lo := 0) (hi := 2) (k := k) (s := s) S w4 w6 (by omega) (by omega) w7 (by omega) B hb hL w3 w5 t1 (by omega)) rfl ?_
  refine ax_iastore (p' := 187) rfl rfl (((((S.po rfl rfl).po rfl rfl).po rfl rfl).po rfl rfl).wr (k := 80) rfl rfl rfl rfl (by decide)) ?_
  refine am_ev.step (pc' := 256) rfl rfl ?_
  exact am_ev.retv rfl rfl
theorem lg_211_2a (hb : tz_r b) (hL : L ≤ 1600) (C : lM h h0 b L p s e k v w τ Φ) (q1 : k ≠ 2) : am_ev (d + 6) 211 0 (am_ent [.ref 78, iv 2] 2) [] h (some (.retAddr (79 + 1)), (am_put (am_put h 78 8 (iv 1)) 78 9 (iv ((s : Int))))) := by
  obtain ⟨S, B, w3, t0, w4, w5, w6, w7, ya, yb, f8, f9, zt, dT, F, fr⟩ := C
  have f0 := t0.f5 hb
  clear ya yb
  show am_ev (d + 6) 211 0 [.ref 78, iv 2] [] h _
  refine am_ev.step (pc' := 1) rfl rfl ?_
  refine fx_ts (p' := 70) rfl (by omega) (by omega) rfl (by decide) ?_
  refine am_ev.step (pc' := 71) rfl rfl ?_
  refine ax_gf (p' := 74) rfl rfl (S.ob rfl) (S.rf rfl rfl) ?_
  refine fx_bip (p' := 76) rfl rfl rfl ?_
  refine am_ev.step (pc' := 77) rfl rfl ?_
  refine am_ev.step (pc' := 78) rfl rfl ?_
  refine fx_sip (p' := 81) rfl rfl rfl ?_
  refine ax_callT (a := 79) (z := 179) (as := [_, _, _]) rfl (Or.inr (Or.inl ⟨_, rfl⟩)) rfl rfl rfl rfl rfl rfl (S.ob rfl) (md_179a (lo := 0) (hi := 9999) (k := k) (s := s) S w4 w6 (by omega) (by omega) (by omega)) rfl rfl (fO (fO (S.ob rfl))) rfl
theorem lg_211_2b (hb : tz_r b) (hL : L ≤ 1600) (C : lM h h0 b L p s e k v w τ Φ) (q1 : k = 2) (q2 : ¬ (0 ≤ v ∧ v ≤ 9999)) : am_ev (d + 6) 211 0 (am_ent [.ref 78, iv 2] 2) [] h (some (.retAddr (79 + 1)), (am_put (am_put h 78 8 (iv 2)) 78 9 (iv ((s : Int))))) := by
  obtain ⟨S, B, w3, t0, w4, w5, w6, w7, ya, yb, f8, f9, zt, dT, F, fr⟩ := C
  have f0 := t0.f5 hb
  have y0 := ya q1
  have u0 := t0.bd hb q1
  clear ya yb
  show am_ev (d + 6) 211 0 [.ref 78, iv 2] [] h _
  refine am_ev.step (pc' := 1) rfl rfl ?_
  refine fx_ts (p' := 70) rfl (by omega) (by omega) rfl (by decide) ?_
  refine am_ev.step (pc' := 71) rfl rfl ?_
  refine ax_gf (p' := 74) rfl rfl (S.ob rfl) (S.rf rfl rfl) ?_
  refine fx_bip (p' := 76) rfl rfl rfl ?_
  refine am_ev.step (pc' := 77) rfl rfl ?_
  refine am_ev.step (pc' := 78) rfl rfl ?_
  refine fx_sip (p' := 81) rfl rfl rfl ?_
  refine ax_callT (a := 79) (z := 179) (as := [_, _, _]) rfl (Or.inr (Or.inl ⟨_, rfl⟩)) rfl rfl rfl rfl rfl rfl (S.ob rfl) (md_179b (lo := 0) (hi := 9999) (k := k) (s := s) S w4 w6 (by omega) (by omega) w7 (by omega) (by omega)) rfl rfl (fO (fO (S.ob rfl))) rfl
theorem lg_211_2x (hb : tz_r b) (hL : L ≤ 1600) (C : lM h h0 b L p s e k v w τ Φ) (q1 : k = 2) (q2 : 0 ≤ v ∧ v ≤ 9999) (t1 : tz_t b L e s1 e1 k1 v1) (qf : cl_f b s1 e1 k1 (-1)) : am_ev (d + 6) 211 0 (am_ent [.ref 78, iv 2] 2) [] h (some (.retAddr (79 + 1)), (am_put (am_put (am_put (am_put (am_put (am_put (am_put (am_put h 78 4 (iv ((s1 : Int)))) 78 7 (iv ((tV b L s1 (w))))) 78 5 (iv ((e1 : Int)))) 78 6 (iv ((tH k1)))) 106 80 (iv (w))) 107 80 (iv 2)) 78 8 (iv 1)) 78 9 (iv ((s1 : Int))))) := by
  obtain ⟨S, B, w3, t0, w4, w5, w6, w7, ya, yb, f8, f9, zt, dT, F, fr⟩ := C
  have f0 := t0.f5 hb
  have y0 := ya q1
  have u0 := t0.bd hb q1
  clear ya yb
  have f1 := t1.f5 hb
  show am_ev (d + 6) 211 0 [.ref 78, iv 2] [] h _
  refine am_ev.step (pc' := 1) rfl rfl ?_
  refine fx_ts (p' := 70) rfl (by omega) (by omega) rfl (by decide) ?_
  refine am_ev.step (pc' := 71) rfl rfl ?_
  refine ax_gf (p' := 74) rfl rfl (S.ob rfl) (S.rf rfl rfl) ?_
  refine fx_bip (p' := 76) rfl rfl rfl ?_
  refine am_ev.step (pc' := 77) rfl rfl ?_
  refine am_ev.step (pc' := 78) rfl rfl ?_
  refine fx_sip (p' := 81) rfl rfl rfl ?_
  refine ax_call (z := 179) (p' := 84) (as := [_, _, _]) rfl (Or.inr (Or.inl ⟨_, rfl⟩)) rfl rfl rfl rfl rfl rfl (S.ob rfl) rfl (md_179c (lo := 0) (hi := 9999) (k := k) (s := s) S w4 w6 (by omega) (by omega) w7 (by omega) B hb hL w3 w5 t1 (by omega)) rfl ?_
  refine ax_iastore (p' := 85) rfl rfl (((((S.po rfl rfl).po rfl rfl).po rfl rfl).po rfl rfl).wr (k := 80) rfl rfl rfl rfl (by decide)) ?_
  refine am_ev.step (pc' := 86) rfl rfl ?_
  refine ax_gf (p' := 89) rfl rfl (fO (fO (fO (fO (fO (S.ob rfl)))))) (ax_put_o (Or.inl (by decide)) (ax_put_o (Or.inr (by decide)) (ax_put_o (Or.inr (by decide)) (ax_put_o (Or.inr (by decide)) (ax_put_o (Or.inr (by decide)) (S.rf rfl rfl)))))) ?_
  refine fx_bip (p' := 91) rfl rfl rfl ?_
  refine am_ev.step (pc' := 92) rfl rfl ?_
  refine am_ev.ldcw rfl rfl rfl rfl ?_
  refine ax_call (z := 175) (p' := 98) (as := [_, _]) rfl (Or.inr (Or.inl ⟨_, rfl⟩)) rfl rfl rfl rfl rfl rfl (fO (fO (fO (fO (fO (S.ob rfl)))))) rfl ((tk_175 (i := 8) (k := k1) (s := s1) (e := e1) (by decide) (((((S.po rfl rfl).po rfl rfl).po rfl rfl).po rfl rfl).pa rfl) (((((B.put (by decide)).put (by decide)).put (by decide)).put (by decide)).put (by decide)) hb hL (ax_put_o (Or.inl (by decide)) (ax_put_s _ _ _)) (ax_put_o (Or.inl (by decide)) (ax_put_o (Or.inr (by decide)) (ax_put_o (Or.inr (by decide)) (ax_put_o (Or.inr (by decide)) (ax_put_s _ _ _))))) (ax_put_o (Or.inl (by decide)) (ax_put_o (Or.inr (by decide)) (ax_put_s _ _ _))) ⟨(t1.f hb).2.1, (t1.f hb).2.2.1⟩ ⟨(t1.f hb).2.2.2.1, Int.le_trans (t1.f hb).2.2.2.2.1 (by decide)⟩).2 ((cl_f_w qf (n := 0) (by decide)).2 (by decide))) rfl ?_
  refine fx_z_eq_T (pT := 105) rfl (by omega) rfl (by omega) ?_
  refine am_ev.step (pc' := 106) rfl rfl ?_
  refine am_ev.ldc rfl rfl rfl rfl ?_
  refine ax_call (z := 175) (p' := 111) (as := [_, _]) rfl (Or.inr (Or.inl ⟨_, rfl⟩)) rfl rfl rfl rfl rfl rfl (fO (fO (fO (fO (fO (S.ob rfl)))))) rfl ((tk_175 (i := 10) (k := k1) (s := s1) (e := e1) (by decide) (((((S.po rfl rfl).po rfl rfl).po rfl rfl).po rfl rfl).pa rfl) (((((B.put (by decide)).put (by decide)).put (by decide)).put (by decide)).put (by decide)) hb hL (ax_put_o (Or.inl (by decide)) (ax_put_s _ _ _)) (ax_put_o (Or.inl (by decide)) (ax_put_o (Or.inr (by decide)) (ax_put_o (Or.inr (by decide)) (ax_put_o (Or.inr (by decide)) (ax_put_s _ _ _))))) (ax_put_o (Or.inl (by decide)) (ax_put_o (Or.inr (by decide)) (ax_put_s _ _ _))) ⟨(t1.f hb).2.1, (t1.f hb).2.2.1⟩ ⟨(t1.f hb).2.2.2.1, Int.le_trans (t1.f hb).2.2.2.2.1 (by decide)⟩).2 ((cl_f_w qf (n := 1) (by decide)).2 (by decide))) rfl ?_
  refine fx_z_eq_T (pT := 118) rfl (by omega) rfl (by omega) ?_
  refine am_ev.step (pc' := 119) rfl rfl ?_
  refine ax_iastore (p' := 120) rfl rfl ((((((S.po rfl rfl).po rfl rfl).po rfl rfl).po rfl rfl).pa rfl).wr (k := 80) rfl rfl rfl rfl (by decide)) ?_
  refine am_ev.step (pc' := 121) rfl rfl ?_
  refine am_ev.step (pc' := 122) rfl rfl ?_
  refine ax_gf (p' := 125) rfl rfl (fO (fO (fO (fO (fO (fO (S.ob rfl))))))) (ax_put_o (Or.inl (by decide)) (ax_put_o (Or.inl (by decide)) (ax_put_o (Or.inr (by decide)) (ax_put_o (Or.inr (by decide)) (ax_put_o (Or.inr (by decide)) (ax_put_o (Or.inr (by decide)) (S.rf rfl rfl))))))) ?_
  refine fx_bip (p' := 127) rfl rfl rfl ?_
  refine ax_iaload (p' := 128) rfl rfl (((((((S.po rfl rfl).po rfl rfl).po rfl rfl).po rfl rfl).pa rfl).pa rfl).rd (k := 80) rfl rfl rfl rfl rfl (by decide) (ax_put_s _ _ _)) ?_
  refine am_ev.step (pc' := 129) rfl rfl ?_
  refine fx_c_lt_F (pF := 132) rfl (by omega) (by omega) rfl (by omega) ?_
  refine am_ev.step (pc' := 133) rfl rfl ?_
  refine am_ev.ldcw rfl rfl rfl rfl ?_
  refine ax_call (z := 175) (p' := 139) (as := [_, _]) rfl (Or.inr (Or.inl ⟨_, rfl⟩)) rfl rfl rfl rfl rfl rfl (fO (fO (fO (fO (fO (fO (S.ob rfl))))))) rfl ((tk_175 (i := 0) (k := k1) (s := s1) (e := e1) (by decide) ((((((S.po rfl rfl).po rfl rfl).po rfl rfl).po rfl rfl).pa rfl).pa rfl) ((((((B.put (by decide)).put (by decide)).put (by decide)).put (by decide)).put (by decide)).put (by decide)) hb hL (ax_put_o (Or.inl (by decide)) (ax_put_o (Or.inl (by decide)) (ax_put_s _ _ _))) (ax_put_o (Or.inl (by decide)) (ax_put_o (Or.inl (by decide)) (ax_put_o (Or.inr (by decide)) (ax_put_o (Or.inr (by decide)) (ax_put_o (Or.inr (by decide)) (ax_put_s _ _ _)))))) (ax_put_o (Or.inl (by decide)) (ax_put_o (Or.inl (by decide)) (ax_put_o (Or.inr (by decide)) (ax_put_s _ _ _)))) ⟨(t1.f hb).2.1, (t1.f hb).2.2.1⟩ ⟨(t1.f hb).2.2.2.1, Int.le_trans (t1.f hb).2.2.2.2.1 (by decide)⟩).2 ((cl_f_w qf (n := 2) (by decide)).2 (by decide))) rfl ?_
  refine fx_z_eq_T (pT := 146) rfl (by omega) rfl (by omega) ?_
  refine am_ev.step (pc' := 147) rfl rfl ?_
  refine am_ev.step (pc' := 148) rfl rfl ?_
  refine ax_callT (a := 79) (z := 177) (as := [_, _, _]) rfl (Or.inr (Or.inl ⟨_, rfl⟩)) rfl rfl rfl rfl rfl rfl (fO (fO (fO (fO (fO (fO (S.ob rfl))))))) (md_177f (s := s1) ((((((S.po rfl rfl).po rfl rfl).po rfl rfl).po rfl rfl).pa rfl).pa rfl) (ax_put_o (Or.inl (by decide)) (ax_put_o (Or.inl (by decide)) (ax_put_o (Or.inr (by decide)) (ax_put_o (Or.inr (by decide)) (ax_put_o (Or.inr (by decide)) (ax_put_s _ _ _))))))) rfl rfl (fO (fO (fO (fO (fO (fO (fO (fO (S.ob rfl))))))))) rfl
theorem lg_211_2m0 (hb : tz_r b) (hL : L ≤ 1600) (C : lM h h0 b L p s e k v w τ Φ) (q1 : k = 2) (q2 : 0 ≤ v ∧ v ≤ 9999) (t1 : tz_t b L e s1 e1 k1 v1) (qf : cl_f b s1 e1 k1 ((0 : Nat) : Int)) (t2 : tz_t b L e1 s2 e2 k2 v2) : am_ev (d + 6) 211 0 (am_ent [.ref 78, iv 2] 2) [] h (none, (am_put (am_put (am_put (am_put (am_put (am_put (am_put (am_put (am_put (am_put h 78 4 (iv ((s1 : Int)))) 78 7 (iv ((tV b L s1 (w))))) 78 5 (iv ((e1 : Int)))) 78 6 (iv ((tH k1)))) 106 80 (iv (w))) 107 80 (iv 0)) 78 4 (iv ((s2 : Int)))) 78 7 (iv ((tV b L s2 ((tV b L s1 (w))))))) 78 5 (iv ((e2 : Int)))) 78 6 (iv ((tH k2))))) := by
  obtain ⟨S, B, w3, t0, w4, w5, w6, w7, ya, yb, f8, f9, zt, dT, F, fr⟩ := C
  have f0 := t0.f5 hb
  have y0 := ya q1
  have u0 := t0.bd hb q1
  clear ya yb
  have f1 := t1.f5 hb
  show am_ev (d + 6) 211 0 [.ref 78, iv 2] [] h _
  refine am_ev.step (pc' := 1) rfl rfl ?_
  refine fx_ts (p' := 70) rfl (by omega) (by omega) rfl (by decide) ?_
  refine am_ev.step (pc' := 71) rfl rfl ?_
  refine ax_gf (p' := 74) rfl rfl (S.ob rfl) (S.rf rfl rfl) ?_
  refine fx_bip (p' := 76) rfl rfl rfl ?_
  refine am_ev.step (pc' := 77) rfl rfl ?_
  refine am_ev.step (pc' := 78) rfl rfl ?_
  refine fx_sip (p' := 81) rfl rfl rfl ?_
  refine ax_call (z := 179) (p' := 84) (as := [_, _, _]) rfl (Or.inr (Or.inl ⟨_, rfl⟩)) rfl rfl rfl rfl rfl rfl (S.ob rfl) rfl (md_179c (lo := 0) (hi := 9999) (k := k) (s := s) S w4 w6 (by omega) (by omega) w7 (by omega) B hb hL w3 w5 t1 (by omega)) rfl ?_
  refine ax_iastore (p' := 85) rfl rfl (((((S.po rfl rfl).po rfl rfl).po rfl rfl).po rfl rfl).wr (k := 80) rfl rfl rfl rfl (by decide)) ?_
  refine am_ev.step (pc' := 86) rfl rfl ?_
  refine ax_gf (p' := 89) rfl rfl (fO (fO (fO (fO (fO (S.ob rfl)))))) (ax_put_o (Or.inl (by decide)) (ax_put_o (Or.inr (by decide)) (ax_put_o (Or.inr (by decide)) (ax_put_o (Or.inr (by decide)) (ax_put_o (Or.inr (by decide)) (S.rf rfl rfl)))))) ?_
  refine fx_bip (p' := 91) rfl rfl rfl ?_
  refine am_ev.step (pc' := 92) rfl rfl ?_
  refine am_ev.ldcw rfl rfl rfl rfl ?_
  refine ax_call (z := 175) (p' := 98) (as := [_, _]) rfl (Or.inr (Or.inl ⟨_, rfl⟩)) rfl rfl rfl rfl rfl rfl (fO (fO (fO (fO (fO (S.ob rfl)))))) rfl ((tk_175 (i := 8) (k := k1) (s := s1) (e := e1) (by decide) (((((S.po rfl rfl).po rfl rfl).po rfl rfl).po rfl rfl).pa rfl) (((((B.put (by decide)).put (by decide)).put (by decide)).put (by decide)).put (by decide)) hb hL (ax_put_o (Or.inl (by decide)) (ax_put_s _ _ _)) (ax_put_o (Or.inl (by decide)) (ax_put_o (Or.inr (by decide)) (ax_put_o (Or.inr (by decide)) (ax_put_o (Or.inr (by decide)) (ax_put_s _ _ _))))) (ax_put_o (Or.inl (by decide)) (ax_put_o (Or.inr (by decide)) (ax_put_s _ _ _))) ⟨(t1.f hb).2.1, (t1.f hb).2.2.1⟩ ⟨(t1.f hb).2.2.2.1, Int.le_trans (t1.f hb).2.2.2.2.1 (by decide)⟩).1 ((cl_f_w qf (n := 0) (by decide)).1 rfl)) rfl ?_
  refine fx_z_eq_F (pF := 101) rfl (by omega) rfl (by omega) ?_
  refine am_ev.step (pc' := 102) rfl rfl ?_
  refine am_ev.step (pc' := 119) rfl rfl ?_
  refine ax_iastore (p' := 120) rfl rfl ((((((S.po rfl rfl).po rfl rfl).po rfl rfl).po rfl rfl).pa rfl).wr (k := 80) rfl rfl rfl rfl (by decide)) ?_
  refine am_ev.step (pc' := 121) rfl rfl ?_
  refine am_ev.step (pc' := 122) rfl rfl ?_
  refine ax_gf (p' := 125) rfl rfl (fO (fO (fO (fO (fO (fO (S.ob rfl))))))) (ax_put_o (Or.inl (by decide)) (ax_put_o (Or.inl (by decide)) (ax_put_o (Or.inr (by decide)) (ax_put_o (Or.inr (by decide)) (ax_put_o (Or.inr (by decide)) (ax_put_o (Or.inr (by decide)) (S.rf rfl rfl))))))) ?_
  refine fx_bip (p' := 127) rfl rfl rfl ?_
  refine ax_iaload (p' := 128) rfl rfl (((((((S.po rfl rfl).po rfl rfl).po rfl rfl).po rfl rfl).pa rfl).pa rfl).rd (k := 80) rfl rfl rfl rfl rfl (by decide) (ax_put_s _ _ _)) ?_
  refine am_ev.step (pc' := 129) rfl rfl ?_
  refine fx_c_lt_T (pT := 142) rfl (by omega) (by omega) rfl (by omega) ?_
  refine am_ev.step (pc' := 143) rfl rfl ?_
  refine am_ev.step (pc' := 147) rfl rfl ?_
  refine am_ev.step (pc' := 148) rfl rfl ?_
  refine ax_call (z := 177) (p' := 151) (as := [_, _, _]) rfl (Or.inr (Or.inl ⟨_, rfl⟩)) rfl rfl rfl rfl rfl rfl (fO (fO (fO (fO (fO (fO (S.ob rfl))))))) rfl md_177t rfl ?_
  refine am_ev.step (pc' := 152) rfl rfl ?_
  refine ax_call (z := 170) (p' := 155) (as := [_]) rfl (Or.inr (Or.inl ⟨_, rfl⟩)) rfl rfl rfl rfl rfl rfl (fO (fO (fO (fO (fO (fO (S.ob rfl))))))) rfl (md_170 ((((((S.po rfl rfl).po rfl rfl).po rfl rfl).po rfl rfl).pa rfl).pa rfl) ((((((B.put (by decide)).put (by decide)).put (by decide)).put (by decide)).put (by decide)).put (by decide)) hb hL (ax_put_o (Or.inl (by decide)) (ax_put_o (Or.inl (by decide)) (ax_put_o (Or.inr (by decide)) (ax_put_o (Or.inr (by decide)) (ax_put_o (Or.inr (by decide)) (ax_put_o (Or.inr (by decide)) w3)))))) (ax_put_o (Or.inl (by decide)) (ax_put_o (Or.inl (by decide)) (ax_put_o (Or.inr (by decide)) (ax_put_s _ _ _)))) (ax_put_o (Or.inl (by decide)) (ax_put_o (Or.inl (by decide)) (ax_put_o (Or.inr (by decide)) (ax_put_o (Or.inr (by decide)) (ax_put_s _ _ _))))) t2) rfl ?_
  refine am_ev.step (pc' := 256) rfl rfl ?_
  exact am_ev.retv rfl rfl
theorem lg_211_2m1 (hb : tz_r b) (hL : L ≤ 1600) (C : lM h h0 b L p s e k v w τ Φ) (q1 : k = 2) (q2 : 0 ≤ v ∧ v ≤ 9999) (t1 : tz_t b L e s1 e1 k1 v1) (qf : cl_f b s1 e1 k1 ((1 : Nat) : Int)) (t2 : tz_t b L e1 s2 e2 k2 v2) : am_ev (d + 6) 211 0 (am_ent [.ref 78, iv 2] 2) [] h (none, (am_put (am_put (am_put (am_put (am_put (am_put (am_put (am_put (am_put (am_put h 78 4 (iv ((s1 : Int)))) 78 7 (iv ((tV b L s1 (w))))) 78 5 (iv ((e1 : Int)))) 78 6 (iv ((tH k1)))) 106 80 (iv (w))) 107 80 (iv 1)) 78 4 (iv ((s2 : Int)))) 78 7 (iv ((tV b L s2 ((tV b L s1 (w))))))) 78 5 (iv ((e2 : Int)))) 78 6 (iv ((tH k2))))) := by
  obtain ⟨S, B, w3, t0, w4, w5, w6, w7, ya, yb, f8, f9, zt, dT, F, fr⟩ := C
  have f0 := t0.f5 hb
  have y0 := ya q1
  have u0 := t0.bd hb q1
  clear ya yb
  have f1 := t1.f5 hb
  show am_ev (d + 6) 211 0 [.ref 78, iv 2] [] h _
  refine am_ev.step (pc' := 1) rfl rfl ?_
  refine fx_ts (p' := 70) rfl (by omega) (by omega) rfl (by decide) ?_
  refine am_ev.step (pc' := 71) rfl rfl ?_
  refine ax_gf (p' := 74) rfl rfl (S.ob rfl) (S.rf rfl rfl) ?_
  refine fx_bip (p' := 76) rfl rfl rfl ?_
  refine am_ev.step (pc' := 77) rfl rfl ?_
  refine am_ev.step (pc' := 78) rfl rfl ?_
  refine fx_sip (p' := 81) rfl rfl rfl ?_
  refine ax_call (z := 179) (p' := 84) (as := [_, _, _]) rfl (Or.inr (Or.inl ⟨_, rfl⟩)) rfl rfl rfl rfl rfl rfl (S.ob rfl) rfl (md_179c (lo := 0) (hi := 9999) (k := k) (s := s) S w4 w6 (by omega) (by omega) w7 (by omega) B hb hL w3 w5 t1 (by omega)) rfl ?_
  refine ax_iastore (p' := 85) rfl rfl (((((S.po rfl rfl).po rfl rfl).po rfl rfl).po rfl rfl).wr (k := 80) rfl rfl rfl rfl (by decide)) ?_
  refine am_ev.step (pc' := 86) rfl rfl ?_
  refine ax_gf (p' := 89) rfl rfl (fO (fO (fO (fO (fO (S.ob rfl)))))) (ax_put_o (Or.inl (by decide)) (ax_put_o (Or.inr (by decide)) (ax_put_o (Or.inr (by decide)) (ax_put_o (Or.inr (by decide)) (ax_put_o (Or.inr (by decide)) (S.rf rfl rfl)))))) ?_
  refine fx_bip (p' := 91) rfl rfl rfl ?_
  refine am_ev.step (pc' := 92) rfl rfl ?_
  refine am_ev.ldcw rfl rfl rfl rfl ?_
  refine ax_call (z := 175) (p' := 98) (as := [_, _]) rfl (Or.inr (Or.inl ⟨_, rfl⟩)) rfl rfl rfl rfl rfl rfl (fO (fO (fO (fO (fO (S.ob rfl)))))) rfl ((tk_175 (i := 8) (k := k1) (s := s1) (e := e1) (by decide) (((((S.po rfl rfl).po rfl rfl).po rfl rfl).po rfl rfl).pa rfl) (((((B.put (by decide)).put (by decide)).put (by decide)).put (by decide)).put (by decide)) hb hL (ax_put_o (Or.inl (by decide)) (ax_put_s _ _ _)) (ax_put_o (Or.inl (by decide)) (ax_put_o (Or.inr (by decide)) (ax_put_o (Or.inr (by decide)) (ax_put_o (Or.inr (by decide)) (ax_put_s _ _ _))))) (ax_put_o (Or.inl (by decide)) (ax_put_o (Or.inr (by decide)) (ax_put_s _ _ _))) ⟨(t1.f hb).2.1, (t1.f hb).2.2.1⟩ ⟨(t1.f hb).2.2.2.1, Int.le_trans (t1.f hb).2.2.2.2.1 (by decide)⟩).2 ((cl_f_w qf (n := 0) (by decide)).2 (by decide))) rfl ?_
  refine fx_z_eq_T (pT := 105) rfl (by omega) rfl (by omega) ?_
  refine am_ev.step (pc' := 106) rfl rfl ?_
  refine am_ev.ldc rfl rfl rfl rfl ?_
  refine ax_call (z := 175) (p' := 111) (as := [_, _]) rfl (Or.inr (Or.inl ⟨_, rfl⟩)) rfl rfl rfl rfl rfl rfl (fO (fO (fO (fO (fO (S.ob rfl)))))) rfl ((tk_175 (i := 10) (k := k1) (s := s1) (e := e1) (by decide) (((((S.po rfl rfl).po rfl rfl).po rfl rfl).po rfl rfl).pa rfl) (((((B.put (by decide)).put (by decide)).put (by decide)).put (by decide)).put (by decide)) hb hL (ax_put_o (Or.inl (by decide)) (ax_put_s _ _ _)) (ax_put_o (Or.inl (by decide)) (ax_put_o (Or.inr (by decide)) (ax_put_o (Or.inr (by decide)) (ax_put_o (Or.inr (by decide)) (ax_put_s _ _ _))))) (ax_put_o (Or.inl (by decide)) (ax_put_o (Or.inr (by decide)) (ax_put_s _ _ _))) ⟨(t1.f hb).2.1, (t1.f hb).2.2.1⟩ ⟨(t1.f hb).2.2.2.1, Int.le_trans (t1.f hb).2.2.2.2.1 (by decide)⟩).1 ((cl_f_w qf (n := 1) (by decide)).1 rfl)) rfl ?_
  refine fx_z_eq_F (pF := 114) rfl (by omega) rfl (by omega) ?_
  refine am_ev.step (pc' := 115) rfl rfl ?_
  refine am_ev.step (pc' := 119) rfl rfl ?_
  refine ax_iastore (p' := 120) rfl rfl ((((((S.po rfl rfl).po rfl rfl).po rfl rfl).po rfl rfl).pa rfl).wr (k := 80) rfl rfl rfl rfl (by decide)) ?_
  refine am_ev.step (pc' := 121) rfl rfl ?_
  refine am_ev.step (pc' := 122) rfl rfl ?_
  refine ax_gf (p' := 125) rfl rfl (fO (fO (fO (fO (fO (fO (S.ob rfl))))))) (ax_put_o (Or.inl (by decide)) (ax_put_o (Or.inl (by decide)) (ax_put_o (Or.inr (by decide)) (ax_put_o (Or.inr (by decide)) (ax_put_o (Or.inr (by decide)) (ax_put_o (Or.inr (by decide)) (S.rf rfl rfl))))))) ?_
  refine fx_bip (p' := 127) rfl rfl rfl ?_
  refine ax_iaload (p' := 128) rfl rfl (((((((S.po rfl rfl).po rfl rfl).po rfl rfl).po rfl rfl).pa rfl).pa rfl).rd (k := 80) rfl rfl rfl rfl rfl (by decide) (ax_put_s _ _ _)) ?_
  refine am_ev.step (pc' := 129) rfl rfl ?_
  refine fx_c_lt_T (pT := 142) rfl (by omega) (by omega) rfl (by omega) ?_
  refine am_ev.step (pc' := 143) rfl rfl ?_
  refine am_ev.step (pc' := 147) rfl rfl ?_
  refine am_ev.step (pc' := 148) rfl rfl ?_
  refine ax_call (z := 177) (p' := 151) (as := [_, _, _]) rfl (Or.inr (Or.inl ⟨_, rfl⟩)) rfl rfl rfl rfl rfl rfl (fO (fO (fO (fO (fO (fO (S.ob rfl))))))) rfl md_177t rfl ?_
  refine am_ev.step (pc' := 152) rfl rfl ?_
  refine ax_call (z := 170) (p' := 155) (as := [_]) rfl (Or.inr (Or.inl ⟨_, rfl⟩)) rfl rfl rfl rfl rfl rfl (fO (fO (fO (fO (fO (fO (S.ob rfl))))))) rfl (md_170 ((((((S.po rfl rfl).po rfl rfl).po rfl rfl).po rfl rfl).pa rfl).pa rfl) ((((((B.put (by decide)).put (by decide)).put (by decide)).put (by decide)).put (by decide)).put (by decide)) hb hL (ax_put_o (Or.inl (by decide)) (ax_put_o (Or.inl (by decide)) (ax_put_o (Or.inr (by decide)) (ax_put_o (Or.inr (by decide)) (ax_put_o (Or.inr (by decide)) (ax_put_o (Or.inr (by decide)) w3)))))) (ax_put_o (Or.inl (by decide)) (ax_put_o (Or.inl (by decide)) (ax_put_o (Or.inr (by decide)) (ax_put_s _ _ _)))) (ax_put_o (Or.inl (by decide)) (ax_put_o (Or.inl (by decide)) (ax_put_o (Or.inr (by decide)) (ax_put_o (Or.inr (by decide)) (ax_put_s _ _ _))))) t2) rfl ?_
  refine am_ev.step (pc' := 256) rfl rfl ?_
  exact am_ev.retv rfl rfl
theorem lg_211_2m2 (hb : tz_r b) (hL : L ≤ 1600) (C : lM h h0 b L p s e k v w τ Φ) (q1 : k = 2) (q2 : 0 ≤ v ∧ v ≤ 9999) (t1 : tz_t b L e s1 e1 k1 v1) (qf : cl_f b s1 e1 k1 ((2 : Nat) : Int)) (t2 : tz_t b L e1 s2 e2 k2 v2) : am_ev (d + 6) 211 0 (am_ent [.ref 78, iv 2] 2) [] h (none, (am_put (am_put (am_put (am_put (am_put (am_put (am_put (am_put (am_put (am_put h 78 4 (iv ((s1 : Int)))) 78 7 (iv ((tV b L s1 (w))))) 78 5 (iv ((e1 : Int)))) 78 6 (iv ((tH k1)))) 106 80 (iv (w))) 107 80 (iv 2)) 78 4 (iv ((s2 : Int)))) 78 7 (iv ((tV b L s2 ((tV b L s1 (w))))))) 78 5 (iv ((e2 : Int)))) 78 6 (iv ((tH k2))))) := by
  obtain ⟨S, B, w3, t0, w4, w5, w6, w7, ya, yb, f8, f9, zt, dT, F, fr⟩ := C
  have f0 := t0.f5 hb
  have y0 := ya q1
  have u0 := t0.bd hb q1
  clear ya yb
  have f1 := t1.f5 hb
  show am_ev (d + 6) 211 0 [.ref 78, iv 2] [] h _
  refine am_ev.step (pc' := 1) rfl rfl ?_
  refine fx_ts (p' := 70) rfl (by omega) (by omega) rfl (by decide) ?_
  refine am_ev.step (pc' := 71) rfl rfl ?_
  refine ax_gf (p' := 74) rfl rfl (S.ob rfl) (S.rf rfl rfl) ?_
  refine fx_bip (p' := 76) rfl rfl rfl ?_
  refine am_ev.step (pc' := 77) rfl rfl ?_
  refine am_ev.step (pc' := 78) rfl rfl ?_
  refine fx_sip (p' := 81) rfl rfl rfl ?_
  refine ax_call (z := 179) (p' := 84) (as := [_, _, _]) rfl (Or.inr (Or.inl ⟨_, rfl⟩)) rfl rfl rfl rfl rfl rfl (S.ob rfl) rfl (md_179c (lo := 0) (hi := 9999) (k := k) (s := s) S w4 w6 (by omega) (by omega) w7 (by omega) B hb hL w3 w5 t1 (by omega)) rfl ?_
  refine ax_iastore (p' := 85) rfl rfl (((((S.po rfl rfl).po rfl rfl).po rfl rfl).po rfl rfl).wr (k := 80) rfl rfl rfl rfl (by decide)) ?_
  refine am_ev.step (pc' := 86) rfl rfl ?_
  refine ax_gf (p' := 89) rfl rfl (fO (fO (fO (fO (fO (S.ob rfl)))))) (ax_put_o (Or.inl (by decide)) (ax_put_o (Or.inr (by decide)) (ax_put_o (Or.inr (by decide)) (ax_put_o (Or.inr (by decide)) (ax_put_o (Or.inr (by decide)) (S.rf rfl rfl)))))) ?_
  refine fx_bip (p' := 91) rfl rfl rfl ?_
  refine am_ev.step (pc' := 92) rfl rfl ?_
  refine am_ev.ldcw rfl rfl rfl rfl ?_
  refine ax_call (z := 175) (p' := 98) (as := [_, _]) rfl (Or.inr (Or.inl ⟨_, rfl⟩)) rfl rfl rfl rfl rfl rfl (fO (fO (fO (fO (fO (S.ob rfl)))))) rfl ((tk_175 (i := 8) (k := k1) (s := s1) (e := e1) (by decide) (((((S.po rfl rfl).po rfl rfl).po rfl rfl).po rfl rfl).pa rfl) (((((B.put (by decide)).put (by decide)).put (by decide)).put (by decide)).put (by decide)) hb hL (ax_put_o (Or.inl (by decide)) (ax_put_s _ _ _)) (ax_put_o (Or.inl (by decide)) (ax_put_o (Or.inr (by decide)) (ax_put_o (Or.inr (by decide)) (ax_put_o (Or.inr (by decide)) (ax_put_s _ _ _))))) (ax_put_o (Or.inl (by decide)) (ax_put_o (Or.inr (by decide)) (ax_put_s _ _ _))) ⟨(t1.f hb).2.1, (t1.f hb).2.2.1⟩ ⟨(t1.f hb).2.2.2.1, Int.le_trans (t1.f hb).2.2.2.2.1 (by decide)⟩).2 ((cl_f_w qf (n := 0) (by decide)).2 (by decide))) rfl ?_
  refine fx_z_eq_T (pT := 105) rfl (by omega) rfl (by omega) ?_
  refine am_ev.step (pc' := 106) rfl rfl ?_
  refine am_ev.ldc rfl rfl rfl rfl ?_
  refine ax_call (z := 175) (p' := 111) (as := [_, _]) rfl (Or.inr (Or.inl ⟨_, rfl⟩)) rfl rfl rfl rfl rfl rfl (fO (fO (fO (fO (fO (S.ob rfl)))))) rfl ((tk_175 (i := 10) (k := k1) (s := s1) (e := e1) (by decide) (((((S.po rfl rfl).po rfl rfl).po rfl rfl).po rfl rfl).pa rfl) (((((B.put (by decide)).put (by decide)).put (by decide)).put (by decide)).put (by decide)) hb hL (ax_put_o (Or.inl (by decide)) (ax_put_s _ _ _)) (ax_put_o (Or.inl (by decide)) (ax_put_o (Or.inr (by decide)) (ax_put_o (Or.inr (by decide)) (ax_put_o (Or.inr (by decide)) (ax_put_s _ _ _))))) (ax_put_o (Or.inl (by decide)) (ax_put_o (Or.inr (by decide)) (ax_put_s _ _ _))) ⟨(t1.f hb).2.1, (t1.f hb).2.2.1⟩ ⟨(t1.f hb).2.2.2.1, Int.le_trans (t1.f hb).2.2.2.2.1 (by decide)⟩).2 ((cl_f_w qf (n := 1) (by decide)).2 (by decide))) rfl ?_
  refine fx_z_eq_T (pT := 118) rfl (by omega) rfl (by omega) ?_
  refine am_ev.step (pc' := 119) rfl rfl ?_
  refine ax_iastore (p' := 120) rfl rfl ((((((S.po rfl rfl).po rfl rfl).po rfl rfl).po rfl rfl).pa rfl).wr (k := 80) rfl rfl rfl rfl (by decide)) ?_
  refine am_ev.step (pc' := 121) rfl rfl ?_
  refine am_ev.step (pc' := 122) rfl rfl ?_
  refine ax_gf (p' := 125) rfl rfl (fO (fO (fO (fO (fO (fO (S.ob rfl))))))) (ax_put_o (Or.inl (by decide)) (ax_put_o (Or.inl (by decide)) (ax_put_o (Or.inr (by decide)) (ax_put_o (Or.inr (by decide)) (ax_put_o (Or.inr (by decide)) (ax_put_o (Or.inr (by decide)) (S.rf rfl rfl))))))) ?_
  refine fx_bip (p' := 127) rfl rfl rfl ?_
  refine ax_iaload (p' := 128) rfl rfl (((((((S.po rfl rfl).po rfl rfl).po rfl rfl).po rfl rfl).pa rfl).pa rfl).rd (k := 80) rfl rfl rfl rfl rfl (by decide) (ax_put_s _ _ _)) ?_
  refine am_ev.step (pc' := 129) rfl rfl ?_
  refine fx_c_lt_F (pF := 132) rfl (by omega) (by omega) rfl (by omega) ?_
  refine am_ev.step (pc' := 133) rfl rfl ?_
  refine am_ev.ldcw rfl rfl rfl rfl ?_
  refine ax_call (z := 175) (p' := 139) (as := [_, _]) rfl (Or.inr (Or.inl ⟨_, rfl⟩)) rfl rfl rfl rfl rfl rfl (fO (fO (fO (fO (fO (fO (S.ob rfl))))))) rfl ((tk_175 (i := 0) (k := k1) (s := s1) (e := e1) (by decide) ((((((S.po rfl rfl).po rfl rfl).po rfl rfl).po rfl rfl).pa rfl).pa rfl) ((((((B.put (by decide)).put (by decide)).put (by decide)).put (by decide)).put (by decide)).put (by decide)) hb hL (ax_put_o (Or.inl (by decide)) (ax_put_o (Or.inl (by decide)) (ax_put_s _ _ _))) (ax_put_o (Or.inl (by decide)) (ax_put_o (Or.inl (by decide)) (ax_put_o (Or.inr (by decide)) (ax_put_o (Or.inr (by decide)) (ax_put_o (Or.inr (by decide)) (ax_put_s _ _ _)))))) (ax_put_o (Or.inl (by decide)) (ax_put_o (Or.inl (by decide)) (ax_put_o (Or.inr (by decide)) (ax_put_s _ _ _)))) ⟨(t1.f hb).2.1, (t1.f hb).2.2.1⟩ ⟨(t1.f hb).2.2.2.1, Int.le_trans (t1.f hb).2.2.2.2.1 (by decide)⟩).1 ((cl_f_w qf (n := 2) (by decide)).1 rfl)) rfl ?_
  refine fx_z_eq_F (pF := 142) rfl (by omega) rfl (by omega) ?_
  refine am_ev.step (pc' := 143) rfl rfl ?_
  refine am_ev.step (pc' := 147) rfl rfl ?_
  refine am_ev.step (pc' := 148) rfl rfl ?_
  refine ax_call (z := 177) (p' := 151) (as := [_, _, _]) rfl (Or.inr (Or.inl ⟨_, rfl⟩)) rfl rfl rfl rfl rfl rfl (fO (fO (fO (fO (fO (fO (S.ob rfl))))))) rfl md_177t rfl ?_
  refine am_ev.step (pc' := 152) rfl rfl ?_
  refine ax_call (z := 170) (p' := 155) (as := [_]) rfl (Or.inr (Or.inl ⟨_, rfl⟩)) rfl rfl rfl rfl rfl rfl (fO (fO (fO (fO (fO (fO (S.ob rfl))))))) rfl (md_170 ((((((S.po rfl rfl).po rfl rfl).po rfl rfl).po rfl rfl).pa rfl).pa rfl) ((((((B.put (by decide)).put (by decide)).put (by decide)).put (by decide)).put (by decide)).put (by decide)) hb hL (ax_put_o (Or.inl (by decide)) (ax_put_o (Or.inl (by decide)) (ax_put_o (Or.inr (by decide)) (ax_put_o (Or.inr (by decide)) (ax_put_o (Or.inr (by decide)) (ax_put_o (Or.inr (by decide)) w3)))))) (ax_put_o (Or.inl (by decide)) (ax_put_o (Or.inl (by decide)) (ax_put_o (Or.inr (by decide)) (ax_put_s _ _ _)))) (ax_put_o (Or.inl (by decide)) (ax_put_o (Or.inl (by decide)) (ax_put_o (Or.inr (by decide)) (ax_put_o (Or.inr (by decide)) (ax_put_s _ _ _))))) t2) rfl ?_
  refine am_ev.step (pc' := 256) rfl rfl ?_
  exact am_ev.retv rfl rfl
theorem lg_211_5a (hb : tz_r b) (hL : L ≤ 1600) (C : lM h h0 b L p s e k v w τ Φ) (q1 : k ≠ 1) : am_ev (d + 6) 211 0 (am_ent [.ref 78, iv 5] 2) [] h (some (.retAddr (79 + 1)), (am_put (am_put h 78 8 (iv 1)) 78 9 (iv ((s : Int))))) := by
  obtain ⟨S, B, w3, t0, w4, w5, w6, w7, ya, yb, f8, f9, zt, dT, F, fr⟩ := C
  have f0 := t0.f5 hb
  clear ya yb
  have hh := tH_c (k := k) ⟨f0.2.2.2.1, f0.2.2.2.2⟩
  show am_ev (d + 6) 211 0 [.ref 78, iv 5] [] h _
  refine am_ev.step (pc' := 1) rfl rfl ?_
  refine fx_td (p' := 190) rfl (by omega) (by omega) (by decide) ?_
  refine am_ev.step (pc' := 191) rfl rfl ?_
  refine am_ev.step (pc' := 192) rfl rfl ?_
  refine ax_gf (p' := 195) rfl rfl (S.ob rfl) w6 ?_
  refine am_ev.step (pc' := 196) rfl rfl ?_
  refine fx_c_ne_T (pT := 203) rfl (by omega) (by omega) rfl (by omega) ?_
  refine am_ev.step (pc' := 204) rfl rfl ?_
  refine am_ev.step (pc' := 205) rfl rfl ?_
  refine ax_callT (a := 79) (z := 177) (as := [_, _, _]) rfl (Or.inr (Or.inl ⟨_, rfl⟩)) rfl rfl rfl rfl rfl rfl (S.ob rfl) (md_177f (s := s) S w4) rfl rfl (fO (fO (S.ob rfl))) rfl
theorem lg_211_5n (hb : tz_r b) (hL : L ≤ 1600) (C : lM h h0 b L p s e k v w τ Φ) (q1 : k = 1) {x : Option Value × am_H} (q9 : am_ev (d + 6) 211 208 [.ref 78, iv 5] [] h x) : am_ev (d + 6) 211 0 (am_ent [.ref 78, iv 5] 2) [] h x := by
  obtain ⟨S, B, w3, t0, w4, w5, w6, w7, ya, yb, f8, f9, zt, dT, F, fr⟩ := C
  have f0 := t0.f5 hb
  clear ya yb
  have e1 : tH k = 1 := by
    rw [q1]
    rfl
  show am_ev (d + 6) 211 0 [.ref 78, iv 5] [] h x
  refine am_ev.step (pc' := 1) rfl rfl ?_
  refine fx_td (p' := 190) rfl (by omega) (by omega) (by decide) ?_
  refine am_ev.step (pc' := 191) rfl rfl ?_
  refine am_ev.step (pc' := 192) rfl rfl ?_
  refine ax_gf (p' := 195) rfl rfl (S.ob rfl) w6 ?_
  refine am_ev.step (pc' := 196) rfl rfl ?_
  refine fx_c_ne_F (pF := 199) rfl (by omega) (by omega) rfl (by omega) ?_
  refine am_ev.step (pc' := 200) rfl rfl ?_
  refine am_ev.step (pc' := 204) rfl rfl ?_
  refine am_ev.step (pc' := 205) rfl rfl ?_
  refine ax_call (z := 177) (p' := 208) (as := [_, _, _]) rfl (Or.inr (Or.inl ⟨_, rfl⟩)) rfl rfl rfl rfl rfl rfl (S.ob rfl) rfl md_177t rfl ?_
  exact q9
theorem lg_E (hb : tz_r b) (hL : L ≤ 1600) (C : lM h h0 b L p s e k v w τ Φ) (q0 : k = 0) : am_ev (d + 8) 209 79 [.ref 78, a1] [] h  (none, h) := by
  obtain ⟨S, B, w3, t0, w4, w5, w6, w7, ya, yb, f8, f9, zt, dT, F, fr⟩ := C
  have f0 := t0.f5 hb
  clear ya yb
  have hr0 := tH_r (k := k) ⟨f0.2.2.2.1, f0.2.2.2.2⟩
  have e0 : tH k = 0 := by
    rw [q0]
    rfl
  refine am_ev.step (pc' := 80) rfl rfl ?_
  refine ax_gf (p' := 83) rfl rfl (S.ob rfl) w6 ?_
  refine fx_z_eq_T (pT := 148) rfl (by omega) rfl (by omega) ?_
  exact am_ev.retv rfl rfl
theorem lg_210 {c : Int} (S : fS h) (B : tb h 80 b L) (hb : tz_r b) (hL : L ≤ 1600) (w4 : h.2.2.2 78 4 = iv s) (w5 : h.2.2.2 78 5 = iv e) (w6 : h.2.2.2 78 6 = iv (tH k)) (t0 : tz_t b L p s e k v) (q : cl_l b s e k c) : am_ev (d + 6) 210 0 (am_ent [.ref 78] 1) [] h (some (iv c), h) := by
  show am_ev (d + 6) 210 0 [.ref 78] [] h _
  have q0 := q
  rcases q with ⟨n, hn, rfl, -⟩ | ⟨rfl, -⟩
  · have w : ∀ m : Nat, m < 6 → (n = m → tz_w b s e k (tx_l m)) ∧ (n ≠ m → ¬ tz_w b s e k (tx_l m)) := fun m hm => ⟨fun z => (cl_l_w q0 hm).1 (by omega), fun z => (cl_l_w q0 hm).2 (by omega)⟩
    have hn2 : n = 0 ∨ n = 1 ∨ n = 2 ∨ n = 3 ∨ n = 4 ∨ n = 5 := by omega
    rcases hn2 with rfl | rfl | rfl | rfl | rfl | rfl
    · refine am_ev.step (pc' := 1) rfl rfl ?_
      refine am_ev.ldcw rfl rfl rfl rfl ?_
      refine ax_call (z := 175) (p' := 7) (as := [_, _]) rfl (Or.inr (Or.inl ⟨_, rfl⟩)) rfl rfl rfl rfl rfl rfl (S.ob rfl) rfl ((tk_175 (i := 7) (k := k) (s := s) (e := e) (by decide) S B hb hL w6 w4 w5 ⟨(t0.f hb).2.1, (t0.f hb).2.2.1⟩ ⟨(t0.f hb).2.2.2.1, Int.le_trans (t0.f hb).2.2.2.2.1 (by decide)⟩).1 ((w 0 (by decide)).1 rfl)) rfl ?_
      refine fx_z_eq_F (pF := 10) rfl (by omega) rfl (by omega) ?_
      refine am_ev.step (pc' := 11) rfl rfl ?_
      exact fx_reti rfl rfl rfl
    · refine am_ev.step (pc' := 1) rfl rfl ?_
      refine am_ev.ldcw rfl rfl rfl rfl ?_
      refine ax_call (z := 175) (p' := 7) (as := [_, _]) rfl (Or.inr (Or.inl ⟨_, rfl⟩)) rfl rfl rfl rfl rfl rfl (S.ob rfl) rfl ((tk_175 (i := 7) (k := k) (s := s) (e := e) (by decide) S B hb hL w6 w4 w5 ⟨(t0.f hb).2.1, (t0.f hb).2.2.1⟩ ⟨(t0.f hb).2.2.2.1, Int.le_trans (t0.f hb).2.2.2.2.1 (by decide)⟩).2 ((w 0 (by decide)).2 (by decide))) rfl ?_
      refine fx_z_eq_T (pT := 12) rfl (by omega) rfl (by omega) ?_
      refine am_ev.step (pc' := 13) rfl rfl ?_
      refine am_ev.ldcw rfl rfl rfl rfl ?_
      refine ax_call (z := 175) (p' := 19) (as := [_, _]) rfl (Or.inr (Or.inl ⟨_, rfl⟩)) rfl rfl rfl rfl rfl rfl (S.ob rfl) rfl ((tk_175 (i := 15) (k := k) (s := s) (e := e) (by decide) S B hb hL w6 w4 w5 ⟨(t0.f hb).2.1, (t0.f hb).2.2.1⟩ ⟨(t0.f hb).2.2.2.1, Int.le_trans (t0.f hb).2.2.2.2.1 (by decide)⟩).1 ((w 1 (by decide)).1 rfl)) rfl ?_
      refine fx_z_eq_F (pF := 22) rfl (by omega) rfl (by omega) ?_
      refine am_ev.step (pc' := 23) rfl rfl ?_
      exact fx_reti rfl rfl rfl
    · refine am_ev.step (pc' := 1) rfl rfl ?_
      refine am_ev.ldcw rfl rfl rfl rfl ?_
      refine ax_call (z := 175) (p' := 7) (as := [_, _]) rfl (Or.inr (Or.inl ⟨_, rfl⟩)) rfl rfl rfl rfl rfl rfl (S.ob rfl) rfl ((tk_175 (i := 7) (k := k) (s := s) (e := e) (by decide) S B hb hL w6 w4 w5 ⟨(t0.f hb).2.1, (t0.f hb).2.2.1⟩ ⟨(t0.f hb).2.2.2.1, Int.le_trans (t0.f hb).2.2.2.2.1 (by decide)⟩).2 ((w 0 (by decide)).2 (by decide))) rfl ?_
      refine fx_z_eq_T (pT := 12) rfl (by omega) rfl (by omega) ?_
      refine am_ev.step (pc' := 13) rfl rfl ?_
      refine am_ev.ldcw rfl rfl rfl rfl ?_
      refine ax_call (z := 175) (p' := 19) (as := [_, _]) rfl (Or.inr (Or.inl ⟨_, rfl⟩)) rfl rfl rfl rfl rfl rfl (S.ob rfl) rfl ((tk_175 (i := 15) (k := k) (s := s) (e := e) (by decide) S B hb hL w6 w4 w5 ⟨(t0.f hb).2.1, (t0.f hb).2.2.1⟩ ⟨(t0.f hb).2.2.2.1, Int.le_trans (t0.f hb).2.2.2.2.1 (by decide)⟩).2 ((w 1 (by decide)).2 (by decide))) rfl ?_
      refine fx_z_eq_T (pT := 24) rfl (by omega) rfl (by omega) ?_
      refine am_ev.step (pc' := 25) rfl rfl ?_
      refine am_ev.ldcw rfl rfl rfl rfl ?_
      refine ax_call (z := 175) (p' := 31) (as := [_, _]) rfl (Or.inr (Or.inl ⟨_, rfl⟩)) rfl rfl rfl rfl rfl rfl (S.ob rfl) rfl ((tk_175 (i := 4) (k := k) (s := s) (e := e) (by decide) S B hb hL w6 w4 w5 ⟨(t0.f hb).2.1, (t0.f hb).2.2.1⟩ ⟨(t0.f hb).2.2.2.1, Int.le_trans (t0.f hb).2.2.2.2.1 (by decide)⟩).1 ((w 2 (by decide)).1 rfl)) rfl ?_
      refine fx_z_eq_F (pF := 34) rfl (by omega) rfl (by omega) ?_
      refine am_ev.step (pc' := 35) rfl rfl ?_
      exact fx_reti rfl rfl rfl
    · refine am_ev.step (pc' := 1) rfl rfl ?_
      refine am_ev.ldcw rfl rfl rfl rfl ?_
      refine ax_call (z := 175) (p' := 7) (as := [_, _]) rfl (Or.inr (Or.inl ⟨_, rfl⟩)) rfl rfl rfl rfl rfl rfl (S.ob rfl) rfl ((tk_175 (i := 7) (k := k) (s := s) (e := e) (by decide) S B hb hL w6 w4 w5 ⟨(t0.f hb).2.1, (t0.f hb).2.2.1⟩ ⟨(t0.f hb).2.2.2.1, Int.le_trans (t0.f hb).2.2.2.2.1 (by decide)⟩).2 ((w 0 (by decide)).2 (by decide))) rfl ?_
      refine fx_z_eq_T (pT := 12) rfl (by omega) rfl (by omega) ?_
      refine am_ev.step (pc' := 13) rfl rfl ?_
      refine am_ev.ldcw rfl rfl rfl rfl ?_
      refine ax_call (z := 175) (p' := 19) (as := [_, _]) rfl (Or.inr (Or.inl ⟨_, rfl⟩)) rfl rfl rfl rfl rfl rfl (S.ob rfl) rfl ((tk_175 (i := 15) (k := k) (s := s) (e := e) (by decide) S B hb hL w6 w4 w5 ⟨(t0.f hb).2.1, (t0.f hb).2.2.1⟩ ⟨(t0.f hb).2.2.2.1, Int.le_trans (t0.f hb).2.2.2.2.1 (by decide)⟩).2 ((w 1 (by decide)).2 (by decide))) rfl ?_
      refine fx_z_eq_T (pT := 24) rfl (by omega) rfl (by omega) ?_
      refine am_ev.step (pc' := 25) rfl rfl ?_
      refine am_ev.ldcw rfl rfl rfl rfl ?_
      refine ax_call (z := 175) (p' := 31) (as := [_, _]) rfl (Or.inr (Or.inl ⟨_, rfl⟩)) rfl rfl rfl rfl rfl rfl (S.ob rfl) rfl ((tk_175 (i := 4) (k := k) (s := s) (e := e) (by decide) S B hb hL w6 w4 w5 ⟨(t0.f hb).2.1, (t0.f hb).2.2.1⟩ ⟨(t0.f hb).2.2.2.1, Int.le_trans (t0.f hb).2.2.2.2.1 (by decide)⟩).2 ((w 2 (by decide)).2 (by decide))) rfl ?_
      refine fx_z_eq_T (pT := 36) rfl (by omega) rfl (by omega) ?_
      refine am_ev.step (pc' := 37) rfl rfl ?_
      refine am_ev.ldcw rfl rfl rfl rfl ?_
      refine ax_call (z := 175) (p' := 43) (as := [_, _]) rfl (Or.inr (Or.inl ⟨_, rfl⟩)) rfl rfl rfl rfl rfl rfl (S.ob rfl) rfl ((tk_175 (i := 1) (k := k) (s := s) (e := e) (by decide) S B hb hL w6 w4 w5 ⟨(t0.f hb).2.1, (t0.f hb).2.2.1⟩ ⟨(t0.f hb).2.2.2.1, Int.le_trans (t0.f hb).2.2.2.2.1 (by decide)⟩).1 ((w 3 (by decide)).1 rfl)) rfl ?_
      refine fx_z_eq_F (pF := 46) rfl (by omega) rfl (by omega) ?_
      refine am_ev.step (pc' := 47) rfl rfl ?_
      exact fx_reti rfl rfl rfl
    · refine am_ev.step (pc' := 1) rfl rfl ?_
      refine am_ev.ldcw rfl rfl rfl rfl ?_
      refine ax_call (z := 175) (p' := 7) (as := [_, _]) rfl (Or.inr (Or.inl ⟨_, rfl⟩)) rfl rfl rfl rfl rfl rfl (S.ob rfl) rfl ((tk_175 (i := 7) (k := k) (s := s) (e := e) (by decide) S B hb hL w6 w4 w5 ⟨(t0.f hb).2.1, (t0.f hb).2.2.1⟩ ⟨(t0.f hb).2.2.2.1, Int.le_trans (t0.f hb).2.2.2.2.1 (by decide)⟩).2 ((w 0 (by decide)).2 (by decide))) rfl ?_
      refine fx_z_eq_T (pT := 12) rfl (by omega) rfl (by omega) ?_
      refine am_ev.step (pc' := 13) rfl rfl ?_
      refine am_ev.ldcw rfl rfl rfl rfl ?_
      refine ax_call (z := 175) (p' := 19) (as := [_, _]) rfl (Or.inr (Or.inl ⟨_, rfl⟩)) rfl rfl rfl rfl rfl rfl (S.ob rfl) rfl ((tk_175 (i := 15) (k := k) (s := s) (e := e) (by decide) S B hb hL w6 w4 w5 ⟨(t0.f hb).2.1, (t0.f hb).2.2.1⟩ ⟨(t0.f hb).2.2.2.1, Int.le_trans (t0.f hb).2.2.2.2.1 (by decide)⟩).2 ((w 1 (by decide)).2 (by decide))) rfl ?_
      refine fx_z_eq_T (pT := 24) rfl (by omega) rfl (by omega) ?_
      refine am_ev.step (pc' := 25) rfl rfl ?_
      refine am_ev.ldcw rfl rfl rfl rfl ?_
      refine ax_call (z := 175) (p' := 31) (as := [_, _]) rfl (Or.inr (Or.inl ⟨_, rfl⟩)) rfl rfl rfl rfl rfl rfl (S.ob rfl) rfl ((tk_175 (i := 4) (k := k) (s := s) (e := e) (by decide) S B hb hL w6 w4 w5 ⟨(t0.f hb).2.1, (t0.f hb).2.2.1⟩ ⟨(t0.f hb).2.2.2.1, Int.le_trans (t0.f hb).2.2.2.2.1 (by decide)⟩).2 ((w 2 (by decide)).2 (by decide))) rfl ?_
      refine fx_z_eq_T (pT := 36) rfl (by omega) rfl (by omega) ?_
      refine am_ev.step (pc' := 37) rfl rfl ?_
      refine am_ev.ldcw rfl rfl rfl rfl ?_
      refine ax_call (z := 175) (p' := 43) (as := [_, _]) rfl (Or.inr (Or.inl ⟨_, rfl⟩)) rfl rfl rfl rfl rfl rfl (S.ob rfl) rfl ((tk_175 (i := 1) (k := k) (s := s) (e := e) (by decide) S B hb hL w6 w4 w5 ⟨(t0.f hb).2.1, (t0.f hb).2.2.1⟩ ⟨(t0.f hb).2.2.2.1, Int.le_trans (t0.f hb).2.2.2.2.1 (by decide)⟩).2 ((w 3 (by decide)).2 (by decide))) rfl ?_
      refine fx_z_eq_T (pT := 48) rfl (by omega) rfl (by omega) ?_
      refine am_ev.step (pc' := 49) rfl rfl ?_
      refine am_ev.ldcw rfl rfl rfl rfl ?_
      refine ax_call (z := 175) (p' := 55) (as := [_, _]) rfl (Or.inr (Or.inl ⟨_, rfl⟩)) rfl rfl rfl rfl rfl rfl (S.ob rfl) rfl ((tk_175 (i := 3) (k := k) (s := s) (e := e) (by decide) S B hb hL w6 w4 w5 ⟨(t0.f hb).2.1, (t0.f hb).2.2.1⟩ ⟨(t0.f hb).2.2.2.1, Int.le_trans (t0.f hb).2.2.2.2.1 (by decide)⟩).1 ((w 4 (by decide)).1 rfl)) rfl ?_
      refine fx_z_eq_F (pF := 58) rfl (by omega) rfl (by omega) ?_
      refine am_ev.step (pc' := 59) rfl rfl ?_
      exact fx_reti rfl rfl rfl
    · refine am_ev.step (pc' := 1) rfl rfl ?_
      refine am_ev.ldcw rfl rfl rfl rfl ?_
      refine ax_call (z := 175) (p' := 7) (as := [_, _]) rfl (Or.inr (Or.inl ⟨_, rfl⟩)) rfl rfl rfl rfl rfl rfl (S.ob rfl) rfl ((tk_175 (i := 7) (k := k) (s := s) (e := e) (by decide) S B hb hL w6 w4 w5 ⟨(t0.f hb).2.1, (t0.f hb).2.2.1⟩ ⟨(t0.f hb).2.2.2.1, Int.le_trans (t0.f hb).2.2.2.2.1 (by decide)⟩).2 ((w 0 (by decide)).2 (by decide))) rfl ?_
      refine fx_z_eq_T (pT := 12) rfl (by omega) rfl (by omega) ?_
      refine am_ev.step (pc' := 13) rfl rfl ?_
      refine am_ev.ldcw rfl rfl rfl rfl ?_
      refine ax_call (z := 175) (p' := 19) (as := [_, _]) rfl (Or.inr (Or.inl ⟨_, rfl⟩)) rfl rfl rfl rfl rfl rfl (S.ob rfl) rfl ((tk_175 (i := 15) (k := k) (s := s) (e := e) (by decide) S B hb hL w6 w4 w5 ⟨(t0.f hb).2.1, (t0.f hb).2.2.1⟩ ⟨(t0.f hb).2.2.2.1, Int.le_trans (t0.f hb).2.2.2.2.1 (by decide)⟩).2 ((w 1 (by decide)).2 (by decide))) rfl ?_
      refine fx_z_eq_T (pT := 24) rfl (by omega) rfl (by omega) ?_
      refine am_ev.step (pc' := 25) rfl rfl ?_
      refine am_ev.ldcw rfl rfl rfl rfl ?_
      refine ax_call (z := 175) (p' := 31) (as := [_, _]) rfl (Or.inr (Or.inl ⟨_, rfl⟩)) rfl rfl rfl rfl rfl rfl (S.ob rfl) rfl ((tk_175 (i := 4) (k := k) (s := s) (e := e) (by decide) S B hb hL w6 w4 w5 ⟨(t0.f hb).2.1, (t0.f hb).2.2.1⟩ ⟨(t0.f hb).2.2.2.1, Int.le_trans (t0.f hb).2.2.2.2.1 (by decide)⟩).2 ((w 2 (by decide)).2 (by decide))) rfl ?_
      refine fx_z_eq_T (pT := 36) rfl (by omega) rfl (by omega) ?_
      refine am_ev.step (pc' := 37) rfl rfl ?_
      refine am_ev.ldcw rfl rfl rfl rfl ?_
      refine ax_call (z := 175) (p' := 43) (as := [_, _]) rfl (Or.inr (Or.inl ⟨_, rfl⟩)) rfl rfl rfl rfl rfl rfl (S.ob rfl) rfl ((tk_175 (i := 1) (k := k) (s := s) (e := e) (by decide) S B hb hL w6 w4 w5 ⟨(t0.f hb).2.1, (t0.f hb).2.2.1⟩ ⟨(t0.f hb).2.2.2.1, Int.le_trans (t0.f hb).2.2.2.2.1 (by decide)⟩).2 ((w 3 (by decide)).2 (by decide))) rfl ?_
      refine fx_z_eq_T (pT := 48) rfl (by omega) rfl (by omega) ?_
      refine am_ev.step (pc' := 49) rfl rfl ?_
      refine am_ev.ldcw rfl rfl rfl rfl ?_
      refine ax_call (z := 175) (p' := 55) (as := [_, _]) rfl (Or.inr (Or.inl ⟨_, rfl⟩)) rfl rfl rfl rfl rfl rfl (S.ob rfl) rfl ((tk_175 (i := 3) (k := k) (s := s) (e := e) (by decide) S B hb hL w6 w4 w5 ⟨(t0.f hb).2.1, (t0.f hb).2.2.1⟩ ⟨(t0.f hb).2.2.2.1, Int.le_trans (t0.f hb).2.2.2.2.1 (by decide)⟩).2 ((w 4 (by decide)).2 (by decide))) rfl ?_
      refine fx_z_eq_T (pT := 60) rfl (by omega) rfl (by omega) ?_
      refine am_ev.step (pc' := 61) rfl rfl ?_
      refine am_ev.ldcw rfl rfl rfl rfl ?_
      refine ax_call (z := 175) (p' := 67) (as := [_, _]) rfl (Or.inr (Or.inl ⟨_, rfl⟩)) rfl rfl rfl rfl rfl rfl (S.ob rfl) rfl ((tk_175 (i := 2) (k := k) (s := s) (e := e) (by decide) S B hb hL w6 w4 w5 ⟨(t0.f hb).2.1, (t0.f hb).2.2.1⟩ ⟨(t0.f hb).2.2.2.1, Int.le_trans (t0.f hb).2.2.2.2.1 (by decide)⟩).1 ((w 5 (by decide)).1 rfl)) rfl ?_
      refine fx_z_eq_F (pF := 70) rfl (by omega) rfl (by omega) ?_
      refine am_ev.step (pc' := 71) rfl rfl ?_
      refine am_ev.step (pc' := 75) rfl rfl ?_
      exact fx_reti rfl rfl rfl
  · refine am_ev.step (pc' := 1) rfl rfl ?_
    refine am_ev.ldcw rfl rfl rfl rfl ?_
    refine ax_call (z := 175) (p' := 7) (as := [_, _]) rfl (Or.inr (Or.inl ⟨_, rfl⟩)) rfl rfl rfl rfl rfl rfl (S.ob rfl) rfl ((tk_175 (i := 7) (k := k) (s := s) (e := e) (by decide) S B hb hL w6 w4 w5 ⟨(t0.f hb).2.1, (t0.f hb).2.2.1⟩ ⟨(t0.f hb).2.2.2.1, Int.le_trans (t0.f hb).2.2.2.2.1 (by decide)⟩).2 ((cl_l_w q0 (n := 0) (by decide)).2 (by decide))) rfl ?_
    refine fx_z_eq_T (pT := 12) rfl (by omega) rfl (by omega) ?_
    refine am_ev.step (pc' := 13) rfl rfl ?_
    refine am_ev.ldcw rfl rfl rfl rfl ?_
    refine ax_call (z := 175) (p' := 19) (as := [_, _]) rfl (Or.inr (Or.inl ⟨_, rfl⟩)) rfl rfl rfl rfl rfl rfl (S.ob rfl) rfl ((tk_175 (i := 15) (k := k) (s := s) (e := e) (by decide) S B hb hL w6 w4 w5 ⟨(t0.f hb).2.1, (t0.f hb).2.2.1⟩ ⟨(t0.f hb).2.2.2.1, Int.le_trans (t0.f hb).2.2.2.2.1 (by decide)⟩).2 ((cl_l_w q0 (n := 1) (by decide)).2 (by decide))) rfl ?_
    refine fx_z_eq_T (pT := 24) rfl (by omega) rfl (by omega) ?_
    refine am_ev.step (pc' := 25) rfl rfl ?_
    refine am_ev.ldcw rfl rfl rfl rfl ?_
    refine ax_call (z := 175) (p' := 31) (as := [_, _]) rfl (Or.inr (Or.inl ⟨_, rfl⟩)) rfl rfl rfl rfl rfl rfl (S.ob rfl) rfl ((tk_175 (i := 4) (k := k) (s := s) (e := e) (by decide) S B hb hL w6 w4 w5 ⟨(t0.f hb).2.1, (t0.f hb).2.2.1⟩ ⟨(t0.f hb).2.2.2.1, Int.le_trans (t0.f hb).2.2.2.2.1 (by decide)⟩).2 ((cl_l_w q0 (n := 2) (by decide)).2 (by decide))) rfl ?_
    refine fx_z_eq_T (pT := 36) rfl (by omega) rfl (by omega) ?_
    refine am_ev.step (pc' := 37) rfl rfl ?_
    refine am_ev.ldcw rfl rfl rfl rfl ?_
    refine ax_call (z := 175) (p' := 43) (as := [_, _]) rfl (Or.inr (Or.inl ⟨_, rfl⟩)) rfl rfl rfl rfl rfl rfl (S.ob rfl) rfl ((tk_175 (i := 1) (k := k) (s := s) (e := e) (by decide) S B hb hL w6 w4 w5 ⟨(t0.f hb).2.1, (t0.f hb).2.2.1⟩ ⟨(t0.f hb).2.2.2.1, Int.le_trans (t0.f hb).2.2.2.2.1 (by decide)⟩).2 ((cl_l_w q0 (n := 3) (by decide)).2 (by decide))) rfl ?_
    refine fx_z_eq_T (pT := 48) rfl (by omega) rfl (by omega) ?_
    refine am_ev.step (pc' := 49) rfl rfl ?_
    refine am_ev.ldcw rfl rfl rfl rfl ?_
    refine ax_call (z := 175) (p' := 55) (as := [_, _]) rfl (Or.inr (Or.inl ⟨_, rfl⟩)) rfl rfl rfl rfl rfl rfl (S.ob rfl) rfl ((tk_175 (i := 3) (k := k) (s := s) (e := e) (by decide) S B hb hL w6 w4 w5 ⟨(t0.f hb).2.1, (t0.f hb).2.2.1⟩ ⟨(t0.f hb).2.2.2.1, Int.le_trans (t0.f hb).2.2.2.2.1 (by decide)⟩).2 ((cl_l_w q0 (n := 4) (by decide)).2 (by decide))) rfl ?_
    refine fx_z_eq_T (pT := 60) rfl (by omega) rfl (by omega) ?_
    refine am_ev.step (pc' := 61) rfl rfl ?_
    refine am_ev.ldcw rfl rfl rfl rfl ?_
    refine ax_call (z := 175) (p' := 67) (as := [_, _]) rfl (Or.inr (Or.inl ⟨_, rfl⟩)) rfl rfl rfl rfl rfl rfl (S.ob rfl) rfl ((tk_175 (i := 2) (k := k) (s := s) (e := e) (by decide) S B hb hL w6 w4 w5 ⟨(t0.f hb).2.1, (t0.f hb).2.2.1⟩ ⟨(t0.f hb).2.2.2.1, Int.le_trans (t0.f hb).2.2.2.2.1 (by decide)⟩).2 ((cl_l_w q0 (n := 5) (by decide)).2 (by decide))) rfl ?_
    refine fx_z_eq_T (pT := 74) rfl (by omega) rfl (by omega) ?_
    refine am_ev.step (pc' := 75) rfl rfl ?_
    exact fx_reti rfl rfl rfl
theorem lg_x (hb : tz_r b) (hL : L ≤ 1600) (C : lM h h0 b L p s e k v w τ Φ) (q0 : k ≠ 0) (q1 : cl_l b s e k (-1)) : am_ev (d + 8) 209 79 [.ref 78, a1] [] h  (some (.retAddr (79 + 1)), FMo h 1 s) := by
  obtain ⟨S, B, w3, t0, w4, w5, w6, w7, ya, yb, f8, f9, zt, dT, F, fr⟩ := C
  have f0 := t0.f5 hb
  clear ya yb
  have hr0 := tH_r (k := k) ⟨f0.2.2.2.1, f0.2.2.2.2⟩
  have hn0 := tH_0 (k := k) ⟨f0.2.2.2.1, f0.2.2.2.2⟩ q0
  refine am_ev.step (pc' := 80) rfl rfl ?_
  refine ax_gf (p' := 83) rfl rfl (S.ob rfl) w6 ?_
  refine fx_z_eq_F (pF := 86) rfl (by omega) rfl (by omega) ?_
  refine am_ev.step (pc' := 87) rfl rfl ?_
  refine ax_call (z := 210) (p' := 90) (as := [_]) rfl (Or.inr (Or.inl ⟨_, rfl⟩)) rfl rfl rfl rfl rfl rfl (S.ob rfl) rfl (lg_210 S B hb hL w4 w5 w6 t0 q1) rfl ?_
  refine am_ev.step (pc' := 91) (ls' := [.ref 78, iv (-1)]) rfl rfl ?_
  refine am_ev.step (pc' := 92) rfl rfl ?_
  refine am_ev.step (pc' := 93) rfl rfl ?_
  refine am_ev.step (pc' := 94) rfl rfl ?_
  refine fx_c_eq_T (pT := 101) rfl (by omega) (by omega) rfl (by omega) ?_
  refine am_ev.step (pc' := 102) rfl rfl ?_
  refine am_ev.step (pc' := 103) rfl rfl ?_
  refine ax_callT (a := 79) (z := 177) (as := [_, _, _]) rfl (Or.inr (Or.inl ⟨_, rfl⟩)) rfl rfl rfl rfl rfl rfl (S.ob rfl) (md_177f (s := s) S w4) rfl rfl (fO (fO (S.ob rfl))) rfl
theorem lg_a (hb : tz_r b) (hL : L ≤ 1600) (C : lM h h0 b L p s e k v w τ Φ) (q0 : k ≠ 0) (hl : l < 6) (q1 : cl_l b s e k l) (q2 : τ l = 1) : am_ev (d + 8) 209 79 [.ref 78, a1] [] h  (some (.retAddr (79 + 1)), FMo h 3 s) := by
  obtain ⟨S, B, w3, t0, w4, w5, w6, w7, ya, yb, f8, f9, zt, dT, F, fr⟩ := C
  have f0 := t0.f5 hb
  clear ya yb
  have hr0 := tH_r (k := k) ⟨f0.2.2.2.1, f0.2.2.2.2⟩
  have hn0 := tH_0 (k := k) ⟨f0.2.2.2.1, f0.2.2.2.2⟩ q0
  refine am_ev.step (pc' := 80) rfl rfl ?_
  refine ax_gf (p' := 83) rfl rfl (S.ob rfl) w6 ?_
  refine fx_z_eq_F (pF := 86) rfl (by omega) rfl (by omega) ?_
  refine am_ev.step (pc' := 87) rfl rfl ?_
  refine ax_call (z := 210) (p' := 90) (as := [_]) rfl (Or.inr (Or.inl ⟨_, rfl⟩)) rfl rfl rfl rfl rfl rfl (S.ob rfl) rfl (lg_210 S B hb hL w4 w5 w6 t0 q1) rfl ?_
  refine am_ev.step (pc' := 91) (ls' := [.ref 78, iv ((l : Int))]) rfl rfl ?_
  refine am_ev.step (pc' := 92) rfl rfl ?_
  refine am_ev.step (pc' := 93) rfl rfl ?_
  refine am_ev.step (pc' := 94) rfl rfl ?_
  refine fx_c_eq_F (pF := 97) rfl (by omega) (by omega) rfl (by omega) ?_
  refine am_ev.step (pc' := 98) rfl rfl ?_
  refine am_ev.step (pc' := 102) rfl rfl ?_
  refine am_ev.step (pc' := 103) rfl rfl ?_
  refine ax_call (z := 177) (p' := 106) (as := [_, _, _]) rfl (Or.inr (Or.inl ⟨_, rfl⟩)) rfl rfl rfl rfl rfl rfl (S.ob rfl) rfl md_177t rfl ?_
  refine am_ev.step (pc' := 107) rfl rfl ?_
  refine am_ev.step (pc' := 108) rfl rfl ?_
  refine ax_gf (p' := 111) rfl rfl (S.ob rfl) (S.rf rfl rfl) ?_
  refine am_ev.step (pc' := 112) rfl rfl ?_
  refine ax_baload (p' := 113) rfl rfl (S.rd (k := l) rfl rfl rfl rfl rfl (by omega) (dT l (by omega))) ?_
  refine fx_z_ne_T (pT := 120) rfl (by omega) rfl (by omega) ?_
  refine am_ev.step (pc' := 121) rfl rfl ?_
  refine am_ev.step (pc' := 122) rfl rfl ?_
  refine ax_callT (a := 79) (z := 177) (as := [_, _, _]) rfl (Or.inr (Or.inl ⟨_, rfl⟩)) rfl rfl rfl rfl rfl rfl (S.ob rfl) (md_177f (s := s) S w4) rfl rfl (fO (fO (S.ob rfl))) rfl
theorem lg_c (hb : tz_r b) (hL : L ≤ 1600) (C : lM h h0 b L p s e k v w τ Φ) (q0 : k ≠ 0) (hl : l < 6) (q1 : cl_l b s e k l) (q2 : τ l = 0) (t1 : tz_t b L e s1 e1 k1 v1) {x : Option Value × am_H} (q9 : am_ev (d + 8) 209 136 [.ref 78, iv l] [] (M1 (am_put h 85 l (iv 1)) s1 e1 (tH k1) (tV b L s1 w)) x) : am_ev (d + 8) 209 79 [.ref 78, a1] [] h  x := by
  obtain ⟨S, B, w3, t0, w4, w5, w6, w7, ya, yb, f8, f9, zt, dT, F, fr⟩ := C
  have f0 := t0.f5 hb
  clear ya yb
  have hr0 := tH_r (k := k) ⟨f0.2.2.2.1, f0.2.2.2.2⟩
  have hn0 := tH_0 (k := k) ⟨f0.2.2.2.1, f0.2.2.2.2⟩ q0
  refine am_ev.step (pc' := 80) rfl rfl ?_
  refine ax_gf (p' := 83) rfl rfl (S.ob rfl) w6 ?_
  refine fx_z_eq_F (pF := 86) rfl (by omega) rfl (by omega) ?_
  refine am_ev.step (pc' := 87) rfl rfl ?_
  refine ax_call (z := 210) (p' := 90) (as := [_]) rfl (Or.inr (Or.inl ⟨_, rfl⟩)) rfl rfl rfl rfl rfl rfl (S.ob rfl) rfl (lg_210 S B hb hL w4 w5 w6 t0 q1) rfl ?_
  refine am_ev.step (pc' := 91) (ls' := [.ref 78, iv ((l : Int))]) rfl rfl ?_
  refine am_ev.step (pc' := 92) rfl rfl ?_
  refine am_ev.step (pc' := 93) rfl rfl ?_
  refine am_ev.step (pc' := 94) rfl rfl ?_
  refine fx_c_eq_F (pF := 97) rfl (by omega) (by omega) rfl (by omega) ?_
  refine am_ev.step (pc' := 98) rfl rfl ?_
  refine am_ev.step (pc' := 102) rfl rfl ?_
  refine am_ev.step (pc' := 103) rfl rfl ?_
  refine ax_call (z := 177) (p' := 106) (as := [_, _, _]) rfl (Or.inr (Or.inl ⟨_, rfl⟩)) rfl rfl rfl rfl rfl rfl (S.ob rfl) rfl md_177t rfl ?_
  refine am_ev.step (pc' := 107) rfl rfl ?_
  refine am_ev.step (pc' := 108) rfl rfl ?_
  refine ax_gf (p' := 111) rfl rfl (S.ob rfl) (S.rf rfl rfl) ?_
  refine am_ev.step (pc' := 112) rfl rfl ?_
  refine ax_baload (p' := 113) rfl rfl (S.rd (k := l) rfl rfl rfl rfl rfl (by omega) (dT l (by omega))) ?_
  refine fx_z_ne_F (pF := 116) rfl (by omega) rfl (by omega) ?_
  refine am_ev.step (pc' := 117) rfl rfl ?_
  refine am_ev.step (pc' := 121) rfl rfl ?_
  refine am_ev.step (pc' := 122) rfl rfl ?_
  refine ax_call (z := 177) (p' := 125) (as := [_, _, _]) rfl (Or.inr (Or.inl ⟨_, rfl⟩)) rfl rfl rfl rfl rfl rfl (S.ob rfl) rfl md_177t rfl ?_
  refine am_ev.step (pc' := 126) rfl rfl ?_
  refine ax_gf (p' := 129) rfl rfl (S.ob rfl) (S.rf rfl rfl) ?_
  refine am_ev.step (pc' := 130) rfl rfl ?_
  refine am_ev.step (pc' := 131) rfl rfl ?_
  refine ax_bas2 (p' := 132) rfl rfl (S.wr (k := l) rfl rfl rfl rfl (by omega)) (S.sb rfl rfl) (by decide) ?_
  refine am_ev.step (pc' := 133) rfl rfl ?_
  refine ax_call (z := 170) (p' := 136) (as := [_]) rfl (Or.inr (Or.inl ⟨_, rfl⟩)) rfl rfl rfl rfl rfl rfl (fO (S.ob rfl)) rfl (md_170 (S.pa rfl) (B.put (by decide)) hb hL (ax_put_o (Or.inl (by decide)) w3) (ax_put_o (Or.inl (by decide)) w5) (ax_put_o (Or.inl (by decide)) w7) t1) rfl ?_
  exact q9
theorem lg_t (S : fS h) (SM : fS M) (z : am_ev (d + 7) 211 0 (am_ent [.ref 78, iv l] 2) [] h (some (.retAddr (79 + 1)), M)) : am_ev (d + 8) 209 136 [.ref 78, iv l] [] h (some (.retAddr (79 + 1)), M) := by
  refine am_ev.step (pc' := 137) rfl rfl ?_
  refine am_ev.step (pc' := 138) rfl rfl ?_
  refine ax_callT (a := 79) (z := 211) (as := [_, _]) rfl (Or.inr (Or.inl ⟨_, rfl⟩)) rfl rfl rfl rfl rfl rfl (S.ob rfl) z rfl rfl (SM.ob rfl) rfl
theorem lg_u (hb : tz_r b) (hL : L ≤ 1600) (C : lM M h0 b L p s e k v w τ Φ) (Sh : fS h) (q1 : k ≠ 59) (z : am_ev (d + 7) 211 0 (am_ent [.ref 78, iv l] 2) [] h (none, M)) : am_ev (d + 8) 209 136 [.ref 78, iv l] [] h (some (.retAddr (79 + 1)), FMo M 1 s) := by
  obtain ⟨S, B, w3, t0, w4, w5, w6, w7, ya, yb, f8, f9, zt, dT, F, fr⟩ := C
  have f0 := t0.f5 hb
  refine am_ev.step (pc' := 137) rfl rfl ?_
  refine am_ev.step (pc' := 138) rfl rfl ?_
  refine ax_call (z := 211) (p' := 141) (as := [_, _]) rfl (Or.inr (Or.inl ⟨_, rfl⟩)) rfl rfl rfl rfl rfl rfl (Sh.ob rfl) rfl z rfl ?_
  refine am_ev.step (pc' := 142) rfl rfl ?_
  refine ax_callT (a := 79) (z := 181) (as := [_]) rfl (Or.inr (Or.inl ⟨_, rfl⟩)) rfl rfl rfl rfl rfl rfl (S.ob rfl) (md_181a (s := s) (k := k) S w4 w6 ⟨f0.2.2.2.1, f0.2.2.2.2⟩ w7 yb (t0.h4 hb) q1) rfl rfl (fO (fO (S.ob rfl))) rfl
theorem lg_n (hb : tz_r b) (hL : L ≤ 1600) (C : lM M h0 b L p s e k v w τ Φ) (Sh : fS h) (q1 : k = 59) (t1 : tz_t b L e s1 e1 k1 v1) (z : am_ev (d + 7) 211 0 (am_ent [.ref 78, iv l] 2) [] h (none, M)) {x : Option Value × am_H} (q9 : am_ev (d + 8) 209 79 [.ref 78, iv l] [] (M1 M s1 e1 (tH k1) (tV b L s1 w)) x) : am_ev (d + 8) 209 136 [.ref 78, iv l] [] h x := by
  obtain ⟨S, B, w3, t0, w4, w5, w6, w7, ya, yb, f8, f9, zt, dT, F, fr⟩ := C
  have f0 := t0.f5 hb
  refine am_ev.step (pc' := 137) rfl rfl ?_
  refine am_ev.step (pc' := 138) rfl rfl ?_
  refine ax_call (z := 211) (p' := 141) (as := [_, _]) rfl (Or.inr (Or.inl ⟨_, rfl⟩)) rfl rfl rfl rfl rfl rfl (Sh.ob rfl) rfl z rfl ?_
  refine am_ev.step (pc' := 142) rfl rfl ?_
  refine ax_call (z := 181) (p' := 145) (as := [_]) rfl (Or.inr (Or.inl ⟨_, rfl⟩)) rfl rfl rfl rfl rfl rfl (S.ob rfl) rfl (md_181b (s := s) (k := k) S w4 w6 ⟨f0.2.2.2.1, f0.2.2.2.2⟩ w7 yb B hb hL w3 w5 t1 q1) rfl ?_
  refine am_ev.step (pc' := 79) rfl rfl ?_
  exact q9
end LF2
end
section
/-! LEAVES, both sides: a clause -/
/-- a clause is read alike -/
def RC (d : Nat) (h g h0 g0 : am_H) (q : Nat) (b : Nat → Int) (L l : Nat) (τ : Nat → Int) (Φ : Nat → Value) : Prop := ∃ H M : am_H,
  (∃ (p' s' e' : Nat) (k' v' w' : Int) (Φ' : Nat → Value), am_ev (d + 8) 78 0 (am_ent [.ref q, iv l, .ref 41] 3) [] h (some (iv 1), H) ∧ lC H h0 q b L p' Φ' ∧ (∀ x, am_ev (d + 9) 209 79 [.ref 78, iv l] [] M x → am_ev (d + 9) 209 136 [.ref 78, iv l] [] g x) ∧ lM M g0 b L p' s' e' k' v' w' τ Φ' ∧ (l ≠ 5 → Φ' 8 = Φ 8)) ∨
  (∃ (f : Int) (s' : Nat), am_ev (d + 8) 78 0 (am_ent [.ref q, iv l, .ref 41] 3) [] h (some (iv 0), H) ∧ lX H h0 q f s' ∧ am_ev (d + 9) 209 136 [.ref 78, iv l] [] g (some (.retAddr (79 + 1)), M) ∧ lY M g0 f s')
section RCA
variable {d : Nat} {h g h0 g0 H M : am_H} {q : Nat} {b : Nat → Int} {L l p s e p' s' e' : Nat} {k v w k' v' w' f : Int} {τ : Nat → Int} {Φ Φ' : Nat → Value}
/-- both have read the clause; the sign behind it decides -/
theorem RC_end (hb : tz_r b) (hL : L ≤ 1600) (Sg : fS g) (hf : l ≠ 5 → Φ' 8 = Φ 8) (N : k' = 59 → ∃ H : am_H, am_ev (d + 8) 78 0 (am_ent [.ref q, iv l, .ref 41] 3) [] h (some (iv 1), H) ∧ lC H h0 q b L e' Φ') (Xx : k' ≠ 59 → ∃ H : am_H, am_ev (d + 8) 78 0 (am_ent [.ref q, iv l, .ref 41] 3) [] h (some (iv 0), H) ∧ lX H h0 q 1 s') (z : am_ev (d + 8) 211 0 (am_ent [.ref 78, iv l] 2) [] g (none, M)) (K : lM M g0 b L p' s' e' k' v' w' τ Φ') : RC d h g h0 g0 q b L l τ Φ := by
  by_cases k59 : k' = 59
  · obtain ⟨H, a1, a2⟩ := N k59
    have f0 := K.2.2.2.1.f5 hb
    obtain ⟨s1, e1, k1, v1, t1⟩ := tz_t_ex (b := b) f0.2.2.1
    exact ⟨H, _, Or.inl ⟨e', s1, e1, k1, v1, _, Φ', a1, a2, fun x q9 => lg_n (d := d + 1) hb hL K Sg k59 t1 z q9, lM_M1 K t1, hf⟩⟩
  · obtain ⟨H, a1, a2⟩ := Xx k59
    exact ⟨H, _, Or.inr ⟨1, s', a1, a2, lg_u (d := d + 1) hb hL K Sg k59 z, lM_FM K⟩⟩
theorem RC_thr (Sg : fS g) {H M : am_H} {s' : Nat} (a1 : am_ev (d + 8) 78 0 (am_ent [.ref q, iv l, .ref 41] 3) [] h (some (iv 0), H)) (a2 : lX H h0 q f s') (z : am_ev (d + 8) 211 0 (am_ent [.ref 78, iv l] 2) [] g (some (.retAddr (79 + 1)), M)) (K : lY M g0 f s') : RC d h g h0 g0 q b L l τ Φ := ⟨H, M, Or.inr ⟨f, s', a1, a2, lg_t (d := d + 1) Sg K.1 z, K⟩⟩
theorem rc_0 (hb : tz_r b) (hL : L ≤ 1600) (C : lC h h0 q b L p Φ) (K : lM g g0 b L p s e k v w τ Φ) : RC d h g h0 g0 q b L 0 τ Φ := by
  have O : am_isO h q 4 = true := C.2.2.2.2.2.2.2.1
  have hq : 130 ≤ q := C.2.2.2.2.2.2.2.2.1
  obtain ⟨H, M, ⟨t, p1, s1, e1, v1, w1, x1, x2, ne, hi, cH, mM⟩ | ⟨t, p1, s1, e1, k1, v1, w1, x1, x2, n59, cH, mM⟩ | ⟨f, s1, x1, x2, cH, mM⟩⟩ := br_all (d := d + 4) (g := 5) hb hL (by decide) (lC_ct C) (lM_mt K)
  · have C' := lC_cT C cH
    have a1 := lf_78_0a (d := d + 5) O cH.1 C'.2.2.2.2.2.2.2.1 hq (lf_79 x1) ne
    have z := lg_211_0n (d := d + 7) K.1 mM.1 (lg_212 x2)
    exact RC_end hb hL K.1 (fun _ => if_neg (by decide)) (fun _ => ⟨_, a1, lC_pu C' (i := 2) (by decide)⟩) (fun n => absurd rfl n) z (lM_pu (lM_mT K mM) (i := 2) (by decide) (mM.1.pa rfl))
  · have O' : am_isO H q 4 = true := by
      have z := cH.2.2.2.1
      unfold am_isO at O ⊢
      rw [z.1, z.2]
      exact O
    have a1 := lf_78_0b (d := d + 5) O cH.1 O' hq (lf_79 x1)
    have z := lg_211_0n (d := d + 7) K.1 mM.1 (lg_212 x2)
    exact RC_end hb hL K.1 (Φ' := upV Φ 2 (.int t)) (fun _ => if_neg (by decide)) (fun n => absurd n n59) (fun _ => ⟨_, a1, lX_pu (lC_cX C cH)⟩) z (lM_pu (lM_mT K mM) (i := 2) (by decide) (mM.1.pa rfl))
  · have O' : am_isO H q 4 = true := by
      have z := cH.2.2.2.1
      unfold am_isO at O ⊢
      rw [z.1, z.2]
      exact O
    have a1 := lf_78_0b (d := d + 5) O cH.1 O' hq (lf_79 x1)
    exact RC_thr K.1 a1 (lX_pu (lC_cX C cH)) (lg_211_0t (d := d + 7) K.1 mM.1 (lg_212 x2)) (lM_mX K mM)
theorem rc_3 (hb : tz_r b) (hL : L ≤ 1600) (C : lC h h0 q b L p Φ) (K : lM g g0 b L p s e k v w τ Φ) : RC d h g h0 g0 q b L 3 τ Φ := by
  have O : am_isO h q 4 = true := C.2.2.2.2.2.2.2.1
  have hq : 130 ≤ q := C.2.2.2.2.2.2.2.2.1
  obtain ⟨H, M, ⟨t, p1, s1, e1, v1, w1, x1, x2, ne, hi, cH, mM⟩ | ⟨t, p1, s1, e1, k1, v1, w1, x1, x2, n59, cH, mM⟩ | ⟨f, s1, x1, x2, cH, mM⟩⟩ := br_all (d := d + 4) (g := 19) hb hL (by decide) (lC_ct C) (lM_mt K)
  · have C' := lC_cT C cH
    have a1 := lf_78_3a (d := d + 5) O cH.1 C'.2.2.2.2.2.2.2.1 hq (lf_79 x1) ne
    have z := lg_211_3n (d := d + 7) K.1 mM.1 (lg_212 x2)
    exact RC_end hb hL K.1 (fun _ => if_neg (by decide)) (fun _ => ⟨_, a1, lC_pu C' (i := 6) (by decide)⟩) (fun n => absurd rfl n) z (lM_pu (lM_mT K mM) (i := 6) (by decide) (mM.1.pa rfl))
  · have O' : am_isO H q 4 = true := by
      have z := cH.2.2.2.1
      unfold am_isO at O ⊢
      rw [z.1, z.2]
      exact O
    have a1 := lf_78_3b (d := d + 5) O cH.1 O' hq (lf_79 x1)
    have z := lg_211_3n (d := d + 7) K.1 mM.1 (lg_212 x2)
    exact RC_end hb hL K.1 (Φ' := upV Φ 6 (.int t)) (fun _ => if_neg (by decide)) (fun n => absurd n n59) (fun _ => ⟨_, a1, lX_pu (lC_cX C cH)⟩) z (lM_pu (lM_mT K mM) (i := 6) (by decide) (mM.1.pa rfl))
  · have O' : am_isO H q 4 = true := by
      have z := cH.2.2.2.1
      unfold am_isO at O ⊢
      rw [z.1, z.2]
      exact O
    have a1 := lf_78_3b (d := d + 5) O cH.1 O' hq (lf_79 x1)
    exact RC_thr K.1 a1 (lX_pu (lC_cX C cH)) (lg_211_3t (d := d + 7) K.1 mM.1 (lg_212 x2)) (lM_mX K mM)
theorem rc_1 (hb : tz_r b) (hL : L ≤ 1600) (C : lC h h0 q b L p Φ) (K : lM g g0 b L p s e k v w τ Φ) : RC d h g h0 g0 q b L 1 τ Φ := by
  have C0 := C
  have K0 := K
  obtain ⟨S, B, w1, v6, f3, f4, sz, O, hq, -⟩ := C
  have t0 : tz_t b L p s e k v := K.2.2.2.1
  have f0 := t0.f5 hb
  by_cases k2 : k = 2
  · have ew : w = v := K.2.2.2.2.2.2.2.2.1 k2
    subst ew
    by_cases r : 0 ≤ w ∧ w ≤ 29999
    · obtain ⟨s1, e1, k1, v1, t1⟩ := tz_t_ex (b := b) f0.2.2.1
      have z := lg_211_1c (d := d + 2) hb hL K k2 r t1
      exact RC_end hb hL K.1 (fun _ => if_neg (by decide)) (fun n => ⟨_, lf_78_1_1 (d := d + 7) O (le_81e (d := d + 4) S B hb hL w1 v6 O hq t0 ⟨k2, r⟩ t1 n), lC_T1 (lC_pu (lC_T1 C0) (i := 3) (by decide))⟩) (fun n => ⟨_, lf_78_1_0 (d := d + 7) O (le_81d (d := d + 4) S B hb hL w1 v6 O hq t0 ⟨k2, r⟩ t1 n), lC_FL (lC_T1 (lC_pu (lC_T1 C0) (i := 3) (by decide)))⟩) z (lM_pu (lM_M1 K0 t1) (i := 3) (by decide) ((lM_M1 K0 t1).1.pa rfl))
    · exact RC_thr K.1 (lf_78_1_0 (d := d + 7) O (le_81b (d := d + 4) S B hb hL w1 v6 O hq t0 ⟨k2, r⟩)) (lC_FL (lC_T1 C0)) (lg_211_1b (d := d + 2) hb hL K k2 r) (lM_FM K0)
  · exact RC_thr K.1 (lf_78_1_0 (d := d + 7) O (le_81a (d := d + 4) S B hb hL w1 v6 O hq t0 k2)) (lC_FL (lC_T1 C0)) (lg_211_1a (d := d + 2) hb hL K k2) (lM_FM K0)
theorem rc_4 (hb : tz_r b) (hL : L ≤ 1600) (C : lC h h0 q b L p Φ) (K : lM g g0 b L p s e k v w τ Φ) : RC d h g h0 g0 q b L 4 τ Φ := by
  have C0 := C
  have K0 := K
  obtain ⟨S, B, w1, v6, f3, f4, sz, O, hq, -⟩ := C
  have t0 : tz_t b L p s e k v := K.2.2.2.1
  have f0 := t0.f5 hb
  by_cases k2 : k = 2
  · have ew : w = v := K.2.2.2.2.2.2.2.2.1 k2
    subst ew
    by_cases r : 0 ≤ w ∧ w ≤ 2
    · obtain ⟨s1, e1, k1, v1, t1⟩ := tz_t_ex (b := b) f0.2.2.1
      have z := lg_211_4c (d := d + 2) hb hL K k2 r t1
      exact RC_end hb hL K.1 (fun _ => if_neg (by decide)) (fun n => ⟨_, lf_78_4_1 (d := d + 7) O (le_83e (d := d + 4) S B hb hL w1 v6 O hq t0 ⟨k2, r⟩ t1 n), lC_T1 (lC_pu (lC_T1 C0) (i := 7) (by decide))⟩) (fun n => ⟨_, lf_78_4_0 (d := d + 7) O (le_83d (d := d + 4) S B hb hL w1 v6 O hq t0 ⟨k2, r⟩ t1 n), lC_FL (lC_T1 (lC_pu (lC_T1 C0) (i := 7) (by decide)))⟩) z (lM_pu (lM_M1 K0 t1) (i := 7) (by decide) ((lM_M1 K0 t1).1.pa rfl))
    · exact RC_thr K.1 (lf_78_4_0 (d := d + 7) O (le_83b (d := d + 4) S B hb hL w1 v6 O hq t0 ⟨k2, r⟩)) (lC_FL (lC_T1 C0)) (lg_211_4b (d := d + 2) hb hL K k2 r) (lM_FM K0)
  · exact RC_thr K.1 (lf_78_4_0 (d := d + 7) O (le_83a (d := d + 4) S B hb hL w1 v6 O hq t0 k2)) (lC_FL (lC_T1 C0)) (lg_211_4a (d := d + 2) hb hL K k2) (lM_FM K0)
theorem rc_2 (hb : tz_r b) (hL : L ≤ 1600) (C : lC h h0 q b L p Φ) (K : lM g g0 b L p s e k v w τ Φ) : RC d h g h0 g0 q b L 2 τ Φ := by
  have C0 := C
  have K0 := K
  obtain ⟨S, B, w1, v6, f3, f4, sz, O, hq, -⟩ := C
  have t0 : tz_t b L p s e k v := K.2.2.2.1
  have f0 := t0.f5 hb
  by_cases k2 : k = 2
  · have ew : w = v := K.2.2.2.2.2.2.2.2.1 k2
    subst ew
    by_cases r : 0 ≤ w ∧ w ≤ 9999
    · obtain ⟨s1, e1, k1, v1, t1⟩ := tz_t_ex (b := b) f0.2.2.1
      have f1 := t1.f5 hb
      have CA := lC_T1 (lC_pu (lC_T1 C0 (s := s) (e := e) (k := k)) (i := 4) (v := iv w) (by decide)) (s := s1) (e := e1) (k := k1)
      have KA := lM_pu (lM_M1 K0 t1) (i := 4) (u := iv w) (by decide) ((lM_M1 K0 t1).1.pa rfl)
      obtain ⟨c, qc⟩ := cl_f_ex b s1 e1 k1
      have qc' := qc
      rcases qc' with ⟨m, hm, rfl, -⟩ | ⟨rfl, -⟩
      · obtain ⟨s2, e2, k3, v2, t2⟩ := tz_t_ex (b := b) f1.2.2.1
        have hm3 : m = 0 ∨ m = 1 ∨ m = 2 := by omega
        rcases hm3 with rfl | rfl | rfl
        · have CB := lC_T1 (lC_pu CA (i := 5) (v := iv 0) (by decide)) (s := s2) (e := e2) (k := k3)
          have KB := lM_pu KA (i := 5) (u := iv 0) (by decide) (KA.1.pa rfl)
          exact RC_end hb hL K.1 (fun _ => Eq.trans (if_neg (by decide)) (if_neg (by decide))) (fun n => ⟨_, lf_78_2_1 (d := d + 7) O (le_82e0 (d := d + 1) S B hb hL w1 v6 O hq t0 ⟨k2, r⟩ t1 qc t2 n), CB⟩) (fun n => ⟨_, lf_78_2_0 (d := d + 7) O (le_82d0 (d := d + 1) S B hb hL w1 v6 O hq t0 ⟨k2, r⟩ t1 qc t2 n), lC_FL CB⟩) (lg_211_2m0 (d := d + 2) hb hL K k2 r t1 qc t2) (lM_M1 KB t2)
        · have CB := lC_T1 (lC_pu CA (i := 5) (v := iv 1) (by decide)) (s := s2) (e := e2) (k := k3)
          have KB := lM_pu KA (i := 5) (u := iv 1) (by decide) (KA.1.pa rfl)
          exact RC_end hb hL K.1 (fun _ => Eq.trans (if_neg (by decide)) (if_neg (by decide))) (fun n => ⟨_, lf_78_2_1 (d := d + 7) O (le_82e1 (d := d + 1) S B hb hL w1 v6 O hq t0 ⟨k2, r⟩ t1 qc t2 n), CB⟩) (fun n => ⟨_, lf_78_2_0 (d := d + 7) O (le_82d1 (d := d + 1) S B hb hL w1 v6 O hq t0 ⟨k2, r⟩ t1 qc t2 n), lC_FL CB⟩) (lg_211_2m1 (d := d + 2) hb hL K k2 r t1 qc t2) (lM_M1 KB t2)
        · have CB := lC_T1 (lC_pu CA (i := 5) (v := iv 2) (by decide)) (s := s2) (e := e2) (k := k3)
          have KB := lM_pu KA (i := 5) (u := iv 2) (by decide) (KA.1.pa rfl)
          exact RC_end hb hL K.1 (fun _ => Eq.trans (if_neg (by decide)) (if_neg (by decide))) (fun n => ⟨_, lf_78_2_1 (d := d + 7) O (le_82e2 (d := d + 1) S B hb hL w1 v6 O hq t0 ⟨k2, r⟩ t1 qc t2 n), CB⟩) (fun n => ⟨_, lf_78_2_0 (d := d + 7) O (le_82d2 (d := d + 1) S B hb hL w1 v6 O hq t0 ⟨k2, r⟩ t1 qc t2 n), lC_FL CB⟩) (lg_211_2m2 (d := d + 2) hb hL K k2 r t1 qc t2) (lM_M1 KB t2)
      · have KB := lM_pu KA (i := 5) (u := iv 2) (by decide) (KA.1.pa rfl)
        exact RC_thr K.1 (lf_78_2_0 (d := d + 7) O (le_82x (d := d + 1) S B hb hL w1 v6 O hq t0 ⟨k2, r⟩ t1 qc)) (lC_FL CA) (lg_211_2x (d := d + 2) hb hL K k2 r t1 qc) (lM_FM KB)
    · exact RC_thr K.1 (lf_78_2_0 (d := d + 7) O (le_82b (d := d + 1) S B hb hL w1 v6 O hq t0 ⟨k2, r⟩)) (lC_FL (lC_T1 C0)) (lg_211_2b (d := d + 2) hb hL K k2 r) (lM_FM K0)
  · exact RC_thr K.1 (lf_78_2_0 (d := d + 7) O (le_82a (d := d + 1) S B hb hL w1 v6 O hq t0 k2)) (lC_FL (lC_T1 C0)) (lg_211_2a (d := d + 2) hb hL K k2) (lM_FM K0)
theorem rc_5 (hb : tz_r b) (hL : L ≤ 1600) (C : lC h h0 q b L p Φ) (K : lM g g0 b L p s e k v w τ Φ) (z8 : Φ 8 = iv 0) : RC d h g h0 g0 q b L 5 τ Φ := by
  have O : am_isO h q 4 = true := C.2.2.2.2.2.2.2.1
  have hq : 130 ≤ q := C.2.2.2.2.2.2.2.2.1
  have t0 : tz_t b L p s e k v := K.2.2.2.1
  by_cases k1 : k = 1
  · have K0 : mC g g b L p s e k v w 0 := by
      obtain ⟨S, B, w3, t0, w4, w5, w6, w7, ya, yb, f8, f9, zt, dT, F, fr⟩ := K
      exact ⟨S, B, w3, t0, w4, w5, w6, w7, ya, yb, f8, f9, zt, (F 8 (by decide) (by decide)).trans z8, fun _ _ _ _ => rfl⟩
    obtain ⟨H, M, ⟨n, p1, s1, e1, v1, w1, x1, x2, cH, mM⟩ | ⟨n, p1, s1, e1, k3, v1, w1, x1, x2, n59, cH, mM⟩ | ⟨f, s1, x1, x2, cH, mM⟩⟩ := cr_loop (d := d + 4) hb hL hq 6 0 p s e k v w h g (iv 5) (by omega) (by omega) (fun _ => k1) O O (lC_ct C) K0
    · exact RC_end hb hL K.1 (fun n => absurd rfl n) (fun _ => ⟨_, lf_78_5_1 (d := d + 7) O (lf_84 x1), lC_pu (lC_cT C cH) (i := 8) (by decide)⟩) (fun n => absurd rfl n) (lg_211_5n (d := d + 2) hb hL K k1 x2) (lM_mC K mM)
    · exact RC_end hb hL K.1 (fun n => absurd rfl n) (fun n => absurd n n59) (fun _ => ⟨_, lf_78_5_0 (d := d + 7) O (lf_84 x1), lC_cX C cH⟩) (lg_211_5n (d := d + 2) hb hL K k1 x2) (lM_mC K mM)
    · exact RC_thr K.1 (lf_78_5_0 (d := d + 7) O (lf_84 x1)) (lC_cX C cH) (lg_211_5n (d := d + 2) hb hL K k1 x2) (lM_mCX K mM)
  · obtain ⟨H, x1, cH⟩ := cc_A0 (d := d + 5) (n := 0) hb hL (lC_ct C) t0 O hq rfl k1
    exact RC_thr K.1 (lf_78_5_0 (d := d + 7) O (lf_84 x1)) (lC_cX C cH) (lg_211_5a (d := d + 2) hb hL K k1) (lM_FM K)
/-- all clauses -/
def LR (d : Nat) (h g h0 g0 : am_H) (q : Nat) (b : Nat → Int) (L : Nat) (l1 l2 : List Value) : Prop := ∃ H M : am_H,
  (∃ (p s e p' : Nat) (k v w : Int) (τ : Nat → Int) (Φ : Nat → Value), am_ev (d + 9) 76 8 l1 [] h (some (iv 1), H) ∧ am_ev (d + 9) 209 79 l2 [] g (none, M) ∧ lC H h0 q b L p Φ ∧ lM M g0 b L p' s e k v w τ Φ) ∨
  (∃ (f : Int) (s : Nat), am_ev (d + 9) 76 8 l1 [] h (some (iv 0), H) ∧ am_ev (d + 9) 209 79 l2 [] g (some (.retAddr (79 + 1)), M) ∧ lX H h0 q f s ∧ lY M g0 f s)
theorem lr_loop (hb : tz_r b) (hL : L ≤ 1600) : ∀ (m n p s e : Nat) (t : Int32) (k v w : Int) (τ : Nat → Int) (Φ : Nat → Value) (h g : am_H) (a4 a1 : Value), 7 - n ≤ m → cnt τ 6 = (n : Int) → (∀ i, i < 6 → τ i = 0 ∨ τ i = 1) → (∀ i, i < 6 → (bt t i = true ↔ τ i = 1)) → (τ 5 = 0 → Φ 8 = iv 0) → lC h h0 q b L p Φ → lM g g0 b L p s e k v w τ Φ → LR d h g h0 g0 q b L [.ref q, .ref 41, .int t, iv n, a4] [.ref 78, a1]
  | 0, n, p, s, e, t, k, v, w, τ, Φ, h, g, a4, a1, hm, hc, hτ, ht, h8, C, K => by
    have := cnt_b 6 hτ
    omega
  | m + 1, n, p, s, e, t, k, v, w, τ, Φ, h, g, a4, a1, hm, hc, hτ, ht, h8, C, K => by
    have hn : n ≤ 6 := by
      have := cnt_b 6 hτ
      omega
    have t0 : tz_t b L p s e k v := K.2.2.2.1
    have f0 := t0.f5 hb
    by_cases kn : k = 0
    · exact ⟨_, _, Or.inl ⟨_, s, e, p, k, v, w, τ, Φ, lf_E (d := d + 1) (a4 := a4) hb hL C hn t0 kn, lg_E (d := d + 1) (a1 := a1) hb hL K kn, lC_T1 C, K⟩⟩
    · obtain ⟨c, qc⟩ := cl_l_ex b s e k
      have qc' := qc
      rcases qc' with ⟨l, hl, rfl, -⟩ | ⟨rfl, -⟩
      · rcases hτ l hl with q0 | q0
        · have q0c : bt t l = false := by
            cases z : bt t l with
            | false => rfl
            | true =>
              have := (ht l hl).1 z
              omega
          obtain ⟨s1, e1, k1, v1, t1⟩ := tz_t_ex (b := b) f0.2.2.1
          have C1 := lC_T1 C (s := s) (e := e) (k := k)
          have K1 := lM_M1 (lM_pt K (i := l)) t1
          have R : RC d (T1 h s e k) (M1 (am_put g 85 l (iv 1)) s1 e1 (tH k1) (tV b L s1 w)) h0 g0 q b L l (up1 τ l 1) Φ := by
            have hl6 : l = 0 ∨ l = 1 ∨ l = 2 ∨ l = 3 ∨ l = 4 ∨ l = 5 := by omega
            rcases hl6 with rfl | rfl | rfl | rfl | rfl | rfl
            · exact rc_0 hb hL C1 K1
            · exact rc_1 hb hL C1 K1
            · exact rc_2 hb hL C1 K1
            · exact rc_3 hb hL C1 K1
            · exact rc_4 hb hL C1 K1
            · exact rc_5 hb hL C1 K1 (h8 q0)
          obtain ⟨H, M, ⟨p', s', e', k', v', w', Φ', a, C2, b2, K2, h5⟩ | ⟨f, s', a, X, b2, Y⟩⟩ := R
          · have cu := cnt_u (τ := τ) (c := l) (v := 1) 6 hl
            have IH := lr_loop hb hL m (n + 1) p' s' e' (t ||| (Int32.ofInt 1 <<< (Int32.ofInt (l : Int) &&& 31))) k' v' w' (up1 τ l 1) Φ' H M (iv l) (iv l) (by omega) (by omega) (fun i hi => by
              by_cases z : i = l
              · exact Or.inr (if_pos z)
              · rw [show up1 τ l 1 i = τ i from if_neg z]
                exact hτ i hi) (fun i hi => by
              rw [b_set (by omega) (by omega)]
              by_cases z : i = l
              · rw [z, show up1 τ l 1 l = 1 from if_pos rfl]
                simp
              · rw [show up1 τ l 1 i = τ i from if_neg z, decide_eq_false z, Bool.or_false]
                exact ht i hi) (fun z => by
              by_cases l5 : l = 5
              · rw [l5, show up1 τ 5 1 5 = 1 from if_pos rfl] at z
                omega
              · rw [show up1 τ l 1 5 = τ 5 from if_neg (by omega)] at z
                rw [h5 l5]
                exact h8 z) C2 K2
            have sA : ∀ x, am_ev (d + 9) 76 8 [.ref q, .ref 41, .int (t ||| (Int32.ofInt 1 <<< (Int32.ofInt (l : Int) &&& 31))), iv ((n + 1 : Nat) : Int), iv l] [] H x → am_ev (d + 9) 76 8 [.ref q, .ref 41, .int t, iv n, a4] [] h x := fun x y => lf_n (d := d + 1) hb hL C hn t0 kn hl qc q0c a (rr_n ▸ y)
            have sB : ∀ x, am_ev (d + 9) 209 79 [.ref 78, iv l] [] M x → am_ev (d + 9) 209 79 [.ref 78, a1] [] g x := fun x y => lg_c (d := d + 1) hb hL K kn hl qc q0 t1 (b2 x y)
            obtain ⟨H', M', ⟨p2, s2, e2, p2', k2, v2, w2, τ2, Φ2, x1, x2, x3⟩ | ⟨f, s2, x1, x2, x3⟩⟩ := IH
            · exact ⟨H', M', Or.inl ⟨p2, s2, e2, p2', k2, v2, w2, τ2, Φ2, sA _ x1, sB _ x2, x3⟩⟩
            · exact ⟨H', M', Or.inr ⟨f, s2, sA _ x1, sB _ x2, x3⟩⟩
          · exact ⟨H, M, Or.inr ⟨f, s', lf_f (d := d + 1) hb hL C hn t0 kn hl qc q0c a, lg_c (d := d + 1) hb hL K kn hl qc q0 t1 b2, X, Y⟩⟩
        · exact ⟨_, _, Or.inr ⟨3, s, lf_a (d := d + 1) hb hL C hn t0 kn hl qc ((ht l hl).2 q0), lg_a (d := d + 1) hb hL K kn hl qc q0, lC_FL (lC_T1 C), lM_FM K⟩⟩
      · exact ⟨_, _, Or.inr ⟨1, s, lf_x (d := d + 1) hb hL C hn t0 kn qc, lg_x (d := d + 1) hb hL K kn qc, lC_FL (lC_T1 C), lM_FM K⟩⟩
end RCA
end
