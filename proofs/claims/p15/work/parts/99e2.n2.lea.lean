/-! LEAVES, the other side: bits, words of a credit -/
/-- the reading's state with a token at hand; nothing else has changed -/
def mT (h h0 : am_H) (b : Nat → Int) (L p s e : Nat) (k v w : Int) : Prop := fS h ∧ tb h 80 b L ∧ h.2.2.2 78 3 = iv L ∧ tz_t b L p s e k v ∧ h.2.2.2 78 4 = iv s ∧ h.2.2.2 78 5 = iv e ∧ h.2.2.2 78 6 = iv (tH k) ∧ h.2.2.2 78 7 = iv w ∧ (k = 2 → w = v) ∧ (43 ≤ k → w = k) ∧ h.2.2.2 78 8 = iv 0 ∧ h.2.2.2 78 9 = iv (-1) ∧ h.2.2.2 78 2 = iv 0 ∧ ∀ c j, (c ≠ 78 ∨ 10 ≤ j) → h.2.2.2 c j = h0.2.2.2 c j
def mX (h h0 : am_H) (f : Int) (s : Nat) : Prop := fS h ∧ h.2.2.2 78 8 = iv f ∧ h.2.2.2 78 9 = iv s ∧ h.2.2.2 78 2 = iv 0 ∧ ∀ c j, (c ≠ 78 ∨ 10 ≤ j) → h.2.2.2 c j = h0.2.2.2 c j
theorem b_sand {t : Int32} {l : Nat} (hl : l < 31) : (t >>> (Int32.ofInt (l : Int) &&& 31)) &&& Int32.ofInt 1 = 0 ↔ bt t l = false := by
  rw [b_and1, Int32.ofInt_eq_ofNat, b_sshr l (by omega) _ (by decide), if_pos (by omega), Nat.add_zero]
section LEM
variable {d : Nat} {h h0 : am_H} {b : Nat → Int} {L p s e s1 e1 l n g : Nat} {k k1 v v1 w c : Int} {t : Int32} {x3 : Value}
theorem mb_A (hb : tz_r b) (hL : L ≤ 1600) (C : mT h h0 b L p s e k v w) (hg : g ≤ 19) (q : k ≠ 2) : ∃ H : am_H, am_ev (d + 3) 212 2 [.ref 78, iv ((g : Int) + 1), .int t, x3] [] h  (some (.retAddr (79 + 1)), H) ∧ mX H h0 1 s := by
  obtain ⟨S, B, w3, t0, w4, w5, w6, w7, ya, yb, f8, f9, zt, fr⟩ := C
  have f0 := t0.f5 hb
  have hr0 := tH_r (k := k) ⟨f0.2.2.2.1, f0.2.2.2.2⟩
  clear ya yb
  refine ⟨(am_put (am_put h 78 8 (iv 1)) 78 9 (iv ((s : Int)))), ?_, ⟨((S.po rfl rfl).po rfl rfl), (ax_put_o (Or.inr (by decide)) (ax_put_s _ _ _)), (ax_put_s _ _ _), (ax_put_o (Or.inr (by decide)) (ax_put_o (Or.inr (by decide)) zt)), (fun c j n1 => (ax_put_o (by omega) (ax_put_o (by omega) (fr c j n1))))⟩⟩
  refine am_ev.step (pc' := 3) rfl rfl ?_
  refine am_ev.step (pc' := 4) rfl rfl ?_
  refine am_ev.step (pc' := 5) rfl rfl ?_
  refine am_ev.step (pc' := 6) rfl rfl ?_
  refine fx_sub (p' := 7) (e := ((g : Int))) rfl rfl (by omega) ?_
  refine ax_callT (a := 79) (z := 176) (as := [_, _, _]) rfl (Or.inr (Or.inl ⟨_, rfl⟩)) rfl rfl rfl rfl rfl rfl (S.ob rfl) (md_176a (lo := 0) (hi := ((g : Int))) (k := k) (s := s) S w4 w6 (by omega) (by omega) q) rfl rfl (fO (fO (S.ob rfl))) rfl
theorem mb_B (hb : tz_r b) (hL : L ≤ 1600) (C : mT h h0 b L p s e k v w) (hg : g ≤ 19) (q : k = 2) (q2 : (g : Int) < v) : ∃ H : am_H, am_ev (d + 3) 212 2 [.ref 78, iv ((g : Int) + 1), .int t, x3] [] h  (some (.retAddr (79 + 1)), H) ∧ mX H h0 2 s := by
  obtain ⟨S, B, w3, t0, w4, w5, w6, w7, ya, yb, f8, f9, zt, fr⟩ := C
  have f0 := t0.f5 hb
  have hr0 := tH_r (k := k) ⟨f0.2.2.2.1, f0.2.2.2.2⟩
  have y0 := ya q
  have u0 := t0.bd hb q
  clear ya yb
  refine ⟨(am_put (am_put h 78 8 (iv 2)) 78 9 (iv ((s : Int)))), ?_, ⟨((S.po rfl rfl).po rfl rfl), (ax_put_o (Or.inr (by decide)) (ax_put_s _ _ _)), (ax_put_s _ _ _), (ax_put_o (Or.inr (by decide)) (ax_put_o (Or.inr (by decide)) zt)), (fun c j n1 => (ax_put_o (by omega) (ax_put_o (by omega) (fr c j n1))))⟩⟩
  refine am_ev.step (pc' := 3) rfl rfl ?_
  refine am_ev.step (pc' := 4) rfl rfl ?_
  refine am_ev.step (pc' := 5) rfl rfl ?_
  refine am_ev.step (pc' := 6) rfl rfl ?_
  refine fx_sub (p' := 7) (e := ((g : Int))) rfl rfl (by omega) ?_
  refine ax_callT (a := 79) (z := 176) (as := [_, _, _]) rfl (Or.inr (Or.inl ⟨_, rfl⟩)) rfl rfl rfl rfl rfl rfl (S.ob rfl) (md_176b (lo := 0) (hi := ((g : Int))) (k := k) (s := s) S w4 w6 (by omega) (by omega) w7 (by omega) (by omega)) rfl rfl (fO (fO (S.ob rfl))) rfl
theorem mb_C (hb : tz_r b) (hL : L ≤ 1600) (C : mT h h0 b L p s e k (l : Int) w) (hg : g ≤ 19) (hl : l ≤ g) (q : k = 2) (q2 : bt t l = true) : ∃ H : am_H, am_ev (d + 3) 212 2 [.ref 78, iv ((g : Int) + 1), .int t, x3] [] h  (some (.retAddr (79 + 1)), H) ∧ mX H h0 3 s := by
  obtain ⟨S, B, w3, t0, w4, w5, w6, w7, ya, yb, f8, f9, zt, fr⟩ := C
  have f0 := t0.f5 hb
  have hr0 := tH_r (k := k) ⟨f0.2.2.2.1, f0.2.2.2.2⟩
  have y0 := ya q
  have u0 := t0.bd hb q
  clear ya yb
  refine ⟨(am_put (am_put h 78 8 (iv 3)) 78 9 (iv ((s : Int)))), ?_, ⟨((S.po rfl rfl).po rfl rfl), (ax_put_o (Or.inr (by decide)) (ax_put_s _ _ _)), (ax_put_s _ _ _), (ax_put_o (Or.inr (by decide)) (ax_put_o (Or.inr (by decide)) zt)), (fun c j n1 => (ax_put_o (by omega) (ax_put_o (by omega) (fr c j n1))))⟩⟩
  refine am_ev.step (pc' := 3) rfl rfl ?_
  refine am_ev.step (pc' := 4) rfl rfl ?_
  refine am_ev.step (pc' := 5) rfl rfl ?_
  refine am_ev.step (pc' := 6) rfl rfl ?_
  refine fx_sub (p' := 7) (e := ((g : Int))) rfl rfl (by omega) ?_
  refine ax_call (z := 176) (p' := 10) (as := [_, _, _]) rfl (Or.inr (Or.inl ⟨_, rfl⟩)) rfl rfl rfl rfl rfl rfl (S.ob rfl) rfl (md_176d (lo := 0) (hi := ((g : Int))) (k := k) (s := s) S w4 w6 (by omega) (by omega) w7 (by omega) y0 (by omega)) rfl ?_
  refine am_ev.step (pc' := 11) (ls' := [.ref 78, iv ((g : Int) + 1), .int t, iv ((l : Int))]) rfl rfl ?_
  refine am_ev.step (pc' := 12) rfl rfl ?_
  refine am_ev.step (pc' := 13) rfl rfl ?_
  refine am_ev.step (pc' := 14) rfl rfl ?_
  refine am_ev.step (pc' := 15) rfl rfl ?_
  refine am_ev.step (pc' := 16) rfl rfl ?_
  refine am_ev.step (pc' := 17) rfl rfl ?_
  refine am_ev.step (pc' := 24) rfl (if_neg (fun z => by rw [(b_sand (by omega)).1 z] at q2; cases q2)) ?_
  refine am_ev.step (pc' := 25) rfl rfl ?_
  refine am_ev.step (pc' := 26) rfl rfl ?_
  refine ax_callT (a := 79) (z := 177) (as := [_, _, _]) rfl (Or.inr (Or.inl ⟨_, rfl⟩)) rfl rfl rfl rfl rfl rfl (S.ob rfl) (md_177f (s := s) S w4) rfl rfl (fO (fO (S.ob rfl))) rfl
theorem mb_N (hb : tz_r b) (hL : L ≤ 1600) (C : mT h h0 b L p s e k (l : Int) w) (hg : g ≤ 19) (hl : l ≤ g) (q : k = 2) (q2 : bt t l = false) (t1 : tz_t b L e s1 e1 k1 v1) : ∃ H : am_H, mT H h0 b L e s1 e1 k1 v1 (tV b L s1 w) ∧ ∀ x, am_ev (d + 3) 212 39 [.ref 78, iv ((g : Int) + 1), .int (t ||| ((Int32.ofInt 1) <<< ((Int32.ofInt ((l : Int))) &&& 31))), iv ((l : Int))] [] H x → am_ev (d + 3) 212 2 [.ref 78, iv ((g : Int) + 1), .int t, x3] [] h  x := by
  obtain ⟨S, B, w3, t0, w4, w5, w6, w7, ya, yb, f8, f9, zt, fr⟩ := C
  have f0 := t0.f5 hb
  have hr0 := tH_r (k := k) ⟨f0.2.2.2.1, f0.2.2.2.2⟩
  have y0 := ya q
  have u0 := t0.bd hb q
  clear ya yb
  refine ⟨(am_put (am_put (am_put (am_put h 78 4 (iv ((s1 : Int)))) 78 7 (iv ((tV b L s1 (w))))) 78 5 (iv ((e1 : Int)))) 78 6 (iv ((tH k1)))), ⟨((((S.po rfl rfl).po rfl rfl).po rfl rfl).po rfl rfl), ((((B.put (by decide)).put (by decide)).put (by decide)).put (by decide)), (ax_put_o (Or.inr (by decide)) (ax_put_o (Or.inr (by decide)) (ax_put_o (Or.inr (by decide)) (ax_put_o (Or.inr (by decide)) w3)))), t1, (ax_put_o (Or.inr (by decide)) (ax_put_o (Or.inr (by decide)) (ax_put_o (Or.inr (by decide)) (ax_put_s _ _ _)))), (ax_put_o (Or.inr (by decide)) (ax_put_s _ _ _)), (ax_put_s _ _ _), (ax_put_o (Or.inr (by decide)) (ax_put_o (Or.inr (by decide)) (ax_put_s _ _ _))), (t1.v _).1, (t1.v _).2, (ax_put_o (Or.inr (by decide)) (ax_put_o (Or.inr (by decide)) (ax_put_o (Or.inr (by decide)) (ax_put_o (Or.inr (by decide)) f8)))), (ax_put_o (Or.inr (by decide)) (ax_put_o (Or.inr (by decide)) (ax_put_o (Or.inr (by decide)) (ax_put_o (Or.inr (by decide)) f9)))), (ax_put_o (Or.inr (by decide)) (ax_put_o (Or.inr (by decide)) (ax_put_o (Or.inr (by decide)) (ax_put_o (Or.inr (by decide)) zt)))), (fun c j n1 => (ax_put_o (by omega) (ax_put_o (by omega) (ax_put_o (by omega) (ax_put_o (by omega) (fr c j n1))))))⟩, fun x q9 => ?_⟩
  refine am_ev.step (pc' := 3) rfl rfl ?_
  refine am_ev.step (pc' := 4) rfl rfl ?_
  refine am_ev.step (pc' := 5) rfl rfl ?_
  refine am_ev.step (pc' := 6) rfl rfl ?_
  refine fx_sub (p' := 7) (e := ((g : Int))) rfl rfl (by omega) ?_
  refine ax_call (z := 176) (p' := 10) (as := [_, _, _]) rfl (Or.inr (Or.inl ⟨_, rfl⟩)) rfl rfl rfl rfl rfl rfl (S.ob rfl) rfl (md_176d (lo := 0) (hi := ((g : Int))) (k := k) (s := s) S w4 w6 (by omega) (by omega) w7 (by omega) y0 (by omega)) rfl ?_
  refine am_ev.step (pc' := 11) (ls' := [.ref 78, iv ((g : Int) + 1), .int t, iv ((l : Int))]) rfl rfl ?_
  refine am_ev.step (pc' := 12) rfl rfl ?_
  refine am_ev.step (pc' := 13) rfl rfl ?_
  refine am_ev.step (pc' := 14) rfl rfl ?_
  refine am_ev.step (pc' := 15) rfl rfl ?_
  refine am_ev.step (pc' := 16) rfl rfl ?_
  refine am_ev.step (pc' := 17) rfl rfl ?_
  refine am_ev.step (pc' := 20) rfl (if_pos ((b_sand (by omega)).2 q2)) ?_
  refine am_ev.step (pc' := 21) rfl rfl ?_
  refine am_ev.step (pc' := 25) rfl rfl ?_
  refine am_ev.step (pc' := 26) rfl rfl ?_
  refine ax_call (z := 177) (p' := 29) (as := [_, _, _]) rfl (Or.inr (Or.inl ⟨_, rfl⟩)) rfl rfl rfl rfl rfl rfl (S.ob rfl) rfl md_177t rfl ?_
  refine am_ev.step (pc' := 30) rfl rfl ?_
  refine am_ev.step (pc' := 31) rfl rfl ?_
  refine am_ev.step (pc' := 32) rfl rfl ?_
  refine am_ev.step (pc' := 33) rfl rfl ?_
  refine am_ev.step (pc' := 34) rfl rfl ?_
  refine am_ev.step (pc' := 35) (ls' := [.ref 78, iv ((g : Int) + 1), .int (t ||| ((Int32.ofInt 1) <<< ((Int32.ofInt ((l : Int))) &&& 31))), iv ((l : Int))]) rfl rfl ?_
  refine am_ev.step (pc' := 36) rfl rfl ?_
  refine ax_call (z := 170) (p' := 39) (as := [_]) rfl (Or.inr (Or.inl ⟨_, rfl⟩)) rfl rfl rfl rfl rfl rfl (S.ob rfl) rfl (md_170 S B hb hL w3 w5 w7 t1) rfl ?_
  exact q9
theorem mb_on (hb : tz_r b) (hL : L ≤ 1600) (C : mT h h0 b L p s e k v w) (q : k = 2) : ∀ x, am_ev (d + 3) 212 2 [.ref 78, iv ((g : Int) + 1), .int t, x3] [] h  x → am_ev (d + 3) 212 39 [.ref 78, iv ((g : Int) + 1), .int t, x3] [] h  x := fun x q9 => by
  obtain ⟨S, B, w3, t0, w4, w5, w6, w7, ya, yb, f8, f9, zt, fr⟩ := C
  have f0 := t0.f5 hb
  have hr0 := tH_r (k := k) ⟨f0.2.2.2.1, f0.2.2.2.2⟩
  clear ya yb
  have e2 : tH k = 2 := by
    rw [q]
    rfl
  refine am_ev.step (pc' := 40) rfl rfl ?_
  refine ax_gf (p' := 43) rfl rfl (S.ob rfl) w6 ?_
  refine am_ev.step (pc' := 44) rfl rfl ?_
  refine fx_c_eq_T (pT := 2) rfl (by omega) (by omega) rfl (by omega) ?_
  exact q9
theorem mb_R (hb : tz_r b) (hL : L ≤ 1600) (C : mT h h0 b L p s e k v w) (q : k ≠ 2) : am_ev (d + 3) 212 39 [.ref 78, iv ((g : Int) + 1), .int t, x3] [] h  (some (.int t), h) := by
  obtain ⟨S, B, w3, t0, w4, w5, w6, w7, ya, yb, f8, f9, zt, fr⟩ := C
  have f0 := t0.f5 hb
  have hr0 := tH_r (k := k) ⟨f0.2.2.2.1, f0.2.2.2.2⟩
  clear ya yb
  have hh := tH_c (k := k) ⟨f0.2.2.2.1, f0.2.2.2.2⟩
  refine am_ev.step (pc' := 40) rfl rfl ?_
  refine ax_gf (p' := 43) rfl rfl (S.ob rfl) w6 ?_
  refine am_ev.step (pc' := 44) rfl rfl ?_
  refine fx_c_eq_F (pF := 47) rfl (by omega) (by omega) rfl (by omega) ?_
  refine am_ev.step (pc' := 48) rfl rfl ?_
  exact fx_reti rfl rfl rfl
end LEM
section LEN
variable {d : Nat} {h h0 : am_H} {b : Nat → Int} {L p s e s1 e1 n : Nat} {k k1 v v1 w : Int} {x1 : Value}
/-- as mT, while a credit's words are counted -/
def mC (h h0 : am_H) (b : Nat → Int) (L p s e : Nat) (k v w : Int) (n : Nat) : Prop := fS h ∧ tb h 80 b L ∧ h.2.2.2 78 3 = iv L ∧ tz_t b L p s e k v ∧ h.2.2.2 78 4 = iv s ∧ h.2.2.2 78 5 = iv e ∧ h.2.2.2 78 6 = iv (tH k) ∧ h.2.2.2 78 7 = iv w ∧ (k = 2 → w = v) ∧ (43 ≤ k → w = k) ∧ h.2.2.2 78 8 = iv 0 ∧ h.2.2.2 78 9 = iv (-1) ∧ h.2.2.2 78 2 = iv 0 ∧ h.2.2.2 110 80 = iv n ∧ ∀ c j, (c ≠ 78 ∨ 10 ≤ j) → (c ≠ 110 ∨ j ≠ 80) → h.2.2.2 c j = h0.2.2.2 c j
def mCX (h h0 : am_H) (f : Int) (s : Nat) : Prop := fS h ∧ h.2.2.2 78 8 = iv f ∧ h.2.2.2 78 9 = iv s ∧ h.2.2.2 78 2 = iv 0 ∧ ∀ c j, (c ≠ 78 ∨ 10 ≤ j) → (c ≠ 110 ∨ j ≠ 80) → h.2.2.2 c j = h0.2.2.2 c j
theorem mc_7 (hb : tz_r b) (hL : L ≤ 1600) (C : mC h h0 b L p s e k v w n) (q : k = 1) (n6 : n = 6) : ∃ H : am_H, am_ev (d + 3) 211 208 [.ref 78, x1] [] h  (some (.retAddr (79 + 1)), H) ∧ mCX H h0 4 s := by
  obtain ⟨S, B, w3, t0, w4, w5, w6, w7, -, -, f8, f9, zt, cr, fr⟩ := C
  have f0 := t0.f5 hb
  have hr0 := tH_r (k := k) ⟨f0.2.2.2.1, f0.2.2.2.2⟩
  have e1 : tH k = 1 := by
    rw [q]
    rfl
  refine ⟨(am_put (am_put h 78 8 (iv 4)) 78 9 (iv ((s : Int)))), ?_, ⟨((S.po rfl rfl).po rfl rfl), (ax_put_o (Or.inr (by decide)) (ax_put_s _ _ _)), (ax_put_s _ _ _), (ax_put_o (Or.inr (by decide)) (ax_put_o (Or.inr (by decide)) zt)), (fun c j n1 n2 => (ax_put_o (by omega) (ax_put_o (by omega) (fr c j n1 n2))))⟩⟩
  refine am_ev.step (pc' := 209) rfl rfl ?_
  refine ax_gf (p' := 212) rfl rfl (S.ob rfl) w6 ?_
  refine am_ev.step (pc' := 213) rfl rfl ?_
  refine fx_c_ne_F (pF := 216) rfl (by omega) (by omega) rfl (by omega) ?_
  refine am_ev.step (pc' := 217) rfl rfl ?_
  refine am_ev.step (pc' := 218) rfl rfl ?_
  refine ax_gf (p' := 221) rfl rfl (S.ob rfl) (S.rf rfl rfl) ?_
  refine fx_bip (p' := 223) rfl rfl rfl ?_
  refine ax_iaload (p' := 224) rfl rfl (S.rd (k := 80) rfl rfl rfl rfl rfl (by decide) cr) ?_
  refine fx_bip (p' := 226) rfl rfl rfl ?_
  refine fx_c_ge_T (pT := 233) rfl (by omega) (by omega) rfl (by omega) ?_
  refine am_ev.step (pc' := 234) rfl rfl ?_
  refine am_ev.step (pc' := 235) rfl rfl ?_
  refine ax_callT (a := 79) (z := 177) (as := [_, _, _]) rfl (Or.inr (Or.inl ⟨_, rfl⟩)) rfl rfl rfl rfl rfl rfl (S.ob rfl) (md_177f (s := s) S w4) rfl rfl (fO (fO (S.ob rfl))) rfl
theorem mc_N (hb : tz_r b) (hL : L ≤ 1600) (C : mC h h0 b L p s e k v w n) (q : k = 1) (n6 : n ≤ 5) (t1 : tz_t b L e s1 e1 k1 v1) : ∃ H : am_H, mC H h0 b L e s1 e1 k1 v1 (tV b L s1 w) (n + 1) ∧ ∀ x, am_ev (d + 3) 211 208 [.ref 78, x1] [] H x → am_ev (d + 3) 211 208 [.ref 78, x1] [] h  x := by
  obtain ⟨S, B, w3, t0, w4, w5, w6, w7, -, -, f8, f9, zt, cr, fr⟩ := C
  have f0 := t0.f5 hb
  have hr0 := tH_r (k := k) ⟨f0.2.2.2.1, f0.2.2.2.2⟩
  have ee : tH k = 1 := by
    rw [q]
    rfl
  refine ⟨(am_put (am_put (am_put (am_put (am_put h 110 80 (iv ((n : Int) + 1))) 78 4 (iv ((s1 : Int)))) 78 7 (iv ((tV b L s1 (w))))) 78 5 (iv ((e1 : Int)))) 78 6 (iv ((tH k1)))), ⟨(((((S.pa rfl).po rfl rfl).po rfl rfl).po rfl rfl).po rfl rfl), (((((B.put (by decide)).put (by decide)).put (by decide)).put (by decide)).put (by decide)), (ax_put_o (Or.inr (by decide)) (ax_put_o (Or.inr (by decide)) (ax_put_o (Or.inr (by decide)) (ax_put_o (Or.inr (by decide)) (ax_put_o (Or.inl (by decide)) w3))))), t1, (ax_put_o (Or.inr (by decide)) (ax_put_o (Or.inr (by decide)) (ax_put_o (Or.inr (by decide)) (ax_put_s _ _ _)))), (ax_put_o (Or.inr (by decide)) (ax_put_s _ _ _)), (ax_put_s _ _ _), (ax_put_o (Or.inr (by decide)) (ax_put_o (Or.inr (by decide)) (ax_put_s _ _ _))), (t1.v _).1, (t1.v _).2, (ax_put_o (Or.inr (by decide)) (ax_put_o (Or.inr (by decide)) (ax_put_o (Or.inr (by decide)) (ax_put_o (Or.inr (by decide)) (ax_put_o (Or.inl (by decide)) f8))))), (ax_put_o (Or.inr (by decide)) (ax_put_o (Or.inr (by decide)) (ax_put_o (Or.inr (by decide)) (ax_put_o (Or.inr (by decide)) (ax_put_o (Or.inl (by decide)) f9))))), (ax_put_o (Or.inr (by decide)) (ax_put_o (Or.inr (by decide)) (ax_put_o (Or.inr (by decide)) (ax_put_o (Or.inr (by decide)) (ax_put_o (Or.inl (by decide)) zt))))), Eq.trans (ax_put_o (Or.inl (by decide)) (ax_put_o (Or.inl (by decide)) (ax_put_o (Or.inl (by decide)) (ax_put_o (Or.inl (by decide)) (ax_put_s _ _ _))))) (congrArg iv (by omega)), (fun c j n1 n2 => (ax_put_o (by omega) (ax_put_o (by omega) (ax_put_o (by omega) (ax_put_o (by omega) (ax_put_o (by omega) (fr c j n1 n2)))))))⟩, fun x q9 => ?_⟩
  refine am_ev.step (pc' := 209) rfl rfl ?_
  refine ax_gf (p' := 212) rfl rfl (S.ob rfl) w6 ?_
  refine am_ev.step (pc' := 213) rfl rfl ?_
  refine fx_c_ne_F (pF := 216) rfl (by omega) (by omega) rfl (by omega) ?_
  refine am_ev.step (pc' := 217) rfl rfl ?_
  refine am_ev.step (pc' := 218) rfl rfl ?_
  refine ax_gf (p' := 221) rfl rfl (S.ob rfl) (S.rf rfl rfl) ?_
  refine fx_bip (p' := 223) rfl rfl rfl ?_
  refine ax_iaload (p' := 224) rfl rfl (S.rd (k := 80) rfl rfl rfl rfl rfl (by decide) cr) ?_
  refine fx_bip (p' := 226) rfl rfl rfl ?_
  refine fx_c_ge_F (pF := 229) rfl (by omega) (by omega) rfl (by omega) ?_
  refine am_ev.step (pc' := 230) rfl rfl ?_
  refine am_ev.step (pc' := 234) rfl rfl ?_
  refine am_ev.step (pc' := 235) rfl rfl ?_
  refine ax_call (z := 177) (p' := 238) (as := [_, _, _]) rfl (Or.inr (Or.inl ⟨_, rfl⟩)) rfl rfl rfl rfl rfl rfl (S.ob rfl) rfl md_177t rfl ?_
  refine am_ev.step (pc' := 239) rfl rfl ?_
  refine ax_gf (p' := 242) rfl rfl (S.ob rfl) (S.rf rfl rfl) ?_
  refine fx_bip (p' := 244) rfl rfl rfl ?_
  refine am_ev.step (pc' := 245) rfl rfl ?_
  refine ax_iaload (p' := 246) rfl rfl (S.rd (k := 80) rfl rfl rfl rfl rfl (by decide) cr) ?_
  refine am_ev.step (pc' := 247) rfl rfl ?_
  refine fx_add (p' := 248) (e := ((n : Int) + 1)) rfl rfl (by omega) ?_
  refine ax_iastore (p' := 249) rfl rfl (S.wr (k := 80) rfl rfl rfl rfl (by decide)) ?_
  refine am_ev.step (pc' := 250) rfl rfl ?_
  refine ax_call (z := 170) (p' := 253) (as := [_]) rfl (Or.inr (Or.inl ⟨_, rfl⟩)) rfl rfl rfl rfl rfl rfl (fO (S.ob rfl)) rfl (md_170 (S.pa rfl) (B.put (by decide)) hb hL (ax_put_o (Or.inl (by decide)) w3) (ax_put_o (Or.inl (by decide)) w5) (ax_put_o (Or.inl (by decide)) w7) t1) rfl ?_
  refine am_ev.step (pc' := 208) rfl rfl ?_
  exact q9
theorem mc_R (hb : tz_r b) (hL : L ≤ 1600) (C : mC h h0 b L p s e k v w n) (q : k ≠ 1) : am_ev (d + 3) 211 208 [.ref 78, x1] [] h  (none, h) := by
  obtain ⟨S, B, w3, t0, w4, w5, w6, w7, -, -, f8, f9, zt, cr, fr⟩ := C
  have f0 := t0.f5 hb
  have hr0 := tH_r (k := k) ⟨f0.2.2.2.1, f0.2.2.2.2⟩
  have hh := tH_c (k := k) ⟨f0.2.2.2.1, f0.2.2.2.2⟩
  refine am_ev.step (pc' := 209) rfl rfl ?_
  refine ax_gf (p' := 212) rfl rfl (S.ob rfl) w6 ?_
  refine am_ev.step (pc' := 213) rfl rfl ?_
  refine fx_c_ne_T (pT := 256) rfl (by omega) (by omega) rfl (by omega) ?_
  exact am_ev.retv rfl rfl
end LEN
