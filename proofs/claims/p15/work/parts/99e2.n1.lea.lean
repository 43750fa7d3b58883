/-! LEAVES, the program's side, 2 -/
/-- the tape's state while a part is read; nothing else has changed -/
def cT (h h0 : am_H) (b : Nat → Int) (L p : Nat) : Prop := fS h ∧ tb h 42 b L ∧ h.2.2.2 41 1 = iv L ∧ h.2.2.2 41 6 = iv p ∧ h.2.2.2 41 3 = iv 0 ∧ h.2.2.2 41 4 = iv (-1) ∧ (h.1 = h0.1 ∧ h.2.2.1 = h0.2.2.1) ∧ ∀ c j, c ≠ 41 → h.2.2.2 c j = h0.2.2.2 c j
/-- a fault was found -/
def cX (h h0 : am_H) (f : Int) (s : Nat) : Prop := fS h ∧ h.2.2.2 41 3 = iv f ∧ h.2.2.2 41 4 = iv s ∧ (h.1 = h0.1 ∧ h.2.2.1 = h0.2.2.1) ∧ ∀ c j, c ≠ 41 → h.2.2.2 c j = h0.2.2.2 c j
section LEC
variable {d : Nat} {h h0 : am_H} {b : Nat → Int} {L p s e s1 e1 l n g : Nat} {k k1 v v1 c : Int} {t : Int32}
section LE80
theorem le_80a (S : fS h) (B : tb h 42 b L) (hb : tz_r b) (hL : L ≤ 1600) (w1 : h.2.2.2 41 1 = iv L) (v2 : h.2.2.2 41 2 = iv k) (v5 : h.2.2.2 41 5 = iv s) (v6 : h.2.2.2 41 6 = iv e) (t0 : tz_t b L p s e k v) (q1 : k ≠ 2) : am_ev (d + 1) 80 0 (am_ent [.ref 41, .int t, iv ((g : Int))] 3) [] h (some (iv 0), (am_put (am_put h 41 3 (iv 1)) 41 4 (iv ((s : Int))))) := by
  have f0 := t0.f5 hb
  show am_ev (d + 1) 80 0 [.ref 41, .int t, iv ((g : Int))] [] h _
  refine am_ev.step (pc' := 1) rfl rfl ?_
  refine ax_gf (p' := 4) rfl rfl (S.ob rfl) v2 ?_
  refine am_ev.step (pc' := 5) rfl rfl ?_
  refine fx_c_eq_F (pF := 8) rfl (by omega) (by omega) rfl (by omega) ?_
  refine am_ev.step (pc' := 9) rfl rfl ?_
  refine am_ev.step (pc' := 10) rfl rfl ?_
  refine ax_call (z := 29) (p' := 13) (as := [_, _]) rfl (Or.inr (Or.inl ⟨_, rfl⟩)) rfl rfl rfl rfl rfl rfl (S.ob rfl) rfl (tk_29 (s := s) S v5) rfl ?_
  exact fx_reti rfl rfl rfl
theorem le_80b (S : fS h) (B : tb h 42 b L) (hb : tz_r b) (hL : L ≤ 1600) (w1 : h.2.2.2 41 1 = iv L) (v2 : h.2.2.2 41 2 = iv k) (v5 : h.2.2.2 41 5 = iv s) (v6 : h.2.2.2 41 6 = iv e) (hg : g ≤ 19) (t0 : tz_t b L p s e k v) (q1 : k = 2) (q2 : (g : Int) < v) : am_ev (d + 1) 80 0 (am_ent [.ref 41, .int t, iv ((g : Int))] 3) [] h (some (iv 0), (am_put (am_put h 41 3 (iv 2)) 41 4 (iv ((s : Int))))) := by
  have u0 := t0.bd hb q1
  show am_ev (d + 1) 80 0 [.ref 41, .int t, iv ((g : Int))] [] h _
  refine am_ev.step (pc' := 1) rfl rfl ?_
  refine ax_gf (p' := 4) rfl rfl (S.ob rfl) v2 ?_
  refine am_ev.step (pc' := 5) rfl rfl ?_
  refine fx_c_eq_T (pT := 14) rfl (by omega) (by omega) rfl (by omega) ?_
  refine am_ev.step (pc' := 15) rfl rfl ?_
  refine ax_call (z := 30) (p' := 18) (as := [_]) rfl (Or.inr (Or.inl ⟨_, rfl⟩)) rfl rfl rfl rfl rfl rfl (S.ob rfl) rfl (tk_30w S B hb hL w1 v5 v6 t0) rfl ?_
  refine am_ev.step (pc' := 19) rfl rfl ?_
  refine fx_c_le_F (pF := 22) rfl (by omega) (by omega) rfl (by omega) ?_
  refine am_ev.step (pc' := 23) rfl rfl ?_
  refine am_ev.step (pc' := 24) rfl rfl ?_
  refine ax_call (z := 29) (p' := 27) (as := [_, _]) rfl (Or.inr (Or.inl ⟨_, rfl⟩)) rfl rfl rfl rfl rfl rfl (S.ob rfl) rfl (tk_29 (s := s) S v5) rfl ?_
  exact fx_reti rfl rfl rfl
theorem le_80c (S : fS h) (B : tb h 42 b L) (hb : tz_r b) (hL : L ≤ 1600) (w1 : h.2.2.2 41 1 = iv L) (v2 : h.2.2.2 41 2 = iv k) (v5 : h.2.2.2 41 5 = iv s) (v6 : h.2.2.2 41 6 = iv e) (hg : g ≤ 19) (hl : l ≤ g) (t0 : tz_t b L p s e k (l : Int)) (q1 : k = 2) (q2 : bt t l = true) : am_ev (d + 1) 80 0 (am_ent [.ref 41, .int t, iv ((g : Int))] 3) [] h (some (iv 0), (am_put (am_put h 41 3 (iv 3)) 41 4 (iv ((s : Int))))) := by
  show am_ev (d + 1) 80 0 [.ref 41, .int t, iv ((g : Int))] [] h _
  refine am_ev.step (pc' := 1) rfl rfl ?_
  refine ax_gf (p' := 4) rfl rfl (S.ob rfl) v2 ?_
  refine am_ev.step (pc' := 5) rfl rfl ?_
  refine fx_c_eq_T (pT := 14) rfl (by omega) (by omega) rfl (by omega) ?_
  refine am_ev.step (pc' := 15) rfl rfl ?_
  refine ax_call (z := 30) (p' := 18) (as := [_]) rfl (Or.inr (Or.inl ⟨_, rfl⟩)) rfl rfl rfl rfl rfl rfl (S.ob rfl) rfl (tk_30w S B hb hL w1 v5 v6 t0) rfl ?_
  refine am_ev.step (pc' := 19) rfl rfl ?_
  refine fx_c_le_T (pT := 28) rfl (by omega) (by omega) rfl (by omega) ?_
  refine am_ev.step (pc' := 29) rfl rfl ?_
  refine am_ev.step (pc' := 30) rfl rfl ?_
  refine ax_call (z := 30) (p' := 33) (as := [_]) rfl (Or.inr (Or.inl ⟨_, rfl⟩)) rfl rfl rfl rfl rfl rfl (S.ob rfl) rfl (tk_30w S B hb hL w1 v5 v6 t0) rfl ?_
  refine ax_call (z := 31) (p' := 36) (as := [_, _]) rfl (Or.inl ⟨_, rfl⟩) rfl rfl rfl rfl rfl rfl rfl rfl ((tk_31 (c := l) (by omega)).1 q2) rfl ?_
  refine fx_z_eq_F (pF := 39) rfl (by omega) rfl (by omega) ?_
  refine am_ev.step (pc' := 40) rfl rfl ?_
  refine am_ev.step (pc' := 41) rfl rfl ?_
  refine ax_call (z := 29) (p' := 44) (as := [_, _]) rfl (Or.inr (Or.inl ⟨_, rfl⟩)) rfl rfl rfl rfl rfl rfl (S.ob rfl) rfl (tk_29 (s := s) S v5) rfl ?_
  refine fx_z_eq_T (pT := 51) rfl (by omega) rfl (by omega) ?_
  refine am_ev.step (pc' := 52) rfl rfl ?_
  exact fx_reti rfl rfl rfl
theorem le_80d (S : fS h) (B : tb h 42 b L) (hb : tz_r b) (hL : L ≤ 1600) (w1 : h.2.2.2 41 1 = iv L) (v2 : h.2.2.2 41 2 = iv k) (v5 : h.2.2.2 41 5 = iv s) (v6 : h.2.2.2 41 6 = iv e) (hg : g ≤ 19) (hl : l ≤ g) (t0 : tz_t b L p s e k (l : Int)) (q1 : k = 2) (q2 : bt t l = false) : am_ev (d + 1) 80 0 (am_ent [.ref 41, .int t, iv ((g : Int))] 3) [] h (some (iv 1), h) := by
  show am_ev (d + 1) 80 0 [.ref 41, .int t, iv ((g : Int))] [] h _
  refine am_ev.step (pc' := 1) rfl rfl ?_
  refine ax_gf (p' := 4) rfl rfl (S.ob rfl) v2 ?_
  refine am_ev.step (pc' := 5) rfl rfl ?_
  refine fx_c_eq_T (pT := 14) rfl (by omega) (by omega) rfl (by omega) ?_
  refine am_ev.step (pc' := 15) rfl rfl ?_
  refine ax_call (z := 30) (p' := 18) (as := [_]) rfl (Or.inr (Or.inl ⟨_, rfl⟩)) rfl rfl rfl rfl rfl rfl (S.ob rfl) rfl (tk_30w S B hb hL w1 v5 v6 t0) rfl ?_
  refine am_ev.step (pc' := 19) rfl rfl ?_
  refine fx_c_le_T (pT := 28) rfl (by omega) (by omega) rfl (by omega) ?_
  refine am_ev.step (pc' := 29) rfl rfl ?_
  refine am_ev.step (pc' := 30) rfl rfl ?_
  refine ax_call (z := 30) (p' := 33) (as := [_]) rfl (Or.inr (Or.inl ⟨_, rfl⟩)) rfl rfl rfl rfl rfl rfl (S.ob rfl) rfl (tk_30w S B hb hL w1 v5 v6 t0) rfl ?_
  refine ax_call (z := 31) (p' := 36) (as := [_, _]) rfl (Or.inl ⟨_, rfl⟩) rfl rfl rfl rfl rfl rfl rfl rfl ((tk_31 (c := l) (by omega)).2 q2) rfl ?_
  refine fx_z_eq_T (pT := 47) rfl (by omega) rfl (by omega) ?_
  refine am_ev.step (pc' := 48) rfl rfl ?_
  refine am_ev.step (pc' := 52) rfl rfl ?_
  exact fx_reti rfl rfl rfl
end LE80
theorem cb_R (hb : tz_r b) (hL : L ≤ 1600) (C : cT h h0 b L p) (t0 : tz_t b L p s e k v) (hn : n ≤ g + 1) (hg : g ≤ 19) (n1 : 1 ≤ n) (q : k = 59) : ∃ H : am_H, am_ev (d + 2) 79 4 [.ref 41, iv ((g : Int)), .int t, iv ((n : Int))] [] h  (some (.int t), H) ∧ cT H h0 b L e := by
  obtain ⟨S, B, w1, v6, f3, f4, sz, fr⟩ := C
  have f0 := t0.f5 hb
  refine ⟨(am_put (am_put (am_put h 41 5 (iv ((s : Int)))) 41 6 (iv ((e : Int)))) 41 2 (iv (k))), ?_, ⟨(((S.po rfl rfl).po rfl rfl).po rfl rfl), (((B.put (by decide)).put (by decide)).put (by decide)), (ax_put_o (Or.inr (by decide)) (ax_put_o (Or.inr (by decide)) (ax_put_o (Or.inr (by decide)) w1))), (ax_put_o (Or.inr (by decide)) (ax_put_s _ _ _)), (ax_put_o (Or.inr (by decide)) (ax_put_o (Or.inr (by decide)) (ax_put_o (Or.inr (by decide)) f3))), (ax_put_o (Or.inr (by decide)) (ax_put_o (Or.inr (by decide)) (ax_put_o (Or.inr (by decide)) f4))), sz, (fun c j n1 => (ax_put_o (Or.inl n1) (ax_put_o (Or.inl n1) (ax_put_o (Or.inl n1) (fr c j n1)))))⟩⟩
  refine am_ev.step (pc' := 5) rfl rfl ?_
  refine am_ev.step (pc' := 6) rfl rfl ?_
  refine am_ev.step (pc' := 7) rfl rfl ?_
  refine fx_add (p' := 8) (e := ((g : Int) + 1)) rfl rfl (by omega) ?_
  refine fx_c_gt_F (pF := 11) rfl (by omega) (by omega) rfl (by omega) ?_
  refine am_ev.step (pc' := 12) rfl rfl ?_
  refine ax_call (z := 21) (p' := 15) (as := [_]) rfl (Or.inr (Or.inl ⟨_, rfl⟩)) rfl rfl rfl rfl rfl rfl (S.ob rfl) rfl (tk_21w S B hb hL w1 v6 t0) rfl ?_
  refine am_ev.step (pc' := 16) rfl rfl ?_
  refine fx_z_le_F (pF := 19) rfl (by omega) rfl (by omega) ?_
  refine am_ev.step (pc' := 20) rfl rfl ?_
  refine ax_gf (p' := 23) rfl rfl (fO (fO (fO (S.ob rfl)))) (ax_put_s _ _ _) ?_
  refine fx_bip (p' := 25) rfl rfl rfl ?_
  refine fx_c_ne_F (pF := 28) rfl (by omega) (by omega) rfl (by omega) ?_
  refine am_ev.step (pc' := 29) rfl rfl ?_
  exact fx_reti rfl rfl rfl
theorem cb_A0 (hb : tz_r b) (hL : L ≤ 1600) (C : cT h h0 b L p) (t0 : tz_t b L p s e k v) (hn : n ≤ g + 1) (hg : g ≤ 19) (n0 : n = 0) (q : k ≠ 2) : ∃ H : am_H, am_ev (d + 2) 79 4 [.ref 41, iv ((g : Int)), .int t, iv ((n : Int))] [] h  (some (iv (-1)), H) ∧ cX H h0 1 s := by
  obtain ⟨S, B, w1, v6, f3, f4, sz, fr⟩ := C
  have f0 := t0.f5 hb
  refine ⟨(am_put (am_put (am_put (am_put (am_put h 41 5 (iv ((s : Int)))) 41 6 (iv ((e : Int)))) 41 2 (iv (k))) 41 3 (iv 1)) 41 4 (iv ((s : Int)))), ?_, ⟨(((((S.po rfl rfl).po rfl rfl).po rfl rfl).po rfl rfl).po rfl rfl), (ax_put_o (Or.inr (by decide)) (ax_put_s _ _ _)), (ax_put_s _ _ _), sz, (fun c j n1 => (ax_put_o (Or.inl n1) (ax_put_o (Or.inl n1) (ax_put_o (Or.inl n1) (ax_put_o (Or.inl n1) (ax_put_o (Or.inl n1) (fr c j n1)))))))⟩⟩
  refine am_ev.step (pc' := 5) rfl rfl ?_
  refine am_ev.step (pc' := 6) rfl rfl ?_
  refine am_ev.step (pc' := 7) rfl rfl ?_
  refine fx_add (p' := 8) (e := ((g : Int) + 1)) rfl rfl (by omega) ?_
  refine fx_c_gt_F (pF := 11) rfl (by omega) (by omega) rfl (by omega) ?_
  refine am_ev.step (pc' := 12) rfl rfl ?_
  refine ax_call (z := 21) (p' := 15) (as := [_]) rfl (Or.inr (Or.inl ⟨_, rfl⟩)) rfl rfl rfl rfl rfl rfl (S.ob rfl) rfl (tk_21w S B hb hL w1 v6 t0) rfl ?_
  refine am_ev.step (pc' := 16) rfl rfl ?_
  refine fx_z_le_T (pT := 30) rfl (by omega) rfl (by omega) ?_
  refine am_ev.step (pc' := 31) rfl rfl ?_
  refine am_ev.step (pc' := 32) rfl rfl ?_
  refine am_ev.step (pc' := 33) rfl rfl ?_
  refine ax_call (z := 80) (p' := 36) (as := [_, _, _]) rfl (Or.inl ⟨_, rfl⟩) rfl rfl rfl rfl rfl rfl rfl rfl (le_80a (((S.po rfl rfl).po rfl rfl).po rfl rfl) (((B.put (by decide)).put (by decide)).put (by decide)) hb hL (ax_put_o (Or.inr (by decide)) (ax_put_o (Or.inr (by decide)) (ax_put_o (Or.inr (by decide)) w1))) (ax_put_s _ _ _) (ax_put_o (Or.inr (by decide)) (ax_put_o (Or.inr (by decide)) (ax_put_s _ _ _))) (ax_put_o (Or.inr (by decide)) (ax_put_s _ _ _)) t0 q) rfl ?_
  refine fx_z_ne_F (pF := 39) rfl (by omega) rfl (by omega) ?_
  refine am_ev.step (pc' := 40) rfl rfl ?_
  exact fx_reti rfl rfl rfl
theorem cb_A1 (hb : tz_r b) (hL : L ≤ 1600) (C : cT h h0 b L p) (t0 : tz_t b L p s e k v) (hn : n ≤ g + 1) (hg : g ≤ 19) (n1 : 1 ≤ n) (q : k ≠ 2) (q5 : k ≠ 59) : ∃ H : am_H, am_ev (d + 2) 79 4 [.ref 41, iv ((g : Int)), .int t, iv ((n : Int))] [] h  (some (iv (-1)), H) ∧ cX H h0 1 s := by
  obtain ⟨S, B, w1, v6, f3, f4, sz, fr⟩ := C
  have f0 := t0.f5 hb
  refine ⟨(am_put (am_put (am_put (am_put (am_put h 41 5 (iv ((s : Int)))) 41 6 (iv ((e : Int)))) 41 2 (iv (k))) 41 3 (iv 1)) 41 4 (iv ((s : Int)))), ?_, ⟨(((((S.po rfl rfl).po rfl rfl).po rfl rfl).po rfl rfl).po rfl rfl), (ax_put_o (Or.inr (by decide)) (ax_put_s _ _ _)), (ax_put_s _ _ _), sz, (fun c j n1 => (ax_put_o (Or.inl n1) (ax_put_o (Or.inl n1) (ax_put_o (Or.inl n1) (ax_put_o (Or.inl n1) (ax_put_o (Or.inl n1) (fr c j n1)))))))⟩⟩
  refine am_ev.step (pc' := 5) rfl rfl ?_
  refine am_ev.step (pc' := 6) rfl rfl ?_
  refine am_ev.step (pc' := 7) rfl rfl ?_
  refine fx_add (p' := 8) (e := ((g : Int) + 1)) rfl rfl (by omega) ?_
  refine fx_c_gt_F (pF := 11) rfl (by omega) (by omega) rfl (by omega) ?_
  refine am_ev.step (pc' := 12) rfl rfl ?_
  refine ax_call (z := 21) (p' := 15) (as := [_]) rfl (Or.inr (Or.inl ⟨_, rfl⟩)) rfl rfl rfl rfl rfl rfl (S.ob rfl) rfl (tk_21w S B hb hL w1 v6 t0) rfl ?_
  refine am_ev.step (pc' := 16) rfl rfl ?_
  refine fx_z_le_F (pF := 19) rfl (by omega) rfl (by omega) ?_
  refine am_ev.step (pc' := 20) rfl rfl ?_
  refine ax_gf (p' := 23) rfl rfl (fO (fO (fO (S.ob rfl)))) (ax_put_s _ _ _) ?_
  refine fx_bip (p' := 25) rfl rfl rfl ?_
  refine fx_c_ne_T (pT := 30) rfl (by omega) (by omega) rfl (by omega) ?_
  refine am_ev.step (pc' := 31) rfl rfl ?_
  refine am_ev.step (pc' := 32) rfl rfl ?_
  refine am_ev.step (pc' := 33) rfl rfl ?_
  refine ax_call (z := 80) (p' := 36) (as := [_, _, _]) rfl (Or.inl ⟨_, rfl⟩) rfl rfl rfl rfl rfl rfl rfl rfl (le_80a (((S.po rfl rfl).po rfl rfl).po rfl rfl) (((B.put (by decide)).put (by decide)).put (by decide)) hb hL (ax_put_o (Or.inr (by decide)) (ax_put_o (Or.inr (by decide)) (ax_put_o (Or.inr (by decide)) w1))) (ax_put_s _ _ _) (ax_put_o (Or.inr (by decide)) (ax_put_o (Or.inr (by decide)) (ax_put_s _ _ _))) (ax_put_o (Or.inr (by decide)) (ax_put_s _ _ _)) t0 q) rfl ?_
  refine fx_z_ne_F (pF := 39) rfl (by omega) rfl (by omega) ?_
  refine am_ev.step (pc' := 40) rfl rfl ?_
  exact fx_reti rfl rfl rfl
theorem cb_B0 (hb : tz_r b) (hL : L ≤ 1600) (C : cT h h0 b L p) (t0 : tz_t b L p s e k v) (hn : n ≤ g + 1) (hg : g ≤ 19) (n0 : n = 0) (q : k = 2) (q2 : (g : Int) < v) : ∃ H : am_H, am_ev (d + 2) 79 4 [.ref 41, iv ((g : Int)), .int t, iv ((n : Int))] [] h  (some (iv (-1)), H) ∧ cX H h0 2 s := by
  obtain ⟨S, B, w1, v6, f3, f4, sz, fr⟩ := C
  have f0 := t0.f5 hb
  refine ⟨(am_put (am_put (am_put (am_put (am_put h 41 5 (iv ((s : Int)))) 41 6 (iv ((e : Int)))) 41 2 (iv (k))) 41 3 (iv 2)) 41 4 (iv ((s : Int)))), ?_, ⟨(((((S.po rfl rfl).po rfl rfl).po rfl rfl).po rfl rfl).po rfl rfl), (ax_put_o (Or.inr (by decide)) (ax_put_s _ _ _)), (ax_put_s _ _ _), sz, (fun c j n1 => (ax_put_o (Or.inl n1) (ax_put_o (Or.inl n1) (ax_put_o (Or.inl n1) (ax_put_o (Or.inl n1) (ax_put_o (Or.inl n1) (fr c j n1)))))))⟩⟩
  refine am_ev.step (pc' := 5) rfl rfl ?_
  refine am_ev.step (pc' := 6) rfl rfl ?_
  refine am_ev.step (pc' := 7) rfl rfl ?_
  refine fx_add (p' := 8) (e := ((g : Int) + 1)) rfl rfl (by omega) ?_
  refine fx_c_gt_F (pF := 11) rfl (by omega) (by omega) rfl (by omega) ?_
  refine am_ev.step (pc' := 12) rfl rfl ?_
  refine ax_call (z := 21) (p' := 15) (as := [_]) rfl (Or.inr (Or.inl ⟨_, rfl⟩)) rfl rfl rfl rfl rfl rfl (S.ob rfl) rfl (tk_21w S B hb hL w1 v6 t0) rfl ?_
  refine am_ev.step (pc' := 16) rfl rfl ?_
  refine fx_z_le_T (pT := 30) rfl (by omega) rfl (by omega) ?_
  refine am_ev.step (pc' := 31) rfl rfl ?_
  refine am_ev.step (pc' := 32) rfl rfl ?_
  refine am_ev.step (pc' := 33) rfl rfl ?_
  refine ax_call (z := 80) (p' := 36) (as := [_, _, _]) rfl (Or.inl ⟨_, rfl⟩) rfl rfl rfl rfl rfl rfl rfl rfl (le_80b (((S.po rfl rfl).po rfl rfl).po rfl rfl) (((B.put (by decide)).put (by decide)).put (by decide)) hb hL (ax_put_o (Or.inr (by decide)) (ax_put_o (Or.inr (by decide)) (ax_put_o (Or.inr (by decide)) w1))) (ax_put_s _ _ _) (ax_put_o (Or.inr (by decide)) (ax_put_o (Or.inr (by decide)) (ax_put_s _ _ _))) (ax_put_o (Or.inr (by decide)) (ax_put_s _ _ _)) hg t0 q q2) rfl ?_
  refine fx_z_ne_F (pF := 39) rfl (by omega) rfl (by omega) ?_
  refine am_ev.step (pc' := 40) rfl rfl ?_
  exact fx_reti rfl rfl rfl
theorem cb_B1 (hb : tz_r b) (hL : L ≤ 1600) (C : cT h h0 b L p) (t0 : tz_t b L p s e k v) (hn : n ≤ g + 1) (hg : g ≤ 19) (n1 : 1 ≤ n) (q : k = 2) (q2 : (g : Int) < v) : ∃ H : am_H, am_ev (d + 2) 79 4 [.ref 41, iv ((g : Int)), .int t, iv ((n : Int))] [] h  (some (iv (-1)), H) ∧ cX H h0 2 s := by
  obtain ⟨S, B, w1, v6, f3, f4, sz, fr⟩ := C
  have f0 := t0.f5 hb
  refine ⟨(am_put (am_put (am_put (am_put (am_put h 41 5 (iv ((s : Int)))) 41 6 (iv ((e : Int)))) 41 2 (iv (k))) 41 3 (iv 2)) 41 4 (iv ((s : Int)))), ?_, ⟨(((((S.po rfl rfl).po rfl rfl).po rfl rfl).po rfl rfl).po rfl rfl), (ax_put_o (Or.inr (by decide)) (ax_put_s _ _ _)), (ax_put_s _ _ _), sz, (fun c j n1 => (ax_put_o (Or.inl n1) (ax_put_o (Or.inl n1) (ax_put_o (Or.inl n1) (ax_put_o (Or.inl n1) (ax_put_o (Or.inl n1) (fr c j n1)))))))⟩⟩
  refine am_ev.step (pc' := 5) rfl rfl ?_
  refine am_ev.step (pc' := 6) rfl rfl ?_
  refine am_ev.step (pc' := 7) rfl rfl ?_
  refine fx_add (p' := 8) (e := ((g : Int) + 1)) rfl rfl (by omega) ?_
  refine fx_c_gt_F (pF := 11) rfl (by omega) (by omega) rfl (by omega) ?_
  refine am_ev.step (pc' := 12) rfl rfl ?_
  refine ax_call (z := 21) (p' := 15) (as := [_]) rfl (Or.inr (Or.inl ⟨_, rfl⟩)) rfl rfl rfl rfl rfl rfl (S.ob rfl) rfl (tk_21w S B hb hL w1 v6 t0) rfl ?_
  refine am_ev.step (pc' := 16) rfl rfl ?_
  refine fx_z_le_F (pF := 19) rfl (by omega) rfl (by omega) ?_
  refine am_ev.step (pc' := 20) rfl rfl ?_
  refine ax_gf (p' := 23) rfl rfl (fO (fO (fO (S.ob rfl)))) (ax_put_s _ _ _) ?_
  refine fx_bip (p' := 25) rfl rfl rfl ?_
  refine fx_c_ne_T (pT := 30) rfl (by omega) (by omega) rfl (by omega) ?_
  refine am_ev.step (pc' := 31) rfl rfl ?_
  refine am_ev.step (pc' := 32) rfl rfl ?_
  refine am_ev.step (pc' := 33) rfl rfl ?_
  refine ax_call (z := 80) (p' := 36) (as := [_, _, _]) rfl (Or.inl ⟨_, rfl⟩) rfl rfl rfl rfl rfl rfl rfl rfl (le_80b (((S.po rfl rfl).po rfl rfl).po rfl rfl) (((B.put (by decide)).put (by decide)).put (by decide)) hb hL (ax_put_o (Or.inr (by decide)) (ax_put_o (Or.inr (by decide)) (ax_put_o (Or.inr (by decide)) w1))) (ax_put_s _ _ _) (ax_put_o (Or.inr (by decide)) (ax_put_o (Or.inr (by decide)) (ax_put_s _ _ _))) (ax_put_o (Or.inr (by decide)) (ax_put_s _ _ _)) hg t0 q q2) rfl ?_
  refine fx_z_ne_F (pF := 39) rfl (by omega) rfl (by omega) ?_
  refine am_ev.step (pc' := 40) rfl rfl ?_
  exact fx_reti rfl rfl rfl
theorem cb_C0 (hb : tz_r b) (hL : L ≤ 1600) (C : cT h h0 b L p) (t0 : tz_t b L p s e k (l : Int)) (hn : n ≤ g + 1) (hg : g ≤ 19) (n0 : n = 0) (hl : l ≤ g) (q : k = 2) (q2 : bt t l = true) : ∃ H : am_H, am_ev (d + 2) 79 4 [.ref 41, iv ((g : Int)), .int t, iv ((n : Int))] [] h  (some (iv (-1)), H) ∧ cX H h0 3 s := by
  obtain ⟨S, B, w1, v6, f3, f4, sz, fr⟩ := C
  have f0 := t0.f5 hb
  refine ⟨(am_put (am_put (am_put (am_put (am_put h 41 5 (iv ((s : Int)))) 41 6 (iv ((e : Int)))) 41 2 (iv (k))) 41 3 (iv 3)) 41 4 (iv ((s : Int)))), ?_, ⟨(((((S.po rfl rfl).po rfl rfl).po rfl rfl).po rfl rfl).po rfl rfl), (ax_put_o (Or.inr (by decide)) (ax_put_s _ _ _)), (ax_put_s _ _ _), sz, (fun c j n1 => (ax_put_o (Or.inl n1) (ax_put_o (Or.inl n1) (ax_put_o (Or.inl n1) (ax_put_o (Or.inl n1) (ax_put_o (Or.inl n1) (fr c j n1)))))))⟩⟩
  refine am_ev.step (pc' := 5) rfl rfl ?_
  refine am_ev.step (pc' := 6) rfl rfl ?_
  refine am_ev.step (pc' := 7) rfl rfl ?_
  refine fx_add (p' := 8) (e := ((g : Int) + 1)) rfl rfl (by omega) ?_
  refine fx_c_gt_F (pF := 11) rfl (by omega) (by omega) rfl (by omega) ?_
  refine am_ev.step (pc' := 12) rfl rfl ?_
  refine ax_call (z := 21) (p' := 15) (as := [_]) rfl (Or.inr (Or.inl ⟨_, rfl⟩)) rfl rfl rfl rfl rfl rfl (S.ob rfl) rfl (tk_21w S B hb hL w1 v6 t0) rfl ?_
  refine am_ev.step (pc' := 16) rfl rfl ?_
  refine fx_z_le_T (pT := 30) rfl (by omega) rfl (by omega) ?_
  refine am_ev.step (pc' := 31) rfl rfl ?_
  refine am_ev.step (pc' := 32) rfl rfl ?_
  refine am_ev.step (pc' := 33) rfl rfl ?_
  refine ax_call (z := 80) (p' := 36) (as := [_, _, _]) rfl (Or.inl ⟨_, rfl⟩) rfl rfl rfl rfl rfl rfl rfl rfl (le_80c (((S.po rfl rfl).po rfl rfl).po rfl rfl) (((B.put (by decide)).put (by decide)).put (by decide)) hb hL (ax_put_o (Or.inr (by decide)) (ax_put_o (Or.inr (by decide)) (ax_put_o (Or.inr (by decide)) w1))) (ax_put_s _ _ _) (ax_put_o (Or.inr (by decide)) (ax_put_o (Or.inr (by decide)) (ax_put_s _ _ _))) (ax_put_o (Or.inr (by decide)) (ax_put_s _ _ _)) hg hl t0 q q2) rfl ?_
  refine fx_z_ne_F (pF := 39) rfl (by omega) rfl (by omega) ?_
  refine am_ev.step (pc' := 40) rfl rfl ?_
  exact fx_reti rfl rfl rfl
theorem cb_C1 (hb : tz_r b) (hL : L ≤ 1600) (C : cT h h0 b L p) (t0 : tz_t b L p s e k (l : Int)) (hn : n ≤ g + 1) (hg : g ≤ 19) (n1 : 1 ≤ n) (hl : l ≤ g) (q : k = 2) (q2 : bt t l = true) : ∃ H : am_H, am_ev (d + 2) 79 4 [.ref 41, iv ((g : Int)), .int t, iv ((n : Int))] [] h  (some (iv (-1)), H) ∧ cX H h0 3 s := by
  obtain ⟨S, B, w1, v6, f3, f4, sz, fr⟩ := C
  have f0 := t0.f5 hb
  refine ⟨(am_put (am_put (am_put (am_put (am_put h 41 5 (iv ((s : Int)))) 41 6 (iv ((e : Int)))) 41 2 (iv (k))) 41 3 (iv 3)) 41 4 (iv ((s : Int)))), ?_, ⟨(((((S.po rfl rfl).po rfl rfl).po rfl rfl).po rfl rfl).po rfl rfl), (ax_put_o (Or.inr (by decide)) (ax_put_s _ _ _)), (ax_put_s _ _ _), sz, (fun c j n1 => (ax_put_o (Or.inl n1) (ax_put_o (Or.inl n1) (ax_put_o (Or.inl n1) (ax_put_o (Or.inl n1) (ax_put_o (Or.inl n1) (fr c j n1)))))))⟩⟩
  refine am_ev.step (pc' := 5) rfl rfl ?_
  refine am_ev.step (pc' := 6) rfl rfl ?_
  refine am_ev.step (pc' := 7) rfl rfl ?_
  refine fx_add (p' := 8) (e := ((g : Int) + 1)) rfl rfl (by omega) ?_
  refine fx_c_gt_F (pF := 11) rfl (by omega) (by omega) rfl (by omega) ?_
  refine am_ev.step (pc' := 12) rfl rfl ?_
  refine ax_call (z := 21) (p' := 15) (as := [_]) rfl (Or.inr (Or.inl ⟨_, rfl⟩)) rfl rfl rfl rfl rfl rfl (S.ob rfl) rfl (tk_21w S B hb hL w1 v6 t0) rfl ?_
  refine am_ev.step (pc' := 16) rfl rfl ?_
  refine fx_z_le_F (pF := 19) rfl (by omega) rfl (by omega) ?_
  refine am_ev.step (pc' := 20) rfl rfl ?_
  refine ax_gf (p' := 23) rfl rfl (fO (fO (fO (S.ob rfl)))) (ax_put_s _ _ _) ?_
  refine fx_bip (p' := 25) rfl rfl rfl ?_
  refine fx_c_ne_T (pT := 30) rfl (by omega) (by omega) rfl (by omega) ?_
  refine am_ev.step (pc' := 31) rfl rfl ?_
  refine am_ev.step (pc' := 32) rfl rfl ?_
  refine am_ev.step (pc' := 33) rfl rfl ?_
  refine ax_call (z := 80) (p' := 36) (as := [_, _, _]) rfl (Or.inl ⟨_, rfl⟩) rfl rfl rfl rfl rfl rfl rfl rfl (le_80c (((S.po rfl rfl).po rfl rfl).po rfl rfl) (((B.put (by decide)).put (by decide)).put (by decide)) hb hL (ax_put_o (Or.inr (by decide)) (ax_put_o (Or.inr (by decide)) (ax_put_o (Or.inr (by decide)) w1))) (ax_put_s _ _ _) (ax_put_o (Or.inr (by decide)) (ax_put_o (Or.inr (by decide)) (ax_put_s _ _ _))) (ax_put_o (Or.inr (by decide)) (ax_put_s _ _ _)) hg hl t0 q q2) rfl ?_
  refine fx_z_ne_F (pF := 39) rfl (by omega) rfl (by omega) ?_
  refine am_ev.step (pc' := 40) rfl rfl ?_
  exact fx_reti rfl rfl rfl
theorem cb_N0 (hb : tz_r b) (hL : L ≤ 1600) (C : cT h h0 b L p) (t0 : tz_t b L p s e k (l : Int)) (hn : n ≤ g + 1) (hg : g ≤ 19) (n0 : n = 0) (hl : l ≤ g) (q : k = 2) (q2 : bt t l = false) : ∃ H : am_H, cT H h0 b L e ∧ ∀ x, am_ev (d + 2) 79 4 [.ref 41, iv ((g : Int)), .int (t ||| ((Int32.ofInt 1) <<< ((Int32.ofInt ((l : Int))) &&& 31))), iv ((n : Int) + 1)] [] H x → am_ev (d + 2) 79 4 [.ref 41, iv ((g : Int)), .int t, iv ((n : Int))] [] h  x := by
  obtain ⟨S, B, w1, v6, f3, f4, sz, fr⟩ := C
  have f0 := t0.f5 hb
  refine ⟨(am_put (am_put (am_put h 41 5 (iv ((s : Int)))) 41 6 (iv ((e : Int)))) 41 2 (iv (k))), ⟨(((S.po rfl rfl).po rfl rfl).po rfl rfl), (((B.put (by decide)).put (by decide)).put (by decide)), (ax_put_o (Or.inr (by decide)) (ax_put_o (Or.inr (by decide)) (ax_put_o (Or.inr (by decide)) w1))), (ax_put_o (Or.inr (by decide)) (ax_put_s _ _ _)), (ax_put_o (Or.inr (by decide)) (ax_put_o (Or.inr (by decide)) (ax_put_o (Or.inr (by decide)) f3))), (ax_put_o (Or.inr (by decide)) (ax_put_o (Or.inr (by decide)) (ax_put_o (Or.inr (by decide)) f4))), sz, (fun c j n1 => (ax_put_o (Or.inl n1) (ax_put_o (Or.inl n1) (ax_put_o (Or.inl n1) (fr c j n1)))))⟩, fun x q9 => ?_⟩
  refine am_ev.step (pc' := 5) rfl rfl ?_
  refine am_ev.step (pc' := 6) rfl rfl ?_
  refine am_ev.step (pc' := 7) rfl rfl ?_
  refine fx_add (p' := 8) (e := ((g : Int) + 1)) rfl rfl (by omega) ?_
  refine fx_c_gt_F (pF := 11) rfl (by omega) (by omega) rfl (by omega) ?_
  refine am_ev.step (pc' := 12) rfl rfl ?_
  refine ax_call (z := 21) (p' := 15) (as := [_]) rfl (Or.inr (Or.inl ⟨_, rfl⟩)) rfl rfl rfl rfl rfl rfl (S.ob rfl) rfl (tk_21w S B hb hL w1 v6 t0) rfl ?_
  refine am_ev.step (pc' := 16) rfl rfl ?_
  refine fx_z_le_T (pT := 30) rfl (by omega) rfl (by omega) ?_
  refine am_ev.step (pc' := 31) rfl rfl ?_
  refine am_ev.step (pc' := 32) rfl rfl ?_
  refine am_ev.step (pc' := 33) rfl rfl ?_
  refine ax_call (z := 80) (p' := 36) (as := [_, _, _]) rfl (Or.inl ⟨_, rfl⟩) rfl rfl rfl rfl rfl rfl rfl rfl (le_80d (((S.po rfl rfl).po rfl rfl).po rfl rfl) (((B.put (by decide)).put (by decide)).put (by decide)) hb hL (ax_put_o (Or.inr (by decide)) (ax_put_o (Or.inr (by decide)) (ax_put_o (Or.inr (by decide)) w1))) (ax_put_s _ _ _) (ax_put_o (Or.inr (by decide)) (ax_put_o (Or.inr (by decide)) (ax_put_s _ _ _))) (ax_put_o (Or.inr (by decide)) (ax_put_s _ _ _)) hg hl t0 q q2) rfl ?_
  refine fx_z_ne_T (pT := 41) rfl (by omega) rfl (by omega) ?_
  refine am_ev.step (pc' := 42) rfl rfl ?_
  refine am_ev.step (pc' := 43) rfl rfl ?_
  refine am_ev.step (pc' := 44) rfl rfl ?_
  refine ax_call (z := 30) (p' := 47) (as := [_]) rfl (Or.inr (Or.inl ⟨_, rfl⟩)) rfl rfl rfl rfl rfl rfl (fO (fO (fO (S.ob rfl)))) rfl (tk_30w (((S.po rfl rfl).po rfl rfl).po rfl rfl) (((B.put (by decide)).put (by decide)).put (by decide)) hb hL (ax_put_o (Or.inr (by decide)) (ax_put_o (Or.inr (by decide)) (ax_put_o (Or.inr (by decide)) w1))) (ax_put_o (Or.inr (by decide)) (ax_put_o (Or.inr (by decide)) (ax_put_s _ _ _))) (ax_put_o (Or.inr (by decide)) (ax_put_s _ _ _)) t0) rfl ?_
  refine am_ev.step (pc' := 48) rfl rfl ?_
  refine am_ev.step (pc' := 49) rfl rfl ?_
  refine am_ev.step (pc' := 50) (ls' := [.ref 41, iv ((g : Int)), .int (t ||| ((Int32.ofInt 1) <<< ((Int32.ofInt ((l : Int))) &&& 31))), iv ((n : Int))]) rfl rfl ?_
  refine fx_inc (p' := 53) (e := ((n : Int) + 1)) (ls' := [.ref 41, iv ((g : Int)), .int (t ||| ((Int32.ofInt 1) <<< ((Int32.ofInt ((l : Int))) &&& 31))), iv ((n : Int) + 1)]) rfl rfl rfl (by omega) rfl ?_
  refine am_ev.step (pc' := 4) rfl rfl ?_
  exact q9
theorem cb_N1 (hb : tz_r b) (hL : L ≤ 1600) (C : cT h h0 b L p) (t0 : tz_t b L p s e k (l : Int)) (hn : n ≤ g + 1) (hg : g ≤ 19) (n1 : 1 ≤ n) (hl : l ≤ g) (q : k = 2) (q2 : bt t l = false) : ∃ H : am_H, cT H h0 b L e ∧ ∀ x, am_ev (d + 2) 79 4 [.ref 41, iv ((g : Int)), .int (t ||| ((Int32.ofInt 1) <<< ((Int32.ofInt ((l : Int))) &&& 31))), iv ((n : Int) + 1)] [] H x → am_ev (d + 2) 79 4 [.ref 41, iv ((g : Int)), .int t, iv ((n : Int))] [] h  x := by
  obtain ⟨S, B, w1, v6, f3, f4, sz, fr⟩ := C
  have f0 := t0.f5 hb
  refine ⟨(am_put (am_put (am_put h 41 5 (iv ((s : Int)))) 41 6 (iv ((e : Int)))) 41 2 (iv (k))), ⟨(((S.po rfl rfl).po rfl rfl).po rfl rfl), (((B.put (by decide)).put (by decide)).put (by decide)), (ax_put_o (Or.inr (by decide)) (ax_put_o (Or.inr (by decide)) (ax_put_o (Or.inr (by decide)) w1))), (ax_put_o (Or.inr (by decide)) (ax_put_s _ _ _)), (ax_put_o (Or.inr (by decide)) (ax_put_o (Or.inr (by decide)) (ax_put_o (Or.inr (by decide)) f3))), (ax_put_o (Or.inr (by decide)) (ax_put_o (Or.inr (by decide)) (ax_put_o (Or.inr (by decide)) f4))), sz, (fun c j n1 => (ax_put_o (Or.inl n1) (ax_put_o (Or.inl n1) (ax_put_o (Or.inl n1) (fr c j n1)))))⟩, fun x q9 => ?_⟩
  refine am_ev.step (pc' := 5) rfl rfl ?_
  refine am_ev.step (pc' := 6) rfl rfl ?_
  refine am_ev.step (pc' := 7) rfl rfl ?_
  refine fx_add (p' := 8) (e := ((g : Int) + 1)) rfl rfl (by omega) ?_
  refine fx_c_gt_F (pF := 11) rfl (by omega) (by omega) rfl (by omega) ?_
  refine am_ev.step (pc' := 12) rfl rfl ?_
  refine ax_call (z := 21) (p' := 15) (as := [_]) rfl (Or.inr (Or.inl ⟨_, rfl⟩)) rfl rfl rfl rfl rfl rfl (S.ob rfl) rfl (tk_21w S B hb hL w1 v6 t0) rfl ?_
  refine am_ev.step (pc' := 16) rfl rfl ?_
  refine fx_z_le_F (pF := 19) rfl (by omega) rfl (by omega) ?_
  refine am_ev.step (pc' := 20) rfl rfl ?_
  refine ax_gf (p' := 23) rfl rfl (fO (fO (fO (S.ob rfl)))) (ax_put_s _ _ _) ?_
  refine fx_bip (p' := 25) rfl rfl rfl ?_
  refine fx_c_ne_T (pT := 30) rfl (by omega) (by omega) rfl (by omega) ?_
  refine am_ev.step (pc' := 31) rfl rfl ?_
  refine am_ev.step (pc' := 32) rfl rfl ?_
  refine am_ev.step (pc' := 33) rfl rfl ?_
  refine ax_call (z := 80) (p' := 36) (as := [_, _, _]) rfl (Or.inl ⟨_, rfl⟩) rfl rfl rfl rfl rfl rfl rfl rfl (le_80d (((S.po rfl rfl).po rfl rfl).po rfl rfl) (((B.put (by decide)).put (by decide)).put (by decide)) hb hL (ax_put_o (Or.inr (by decide)) (ax_put_o (Or.inr (by decide)) (ax_put_o (Or.inr (by decide)) w1))) (ax_put_s _ _ _) (ax_put_o (Or.inr (by decide)) (ax_put_o (Or.inr (by decide)) (ax_put_s _ _ _))) (ax_put_o (Or.inr (by decide)) (ax_put_s _ _ _)) hg hl t0 q q2) rfl ?_
  refine fx_z_ne_T (pT := 41) rfl (by omega) rfl (by omega) ?_
  refine am_ev.step (pc' := 42) rfl rfl ?_
  refine am_ev.step (pc' := 43) rfl rfl ?_
  refine am_ev.step (pc' := 44) rfl rfl ?_
  refine ax_call (z := 30) (p' := 47) (as := [_]) rfl (Or.inr (Or.inl ⟨_, rfl⟩)) rfl rfl rfl rfl rfl rfl (fO (fO (fO (S.ob rfl)))) rfl (tk_30w (((S.po rfl rfl).po rfl rfl).po rfl rfl) (((B.put (by decide)).put (by decide)).put (by decide)) hb hL (ax_put_o (Or.inr (by decide)) (ax_put_o (Or.inr (by decide)) (ax_put_o (Or.inr (by decide)) w1))) (ax_put_o (Or.inr (by decide)) (ax_put_o (Or.inr (by decide)) (ax_put_s _ _ _))) (ax_put_o (Or.inr (by decide)) (ax_put_s _ _ _)) t0) rfl ?_
  refine am_ev.step (pc' := 48) rfl rfl ?_
  refine am_ev.step (pc' := 49) rfl rfl ?_
  refine am_ev.step (pc' := 50) (ls' := [.ref 41, iv ((g : Int)), .int (t ||| ((Int32.ofInt 1) <<< ((Int32.ofInt ((l : Int))) &&& 31))), iv ((n : Int))]) rfl rfl ?_
  refine fx_inc (p' := 53) (e := ((n : Int) + 1)) (ls' := [.ref 41, iv ((g : Int)), .int (t ||| ((Int32.ofInt 1) <<< ((Int32.ofInt ((l : Int))) &&& 31))), iv ((n : Int) + 1)]) rfl rfl rfl (by omega) rfl ?_
  refine am_ev.step (pc' := 4) rfl rfl ?_
  exact q9
end LEC
/-- as cT, but for one cell's places -/
def cQ (h h0 : am_H) (q : Nat) (b : Nat → Int) (L p : Nat) : Prop := fS h ∧ tb h 42 b L ∧ h.2.2.2 41 1 = iv L ∧ h.2.2.2 41 6 = iv p ∧ h.2.2.2 41 3 = iv 0 ∧ h.2.2.2 41 4 = iv (-1) ∧ (h.1 = h0.1 ∧ h.2.2.1 = h0.2.2.1) ∧ ∀ c j, c ≠ 41 → c ≠ q → h.2.2.2 c j = h0.2.2.2 c j
section LED
variable {d : Nat} {h h0 : am_H} {b : Nat → Int} {L p s e n q : Nat} {k v : Int}
theorem cc_R (hb : tz_r b) (hL : L ≤ 1600) (C : cT h h0 b L p) (t0 : tz_t b L p s e k v) (O : am_isO h q 4 = true) (hq : 130 ≤ q) (n1 : 1 ≤ n) (hn : n ≤ 6) (q0 : k = 59) : ∃ H : am_H, am_ev (d + 2) 84 2 [.ref q, .ref 41, iv ((n : Int))] [] h  (some (iv 1), am_put H q 8 (iv n)) ∧ cT H h0 b L e := by
  obtain ⟨S, B, w1, v6, f3, f4, sz, fr⟩ := C
  have f0 := t0.f5 hb
  refine ⟨(am_put (am_put (am_put h 41 5 (iv ((s : Int)))) 41 6 (iv ((e : Int)))) 41 2 (iv (k))), ?_, ⟨(((S.po rfl rfl).po rfl rfl).po rfl rfl), (((B.put (by decide)).put (by decide)).put (by decide)), (ax_put_o (Or.inr (by decide)) (ax_put_o (Or.inr (by decide)) (ax_put_o (Or.inr (by decide)) w1))), (ax_put_o (Or.inr (by decide)) (ax_put_s _ _ _)), (ax_put_o (Or.inr (by decide)) (ax_put_o (Or.inr (by decide)) (ax_put_o (Or.inr (by decide)) f3))), (ax_put_o (Or.inr (by decide)) (ax_put_o (Or.inr (by decide)) (ax_put_o (Or.inr (by decide)) f4))), sz, (fun c j n1 => (ax_put_o (Or.inl n1) (ax_put_o (Or.inl n1) (ax_put_o (Or.inl n1) (fr c j n1)))))⟩⟩
  refine am_ev.step (pc' := 3) rfl rfl ?_
  refine fx_bip (p' := 5) rfl rfl rfl ?_
  refine fx_c_gt_F (pF := 8) rfl (by omega) (by omega) rfl (by omega) ?_
  refine am_ev.step (pc' := 9) rfl rfl ?_
  refine ax_call (z := 21) (p' := 12) (as := [_]) rfl (Or.inr (Or.inl ⟨_, rfl⟩)) rfl rfl rfl rfl rfl rfl (S.ob rfl) rfl (tk_21w S B hb hL w1 v6 t0) rfl ?_
  refine am_ev.step (pc' := 13) rfl rfl ?_
  refine fx_z_le_F (pF := 16) rfl (by omega) rfl (by omega) ?_
  refine am_ev.step (pc' := 17) rfl rfl ?_
  refine ax_gf (p' := 20) rfl rfl (fO (fO (fO (S.ob rfl)))) (ax_put_s _ _ _) ?_
  refine fx_bip (p' := 22) rfl rfl rfl ?_
  refine fx_c_ne_F (pF := 25) rfl (by omega) (by omega) rfl (by omega) ?_
  refine am_ev.step (pc' := 26) rfl rfl ?_
  refine am_ev.step (pc' := 27) rfl rfl ?_
  refine ax_pf (p' := 30) rfl rfl (fO (fO (fO O))) rfl ?_
  refine am_ev.step (pc' := 31) rfl rfl ?_
  exact fx_reti rfl rfl rfl
theorem cc_A0 (hb : tz_r b) (hL : L ≤ 1600) (C : cT h h0 b L p) (t0 : tz_t b L p s e k v) (O : am_isO h q 4 = true) (hq : 130 ≤ q) (n0 : n = 0) (q0 : k ≠ 1) : ∃ H : am_H, am_ev (d + 2) 84 2 [.ref q, .ref 41, iv ((n : Int))] [] h  (some (iv 0), H) ∧ cX H h0 1 s := by
  obtain ⟨S, B, w1, v6, f3, f4, sz, fr⟩ := C
  have f0 := t0.f5 hb
  refine ⟨(am_put (am_put (am_put (am_put (am_put h 41 5 (iv ((s : Int)))) 41 6 (iv ((e : Int)))) 41 2 (iv (k))) 41 3 (iv 1)) 41 4 (iv ((s : Int)))), ?_, ⟨(((((S.po rfl rfl).po rfl rfl).po rfl rfl).po rfl rfl).po rfl rfl), (ax_put_o (Or.inr (by decide)) (ax_put_s _ _ _)), (ax_put_s _ _ _), sz, (fun c j n1 => (ax_put_o (Or.inl n1) (ax_put_o (Or.inl n1) (ax_put_o (Or.inl n1) (ax_put_o (Or.inl n1) (ax_put_o (Or.inl n1) (fr c j n1)))))))⟩⟩
  refine am_ev.step (pc' := 3) rfl rfl ?_
  refine fx_bip (p' := 5) rfl rfl rfl ?_
  refine fx_c_gt_F (pF := 8) rfl (by omega) (by omega) rfl (by omega) ?_
  refine am_ev.step (pc' := 9) rfl rfl ?_
  refine ax_call (z := 21) (p' := 12) (as := [_]) rfl (Or.inr (Or.inl ⟨_, rfl⟩)) rfl rfl rfl rfl rfl rfl (S.ob rfl) rfl (tk_21w S B hb hL w1 v6 t0) rfl ?_
  refine am_ev.step (pc' := 13) rfl rfl ?_
  refine fx_z_le_T (pT := 32) rfl (by omega) rfl (by omega) ?_
  refine am_ev.step (pc' := 33) rfl rfl ?_
  refine ax_gf (p' := 36) rfl rfl (fO (fO (fO (S.ob rfl)))) (ax_put_s _ _ _) ?_
  refine am_ev.step (pc' := 37) rfl rfl ?_
  refine fx_c_eq_F (pF := 40) rfl (by omega) (by omega) rfl (by omega) ?_
  refine am_ev.step (pc' := 41) rfl rfl ?_
  refine am_ev.step (pc' := 42) rfl rfl ?_
  refine ax_call (z := 29) (p' := 45) (as := [_, _]) rfl (Or.inr (Or.inl ⟨_, rfl⟩)) rfl rfl rfl rfl rfl rfl (fO (fO (fO (S.ob rfl)))) rfl (tk_29 (s := s) (((S.po rfl rfl).po rfl rfl).po rfl rfl) (ax_put_o (Or.inr (by decide)) (ax_put_o (Or.inr (by decide)) (ax_put_s _ _ _)))) rfl ?_
  exact fx_reti rfl rfl rfl
theorem cc_A1 (hb : tz_r b) (hL : L ≤ 1600) (C : cT h h0 b L p) (t0 : tz_t b L p s e k v) (O : am_isO h q 4 = true) (hq : 130 ≤ q) (n1 : 1 ≤ n) (hn : n ≤ 6) (q0 : k ≠ 1) (q5 : k ≠ 59) : ∃ H : am_H, am_ev (d + 2) 84 2 [.ref q, .ref 41, iv ((n : Int))] [] h  (some (iv 0), H) ∧ cX H h0 1 s := by
  obtain ⟨S, B, w1, v6, f3, f4, sz, fr⟩ := C
  have f0 := t0.f5 hb
  refine ⟨(am_put (am_put (am_put (am_put (am_put h 41 5 (iv ((s : Int)))) 41 6 (iv ((e : Int)))) 41 2 (iv (k))) 41 3 (iv 1)) 41 4 (iv ((s : Int)))), ?_, ⟨(((((S.po rfl rfl).po rfl rfl).po rfl rfl).po rfl rfl).po rfl rfl), (ax_put_o (Or.inr (by decide)) (ax_put_s _ _ _)), (ax_put_s _ _ _), sz, (fun c j n1 => (ax_put_o (Or.inl n1) (ax_put_o (Or.inl n1) (ax_put_o (Or.inl n1) (ax_put_o (Or.inl n1) (ax_put_o (Or.inl n1) (fr c j n1)))))))⟩⟩
  refine am_ev.step (pc' := 3) rfl rfl ?_
  refine fx_bip (p' := 5) rfl rfl rfl ?_
  refine fx_c_gt_F (pF := 8) rfl (by omega) (by omega) rfl (by omega) ?_
  refine am_ev.step (pc' := 9) rfl rfl ?_
  refine ax_call (z := 21) (p' := 12) (as := [_]) rfl (Or.inr (Or.inl ⟨_, rfl⟩)) rfl rfl rfl rfl rfl rfl (S.ob rfl) rfl (tk_21w S B hb hL w1 v6 t0) rfl ?_
  refine am_ev.step (pc' := 13) rfl rfl ?_
  refine fx_z_le_F (pF := 16) rfl (by omega) rfl (by omega) ?_
  refine am_ev.step (pc' := 17) rfl rfl ?_
  refine ax_gf (p' := 20) rfl rfl (fO (fO (fO (S.ob rfl)))) (ax_put_s _ _ _) ?_
  refine fx_bip (p' := 22) rfl rfl rfl ?_
  refine fx_c_ne_T (pT := 32) rfl (by omega) (by omega) rfl (by omega) ?_
  refine am_ev.step (pc' := 33) rfl rfl ?_
  refine ax_gf (p' := 36) rfl rfl (fO (fO (fO (S.ob rfl)))) (ax_put_s _ _ _) ?_
  refine am_ev.step (pc' := 37) rfl rfl ?_
  refine fx_c_eq_F (pF := 40) rfl (by omega) (by omega) rfl (by omega) ?_
  refine am_ev.step (pc' := 41) rfl rfl ?_
  refine am_ev.step (pc' := 42) rfl rfl ?_
  refine ax_call (z := 29) (p' := 45) (as := [_, _]) rfl (Or.inr (Or.inl ⟨_, rfl⟩)) rfl rfl rfl rfl rfl rfl (fO (fO (fO (S.ob rfl)))) rfl (tk_29 (s := s) (((S.po rfl rfl).po rfl rfl).po rfl rfl) (ax_put_o (Or.inr (by decide)) (ax_put_o (Or.inr (by decide)) (ax_put_s _ _ _)))) rfl ?_
  exact fx_reti rfl rfl rfl
theorem cc_7 (hb : tz_r b) (hL : L ≤ 1600) (C : cT h h0 b L p) (t0 : tz_t b L p s e k v) (O : am_isO h q 4 = true) (hq : 130 ≤ q) (n6 : n = 6) (q0 : k = 1) : ∃ H : am_H, am_ev (d + 2) 84 2 [.ref q, .ref 41, iv ((n : Int))] [] h  (some (iv 0), H) ∧ cX H h0 4 s := by
  obtain ⟨S, B, w1, v6, f3, f4, sz, fr⟩ := C
  have f0 := t0.f5 hb
  refine ⟨(am_put (am_put (am_put (am_put (am_put h 41 5 (iv ((s : Int)))) 41 6 (iv ((e : Int)))) 41 2 (iv (k))) 41 3 (iv 4)) 41 4 (iv ((s : Int)))), ?_, ⟨(((((S.po rfl rfl).po rfl rfl).po rfl rfl).po rfl rfl).po rfl rfl), (ax_put_o (Or.inr (by decide)) (ax_put_s _ _ _)), (ax_put_s _ _ _), sz, (fun c j n1 => (ax_put_o (Or.inl n1) (ax_put_o (Or.inl n1) (ax_put_o (Or.inl n1) (ax_put_o (Or.inl n1) (ax_put_o (Or.inl n1) (fr c j n1)))))))⟩⟩
  refine am_ev.step (pc' := 3) rfl rfl ?_
  refine fx_bip (p' := 5) rfl rfl rfl ?_
  refine fx_c_gt_F (pF := 8) rfl (by omega) (by omega) rfl (by omega) ?_
  refine am_ev.step (pc' := 9) rfl rfl ?_
  refine ax_call (z := 21) (p' := 12) (as := [_]) rfl (Or.inr (Or.inl ⟨_, rfl⟩)) rfl rfl rfl rfl rfl rfl (S.ob rfl) rfl (tk_21w S B hb hL w1 v6 t0) rfl ?_
  refine am_ev.step (pc' := 13) rfl rfl ?_
  refine fx_z_le_F (pF := 16) rfl (by omega) rfl (by omega) ?_
  refine am_ev.step (pc' := 17) rfl rfl ?_
  refine ax_gf (p' := 20) rfl rfl (fO (fO (fO (S.ob rfl)))) (ax_put_s _ _ _) ?_
  refine fx_bip (p' := 22) rfl rfl rfl ?_
  refine fx_c_ne_T (pT := 32) rfl (by omega) (by omega) rfl (by omega) ?_
  refine am_ev.step (pc' := 33) rfl rfl ?_
  refine ax_gf (p' := 36) rfl rfl (fO (fO (fO (S.ob rfl)))) (ax_put_s _ _ _) ?_
  refine am_ev.step (pc' := 37) rfl rfl ?_
  refine fx_c_eq_T (pT := 46) rfl (by omega) (by omega) rfl (by omega) ?_
  refine fx_inc (p' := 49) (e := ((n : Int) + 1)) (ls' := [.ref q, .ref 41, iv ((n : Int) + 1)]) rfl rfl rfl (by omega) rfl ?_
  refine am_ev.step (pc' := 2) rfl rfl ?_
  refine am_ev.step (pc' := 3) rfl rfl ?_
  refine fx_bip (p' := 5) rfl rfl rfl ?_
  refine fx_c_gt_T (pT := 52) rfl (by omega) (by omega) rfl (by omega) ?_
  refine am_ev.step (pc' := 53) rfl rfl ?_
  refine am_ev.step (pc' := 54) rfl rfl ?_
  refine ax_call (z := 29) (p' := 57) (as := [_, _]) rfl (Or.inr (Or.inl ⟨_, rfl⟩)) rfl rfl rfl rfl rfl rfl (fO (fO (fO (S.ob rfl)))) rfl (tk_29 (s := s) (((S.po rfl rfl).po rfl rfl).po rfl rfl) (ax_put_o (Or.inr (by decide)) (ax_put_o (Or.inr (by decide)) (ax_put_s _ _ _)))) rfl ?_
  exact fx_reti rfl rfl rfl
theorem cc_N0 (hb : tz_r b) (hL : L ≤ 1600) (C : cT h h0 b L p) (t0 : tz_t b L p s e k v) (O : am_isO h q 4 = true) (hq : 130 ≤ q) (n0 : n = 0) (q0 : k = 1) : ∃ H : am_H, cT H h0 b L e ∧ ∀ x, am_ev (d + 2) 84 2 [.ref q, .ref 41, iv ((n : Int) + 1)] [] H x → am_ev (d + 2) 84 2 [.ref q, .ref 41, iv ((n : Int))] [] h  x := by
  obtain ⟨S, B, w1, v6, f3, f4, sz, fr⟩ := C
  have f0 := t0.f5 hb
  refine ⟨(am_put (am_put (am_put h 41 5 (iv ((s : Int)))) 41 6 (iv ((e : Int)))) 41 2 (iv (k))), ⟨(((S.po rfl rfl).po rfl rfl).po rfl rfl), (((B.put (by decide)).put (by decide)).put (by decide)), (ax_put_o (Or.inr (by decide)) (ax_put_o (Or.inr (by decide)) (ax_put_o (Or.inr (by decide)) w1))), (ax_put_o (Or.inr (by decide)) (ax_put_s _ _ _)), (ax_put_o (Or.inr (by decide)) (ax_put_o (Or.inr (by decide)) (ax_put_o (Or.inr (by decide)) f3))), (ax_put_o (Or.inr (by decide)) (ax_put_o (Or.inr (by decide)) (ax_put_o (Or.inr (by decide)) f4))), sz, (fun c j n1 => (ax_put_o (Or.inl n1) (ax_put_o (Or.inl n1) (ax_put_o (Or.inl n1) (fr c j n1)))))⟩, fun x q9 => ?_⟩
  refine am_ev.step (pc' := 3) rfl rfl ?_
  refine fx_bip (p' := 5) rfl rfl rfl ?_
  refine fx_c_gt_F (pF := 8) rfl (by omega) (by omega) rfl (by omega) ?_
  refine am_ev.step (pc' := 9) rfl rfl ?_
  refine ax_call (z := 21) (p' := 12) (as := [_]) rfl (Or.inr (Or.inl ⟨_, rfl⟩)) rfl rfl rfl rfl rfl rfl (S.ob rfl) rfl (tk_21w S B hb hL w1 v6 t0) rfl ?_
  refine am_ev.step (pc' := 13) rfl rfl ?_
  refine fx_z_le_T (pT := 32) rfl (by omega) rfl (by omega) ?_
  refine am_ev.step (pc' := 33) rfl rfl ?_
  refine ax_gf (p' := 36) rfl rfl (fO (fO (fO (S.ob rfl)))) (ax_put_s _ _ _) ?_
  refine am_ev.step (pc' := 37) rfl rfl ?_
  refine fx_c_eq_T (pT := 46) rfl (by omega) (by omega) rfl (by omega) ?_
  refine fx_inc (p' := 49) (e := ((n : Int) + 1)) (ls' := [.ref q, .ref 41, iv ((n : Int) + 1)]) rfl rfl rfl (by omega) rfl ?_
  refine am_ev.step (pc' := 2) rfl rfl ?_
  exact q9
theorem cc_N1 (hb : tz_r b) (hL : L ≤ 1600) (C : cT h h0 b L p) (t0 : tz_t b L p s e k v) (O : am_isO h q 4 = true) (hq : 130 ≤ q) (n1 : 1 ≤ n) (hn : n ≤ 5) (q0 : k = 1) : ∃ H : am_H, cT H h0 b L e ∧ ∀ x, am_ev (d + 2) 84 2 [.ref q, .ref 41, iv ((n : Int) + 1)] [] H x → am_ev (d + 2) 84 2 [.ref q, .ref 41, iv ((n : Int))] [] h  x := by
  obtain ⟨S, B, w1, v6, f3, f4, sz, fr⟩ := C
  have f0 := t0.f5 hb
  refine ⟨(am_put (am_put (am_put h 41 5 (iv ((s : Int)))) 41 6 (iv ((e : Int)))) 41 2 (iv (k))), ⟨(((S.po rfl rfl).po rfl rfl).po rfl rfl), (((B.put (by decide)).put (by decide)).put (by decide)), (ax_put_o (Or.inr (by decide)) (ax_put_o (Or.inr (by decide)) (ax_put_o (Or.inr (by decide)) w1))), (ax_put_o (Or.inr (by decide)) (ax_put_s _ _ _)), (ax_put_o (Or.inr (by decide)) (ax_put_o (Or.inr (by decide)) (ax_put_o (Or.inr (by decide)) f3))), (ax_put_o (Or.inr (by decide)) (ax_put_o (Or.inr (by decide)) (ax_put_o (Or.inr (by decide)) f4))), sz, (fun c j n1 => (ax_put_o (Or.inl n1) (ax_put_o (Or.inl n1) (ax_put_o (Or.inl n1) (fr c j n1)))))⟩, fun x q9 => ?_⟩
  refine am_ev.step (pc' := 3) rfl rfl ?_
  refine fx_bip (p' := 5) rfl rfl rfl ?_
  refine fx_c_gt_F (pF := 8) rfl (by omega) (by omega) rfl (by omega) ?_
  refine am_ev.step (pc' := 9) rfl rfl ?_
  refine ax_call (z := 21) (p' := 12) (as := [_]) rfl (Or.inr (Or.inl ⟨_, rfl⟩)) rfl rfl rfl rfl rfl rfl (S.ob rfl) rfl (tk_21w S B hb hL w1 v6 t0) rfl ?_
  refine am_ev.step (pc' := 13) rfl rfl ?_
  refine fx_z_le_F (pF := 16) rfl (by omega) rfl (by omega) ?_
  refine am_ev.step (pc' := 17) rfl rfl ?_
  refine ax_gf (p' := 20) rfl rfl (fO (fO (fO (S.ob rfl)))) (ax_put_s _ _ _) ?_
  refine fx_bip (p' := 22) rfl rfl rfl ?_
  refine fx_c_ne_T (pT := 32) rfl (by omega) (by omega) rfl (by omega) ?_
  refine am_ev.step (pc' := 33) rfl rfl ?_
  refine ax_gf (p' := 36) rfl rfl (fO (fO (fO (S.ob rfl)))) (ax_put_s _ _ _) ?_
  refine am_ev.step (pc' := 37) rfl rfl ?_
  refine fx_c_eq_T (pT := 46) rfl (by omega) (by omega) rfl (by omega) ?_
  refine fx_inc (p' := 49) (e := ((n : Int) + 1)) (ls' := [.ref q, .ref 41, iv ((n : Int) + 1)]) rfl rfl rfl (by omega) rfl ?_
  refine am_ev.step (pc' := 2) rfl rfl ?_
  exact q9
end LED
