section
/-! EDITIONS: a line, the program's side -/
theorem fx_las {d y pc p' i l a b w : Nat} {t : Int} {ls r : List Value} {h h' : am_H} {x : Option Value × am_H} {j : Int32} {u : Int64} (hc : am_at y pc (.lastore, l, t, a, b, w)) (hp : pc + 1 = p') (W : am_wr h i j 3 (.long u) = some h') (q : am_ev d y p' ls r h' x) : am_ev d y pc ls (.long u :: .int j :: .ref i :: r) h x := by
  subst hp
  exact am_ev.step hc (by dsimp only [am_st]; rw [W]) q
/-- a letter of the word at hand, by its number; 0 behind its end -/
def e_lt (b : Nat → Int) (L s e i : Nat) : Int := if s + i < e ∧ s + i < L then b (s + i) - 96 else 0
/-- the word as the program keeps it -/
def e_pw (b : Nat → Int) (L s e : Nat) : Nat → Nat → Int64 → Int64
  | 0, _, a => a
  | m + 1, i, a => e_pw b L s e m (i + 1) (a * Int64.ofNat 27 + (Int32.ofInt (e_lt b L s e i)).toInt64)
/-- and as the other side keeps it -/
def e_vw (b : Nat → Int) (L s e : Nat) : Nat → Nat → Int64 → Int64
  | 0, _, a => a
  | m + 1, i, a => e_vw b L s e m (i + 1) (a <<< ((Int32.ofInt 5).toInt64 &&& 63) ||| (Int32.ofInt (e_lt b L s e i)).toInt64)
section EDA
variable {d : Nat} {h : am_H} {b : Nat → Int} {L s e : Nat}
theorem ew_46 (S : fS h) (B : tb h 42 b L) (hL : L ≤ 1600) (hs : s ≤ 1600) (he : e ≤ 1600) (v1 : h.2.2.2 41 1 = iv L) (v5 : h.2.2.2 41 5 = iv s) (v6 : h.2.2.2 41 6 = iv e) : ∀ (m i : Nat) (a : Int64) (v4 : Value), i + m = 12 → am_ev d 46 4 [.ref 41, .long a, am_ph, iv i, v4] [] h (some (.long (e_pw b L s e m i a)), h)
  | 0, i, a, v4, hi => by
    refine am_ev.step (pc' := 5) rfl rfl ?_
    refine fx_bip (p' := 7) rfl rfl rfl ?_
    refine fx_c_ge_T (pT := 74) rfl (by omega) (by omega) rfl (by omega) ?_
    refine am_ev.step (pc' := 75) rfl rfl ?_
    exact am_ev.retl rfl rfl
  | m + 1, i, a, v4, hi => by
    rw [show e_pw b L s e (m + 1) i a = e_pw b L s e m (i + 1) (a * Int64.ofNat 27 + (Int32.ofInt (e_lt b L s e i)).toInt64) from rfl]
    by_cases c1 : s + i < e
    · by_cases c2 : s + i < L
      · rw [show e_lt b L s e i = b (s + i) - 96 from if_pos ⟨c1, c2⟩]
        refine am_ev.step (pc' := 5) rfl rfl ?_
        refine fx_bip (p' := 7) rfl rfl rfl ?_
        refine fx_c_ge_F (pF := 10) rfl (by omega) (by omega) rfl (by omega) ?_
        refine am_ev.step (pc' := 11) rfl rfl ?_
        refine ax_gf (p' := 14) rfl rfl (S.ob rfl) v5 ?_
        refine am_ev.step (pc' := 15) rfl rfl ?_
        refine fx_add (p' := 16) (e := ((s : Int) + (i : Int))) rfl rfl (by omega) ?_
        refine am_ev.step (pc' := 17) rfl rfl ?_
        refine ax_gf (p' := 20) rfl rfl (S.ob rfl) v6 ?_
        refine fx_c_ge_F (pF := 23) rfl (by omega) (by omega) rfl (by omega) ?_
        refine am_ev.step (pc' := 24) rfl rfl ?_
        refine ax_gf (p' := 27) rfl rfl (S.ob rfl) v5 ?_
        refine am_ev.step (pc' := 28) rfl rfl ?_
        refine fx_add (p' := 29) (e := ((s : Int) + (i : Int))) rfl rfl (by omega) ?_
        refine am_ev.step (pc' := 30) rfl rfl ?_
        refine ax_gf (p' := 33) rfl rfl (S.ob rfl) v1 ?_
        refine fx_c_ge_F (pF := 36) rfl (by omega) (by omega) rfl (by omega) ?_
        refine am_ev.step (pc' := 37) rfl rfl ?_
        refine ax_gf (p' := 40) rfl rfl (S.ob rfl) (S.rf rfl rfl) ?_
        refine am_ev.step (pc' := 41) rfl rfl ?_
        refine ax_gf (p' := 44) rfl rfl (S.ob rfl) v5 ?_
        refine am_ev.step (pc' := 45) rfl rfl ?_
        refine fx_add (p' := 46) (e := ((s : Int) + (i : Int))) rfl rfl (by omega) ?_
        refine ax_baload (p' := 47) rfl rfl (S.rd (k := (s + i)) rfl rfl rfl rfl (by omega) (by omega) (B (s + i) (by omega))) ?_
        refine fx_bip (p' := 49) rfl rfl rfl ?_
        refine fx_sub (p' := 50) (e := ((b (s + i)) - 97)) rfl rfl (by omega) ?_
        refine am_ev.step (pc' := 51) rfl rfl ?_
        refine fx_add (p' := 52) (e := ((b (s + i)) - 96)) rfl rfl (by omega) ?_
        refine am_ev.step (pc' := 56) rfl rfl ?_
        refine am_ev.step (pc' := 58) (ls' := [.ref 41, .long a, am_ph, iv ((i : Int)), iv ((b (s + i)) - 96)]) rfl rfl ?_
        refine am_ev.step (pc' := 59) rfl rfl ?_
        refine am_ev.step (pc' := 62) rfl rfl ?_
        refine am_ev.step (pc' := 63) rfl rfl ?_
        refine am_ev.step (pc' := 65) rfl rfl ?_
        refine am_ev.step (pc' := 66) rfl rfl ?_
        refine am_ev.step (pc' := 67) rfl rfl ?_
        refine am_ev.step (pc' := 68) (ls' := [.ref 41, .long _, am_ph, iv ((i : Int)), iv ((b (s + i)) - 96)]) rfl rfl ?_
        refine fx_inc (p' := 71) (e := ((i : Int) + 1)) (ls' := [.ref 41, .long _, am_ph, iv ((i : Int) + 1), iv ((b (s + i)) - 96)]) rfl rfl rfl (by omega) rfl ?_
        refine am_ev.step (pc' := 4) rfl rfl ?_
        exact ew_46 S B hL hs he v1 v5 v6 m (i + 1) _ _ (by omega)
      · rw [show e_lt b L s e i = 0 from if_neg fun z => c2 z.2]
        refine am_ev.step (pc' := 5) rfl rfl ?_
        refine fx_bip (p' := 7) rfl rfl rfl ?_
        refine fx_c_ge_F (pF := 10) rfl (by omega) (by omega) rfl (by omega) ?_
        refine am_ev.step (pc' := 11) rfl rfl ?_
        refine ax_gf (p' := 14) rfl rfl (S.ob rfl) v5 ?_
        refine am_ev.step (pc' := 15) rfl rfl ?_
        refine fx_add (p' := 16) (e := ((s : Int) + (i : Int))) rfl rfl (by omega) ?_
        refine am_ev.step (pc' := 17) rfl rfl ?_
        refine ax_gf (p' := 20) rfl rfl (S.ob rfl) v6 ?_
        refine fx_c_ge_F (pF := 23) rfl (by omega) (by omega) rfl (by omega) ?_
        refine am_ev.step (pc' := 24) rfl rfl ?_
        refine ax_gf (p' := 27) rfl rfl (S.ob rfl) v5 ?_
        refine am_ev.step (pc' := 28) rfl rfl ?_
        refine fx_add (p' := 29) (e := ((s : Int) + (i : Int))) rfl rfl (by omega) ?_
        refine am_ev.step (pc' := 30) rfl rfl ?_
        refine ax_gf (p' := 33) rfl rfl (S.ob rfl) v1 ?_
        refine fx_c_ge_T (pT := 55) rfl (by omega) (by omega) rfl (by omega) ?_
        refine am_ev.step (pc' := 56) rfl rfl ?_
        refine am_ev.step (pc' := 58) (ls' := [.ref 41, .long a, am_ph, iv ((i : Int)), iv 0]) rfl rfl ?_
        refine am_ev.step (pc' := 59) rfl rfl ?_
        refine am_ev.step (pc' := 62) rfl rfl ?_
        refine am_ev.step (pc' := 63) rfl rfl ?_
        refine am_ev.step (pc' := 65) rfl rfl ?_
        refine am_ev.step (pc' := 66) rfl rfl ?_
        refine am_ev.step (pc' := 67) rfl rfl ?_
        refine am_ev.step (pc' := 68) (ls' := [.ref 41, .long _, am_ph, iv ((i : Int)), iv 0]) rfl rfl ?_
        refine fx_inc (p' := 71) (e := ((i : Int) + 1)) (ls' := [.ref 41, .long _, am_ph, iv ((i : Int) + 1), iv 0]) rfl rfl rfl (by omega) rfl ?_
        refine am_ev.step (pc' := 4) rfl rfl ?_
        exact ew_46 S B hL hs he v1 v5 v6 m (i + 1) _ _ (by omega)
    · rw [show e_lt b L s e i = 0 from if_neg fun z => c1 z.1]
      refine am_ev.step (pc' := 5) rfl rfl ?_
      refine fx_bip (p' := 7) rfl rfl rfl ?_
      refine fx_c_ge_F (pF := 10) rfl (by omega) (by omega) rfl (by omega) ?_
      refine am_ev.step (pc' := 11) rfl rfl ?_
      refine ax_gf (p' := 14) rfl rfl (S.ob rfl) v5 ?_
      refine am_ev.step (pc' := 15) rfl rfl ?_
      refine fx_add (p' := 16) (e := ((s : Int) + (i : Int))) rfl rfl (by omega) ?_
      refine am_ev.step (pc' := 17) rfl rfl ?_
      refine ax_gf (p' := 20) rfl rfl (S.ob rfl) v6 ?_
      refine fx_c_ge_T (pT := 55) rfl (by omega) (by omega) rfl (by omega) ?_
      refine am_ev.step (pc' := 56) rfl rfl ?_
      refine am_ev.step (pc' := 58) (ls' := [.ref 41, .long a, am_ph, iv ((i : Int)), iv 0]) rfl rfl ?_
      refine am_ev.step (pc' := 59) rfl rfl ?_
      refine am_ev.step (pc' := 62) rfl rfl ?_
      refine am_ev.step (pc' := 63) rfl rfl ?_
      refine am_ev.step (pc' := 65) rfl rfl ?_
      refine am_ev.step (pc' := 66) rfl rfl ?_
      refine am_ev.step (pc' := 67) rfl rfl ?_
      refine am_ev.step (pc' := 68) (ls' := [.ref 41, .long _, am_ph, iv ((i : Int)), iv 0]) rfl rfl ?_
      refine fx_inc (p' := 71) (e := ((i : Int) + 1)) (ls' := [.ref 41, .long _, am_ph, iv ((i : Int) + 1), iv 0]) rfl rfl rfl (by omega) rfl ?_
      refine am_ev.step (pc' := 4) rfl rfl ?_
      exact ew_46 S B hL hs he v1 v5 v6 m (i + 1) _ _ (by omega)
theorem ed_46 (S : fS h) (B : tb h 42 b L) (hL : L ≤ 1600) (hs : s ≤ 1600) (he : e ≤ 1600) (v1 : h.2.2.2 41 1 = iv L) (v5 : h.2.2.2 41 5 = iv s) (v6 : h.2.2.2 41 6 = iv e) : am_ev d 46 0 (am_ent [.ref 41] 5) [] h (some (.long (e_pw b L s e 12 0 (Int64.ofNat 0))), h) := by
  show am_ev d 46 0 [.ref 41, am_ph, am_ph, am_ph, am_ph] [] h _
  refine am_ev.step (pc' := 1) rfl rfl ?_
  refine am_ev.step (pc' := 2) (ls' := [.ref 41, .long (Int64.ofNat 0), am_ph, am_ph, am_ph]) rfl rfl ?_
  refine am_ev.step (pc' := 3) rfl rfl ?_
  refine am_ev.step (pc' := 4) (ls' := [.ref 41, .long (Int64.ofNat 0), am_ph, iv 0, am_ph]) rfl rfl ?_
  exact ew_46 S B hL hs he v1 v5 v6 12 0 _ _ (by omega)
end EDA
/-- the reading of a text, a token at hand, l lines read; nothing but the draft has changed -/
def eH (h h0 : am_H) (b : Nat → Int) (L s e : Nat) (k : Int) (l S : Nat) : Prop := fS h ∧ tb h 42 b L ∧ h.2.2.2 41 1 = iv L ∧ h.2.2.2 41 5 = iv s ∧ h.2.2.2 41 6 = iv e ∧ h.2.2.2 41 2 = iv k ∧ h.2.2.2 41 3 = iv 0 ∧ h.2.2.2 41 4 = iv (-1) ∧ h.2.2.2 54 3 = iv l ∧ (∃ t : Int32, h.2.2.2 54 4 = .int t) ∧ (∃ t : Int32, h.2.2.2 54 5 = .int t) ∧ h.2.2.2 56 l = iv S ∧ h.2.2.2 56 0 = iv 0 ∧ (h.1 = h0.1 ∧ h.2.2.1 = h0.2.2.1) ∧ ∀ c j, c ≠ 41 → c ≠ 54 → c ≠ 55 → c ≠ 56 → h.2.2.2 c j = h0.2.2.2 c j
/-- a fault was found -/
def eX (h h0 : am_H) (f : Int) (s : Nat) : Prop := fS h ∧ h.2.2.2 41 3 = iv f ∧ h.2.2.2 41 4 = iv s ∧ h.2.2.2 56 0 = iv 0 ∧ (h.1 = h0.1 ∧ h.2.2.1 = h0.2.2.1) ∧ ∀ c j, c ≠ 41 → c ≠ 54 → c ≠ 55 → c ≠ 56 → h.2.2.2 c j = h0.2.2.2 c j
/-- the places of the draft's text -/
def cC (c j : Nat) : Prop := c = 55 ∨ c = 56 ∨ (c = 54 ∧ (j = 4 ∨ j = 5))
section EDB
variable {d : Nat} {h h0 : am_H} {b : Nat → Int} {L p s e s1 e1 l n z : Nat} {k k1 v v1 : Int}
theorem el_a (hb : tz_r b) (hL : L ≤ 1600) (C : eH h h0 b L s e k l z) (t0 : tz_t b L p s e k v) (q : k ≠ 1) : ∃ H : am_H, am_ev (d + 2) 45 0 (am_ent [.ref 54, .ref 41] 4) [] h  (some (iv 0), H) ∧ eX H h0 1 s := by
  obtain ⟨S, B, w1, w5, w6, w2, w3, w4, g3, ⟨t, g4⟩, ⟨u, g5⟩, gl, g0, sz, fr⟩ := C
  have f0 := t0.f5 hb
  refine ⟨(am_put (am_put h 41 3 (iv 1)) 41 4 (iv ((s : Int)))), ?_, ⟨((S.po rfl rfl).po rfl rfl), (ax_put_o (Or.inr (by decide)) (ax_put_s _ _ _)), (ax_put_s _ _ _), (ax_put_o (Or.inl (by decide)) (ax_put_o (Or.inl (by decide)) g0)), sz, (fun c j n1 n2 n3 n4 => (ax_put_o (Or.inl n1) (ax_put_o (Or.inl n1) (fr c j n1 n2 n3 n4))))⟩⟩
  show am_ev (d + 2) 45 0 [.ref 54, .ref 41, am_ph, am_ph] [] h _
  refine am_ev.step (pc' := 1) rfl rfl ?_
  refine ax_gf (p' := 4) rfl rfl (S.ob rfl) w2 ?_
  refine am_ev.step (pc' := 5) rfl rfl ?_
  refine fx_c_eq_F (pF := 8) rfl (by omega) (by omega) rfl q ?_
  refine am_ev.step (pc' := 9) rfl rfl ?_
  refine am_ev.step (pc' := 10) rfl rfl ?_
  refine ax_call (z := 29) (p' := 13) (as := [_, _]) rfl (Or.inr (Or.inl ⟨_, rfl⟩)) rfl rfl rfl rfl rfl rfl (S.ob rfl) rfl (tk_29 (s := s) S w5) rfl ?_
  exact fx_reti rfl rfl rfl
theorem el_b (hb : tz_r b) (hL : L ≤ 1600) (C : eH h h0 b L s e k l z) (t0 : tz_t b L p s e k v) (q : k = 1) (hl : l = 30) : ∃ H : am_H, am_ev (d + 2) 45 0 (am_ent [.ref 54, .ref 41] 4) [] h  (some (iv 0), H) ∧ eX H h0 4 s := by
  obtain ⟨S, B, w1, w5, w6, w2, w3, w4, g3, ⟨t, g4⟩, ⟨u, g5⟩, gl, g0, sz, fr⟩ := C
  have f0 := t0.f5 hb
  refine ⟨(am_put (am_put h 41 3 (iv 4)) 41 4 (iv ((s : Int)))), ?_, ⟨((S.po rfl rfl).po rfl rfl), (ax_put_o (Or.inr (by decide)) (ax_put_s _ _ _)), (ax_put_s _ _ _), (ax_put_o (Or.inl (by decide)) (ax_put_o (Or.inl (by decide)) g0)), sz, (fun c j n1 n2 n3 n4 => (ax_put_o (Or.inl n1) (ax_put_o (Or.inl n1) (fr c j n1 n2 n3 n4))))⟩⟩
  show am_ev (d + 2) 45 0 [.ref 54, .ref 41, am_ph, am_ph] [] h _
  refine am_ev.step (pc' := 1) rfl rfl ?_
  refine ax_gf (p' := 4) rfl rfl (S.ob rfl) w2 ?_
  refine am_ev.step (pc' := 5) rfl rfl ?_
  refine fx_c_eq_T (pT := 14) rfl (by omega) (by omega) rfl q ?_
  refine am_ev.step (pc' := 15) rfl rfl ?_
  refine ax_gf (p' := 18) rfl rfl (S.ob rfl) g3 ?_
  refine fx_bip (p' := 20) rfl rfl rfl ?_
  refine fx_c_ge_T (pT := 37) rfl (by omega) (by omega) rfl (by omega) ?_
  refine am_ev.step (pc' := 38) rfl rfl ?_
  refine am_ev.step (pc' := 39) rfl rfl ?_
  refine ax_call (z := 29) (p' := 42) (as := [_, _]) rfl (Or.inr (Or.inl ⟨_, rfl⟩)) rfl rfl rfl rfl rfl rfl (S.ob rfl) rfl (tk_29 (s := s) S w5) rfl ?_
  exact fx_reti rfl rfl rfl
theorem el_c (hb : tz_r b) (hL : L ≤ 1600) (C : eH h h0 b L s e k l z) (t0 : tz_t b L p s e k v) (q : k = 1) (hl : l ≤ 29) {x : Option Value × am_H} (q9 : am_ev (d + 2) 45 55 [.ref 54, .ref 41, iv z, iv 0] [] h x) : am_ev (d + 2) 45 0 (am_ent [.ref 54, .ref 41] 4) [] h x := by
  obtain ⟨S, B, w1, w5, w6, w2, w3, w4, g3, ⟨t, g4⟩, ⟨u, g5⟩, gl, g0, sz, fr⟩ := C
  have f0 := t0.f5 hb
  show am_ev (d + 2) 45 0 [.ref 54, .ref 41, am_ph, am_ph] [] h x
  refine am_ev.step (pc' := 1) rfl rfl ?_
  refine ax_gf (p' := 4) rfl rfl (S.ob rfl) w2 ?_
  refine am_ev.step (pc' := 5) rfl rfl ?_
  refine fx_c_eq_T (pT := 14) rfl (by omega) (by omega) rfl q ?_
  refine am_ev.step (pc' := 15) rfl rfl ?_
  refine ax_gf (p' := 18) rfl rfl (S.ob rfl) g3 ?_
  refine fx_bip (p' := 20) rfl rfl rfl ?_
  refine fx_c_ge_F (pF := 23) rfl (by omega) (by omega) rfl (by omega) ?_
  refine am_ev.step (pc' := 24) rfl rfl ?_
  refine ax_gf (p' := 27) rfl rfl (S.ob rfl) g3 ?_
  refine am_ev.step (pc' := 28) rfl rfl ?_
  refine fx_add (p' := 29) (e := ((l : Int) + 1)) rfl rfl (by omega) ?_
  refine am_ev.step (pc' := 30) rfl rfl ?_
  refine ax_gf (p' := 33) rfl rfl (S.ob rfl) (S.rf rfl rfl) ?_
  refine fx_alen (p' := 34) (n := 31) rfl rfl (S.al rfl rfl) ?_
  refine fx_c_lt_T (pT := 43) rfl (by omega) (by omega) rfl (by omega) ?_
  refine am_ev.step (pc' := 44) rfl rfl ?_
  refine ax_gf (p' := 47) rfl rfl (S.ob rfl) (S.rf rfl rfl) ?_
  refine am_ev.step (pc' := 48) rfl rfl ?_
  refine ax_gf (p' := 51) rfl rfl (S.ob rfl) g3 ?_
  refine ax_iaload (p' := 52) rfl rfl (S.rd (k := l) rfl rfl rfl rfl rfl (by omega) gl) ?_
  refine am_ev.step (pc' := 53) (ls' := [.ref 54, .ref 41, iv ((z : Int)), am_ph]) rfl rfl ?_
  refine am_ev.step (pc' := 54) rfl rfl ?_
  refine am_ev.step (pc' := 55) (ls' := [.ref 54, .ref 41, iv ((z : Int)), iv 0]) rfl rfl ?_
  exact q9
theorem el_d (hb : tz_r b) (hL : L ≤ 1600) (C : eH h h0 b L s e k l z) (t0 : tz_t b L p s e k v) (q : k = 1) (hn : n = 8) : ∃ H : am_H, am_ev (d + 2) 45 55 [.ref 54, .ref 41, iv ((z : Int) + (n : Int)), iv ((n : Int))] [] h  (some (iv 0), H) ∧ eX H h0 4 s := by
  obtain ⟨S, B, w1, w5, w6, w2, w3, w4, g3, ⟨t, g4⟩, ⟨u, g5⟩, gl, g0, sz, fr⟩ := C
  have f0 := t0.f5 hb
  refine ⟨(am_put (am_put h 41 3 (iv 4)) 41 4 (iv ((s : Int)))), ?_, ⟨((S.po rfl rfl).po rfl rfl), (ax_put_o (Or.inr (by decide)) (ax_put_s _ _ _)), (ax_put_s _ _ _), (ax_put_o (Or.inl (by decide)) (ax_put_o (Or.inl (by decide)) g0)), sz, (fun c j n1 n2 n3 n4 => (ax_put_o (Or.inl n1) (ax_put_o (Or.inl n1) (fr c j n1 n2 n3 n4))))⟩⟩
  refine am_ev.step (pc' := 56) rfl rfl ?_
  refine fx_bip (p' := 58) rfl rfl rfl ?_
  refine fx_c_gt_F (pF := 61) rfl (by omega) (by omega) rfl (by omega) ?_
  refine am_ev.step (pc' := 62) rfl rfl ?_
  refine ax_gf (p' := 65) rfl rfl (S.ob rfl) w2 ?_
  refine am_ev.step (pc' := 66) rfl rfl ?_
  refine fx_c_ne_F (pF := 69) rfl (by omega) (by omega) rfl q ?_
  refine am_ev.step (pc' := 70) rfl rfl ?_
  refine fx_bip (p' := 72) rfl rfl rfl ?_
  refine fx_c_eq_T (pT := 88) rfl (by omega) (by omega) rfl (by omega) ?_
  refine am_ev.step (pc' := 89) rfl rfl ?_
  refine am_ev.step (pc' := 90) rfl rfl ?_
  refine ax_call (z := 29) (p' := 93) (as := [_, _]) rfl (Or.inr (Or.inl ⟨_, rfl⟩)) rfl rfl rfl rfl rfl rfl (S.ob rfl) rfl (tk_29 (s := s) S w5) rfl ?_
  exact fx_reti rfl rfl rfl
theorem el_e (hb : tz_r b) (hL : L ≤ 1600) (C : eH h h0 b L s e k l z) (t0 : tz_t b L p s e k v) (q : k = 1) (hn : n ≤ 7) (hz : z + n ≤ 239) (t1 : tz_t b L e s1 e1 k1 v1) : ∃ H : am_H, eH H h0 b L s1 e1 k1 l z ∧ (H.2.2.2 55 (z + n) = .long (e_pw b L s e 12 0 (Int64.ofNat 0)) ∧ (∀ c j, cC c j → (c ≠ 55 ∨ j ≠ (z + n)) → H.2.2.2 c j = h.2.2.2 c j)) ∧ ∀ x, am_ev (d + 2) 45 55 [.ref 54, .ref 41, iv ((z : Int) + (n : Int) + 1), iv ((n : Int) + 1)] [] H x → am_ev (d + 2) 45 55 [.ref 54, .ref 41, iv ((z : Int) + (n : Int)), iv ((n : Int))] [] h x := by
  obtain ⟨S, B, w1, w5, w6, w2, w3, w4, g3, ⟨t, g4⟩, ⟨u, g5⟩, gl, g0, sz, fr⟩ := C
  have f0 := t0.f5 hb
  refine ⟨(am_put (am_put (am_put (am_put h 55 (z + n) (.long (e_pw b L s e 12 0 (Int64.ofNat 0)))) 41 5 (iv ((s1 : Int)))) 41 6 (iv ((e1 : Int)))) 41 2 (iv (k1))), ⟨((((S.pa rfl).po rfl rfl).po rfl rfl).po rfl rfl), ((((B.put (by decide)).put (by decide)).put (by decide)).put (by decide)), (ax_put_o (Or.inr (by decide)) (ax_put_o (Or.inr (by decide)) (ax_put_o (Or.inr (by decide)) (ax_put_o (Or.inl (by decide)) w1)))), (ax_put_o (Or.inr (by decide)) (ax_put_o (Or.inr (by decide)) (ax_put_s _ _ _))), (ax_put_o (Or.inr (by decide)) (ax_put_s _ _ _)), (ax_put_s _ _ _), (ax_put_o (Or.inr (by decide)) (ax_put_o (Or.inr (by decide)) (ax_put_o (Or.inr (by decide)) (ax_put_o (Or.inl (by decide)) w3)))), (ax_put_o (Or.inr (by decide)) (ax_put_o (Or.inr (by decide)) (ax_put_o (Or.inr (by decide)) (ax_put_o (Or.inl (by decide)) w4)))), (ax_put_o (Or.inl (by decide)) (ax_put_o (Or.inl (by decide)) (ax_put_o (Or.inl (by decide)) (ax_put_o (Or.inl (by decide)) g3)))), ⟨_, (ax_put_o (Or.inl (by decide)) (ax_put_o (Or.inl (by decide)) (ax_put_o (Or.inl (by decide)) (ax_put_o (Or.inl (by decide)) g4))))⟩, ⟨_, (ax_put_o (Or.inl (by decide)) (ax_put_o (Or.inl (by decide)) (ax_put_o (Or.inl (by decide)) (ax_put_o (Or.inl (by decide)) g5))))⟩, (ax_put_o (Or.inl (by decide)) (ax_put_o (Or.inl (by decide)) (ax_put_o (Or.inl (by decide)) (ax_put_o (Or.inl (by decide)) gl)))), (ax_put_o (Or.inl (by decide)) (ax_put_o (Or.inl (by decide)) (ax_put_o (Or.inl (by decide)) (ax_put_o (Or.inl (by decide)) g0)))), sz, (fun c j n1 n2 n3 n4 => (ax_put_o (Or.inl n1) (ax_put_o (Or.inl n1) (ax_put_o (Or.inl n1) (ax_put_o (Or.inl n3) (fr c j n1 n2 n3 n4))))))⟩, ⟨(ax_put_o (Or.inl (by decide)) (ax_put_o (Or.inl (by decide)) (ax_put_o (Or.inl (by decide)) (ax_put_s _ _ _)))), (fun c j hc n1 => by
    have hc : c = 55 ∨ c = 56 ∨ (c = 54 ∧ (j = 4 ∨ j = 5)) := hc
    exact (ax_put_o (by omega) (ax_put_o (by omega) (ax_put_o (by omega) (ax_put_o (by omega) rfl)))))⟩, fun x q9 => ?_⟩
  refine am_ev.step (pc' := 56) rfl rfl ?_
  refine fx_bip (p' := 58) rfl rfl rfl ?_
  refine fx_c_gt_F (pF := 61) rfl (by omega) (by omega) rfl (by omega) ?_
  refine am_ev.step (pc' := 62) rfl rfl ?_
  refine ax_gf (p' := 65) rfl rfl (S.ob rfl) w2 ?_
  refine am_ev.step (pc' := 66) rfl rfl ?_
  refine fx_c_ne_F (pF := 69) rfl (by omega) (by omega) rfl q ?_
  refine am_ev.step (pc' := 70) rfl rfl ?_
  refine fx_bip (p' := 72) rfl rfl rfl ?_
  refine fx_c_eq_F (pF := 75) rfl (by omega) (by omega) rfl (by omega) ?_
  refine am_ev.step (pc' := 76) rfl rfl ?_
  refine fx_z_lt_F (pF := 79) rfl (by omega) rfl (by omega) ?_
  refine am_ev.step (pc' := 80) rfl rfl ?_
  refine am_ev.step (pc' := 81) rfl rfl ?_
  refine ax_gf (p' := 84) rfl rfl (S.ob rfl) (S.rf rfl rfl) ?_
  refine fx_alen (p' := 85) (n := 240) rfl rfl (S.al rfl rfl) ?_
  refine fx_c_lt_T (pT := 94) rfl (by omega) (by omega) rfl (by omega) ?_
  refine am_ev.step (pc' := 95) rfl rfl ?_
  refine ax_gf (p' := 98) rfl rfl (S.ob rfl) (S.rf rfl rfl) ?_
  refine am_ev.step (pc' := 99) rfl rfl ?_
  refine am_ev.step (pc' := 100) rfl rfl ?_
  refine ax_call (z := 46) (p' := 103) (as := [_]) rfl (Or.inr (Or.inl ⟨_, rfl⟩)) rfl rfl rfl rfl rfl rfl (S.ob rfl) rfl (ed_46 S B hL (by omega) (by omega) w1 w5 w6) rfl ?_
  refine fx_las (p' := 104) rfl rfl (S.wr (k := (z + n)) rfl rfl rfl (by omega) (by omega)) ?_
  refine fx_inc (p' := 107) (e := ((z : Int) + (n : Int) + 1)) (ls' := [.ref 54, .ref 41, iv ((z : Int) + (n : Int) + 1), iv ((n : Int))]) rfl rfl rfl (by omega) rfl ?_
  refine am_ev.step (pc' := 108) rfl rfl ?_
  refine ax_call (z := 21) (p' := 111) (as := [_]) rfl (Or.inr (Or.inl ⟨_, rfl⟩)) rfl rfl rfl rfl rfl rfl (fO (S.ob rfl)) rfl (tk_21w (S.pa rfl) (B.put (by decide)) hb hL (ax_put_o (Or.inl (by decide)) w1) (ax_put_o (Or.inl (by decide)) w6) t1) rfl ?_
  refine fx_inc (p' := 114) (e := ((n : Int) + 1)) (ls' := [.ref 54, .ref 41, iv ((z : Int) + (n : Int) + 1), iv ((n : Int) + 1)]) rfl rfl rfl (by omega) rfl ?_
  refine am_ev.step (pc' := 55) rfl rfl ?_
  exact q9
theorem el_f0 (hb : tz_r b) (hL : L ≤ 1600) (C : eH h h0 b L s e k l z) (t0 : tz_t b L p s e k v) (q : k = 0) (q1 : k ≠ 1) (hn : n ≤ 8) (hl : l ≤ 29) : ∃ H : am_H, am_ev (d + 2) 45 55 [.ref 54, .ref 41, iv ((z : Int) + (n : Int)), iv ((n : Int))] [] h  (some (iv 1), H) ∧ eH H h0 b L s e k (l + 1) (z + n) ∧ (H.2.2.2 56 (l + 1) = iv ((z : Int) + (n : Int)) ∧ (∀ c j, cC c j → (c ≠ 56 ∨ j ≠ (l + 1)) → H.2.2.2 c j = h.2.2.2 c j)) := by
  obtain ⟨S, B, w1, w5, w6, w2, w3, w4, g3, ⟨t, g4⟩, ⟨u, g5⟩, gl, g0, sz, fr⟩ := C
  have f0 := t0.f5 hb
  refine ⟨(am_put (am_put h 54 3 (iv ((l : Int) + 1))) 56 (l + 1) (iv ((z : Int) + (n : Int)))), ?_, ⟨((S.po rfl rfl).pa rfl), ((B.put (by decide)).put (by decide)), (ax_put_o (Or.inl (by decide)) (ax_put_o (Or.inl (by decide)) w1)), (ax_put_o (Or.inl (by decide)) (ax_put_o (Or.inl (by decide)) w5)), (ax_put_o (Or.inl (by decide)) (ax_put_o (Or.inl (by decide)) w6)), (ax_put_o (Or.inl (by decide)) (ax_put_o (Or.inl (by decide)) w2)), (ax_put_o (Or.inl (by decide)) (ax_put_o (Or.inl (by decide)) w3)), (ax_put_o (Or.inl (by decide)) (ax_put_o (Or.inl (by decide)) w4)), (ax_put_o (Or.inl (by decide)) (ax_put_s _ _ _)), ⟨_, (ax_put_o (Or.inl (by decide)) (ax_put_o (Or.inr (by decide)) g4))⟩, ⟨_, (ax_put_o (Or.inl (by decide)) (ax_put_o (Or.inr (by decide)) g5))⟩, (ax_put_s _ _ _), (ax_put_o (Or.inr (by omega)) (ax_put_o (Or.inl (by decide)) g0)), sz, (fun c j n1 n2 n3 n4 => (ax_put_o (Or.inl n4) (ax_put_o (Or.inl n2) (fr c j n1 n2 n3 n4))))⟩, ⟨(ax_put_s _ _ _), (fun c j hc n1 => by
    have hc : c = 55 ∨ c = 56 ∨ (c = 54 ∧ (j = 4 ∨ j = 5)) := hc
    exact (ax_put_o (by omega) (ax_put_o (by omega) rfl)))⟩⟩
  refine am_ev.step (pc' := 56) rfl rfl ?_
  refine fx_bip (p' := 58) rfl rfl rfl ?_
  refine fx_c_gt_F (pF := 61) rfl (by omega) (by omega) rfl (by omega) ?_
  refine am_ev.step (pc' := 62) rfl rfl ?_
  refine ax_gf (p' := 65) rfl rfl (S.ob rfl) w2 ?_
  refine am_ev.step (pc' := 66) rfl rfl ?_
  refine fx_c_ne_T (pT := 117) rfl (by omega) (by omega) rfl q1 ?_
  refine am_ev.step (pc' := 118) rfl rfl ?_
  refine ax_gf (p' := 121) rfl rfl (S.ob rfl) w2 ?_
  refine fx_bip (p' := 123) rfl rfl rfl ?_
  refine fx_c_ne_T (pT := 145) rfl (by omega) (by omega) rfl (by omega) ?_
  refine am_ev.step (pc' := 146) rfl rfl ?_
  refine ax_gf (p' := 149) rfl rfl (S.ob rfl) w2 ?_
  refine fx_z_eq_T (pT := 176) rfl (by omega) rfl (by omega) ?_
  refine am_ev.step (pc' := 177) rfl rfl ?_
  refine am_ev.step (pc' := 178) rfl rfl ?_
  refine ax_gf (p' := 181) rfl rfl (S.ob rfl) g3 ?_
  refine am_ev.step (pc' := 182) rfl rfl ?_
  refine fx_add (p' := 183) (e := ((l : Int) + 1)) rfl rfl (by omega) ?_
  refine ax_pf (p' := 186) rfl rfl (S.ob rfl) rfl ?_
  refine am_ev.step (pc' := 187) rfl rfl ?_
  refine ax_gf (p' := 190) rfl rfl (fO (S.ob rfl)) (ax_put_o (Or.inr (by decide)) (S.rf rfl rfl)) ?_
  refine am_ev.step (pc' := 191) rfl rfl ?_
  refine ax_gf (p' := 194) rfl rfl (fO (S.ob rfl)) (ax_put_s _ _ _) ?_
  refine am_ev.step (pc' := 195) rfl rfl ?_
  refine ax_iastore (p' := 196) rfl rfl ((S.po rfl rfl).wr (k := (l + 1)) rfl rfl rfl (by omega) (by omega)) ?_
  refine am_ev.step (pc' := 197) rfl rfl ?_
  exact fx_reti rfl rfl rfl
theorem el_g0 (hb : tz_r b) (hL : L ≤ 1600) (C : eH h h0 b L s e k l z) (t0 : tz_t b L p s e k v) (q : k = 43) (t1 : tz_t b L e s1 e1 k1 v1) (q2 : k1 = 0) (q1 : k ≠ 1) (hn : n ≤ 8) (hl : l ≤ 29) : ∃ H : am_H, am_ev (d + 2) 45 55 [.ref 54, .ref 41, iv ((z : Int) + (n : Int)), iv ((n : Int))] [] h  (some (iv 1), H) ∧ eH H h0 b L s1 e1 k1 (l + 1) (z + n) ∧ ((∀ t, h.2.2.2 54 4 = .int t → H.2.2.2 54 4 = .int (t ||| ((Int32.ofInt 1) <<< ((Int32.ofInt ((l : Int))) &&& 31)))) ∧ H.2.2.2 56 (l + 1) = iv ((z : Int) + (n : Int)) ∧ (∀ c j, cC c j → (c ≠ 54 ∨ j ≠ 4) → (c ≠ 56 ∨ j ≠ (l + 1)) → H.2.2.2 c j = h.2.2.2 c j)) := by
  obtain ⟨S, B, w1, w5, w6, w2, w3, w4, g3, ⟨t, g4⟩, ⟨u, g5⟩, gl, g0, sz, fr⟩ := C
  have f0 := t0.f5 hb
  refine ⟨(am_put (am_put (am_put (am_put (am_put (am_put h 54 4 (.int (t ||| ((Int32.ofInt 1) <<< ((Int32.ofInt ((l : Int))) &&& 31))))) 41 5 (iv ((s1 : Int)))) 41 6 (iv ((e1 : Int)))) 41 2 (iv (k1))) 54 3 (iv ((l : Int) + 1))) 56 (l + 1) (iv ((z : Int) + (n : Int)))), ?_, ⟨((((((S.po rfl rfl).po rfl rfl).po rfl rfl).po rfl rfl).po rfl rfl).pa rfl), ((((((B.put (by decide)).put (by decide)).put (by decide)).put (by decide)).put (by decide)).put (by decide)), (ax_put_o (Or.inl (by decide)) (ax_put_o (Or.inl (by decide)) (ax_put_o (Or.inr (by decide)) (ax_put_o (Or.inr (by decide)) (ax_put_o (Or.inr (by decide)) (ax_put_o (Or.inl (by decide)) w1)))))), (ax_put_o (Or.inl (by decide)) (ax_put_o (Or.inl (by decide)) (ax_put_o (Or.inr (by decide)) (ax_put_o (Or.inr (by decide)) (ax_put_s _ _ _))))), (ax_put_o (Or.inl (by decide)) (ax_put_o (Or.inl (by decide)) (ax_put_o (Or.inr (by decide)) (ax_put_s _ _ _)))), (ax_put_o (Or.inl (by decide)) (ax_put_o (Or.inl (by decide)) (ax_put_s _ _ _))), (ax_put_o (Or.inl (by decide)) (ax_put_o (Or.inl (by decide)) (ax_put_o (Or.inr (by decide)) (ax_put_o (Or.inr (by decide)) (ax_put_o (Or.inr (by decide)) (ax_put_o (Or.inl (by decide)) w3)))))), (ax_put_o (Or.inl (by decide)) (ax_put_o (Or.inl (by decide)) (ax_put_o (Or.inr (by decide)) (ax_put_o (Or.inr (by decide)) (ax_put_o (Or.inr (by decide)) (ax_put_o (Or.inl (by decide)) w4)))))), (ax_put_o (Or.inl (by decide)) (ax_put_s _ _ _)), ⟨_, (ax_put_o (Or.inl (by decide)) (ax_put_o (Or.inr (by decide)) (ax_put_o (Or.inl (by decide)) (ax_put_o (Or.inl (by decide)) (ax_put_o (Or.inl (by decide)) (ax_put_s _ _ _))))))⟩, ⟨_, (ax_put_o (Or.inl (by decide)) (ax_put_o (Or.inr (by decide)) (ax_put_o (Or.inl (by decide)) (ax_put_o (Or.inl (by decide)) (ax_put_o (Or.inl (by decide)) (ax_put_o (Or.inr (by decide)) g5))))))⟩, (ax_put_s _ _ _), (ax_put_o (Or.inr (by omega)) (ax_put_o (Or.inl (by decide)) (ax_put_o (Or.inl (by decide)) (ax_put_o (Or.inl (by decide)) (ax_put_o (Or.inl (by decide)) (ax_put_o (Or.inl (by decide)) g0)))))), sz, (fun c j n1 n2 n3 n4 => (ax_put_o (Or.inl n4) (ax_put_o (Or.inl n2) (ax_put_o (Or.inl n1) (ax_put_o (Or.inl n1) (ax_put_o (Or.inl n1) (ax_put_o (Or.inl n2) (fr c j n1 n2 n3 n4))))))))⟩, ⟨(fun t1 y1 => by
    rw [g4] at y1
    cases y1
    exact (ax_put_o (Or.inl (by decide)) (ax_put_o (Or.inr (by decide)) (ax_put_o (Or.inl (by decide)) (ax_put_o (Or.inl (by decide)) (ax_put_o (Or.inl (by decide)) (ax_put_s _ _ _))))))), (ax_put_s _ _ _), (fun c j hc n1 n2 => by
    have hc : c = 55 ∨ c = 56 ∨ (c = 54 ∧ (j = 4 ∨ j = 5)) := hc
    exact (ax_put_o (by omega) (ax_put_o (by omega) (ax_put_o (by omega) (ax_put_o (by omega) (ax_put_o (by omega) (ax_put_o (by omega) rfl)))))))⟩⟩
  refine am_ev.step (pc' := 56) rfl rfl ?_
  refine fx_bip (p' := 58) rfl rfl rfl ?_
  refine fx_c_gt_F (pF := 61) rfl (by omega) (by omega) rfl (by omega) ?_
  refine am_ev.step (pc' := 62) rfl rfl ?_
  refine ax_gf (p' := 65) rfl rfl (S.ob rfl) w2 ?_
  refine am_ev.step (pc' := 66) rfl rfl ?_
  refine fx_c_ne_T (pT := 117) rfl (by omega) (by omega) rfl q1 ?_
  refine am_ev.step (pc' := 118) rfl rfl ?_
  refine ax_gf (p' := 121) rfl rfl (S.ob rfl) w2 ?_
  refine fx_bip (p' := 123) rfl rfl rfl ?_
  refine fx_c_ne_F (pF := 126) rfl (by omega) (by omega) rfl (by omega) ?_
  refine am_ev.step (pc' := 127) rfl rfl ?_
  refine am_ev.step (pc' := 128) rfl rfl ?_
  refine ax_gf (p' := 131) rfl rfl (S.ob rfl) g4 ?_
  refine am_ev.step (pc' := 132) rfl rfl ?_
  refine am_ev.step (pc' := 133) rfl rfl ?_
  refine ax_gf (p' := 136) rfl rfl (S.ob rfl) g3 ?_
  refine am_ev.step (pc' := 137) rfl rfl ?_
  refine am_ev.step (pc' := 138) rfl rfl ?_
  refine ax_pf (p' := 141) rfl rfl (S.ob rfl) rfl ?_
  refine am_ev.step (pc' := 142) rfl rfl ?_
  refine ax_call (z := 21) (p' := 145) (as := [_]) rfl (Or.inr (Or.inl ⟨_, rfl⟩)) rfl rfl rfl rfl rfl rfl (fO (S.ob rfl)) rfl (tk_21w (S.po rfl rfl) (B.put (by decide)) hb hL (ax_put_o (Or.inl (by decide)) w1) (ax_put_o (Or.inl (by decide)) w6) t1) rfl ?_
  refine am_ev.step (pc' := 146) rfl rfl ?_
  refine ax_gf (p' := 149) rfl rfl (fO (fO (fO (fO (S.ob rfl))))) (ax_put_s _ _ _) ?_
  refine fx_z_eq_T (pT := 176) rfl (by omega) rfl (by omega) ?_
  refine am_ev.step (pc' := 177) rfl rfl ?_
  refine am_ev.step (pc' := 178) rfl rfl ?_
  refine ax_gf (p' := 181) rfl rfl (fO (fO (fO (fO (S.ob rfl))))) (ax_put_o (Or.inl (by decide)) (ax_put_o (Or.inl (by decide)) (ax_put_o (Or.inl (by decide)) (ax_put_o (Or.inr (by decide)) g3)))) ?_
  refine am_ev.step (pc' := 182) rfl rfl ?_
  refine fx_add (p' := 183) (e := ((l : Int) + 1)) rfl rfl (by omega) ?_
  refine ax_pf (p' := 186) rfl rfl (fO (fO (fO (fO (S.ob rfl))))) rfl ?_
  refine am_ev.step (pc' := 187) rfl rfl ?_
  refine ax_gf (p' := 190) rfl rfl (fO (fO (fO (fO (fO (S.ob rfl)))))) (ax_put_o (Or.inr (by decide)) (ax_put_o (Or.inl (by decide)) (ax_put_o (Or.inl (by decide)) (ax_put_o (Or.inl (by decide)) (ax_put_o (Or.inr (by decide)) (S.rf rfl rfl)))))) ?_
  refine am_ev.step (pc' := 191) rfl rfl ?_
  refine ax_gf (p' := 194) rfl rfl (fO (fO (fO (fO (fO (S.ob rfl)))))) (ax_put_s _ _ _) ?_
  refine am_ev.step (pc' := 195) rfl rfl ?_
  refine ax_iastore (p' := 196) rfl rfl ((((((S.po rfl rfl).po rfl rfl).po rfl rfl).po rfl rfl).po rfl rfl).wr (k := (l + 1)) rfl rfl rfl (by omega) (by omega)) ?_
  refine am_ev.step (pc' := 197) rfl rfl ?_
  exact fx_reti rfl rfl rfl
theorem el_f59 (hb : tz_r b) (hL : L ≤ 1600) (C : eH h h0 b L s e k l z) (t0 : tz_t b L p s e k v) (q : k = 59) (q1 : k ≠ 1) (hn : n ≤ 8) (hl : l ≤ 29) : ∃ H : am_H, am_ev (d + 2) 45 55 [.ref 54, .ref 41, iv ((z : Int) + (n : Int)), iv ((n : Int))] [] h  (some (iv 1), H) ∧ eH H h0 b L s e k (l + 1) (z + n) ∧ (H.2.2.2 56 (l + 1) = iv ((z : Int) + (n : Int)) ∧ (∀ c j, cC c j → (c ≠ 56 ∨ j ≠ (l + 1)) → H.2.2.2 c j = h.2.2.2 c j)) := by
  obtain ⟨S, B, w1, w5, w6, w2, w3, w4, g3, ⟨t, g4⟩, ⟨u, g5⟩, gl, g0, sz, fr⟩ := C
  have f0 := t0.f5 hb
  refine ⟨(am_put (am_put h 54 3 (iv ((l : Int) + 1))) 56 (l + 1) (iv ((z : Int) + (n : Int)))), ?_, ⟨((S.po rfl rfl).pa rfl), ((B.put (by decide)).put (by decide)), (ax_put_o (Or.inl (by decide)) (ax_put_o (Or.inl (by decide)) w1)), (ax_put_o (Or.inl (by decide)) (ax_put_o (Or.inl (by decide)) w5)), (ax_put_o (Or.inl (by decide)) (ax_put_o (Or.inl (by decide)) w6)), (ax_put_o (Or.inl (by decide)) (ax_put_o (Or.inl (by decide)) w2)), (ax_put_o (Or.inl (by decide)) (ax_put_o (Or.inl (by decide)) w3)), (ax_put_o (Or.inl (by decide)) (ax_put_o (Or.inl (by decide)) w4)), (ax_put_o (Or.inl (by decide)) (ax_put_s _ _ _)), ⟨_, (ax_put_o (Or.inl (by decide)) (ax_put_o (Or.inr (by decide)) g4))⟩, ⟨_, (ax_put_o (Or.inl (by decide)) (ax_put_o (Or.inr (by decide)) g5))⟩, (ax_put_s _ _ _), (ax_put_o (Or.inr (by omega)) (ax_put_o (Or.inl (by decide)) g0)), sz, (fun c j n1 n2 n3 n4 => (ax_put_o (Or.inl n4) (ax_put_o (Or.inl n2) (fr c j n1 n2 n3 n4))))⟩, ⟨(ax_put_s _ _ _), (fun c j hc n1 => by
    have hc : c = 55 ∨ c = 56 ∨ (c = 54 ∧ (j = 4 ∨ j = 5)) := hc
    exact (ax_put_o (by omega) (ax_put_o (by omega) rfl)))⟩⟩
  refine am_ev.step (pc' := 56) rfl rfl ?_
  refine fx_bip (p' := 58) rfl rfl rfl ?_
  refine fx_c_gt_F (pF := 61) rfl (by omega) (by omega) rfl (by omega) ?_
  refine am_ev.step (pc' := 62) rfl rfl ?_
  refine ax_gf (p' := 65) rfl rfl (S.ob rfl) w2 ?_
  refine am_ev.step (pc' := 66) rfl rfl ?_
  refine fx_c_ne_T (pT := 117) rfl (by omega) (by omega) rfl q1 ?_
  refine am_ev.step (pc' := 118) rfl rfl ?_
  refine ax_gf (p' := 121) rfl rfl (S.ob rfl) w2 ?_
  refine fx_bip (p' := 123) rfl rfl rfl ?_
  refine fx_c_ne_T (pT := 145) rfl (by omega) (by omega) rfl (by omega) ?_
  refine am_ev.step (pc' := 146) rfl rfl ?_
  refine ax_gf (p' := 149) rfl rfl (S.ob rfl) w2 ?_
  refine fx_z_eq_F (pF := 152) rfl (by omega) rfl (by omega) ?_
  refine am_ev.step (pc' := 153) rfl rfl ?_
  refine ax_gf (p' := 156) rfl rfl (S.ob rfl) w2 ?_
  refine fx_bip (p' := 158) rfl rfl rfl ?_
  refine fx_c_eq_T (pT := 176) rfl (by omega) (by omega) rfl (by omega) ?_
  refine am_ev.step (pc' := 177) rfl rfl ?_
  refine am_ev.step (pc' := 178) rfl rfl ?_
  refine ax_gf (p' := 181) rfl rfl (S.ob rfl) g3 ?_
  refine am_ev.step (pc' := 182) rfl rfl ?_
  refine fx_add (p' := 183) (e := ((l : Int) + 1)) rfl rfl (by omega) ?_
  refine ax_pf (p' := 186) rfl rfl (S.ob rfl) rfl ?_
  refine am_ev.step (pc' := 187) rfl rfl ?_
  refine ax_gf (p' := 190) rfl rfl (fO (S.ob rfl)) (ax_put_o (Or.inr (by decide)) (S.rf rfl rfl)) ?_
  refine am_ev.step (pc' := 191) rfl rfl ?_
  refine ax_gf (p' := 194) rfl rfl (fO (S.ob rfl)) (ax_put_s _ _ _) ?_
  refine am_ev.step (pc' := 195) rfl rfl ?_
  refine ax_iastore (p' := 196) rfl rfl ((S.po rfl rfl).wr (k := (l + 1)) rfl rfl rfl (by omega) (by omega)) ?_
  refine am_ev.step (pc' := 197) rfl rfl ?_
  exact fx_reti rfl rfl rfl
theorem el_g59 (hb : tz_r b) (hL : L ≤ 1600) (C : eH h h0 b L s e k l z) (t0 : tz_t b L p s e k v) (q : k = 43) (t1 : tz_t b L e s1 e1 k1 v1) (q2 : k1 = 59) (q1 : k ≠ 1) (hn : n ≤ 8) (hl : l ≤ 29) : ∃ H : am_H, am_ev (d + 2) 45 55 [.ref 54, .ref 41, iv ((z : Int) + (n : Int)), iv ((n : Int))] [] h  (some (iv 1), H) ∧ eH H h0 b L s1 e1 k1 (l + 1) (z + n) ∧ ((∀ t, h.2.2.2 54 4 = .int t → H.2.2.2 54 4 = .int (t ||| ((Int32.ofInt 1) <<< ((Int32.ofInt ((l : Int))) &&& 31)))) ∧ H.2.2.2 56 (l + 1) = iv ((z : Int) + (n : Int)) ∧ (∀ c j, cC c j → (c ≠ 54 ∨ j ≠ 4) → (c ≠ 56 ∨ j ≠ (l + 1)) → H.2.2.2 c j = h.2.2.2 c j)) := by
  obtain ⟨S, B, w1, w5, w6, w2, w3, w4, g3, ⟨t, g4⟩, ⟨u, g5⟩, gl, g0, sz, fr⟩ := C
  have f0 := t0.f5 hb
  refine ⟨(am_put (am_put (am_put (am_put (am_put (am_put h 54 4 (.int (t ||| ((Int32.ofInt 1) <<< ((Int32.ofInt ((l : Int))) &&& 31))))) 41 5 (iv ((s1 : Int)))) 41 6 (iv ((e1 : Int)))) 41 2 (iv (k1))) 54 3 (iv ((l : Int) + 1))) 56 (l + 1) (iv ((z : Int) + (n : Int)))), ?_, ⟨((((((S.po rfl rfl).po rfl rfl).po rfl rfl).po rfl rfl).po rfl rfl).pa rfl), ((((((B.put (by decide)).put (by decide)).put (by decide)).put (by decide)).put (by decide)).put (by decide)), (ax_put_o (Or.inl (by decide)) (ax_put_o (Or.inl (by decide)) (ax_put_o (Or.inr (by decide)) (ax_put_o (Or.inr (by decide)) (ax_put_o (Or.inr (by decide)) (ax_put_o (Or.inl (by decide)) w1)))))), (ax_put_o (Or.inl (by decide)) (ax_put_o (Or.inl (by decide)) (ax_put_o (Or.inr (by decide)) (ax_put_o (Or.inr (by decide)) (ax_put_s _ _ _))))), (ax_put_o (Or.inl (by decide)) (ax_put_o (Or.inl (by decide)) (ax_put_o (Or.inr (by decide)) (ax_put_s _ _ _)))), (ax_put_o (Or.inl (by decide)) (ax_put_o (Or.inl (by decide)) (ax_put_s _ _ _))), (ax_put_o (Or.inl (by decide)) (ax_put_o (Or.inl (by decide)) (ax_put_o (Or.inr (by decide)) (ax_put_o (Or.inr (by decide)) (ax_put_o (Or.inr (by decide)) (ax_put_o (Or.inl (by decide)) w3)))))), (ax_put_o (Or.inl (by decide)) (ax_put_o (Or.inl (by decide)) (ax_put_o (Or.inr (by decide)) (ax_put_o (Or.inr (by decide)) (ax_put_o (Or.inr (by decide)) (ax_put_o (Or.inl (by decide)) w4)))))), (ax_put_o (Or.inl (by decide)) (ax_put_s _ _ _)), ⟨_, (ax_put_o (Or.inl (by decide)) (ax_put_o (Or.inr (by decide)) (ax_put_o (Or.inl (by decide)) (ax_put_o (Or.inl (by decide)) (ax_put_o (Or.inl (by decide)) (ax_put_s _ _ _))))))⟩, ⟨_, (ax_put_o (Or.inl (by decide)) (ax_put_o (Or.inr (by decide)) (ax_put_o (Or.inl (by decide)) (ax_put_o (Or.inl (by decide)) (ax_put_o (Or.inl (by decide)) (ax_put_o (Or.inr (by decide)) g5))))))⟩, (ax_put_s _ _ _), (ax_put_o (Or.inr (by omega)) (ax_put_o (Or.inl (by decide)) (ax_put_o (Or.inl (by decide)) (ax_put_o (Or.inl (by decide)) (ax_put_o (Or.inl (by decide)) (ax_put_o (Or.inl (by decide)) g0)))))), sz, (fun c j n1 n2 n3 n4 => (ax_put_o (Or.inl n4) (ax_put_o (Or.inl n2) (ax_put_o (Or.inl n1) (ax_put_o (Or.inl n1) (ax_put_o (Or.inl n1) (ax_put_o (Or.inl n2) (fr c j n1 n2 n3 n4))))))))⟩, ⟨(fun t1 y1 => by
    rw [g4] at y1
    cases y1
    exact (ax_put_o (Or.inl (by decide)) (ax_put_o (Or.inr (by decide)) (ax_put_o (Or.inl (by decide)) (ax_put_o (Or.inl (by decide)) (ax_put_o (Or.inl (by decide)) (ax_put_s _ _ _))))))), (ax_put_s _ _ _), (fun c j hc n1 n2 => by
    have hc : c = 55 ∨ c = 56 ∨ (c = 54 ∧ (j = 4 ∨ j = 5)) := hc
    exact (ax_put_o (by omega) (ax_put_o (by omega) (ax_put_o (by omega) (ax_put_o (by omega) (ax_put_o (by omega) (ax_put_o (by omega) rfl)))))))⟩⟩
  refine am_ev.step (pc' := 56) rfl rfl ?_
  refine fx_bip (p' := 58) rfl rfl rfl ?_
  refine fx_c_gt_F (pF := 61) rfl (by omega) (by omega) rfl (by omega) ?_
  refine am_ev.step (pc' := 62) rfl rfl ?_
  refine ax_gf (p' := 65) rfl rfl (S.ob rfl) w2 ?_
  refine am_ev.step (pc' := 66) rfl rfl ?_
  refine fx_c_ne_T (pT := 117) rfl (by omega) (by omega) rfl q1 ?_
  refine am_ev.step (pc' := 118) rfl rfl ?_
  refine ax_gf (p' := 121) rfl rfl (S.ob rfl) w2 ?_
  refine fx_bip (p' := 123) rfl rfl rfl ?_
  refine fx_c_ne_F (pF := 126) rfl (by omega) (by omega) rfl (by omega) ?_
  refine am_ev.step (pc' := 127) rfl rfl ?_
  refine am_ev.step (pc' := 128) rfl rfl ?_
  refine ax_gf (p' := 131) rfl rfl (S.ob rfl) g4 ?_
  refine am_ev.step (pc' := 132) rfl rfl ?_
  refine am_ev.step (pc' := 133) rfl rfl ?_
  refine ax_gf (p' := 136) rfl rfl (S.ob rfl) g3 ?_
  refine am_ev.step (pc' := 137) rfl rfl ?_
  refine am_ev.step (pc' := 138) rfl rfl ?_
  refine ax_pf (p' := 141) rfl rfl (S.ob rfl) rfl ?_
  refine am_ev.step (pc' := 142) rfl rfl ?_
  refine ax_call (z := 21) (p' := 145) (as := [_]) rfl (Or.inr (Or.inl ⟨_, rfl⟩)) rfl rfl rfl rfl rfl rfl (fO (S.ob rfl)) rfl (tk_21w (S.po rfl rfl) (B.put (by decide)) hb hL (ax_put_o (Or.inl (by decide)) w1) (ax_put_o (Or.inl (by decide)) w6) t1) rfl ?_
  refine am_ev.step (pc' := 146) rfl rfl ?_
  refine ax_gf (p' := 149) rfl rfl (fO (fO (fO (fO (S.ob rfl))))) (ax_put_s _ _ _) ?_
  refine fx_z_eq_F (pF := 152) rfl (by omega) rfl (by omega) ?_
  refine am_ev.step (pc' := 153) rfl rfl ?_
  refine ax_gf (p' := 156) rfl rfl (fO (fO (fO (fO (S.ob rfl))))) (ax_put_s _ _ _) ?_
  refine fx_bip (p' := 158) rfl rfl rfl ?_
  refine fx_c_eq_T (pT := 176) rfl (by omega) (by omega) rfl (by omega) ?_
  refine am_ev.step (pc' := 177) rfl rfl ?_
  refine am_ev.step (pc' := 178) rfl rfl ?_
  refine ax_gf (p' := 181) rfl rfl (fO (fO (fO (fO (S.ob rfl))))) (ax_put_o (Or.inl (by decide)) (ax_put_o (Or.inl (by decide)) (ax_put_o (Or.inl (by decide)) (ax_put_o (Or.inr (by decide)) g3)))) ?_
  refine am_ev.step (pc' := 182) rfl rfl ?_
  refine fx_add (p' := 183) (e := ((l : Int) + 1)) rfl rfl (by omega) ?_
  refine ax_pf (p' := 186) rfl rfl (fO (fO (fO (fO (S.ob rfl))))) rfl ?_
  refine am_ev.step (pc' := 187) rfl rfl ?_
  refine ax_gf (p' := 190) rfl rfl (fO (fO (fO (fO (fO (S.ob rfl)))))) (ax_put_o (Or.inr (by decide)) (ax_put_o (Or.inl (by decide)) (ax_put_o (Or.inl (by decide)) (ax_put_o (Or.inl (by decide)) (ax_put_o (Or.inr (by decide)) (S.rf rfl rfl)))))) ?_
  refine am_ev.step (pc' := 191) rfl rfl ?_
  refine ax_gf (p' := 194) rfl rfl (fO (fO (fO (fO (fO (S.ob rfl)))))) (ax_put_s _ _ _) ?_
  refine am_ev.step (pc' := 195) rfl rfl ?_
  refine ax_iastore (p' := 196) rfl rfl ((((((S.po rfl rfl).po rfl rfl).po rfl rfl).po rfl rfl).po rfl rfl).wr (k := (l + 1)) rfl rfl rfl (by omega) (by omega)) ?_
  refine am_ev.step (pc' := 197) rfl rfl ?_
  exact fx_reti rfl rfl rfl
theorem el_f47 (hb : tz_r b) (hL : L ≤ 1600) (C : eH h h0 b L s e k l z) (t0 : tz_t b L p s e k v) (q : k = 47) (q1 : k ≠ 1) (hn : n ≤ 8) (hl : l ≤ 29) : ∃ H : am_H, am_ev (d + 2) 45 55 [.ref 54, .ref 41, iv ((z : Int) + (n : Int)), iv ((n : Int))] [] h  (some (iv 1), H) ∧ eH H h0 b L s e k (l + 1) (z + n) ∧ (H.2.2.2 56 (l + 1) = iv ((z : Int) + (n : Int)) ∧ (∀ c j, cC c j → (c ≠ 56 ∨ j ≠ (l + 1)) → H.2.2.2 c j = h.2.2.2 c j)) := by
  obtain ⟨S, B, w1, w5, w6, w2, w3, w4, g3, ⟨t, g4⟩, ⟨u, g5⟩, gl, g0, sz, fr⟩ := C
  have f0 := t0.f5 hb
  refine ⟨(am_put (am_put h 54 3 (iv ((l : Int) + 1))) 56 (l + 1) (iv ((z : Int) + (n : Int)))), ?_, ⟨((S.po rfl rfl).pa rfl), ((B.put (by decide)).put (by decide)), (ax_put_o (Or.inl (by decide)) (ax_put_o (Or.inl (by decide)) w1)), (ax_put_o (Or.inl (by decide)) (ax_put_o (Or.inl (by decide)) w5)), (ax_put_o (Or.inl (by decide)) (ax_put_o (Or.inl (by decide)) w6)), (ax_put_o (Or.inl (by decide)) (ax_put_o (Or.inl (by decide)) w2)), (ax_put_o (Or.inl (by decide)) (ax_put_o (Or.inl (by decide)) w3)), (ax_put_o (Or.inl (by decide)) (ax_put_o (Or.inl (by decide)) w4)), (ax_put_o (Or.inl (by decide)) (ax_put_s _ _ _)), ⟨_, (ax_put_o (Or.inl (by decide)) (ax_put_o (Or.inr (by decide)) g4))⟩, ⟨_, (ax_put_o (Or.inl (by decide)) (ax_put_o (Or.inr (by decide)) g5))⟩, (ax_put_s _ _ _), (ax_put_o (Or.inr (by omega)) (ax_put_o (Or.inl (by decide)) g0)), sz, (fun c j n1 n2 n3 n4 => (ax_put_o (Or.inl n4) (ax_put_o (Or.inl n2) (fr c j n1 n2 n3 n4))))⟩, ⟨(ax_put_s _ _ _), (fun c j hc n1 => by
    have hc : c = 55 ∨ c = 56 ∨ (c = 54 ∧ (j = 4 ∨ j = 5)) := hc
    exact (ax_put_o (by omega) (ax_put_o (by omega) rfl)))⟩⟩
  refine am_ev.step (pc' := 56) rfl rfl ?_
  refine fx_bip (p' := 58) rfl rfl rfl ?_
  refine fx_c_gt_F (pF := 61) rfl (by omega) (by omega) rfl (by omega) ?_
  refine am_ev.step (pc' := 62) rfl rfl ?_
  refine ax_gf (p' := 65) rfl rfl (S.ob rfl) w2 ?_
  refine am_ev.step (pc' := 66) rfl rfl ?_
  refine fx_c_ne_T (pT := 117) rfl (by omega) (by omega) rfl q1 ?_
  refine am_ev.step (pc' := 118) rfl rfl ?_
  refine ax_gf (p' := 121) rfl rfl (S.ob rfl) w2 ?_
  refine fx_bip (p' := 123) rfl rfl rfl ?_
  refine fx_c_ne_T (pT := 145) rfl (by omega) (by omega) rfl (by omega) ?_
  refine am_ev.step (pc' := 146) rfl rfl ?_
  refine ax_gf (p' := 149) rfl rfl (S.ob rfl) w2 ?_
  refine fx_z_eq_F (pF := 152) rfl (by omega) rfl (by omega) ?_
  refine am_ev.step (pc' := 153) rfl rfl ?_
  refine ax_gf (p' := 156) rfl rfl (S.ob rfl) w2 ?_
  refine fx_bip (p' := 158) rfl rfl rfl ?_
  refine fx_c_eq_F (pF := 161) rfl (by omega) (by omega) rfl (by omega) ?_
  refine am_ev.step (pc' := 162) rfl rfl ?_
  refine ax_gf (p' := 165) rfl rfl (S.ob rfl) w2 ?_
  refine fx_bip (p' := 167) rfl rfl rfl ?_
  refine fx_c_eq_T (pT := 176) rfl (by omega) (by omega) rfl (by omega) ?_
  refine am_ev.step (pc' := 177) rfl rfl ?_
  refine am_ev.step (pc' := 178) rfl rfl ?_
  refine ax_gf (p' := 181) rfl rfl (S.ob rfl) g3 ?_
  refine am_ev.step (pc' := 182) rfl rfl ?_
  refine fx_add (p' := 183) (e := ((l : Int) + 1)) rfl rfl (by omega) ?_
  refine ax_pf (p' := 186) rfl rfl (S.ob rfl) rfl ?_
  refine am_ev.step (pc' := 187) rfl rfl ?_
  refine ax_gf (p' := 190) rfl rfl (fO (S.ob rfl)) (ax_put_o (Or.inr (by decide)) (S.rf rfl rfl)) ?_
  refine am_ev.step (pc' := 191) rfl rfl ?_
  refine ax_gf (p' := 194) rfl rfl (fO (S.ob rfl)) (ax_put_s _ _ _) ?_
  refine am_ev.step (pc' := 195) rfl rfl ?_
  refine ax_iastore (p' := 196) rfl rfl ((S.po rfl rfl).wr (k := (l + 1)) rfl rfl rfl (by omega) (by omega)) ?_
  refine am_ev.step (pc' := 197) rfl rfl ?_
  exact fx_reti rfl rfl rfl
theorem el_g47 (hb : tz_r b) (hL : L ≤ 1600) (C : eH h h0 b L s e k l z) (t0 : tz_t b L p s e k v) (q : k = 43) (t1 : tz_t b L e s1 e1 k1 v1) (q2 : k1 = 47) (q1 : k ≠ 1) (hn : n ≤ 8) (hl : l ≤ 29) : ∃ H : am_H, am_ev (d + 2) 45 55 [.ref 54, .ref 41, iv ((z : Int) + (n : Int)), iv ((n : Int))] [] h  (some (iv 1), H) ∧ eH H h0 b L s1 e1 k1 (l + 1) (z + n) ∧ ((∀ t, h.2.2.2 54 4 = .int t → H.2.2.2 54 4 = .int (t ||| ((Int32.ofInt 1) <<< ((Int32.ofInt ((l : Int))) &&& 31)))) ∧ H.2.2.2 56 (l + 1) = iv ((z : Int) + (n : Int)) ∧ (∀ c j, cC c j → (c ≠ 54 ∨ j ≠ 4) → (c ≠ 56 ∨ j ≠ (l + 1)) → H.2.2.2 c j = h.2.2.2 c j)) := by
  obtain ⟨S, B, w1, w5, w6, w2, w3, w4, g3, ⟨t, g4⟩, ⟨u, g5⟩, gl, g0, sz, fr⟩ := C
  have f0 := t0.f5 hb
  refine ⟨(am_put (am_put (am_put (am_put (am_put (am_put h 54 4 (.int (t ||| ((Int32.ofInt 1) <<< ((Int32.ofInt ((l : Int))) &&& 31))))) 41 5 (iv ((s1 : Int)))) 41 6 (iv ((e1 : Int)))) 41 2 (iv (k1))) 54 3 (iv ((l : Int) + 1))) 56 (l + 1) (iv ((z : Int) + (n : Int)))), ?_, ⟨((((((S.po rfl rfl).po rfl rfl).po rfl rfl).po rfl rfl).po rfl rfl).pa rfl), ((((((B.put (by decide)).put (by decide)).put (by decide)).put (by decide)).put (by decide)).put (by decide)), (ax_put_o (Or.inl (by decide)) (ax_put_o (Or.inl (by decide)) (ax_put_o (Or.inr (by decide)) (ax_put_o (Or.inr (by decide)) (ax_put_o (Or.inr (by decide)) (ax_put_o (Or.inl (by decide)) w1)))))), (ax_put_o (Or.inl (by decide)) (ax_put_o (Or.inl (by decide)) (ax_put_o (Or.inr (by decide)) (ax_put_o (Or.inr (by decide)) (ax_put_s _ _ _))))), (ax_put_o (Or.inl (by decide)) (ax_put_o (Or.inl (by decide)) (ax_put_o (Or.inr (by decide)) (ax_put_s _ _ _)))), (ax_put_o (Or.inl (by decide)) (ax_put_o (Or.inl (by decide)) (ax_put_s _ _ _))), (ax_put_o (Or.inl (by decide)) (ax_put_o (Or.inl (by decide)) (ax_put_o (Or.inr (by decide)) (ax_put_o (Or.inr (by decide)) (ax_put_o (Or.inr (by decide)) (ax_put_o (Or.inl (by decide)) w3)))))), (ax_put_o (Or.inl (by decide)) (ax_put_o (Or.inl (by decide)) (ax_put_o (Or.inr (by decide)) (ax_put_o (Or.inr (by decide)) (ax_put_o (Or.inr (by decide)) (ax_put_o (Or.inl (by decide)) w4)))))), (ax_put_o (Or.inl (by decide)) (ax_put_s _ _ _)), ⟨_, (ax_put_o (Or.inl (by decide)) (ax_put_o (Or.inr (by decide)) (ax_put_o (Or.inl (by decide)) (ax_put_o (Or.inl (by decide)) (ax_put_o (Or.inl (by decide)) (ax_put_s _ _ _))))))⟩, ⟨_, (ax_put_o (Or.inl (by decide)) (ax_put_o (Or.inr (by decide)) (ax_put_o (Or.inl (by decide)) (ax_put_o (Or.inl (by decide)) (ax_put_o (Or.inl (by decide)) (ax_put_o (Or.inr (by decide)) g5))))))⟩, (ax_put_s _ _ _), (ax_put_o (Or.inr (by omega)) (ax_put_o (Or.inl (by decide)) (ax_put_o (Or.inl (by decide)) (ax_put_o (Or.inl (by decide)) (ax_put_o (Or.inl (by decide)) (ax_put_o (Or.inl (by decide)) g0)))))), sz, (fun c j n1 n2 n3 n4 => (ax_put_o (Or.inl n4) (ax_put_o (Or.inl n2) (ax_put_o (Or.inl n1) (ax_put_o (Or.inl n1) (ax_put_o (Or.inl n1) (ax_put_o (Or.inl n2) (fr c j n1 n2 n3 n4))))))))⟩, ⟨(fun t1 y1 => by
    rw [g4] at y1
    cases y1
    exact (ax_put_o (Or.inl (by decide)) (ax_put_o (Or.inr (by decide)) (ax_put_o (Or.inl (by decide)) (ax_put_o (Or.inl (by decide)) (ax_put_o (Or.inl (by decide)) (ax_put_s _ _ _))))))), (ax_put_s _ _ _), (fun c j hc n1 n2 => by
    have hc : c = 55 ∨ c = 56 ∨ (c = 54 ∧ (j = 4 ∨ j = 5)) := hc
    exact (ax_put_o (by omega) (ax_put_o (by omega) (ax_put_o (by omega) (ax_put_o (by omega) (ax_put_o (by omega) (ax_put_o (by omega) rfl)))))))⟩⟩
  refine am_ev.step (pc' := 56) rfl rfl ?_
  refine fx_bip (p' := 58) rfl rfl rfl ?_
  refine fx_c_gt_F (pF := 61) rfl (by omega) (by omega) rfl (by omega) ?_
  refine am_ev.step (pc' := 62) rfl rfl ?_
  refine ax_gf (p' := 65) rfl rfl (S.ob rfl) w2 ?_
  refine am_ev.step (pc' := 66) rfl rfl ?_
  refine fx_c_ne_T (pT := 117) rfl (by omega) (by omega) rfl q1 ?_
  refine am_ev.step (pc' := 118) rfl rfl ?_
  refine ax_gf (p' := 121) rfl rfl (S.ob rfl) w2 ?_
  refine fx_bip (p' := 123) rfl rfl rfl ?_
  refine fx_c_ne_F (pF := 126) rfl (by omega) (by omega) rfl (by omega) ?_
  refine am_ev.step (pc' := 127) rfl rfl ?_
  refine am_ev.step (pc' := 128) rfl rfl ?_
  refine ax_gf (p' := 131) rfl rfl (S.ob rfl) g4 ?_
  refine am_ev.step (pc' := 132) rfl rfl ?_
  refine am_ev.step (pc' := 133) rfl rfl ?_
  refine ax_gf (p' := 136) rfl rfl (S.ob rfl) g3 ?_
  refine am_ev.step (pc' := 137) rfl rfl ?_
  refine am_ev.step (pc' := 138) rfl rfl ?_
  refine ax_pf (p' := 141) rfl rfl (S.ob rfl) rfl ?_
  refine am_ev.step (pc' := 142) rfl rfl ?_
  refine ax_call (z := 21) (p' := 145) (as := [_]) rfl (Or.inr (Or.inl ⟨_, rfl⟩)) rfl rfl rfl rfl rfl rfl (fO (S.ob rfl)) rfl (tk_21w (S.po rfl rfl) (B.put (by decide)) hb hL (ax_put_o (Or.inl (by decide)) w1) (ax_put_o (Or.inl (by decide)) w6) t1) rfl ?_
  refine am_ev.step (pc' := 146) rfl rfl ?_
  refine ax_gf (p' := 149) rfl rfl (fO (fO (fO (fO (S.ob rfl))))) (ax_put_s _ _ _) ?_
  refine fx_z_eq_F (pF := 152) rfl (by omega) rfl (by omega) ?_
  refine am_ev.step (pc' := 153) rfl rfl ?_
  refine ax_gf (p' := 156) rfl rfl (fO (fO (fO (fO (S.ob rfl))))) (ax_put_s _ _ _) ?_
  refine fx_bip (p' := 158) rfl rfl rfl ?_
  refine fx_c_eq_F (pF := 161) rfl (by omega) (by omega) rfl (by omega) ?_
  refine am_ev.step (pc' := 162) rfl rfl ?_
  refine ax_gf (p' := 165) rfl rfl (fO (fO (fO (fO (S.ob rfl))))) (ax_put_s _ _ _) ?_
  refine fx_bip (p' := 167) rfl rfl rfl ?_
  refine fx_c_eq_T (pT := 176) rfl (by omega) (by omega) rfl (by omega) ?_
  refine am_ev.step (pc' := 177) rfl rfl ?_
  refine am_ev.step (pc' := 178) rfl rfl ?_
  refine ax_gf (p' := 181) rfl rfl (fO (fO (fO (fO (S.ob rfl))))) (ax_put_o (Or.inl (by decide)) (ax_put_o (Or.inl (by decide)) (ax_put_o (Or.inl (by decide)) (ax_put_o (Or.inr (by decide)) g3)))) ?_
  refine am_ev.step (pc' := 182) rfl rfl ?_
  refine fx_add (p' := 183) (e := ((l : Int) + 1)) rfl rfl (by omega) ?_
  refine ax_pf (p' := 186) rfl rfl (fO (fO (fO (fO (S.ob rfl))))) rfl ?_
  refine am_ev.step (pc' := 187) rfl rfl ?_
  refine ax_gf (p' := 190) rfl rfl (fO (fO (fO (fO (fO (S.ob rfl)))))) (ax_put_o (Or.inr (by decide)) (ax_put_o (Or.inl (by decide)) (ax_put_o (Or.inl (by decide)) (ax_put_o (Or.inl (by decide)) (ax_put_o (Or.inr (by decide)) (S.rf rfl rfl)))))) ?_
  refine am_ev.step (pc' := 191) rfl rfl ?_
  refine ax_gf (p' := 194) rfl rfl (fO (fO (fO (fO (fO (S.ob rfl)))))) (ax_put_s _ _ _) ?_
  refine am_ev.step (pc' := 195) rfl rfl ?_
  refine ax_iastore (p' := 196) rfl rfl ((((((S.po rfl rfl).po rfl rfl).po rfl rfl).po rfl rfl).po rfl rfl).wr (k := (l + 1)) rfl rfl rfl (by omega) (by omega)) ?_
  refine am_ev.step (pc' := 197) rfl rfl ?_
  exact fx_reti rfl rfl rfl
theorem el_h (hb : tz_r b) (hL : L ≤ 1600) (C : eH h h0 b L s e k l z) (t0 : tz_t b L p s e k v) (q1 : k ≠ 1) (hn : n ≤ 8) (q : k ≠ 43) (r0 : k ≠ 0) (r59 : k ≠ 59) (r47 : k ≠ 47) : ∃ H : am_H, am_ev (d + 2) 45 55 [.ref 54, .ref 41, iv ((z : Int) + (n : Int)), iv ((n : Int))] [] h  (some (iv 0), H) ∧ eX H h0 1 s := by
  obtain ⟨S, B, w1, w5, w6, w2, w3, w4, g3, ⟨t, g4⟩, ⟨u, g5⟩, gl, g0, sz, fr⟩ := C
  have f0 := t0.f5 hb
  refine ⟨(am_put (am_put h 41 3 (iv 1)) 41 4 (iv ((s : Int)))), ?_, ⟨((S.po rfl rfl).po rfl rfl), (ax_put_o (Or.inr (by decide)) (ax_put_s _ _ _)), (ax_put_s _ _ _), (ax_put_o (Or.inl (by decide)) (ax_put_o (Or.inl (by decide)) g0)), sz, (fun c j n1 n2 n3 n4 => (ax_put_o (Or.inl n1) (ax_put_o (Or.inl n1) (fr c j n1 n2 n3 n4))))⟩⟩
  refine am_ev.step (pc' := 56) rfl rfl ?_
  refine fx_bip (p' := 58) rfl rfl rfl ?_
  refine fx_c_gt_F (pF := 61) rfl (by omega) (by omega) rfl (by omega) ?_
  refine am_ev.step (pc' := 62) rfl rfl ?_
  refine ax_gf (p' := 65) rfl rfl (S.ob rfl) w2 ?_
  refine am_ev.step (pc' := 66) rfl rfl ?_
  refine fx_c_ne_T (pT := 117) rfl (by omega) (by omega) rfl q1 ?_
  refine am_ev.step (pc' := 118) rfl rfl ?_
  refine ax_gf (p' := 121) rfl rfl (S.ob rfl) w2 ?_
  refine fx_bip (p' := 123) rfl rfl rfl ?_
  refine fx_c_ne_T (pT := 145) rfl (by omega) (by omega) rfl q ?_
  refine am_ev.step (pc' := 146) rfl rfl ?_
  refine ax_gf (p' := 149) rfl rfl (S.ob rfl) w2 ?_
  refine fx_z_eq_F (pF := 152) rfl (by omega) rfl r0 ?_
  refine am_ev.step (pc' := 153) rfl rfl ?_
  refine ax_gf (p' := 156) rfl rfl (S.ob rfl) w2 ?_
  refine fx_bip (p' := 158) rfl rfl rfl ?_
  refine fx_c_eq_F (pF := 161) rfl (by omega) (by omega) rfl r59 ?_
  refine am_ev.step (pc' := 162) rfl rfl ?_
  refine ax_gf (p' := 165) rfl rfl (S.ob rfl) w2 ?_
  refine fx_bip (p' := 167) rfl rfl rfl ?_
  refine fx_c_eq_F (pF := 170) rfl (by omega) (by omega) rfl r47 ?_
  refine am_ev.step (pc' := 171) rfl rfl ?_
  refine am_ev.step (pc' := 172) rfl rfl ?_
  refine ax_call (z := 29) (p' := 175) (as := [_, _]) rfl (Or.inr (Or.inl ⟨_, rfl⟩)) rfl rfl rfl rfl rfl rfl (S.ob rfl) rfl (tk_29 (s := s) S w5) rfl ?_
  exact fx_reti rfl rfl rfl
theorem el_i (hb : tz_r b) (hL : L ≤ 1600) (C : eH h h0 b L s e k l z) (t0 : tz_t b L p s e k v) (q1 : k ≠ 1) (hn : n ≤ 8) (q : k = 43) (t1 : tz_t b L e s1 e1 k1 v1) (r0 : k1 ≠ 0) (r59 : k1 ≠ 59) (r47 : k1 ≠ 47) : ∃ H : am_H, am_ev (d + 2) 45 55 [.ref 54, .ref 41, iv ((z : Int) + (n : Int)), iv ((n : Int))] [] h  (some (iv 0), H) ∧ eX H h0 1 s1 := by
  obtain ⟨S, B, w1, w5, w6, w2, w3, w4, g3, ⟨t, g4⟩, ⟨u, g5⟩, gl, g0, sz, fr⟩ := C
  have f0 := t0.f5 hb
  have f1 := t1.f5 hb
  refine ⟨(am_put (am_put (am_put (am_put (am_put (am_put h 54 4 (.int (t ||| ((Int32.ofInt 1) <<< ((Int32.ofInt ((l : Int))) &&& 31))))) 41 5 (iv ((s1 : Int)))) 41 6 (iv ((e1 : Int)))) 41 2 (iv (k1))) 41 3 (iv 1)) 41 4 (iv ((s1 : Int)))), ?_, ⟨((((((S.po rfl rfl).po rfl rfl).po rfl rfl).po rfl rfl).po rfl rfl).po rfl rfl), (ax_put_o (Or.inr (by decide)) (ax_put_s _ _ _)), (ax_put_s _ _ _), (ax_put_o (Or.inl (by decide)) (ax_put_o (Or.inl (by decide)) (ax_put_o (Or.inl (by decide)) (ax_put_o (Or.inl (by decide)) (ax_put_o (Or.inl (by decide)) (ax_put_o (Or.inl (by decide)) g0)))))), sz, (fun c j n1 n2 n3 n4 => (ax_put_o (Or.inl n1) (ax_put_o (Or.inl n1) (ax_put_o (Or.inl n1) (ax_put_o (Or.inl n1) (ax_put_o (Or.inl n1) (ax_put_o (Or.inl n2) (fr c j n1 n2 n3 n4))))))))⟩⟩
  refine am_ev.step (pc' := 56) rfl rfl ?_
  refine fx_bip (p' := 58) rfl rfl rfl ?_
  refine fx_c_gt_F (pF := 61) rfl (by omega) (by omega) rfl (by omega) ?_
  refine am_ev.step (pc' := 62) rfl rfl ?_
  refine ax_gf (p' := 65) rfl rfl (S.ob rfl) w2 ?_
  refine am_ev.step (pc' := 66) rfl rfl ?_
  refine fx_c_ne_T (pT := 117) rfl (by omega) (by omega) rfl q1 ?_
  refine am_ev.step (pc' := 118) rfl rfl ?_
  refine ax_gf (p' := 121) rfl rfl (S.ob rfl) w2 ?_
  refine fx_bip (p' := 123) rfl rfl rfl ?_
  refine fx_c_ne_F (pF := 126) rfl (by omega) (by omega) rfl q ?_
  refine am_ev.step (pc' := 127) rfl rfl ?_
  refine am_ev.step (pc' := 128) rfl rfl ?_
  refine ax_gf (p' := 131) rfl rfl (S.ob rfl) g4 ?_
  refine am_ev.step (pc' := 132) rfl rfl ?_
  refine am_ev.step (pc' := 133) rfl rfl ?_
  refine ax_gf (p' := 136) rfl rfl (S.ob rfl) g3 ?_
  refine am_ev.step (pc' := 137) rfl rfl ?_
  refine am_ev.step (pc' := 138) rfl rfl ?_
  refine ax_pf (p' := 141) rfl rfl (S.ob rfl) rfl ?_
  refine am_ev.step (pc' := 142) rfl rfl ?_
  refine ax_call (z := 21) (p' := 145) (as := [_]) rfl (Or.inr (Or.inl ⟨_, rfl⟩)) rfl rfl rfl rfl rfl rfl (fO (S.ob rfl)) rfl (tk_21w (S.po rfl rfl) (B.put (by decide)) hb hL (ax_put_o (Or.inl (by decide)) w1) (ax_put_o (Or.inl (by decide)) w6) t1) rfl ?_
  refine am_ev.step (pc' := 146) rfl rfl ?_
  refine ax_gf (p' := 149) rfl rfl (fO (fO (fO (fO (S.ob rfl))))) (ax_put_s _ _ _) ?_
  refine fx_z_eq_F (pF := 152) rfl (by omega) rfl r0 ?_
  refine am_ev.step (pc' := 153) rfl rfl ?_
  refine ax_gf (p' := 156) rfl rfl (fO (fO (fO (fO (S.ob rfl))))) (ax_put_s _ _ _) ?_
  refine fx_bip (p' := 158) rfl rfl rfl ?_
  refine fx_c_eq_F (pF := 161) rfl (by omega) (by omega) rfl r59 ?_
  refine am_ev.step (pc' := 162) rfl rfl ?_
  refine ax_gf (p' := 165) rfl rfl (fO (fO (fO (fO (S.ob rfl))))) (ax_put_s _ _ _) ?_
  refine fx_bip (p' := 167) rfl rfl rfl ?_
  refine fx_c_eq_F (pF := 170) rfl (by omega) (by omega) rfl r47 ?_
  refine am_ev.step (pc' := 171) rfl rfl ?_
  refine am_ev.step (pc' := 172) rfl rfl ?_
  refine ax_call (z := 29) (p' := 175) (as := [_, _]) rfl (Or.inr (Or.inl ⟨_, rfl⟩)) rfl rfl rfl rfl rfl rfl (fO (fO (fO (fO (S.ob rfl))))) rfl (tk_29 (s := s1) ((((S.po rfl rfl).po rfl rfl).po rfl rfl).po rfl rfl) (ax_put_o (Or.inr (by decide)) (ax_put_o (Or.inr (by decide)) (ax_put_s _ _ _)))) rfl ?_
  exact fx_reti rfl rfl rfl
end EDB
end
section
/-! EDITIONS: a line, the other side -/
section EDM
variable {d : Nat} {h : am_H} {b : Nat → Int} {L s e : Nat}
theorem ew_193 (S : fS h) (B : tb h 80 b L) (hL : L ≤ 1600) (hs : s ≤ 1600) (he : e ≤ 1600) (v5 : h.2.2.2 78 4 = iv s) (v6 : h.2.2.2 78 5 = iv e) (eL : e ≤ L) : ∀ (m i : Nat) (a : Int64), i + m = 12 → am_ev d 193 4 [.ref 78, .long a, am_ph, iv i] [] h (some (.long (e_vw b L s e m i a)), h)
  | 0, i, a, hi => by
    refine am_ev.step (pc' := 5) rfl rfl ?_
    refine fx_bip (p' := 7) rfl rfl rfl ?_
    refine fx_c_ge_T (pT := 55) rfl (by omega) (by omega) rfl (by omega) ?_
    refine am_ev.step (pc' := 56) rfl rfl ?_
    exact am_ev.retl rfl rfl
  | m + 1, i, a, hi => by
    rw [show e_vw b L s e (m + 1) i a = e_vw b L s e m (i + 1) (a <<< ((Int32.ofInt 5).toInt64 &&& 63) ||| (Int32.ofInt (e_lt b L s e i)).toInt64) from rfl]
    by_cases c1 : s + i < e
    · rw [show e_lt b L s e i = b (s + i) - 96 from if_pos ⟨c1, by omega⟩]
      refine am_ev.step (pc' := 5) rfl rfl ?_
      refine fx_bip (p' := 7) rfl rfl rfl ?_
      refine fx_c_ge_F (pF := 10) rfl (by omega) (by omega) rfl (by omega) ?_
      refine am_ev.step (pc' := 11) rfl rfl ?_
      refine am_ev.step (pc' := 12) rfl rfl ?_
      refine am_ev.step (pc' := 13) rfl rfl ?_
      refine am_ev.step (pc' := 14) rfl rfl ?_
      refine ax_gf (p' := 17) rfl rfl (S.ob rfl) v5 ?_
      refine am_ev.step (pc' := 18) rfl rfl ?_
      refine fx_add (p' := 19) (e := ((s : Int) + (i : Int))) rfl rfl (by omega) ?_
      refine am_ev.step (pc' := 20) rfl rfl ?_
      refine ax_gf (p' := 23) rfl rfl (S.ob rfl) v6 ?_
      refine fx_c_ge_F (pF := 26) rfl (by omega) (by omega) rfl (by omega) ?_
      refine am_ev.step (pc' := 27) rfl rfl ?_
      refine ax_gf (p' := 30) rfl rfl (S.ob rfl) (S.rf rfl rfl) ?_
      refine am_ev.step (pc' := 31) rfl rfl ?_
      refine ax_gf (p' := 34) rfl rfl (S.ob rfl) v5 ?_
      refine am_ev.step (pc' := 35) rfl rfl ?_
      refine fx_add (p' := 36) (e := ((s : Int) + (i : Int))) rfl rfl (by omega) ?_
      refine ax_baload (p' := 37) rfl rfl (S.rd (k := (s + i)) rfl rfl rfl rfl (by omega) (by omega) (B (s + i) (by omega))) ?_
      refine fx_bip (p' := 39) rfl rfl rfl ?_
      refine fx_sub (p' := 40) (e := ((b (s + i)) - 97)) rfl rfl (by omega) ?_
      refine am_ev.step (pc' := 41) rfl rfl ?_
      refine fx_add (p' := 42) (e := ((b (s + i)) - 96)) rfl rfl (by omega) ?_
      refine am_ev.step (pc' := 46) rfl rfl ?_
      refine am_ev.step (pc' := 47) rfl rfl ?_
      refine am_ev.step (pc' := 48) rfl rfl ?_
      refine am_ev.step (pc' := 49) (ls' := [.ref 78, .long _, am_ph, iv ((i : Int))]) rfl rfl ?_
      refine fx_inc (p' := 52) (e := ((i : Int) + 1)) (ls' := [.ref 78, .long _, am_ph, iv ((i : Int) + 1)]) rfl rfl rfl (by omega) rfl ?_
      refine am_ev.step (pc' := 4) rfl rfl ?_
      exact ew_193 S B hL hs he v5 v6 eL m (i + 1) _ (by omega)
    · rw [show e_lt b L s e i = 0 from if_neg fun z => c1 z.1]
      refine am_ev.step (pc' := 5) rfl rfl ?_
      refine fx_bip (p' := 7) rfl rfl rfl ?_
      refine fx_c_ge_F (pF := 10) rfl (by omega) (by omega) rfl (by omega) ?_
      refine am_ev.step (pc' := 11) rfl rfl ?_
      refine am_ev.step (pc' := 12) rfl rfl ?_
      refine am_ev.step (pc' := 13) rfl rfl ?_
      refine am_ev.step (pc' := 14) rfl rfl ?_
      refine ax_gf (p' := 17) rfl rfl (S.ob rfl) v5 ?_
      refine am_ev.step (pc' := 18) rfl rfl ?_
      refine fx_add (p' := 19) (e := ((s : Int) + (i : Int))) rfl rfl (by omega) ?_
      refine am_ev.step (pc' := 20) rfl rfl ?_
      refine ax_gf (p' := 23) rfl rfl (S.ob rfl) v6 ?_
      refine fx_c_ge_T (pT := 45) rfl (by omega) (by omega) rfl (by omega) ?_
      refine am_ev.step (pc' := 46) rfl rfl ?_
      refine am_ev.step (pc' := 47) rfl rfl ?_
      refine am_ev.step (pc' := 48) rfl rfl ?_
      refine am_ev.step (pc' := 49) (ls' := [.ref 78, .long _, am_ph, iv ((i : Int))]) rfl rfl ?_
      refine fx_inc (p' := 52) (e := ((i : Int) + 1)) (ls' := [.ref 78, .long _, am_ph, iv ((i : Int) + 1)]) rfl rfl rfl (by omega) rfl ?_
      refine am_ev.step (pc' := 4) rfl rfl ?_
      exact ew_193 S B hL hs he v5 v6 eL m (i + 1) _ (by omega)
theorem ed_193 (S : fS h) (B : tb h 80 b L) (hL : L ≤ 1600) (hs : s ≤ 1600) (he : e ≤ 1600) (v5 : h.2.2.2 78 4 = iv s) (v6 : h.2.2.2 78 5 = iv e) (eL : e ≤ L) : am_ev d 193 0 (am_ent [.ref 78] 4) [] h (some (.long (e_vw b L s e 12 0 (Int64.ofNat 0))), h) := by
  show am_ev d 193 0 [.ref 78, am_ph, am_ph, am_ph] [] h _
  refine am_ev.step (pc' := 1) rfl rfl ?_
  refine am_ev.step (pc' := 2) (ls' := [.ref 78, .long (Int64.ofNat 0), am_ph, am_ph]) rfl rfl ?_
  refine am_ev.step (pc' := 3) rfl rfl ?_
  refine am_ev.step (pc' := 4) (ls' := [.ref 78, .long (Int64.ofNat 0), am_ph, iv 0]) rfl rfl ?_
  exact ew_193 S B hL hs he v5 v6 eL 12 0 _ (by omega)
theorem ed_191 : am_ev d 191 0 (am_ent [iv 120, iv s] 2) [] h (some (iv ((s : Int) + 3600)), h) := by
  show am_ev d 191 0 [iv 120, iv s] [] h _
  refine fx_bip (p' := 2) rfl rfl rfl ?_
  refine am_ev.step (pc' := 3) rfl rfl ?_
  refine fx_mul (p' := 4) (e := 3600) rfl rfl (by omega) ?_
  refine am_ev.step (pc' := 5) rfl rfl ?_
  refine fx_add (p' := 6) (e := ((s : Int) + 3600)) rfl rfl (by omega) ?_
  exact fx_reti rfl rfl rfl
end EDM
/-- the draft's places have values of their kinds -/
def kT (h : am_H) : Prop := (∀ i, i < 30 → (∃ x : Int32, h.2.2.2 94 (i + 3600) = .int x) ∧ (∃ x : Int32, h.2.2.2 96 (i + 3600) = .int x ∧ x &&& 1 = x) ∧ ∃ x : Int32, h.2.2.2 97 (i + 3600) = .int x ∧ x &&& 1 = x) ∧ ∀ j, j < 240 → ∃ x : Int64, h.2.2.2 95 (j + 28800) = .long x
section KTT
variable {h : am_H} {c k : Nat} {v : Value}
theorem kT.po (K : kT h) (n : c < 94 ∨ 97 < c) : kT (am_put h c k v) := by
  refine ⟨fun i hi => ?_, fun j hj => ?_⟩
  · obtain ⟨⟨x, a⟩, ⟨y, a1, a2⟩, ⟨z, b1, b2⟩⟩ := K.1 i hi
    exact ⟨⟨x, ax_put_o (by omega) a⟩, ⟨y, ax_put_o (by omega) a1, a2⟩, ⟨z, ax_put_o (by omega) b1, b2⟩⟩
  · obtain ⟨x, a⟩ := K.2 j hj
    exact ⟨x, ax_put_o (by omega) a⟩
theorem kT.p94 {x : Int32} (K : kT h) : kT (am_put h 94 k (.int x)) := by
  refine ⟨fun i hi => ?_, fun j hj => ?_⟩
  · obtain ⟨⟨u, a⟩, ⟨y, a1, a2⟩, ⟨z, b1, b2⟩⟩ := K.1 i hi
    refine ⟨?_, ⟨y, ax_put_o (by omega) a1, a2⟩, ⟨z, ax_put_o (by omega) b1, b2⟩⟩
    by_cases e : i + 3600 = k
    · exact ⟨x, e ▸ ax_put_s _ _ _⟩
    · exact ⟨u, ax_put_o (Or.inr e) a⟩
  · obtain ⟨u, a⟩ := K.2 j hj
    exact ⟨u, ax_put_o (by omega) a⟩
theorem kT.p95 {x : Int64} (K : kT h) : kT (am_put h 95 k (.long x)) := by
  refine ⟨fun i hi => ?_, fun j hj => ?_⟩
  · obtain ⟨⟨u, a⟩, ⟨y, a1, a2⟩, ⟨z, b1, b2⟩⟩ := K.1 i hi
    exact ⟨⟨u, ax_put_o (by omega) a⟩, ⟨y, ax_put_o (by omega) a1, a2⟩, ⟨z, ax_put_o (by omega) b1, b2⟩⟩
  · by_cases e : j + 28800 = k
    · exact ⟨x, e ▸ ax_put_s _ _ _⟩
    · obtain ⟨u, a⟩ := K.2 j hj
      exact ⟨u, ax_put_o (Or.inr e) a⟩
theorem kT.p96 {x : Int32} (K : kT h) (ux : x &&& 1 = x) : kT (am_put h 96 k (.int x)) := by
  refine ⟨fun i hi => ?_, fun j hj => ?_⟩
  · obtain ⟨⟨u, a⟩, ⟨y, a1, a2⟩, ⟨z, b1, b2⟩⟩ := K.1 i hi
    refine ⟨⟨u, ax_put_o (by omega) a⟩, ?_, ⟨z, ax_put_o (by omega) b1, b2⟩⟩
    by_cases e : i + 3600 = k
    · exact ⟨x, e ▸ ax_put_s _ _ _, ux⟩
    · exact ⟨y, ax_put_o (Or.inr e) a1, a2⟩
  · obtain ⟨u, a⟩ := K.2 j hj
    exact ⟨u, ax_put_o (by omega) a⟩
theorem kT.p97 {x : Int32} (K : kT h) (ux : x &&& 1 = x) : kT (am_put h 97 k (.int x)) := by
  refine ⟨fun i hi => ?_, fun j hj => ?_⟩
  · obtain ⟨⟨u, a⟩, ⟨y, a1, a2⟩, ⟨z, b1, b2⟩⟩ := K.1 i hi
    refine ⟨⟨u, ax_put_o (by omega) a⟩, ⟨y, ax_put_o (by omega) a1, a2⟩, ?_⟩
    by_cases e : i + 3600 = k
    · exact ⟨x, e ▸ ax_put_s _ _ _, ux⟩
    · exact ⟨z, ax_put_o (Or.inr e) b1, b2⟩
  · obtain ⟨u, a⟩ := K.2 j hj
    exact ⟨u, ax_put_o (by omega) a⟩
end KTT
/-- the reading of a text on the other side: a token at hand, l lines read -/
def mE (h h0 : am_H) (b : Nat → Int) (L p s e : Nat) (k v w : Int) (l : Nat) : Prop := fS h ∧ tb h 80 b L ∧ h.2.2.2 78 3 = iv L ∧ tz_t b L p s e k v ∧ h.2.2.2 78 4 = iv s ∧ h.2.2.2 78 5 = iv e ∧ h.2.2.2 78 6 = iv (tH k) ∧ h.2.2.2 78 7 = iv w ∧ (k = 2 → w = v) ∧ (43 ≤ k → w = k) ∧ h.2.2.2 78 8 = iv 0 ∧ h.2.2.2 78 9 = iv (-1) ∧ h.2.2.2 78 2 = iv 0 ∧ h.2.2.2 93 120 = iv l ∧ kT h ∧ ∀ c j, (c ≠ 78 ∨ 10 ≤ j) → (c ≠ 93 ∨ j ≠ 120) → (c < 94 ∨ 97 < c ∨ (c ≠ 95 ∧ j < 3600) ∨ (c = 95 ∧ j < 28800)) → h.2.2.2 c j = h0.2.2.2 c j
def mEX (h h0 : am_H) (f : Int) (s : Nat) : Prop := fS h ∧ h.2.2.2 78 8 = iv f ∧ h.2.2.2 78 9 = iv s ∧ h.2.2.2 78 2 = iv 0 ∧ ∀ c j, (c ≠ 78 ∨ 10 ≤ j) → (c ≠ 93 ∨ j ≠ 120) → (c < 94 ∨ 97 < c ∨ (c ≠ 95 ∧ j < 3600) ∨ (c = 95 ∧ j < 28800)) → h.2.2.2 c j = h0.2.2.2 c j
section EDN
variable {d : Nat} {h h0 : am_H} {b : Nat → Int} {L p s e s1 e1 l n : Nat} {k k1 v v1 w : Int}
theorem em_a (hb : tz_r b) (hL : L ≤ 1600) (C : mE h h0 b L p s e k v w l) (q : k ≠ 1) : ∃ H : am_H, am_ev (d + 5) 192 0 (am_ent [.ref 78] 2) [] h  (some (.retAddr (79 + 1)), H) ∧ mEX H h0 1 s := by
  obtain ⟨S, B, w3, t0, w4, w5, w6, w7, ya, yb, f8, f9, zt, gl, kt, fr⟩ := C
  have f0 := t0.f5 hb
  have hr0 := tH_r (k := k) ⟨f0.2.2.2.1, f0.2.2.2.2⟩
  clear ya yb
  have e1 : tH k ≠ 1 := fun y => by
    have hh := tH_c (k := k) ⟨f0.2.2.2.1, f0.2.2.2.2⟩
    omega
  refine ⟨(am_put (am_put h 78 8 (iv 1)) 78 9 (iv ((s : Int)))), ?_, ⟨((S.po rfl rfl).po rfl rfl), (ax_put_o (Or.inr (by decide)) (ax_put_s _ _ _)), (ax_put_s _ _ _), (ax_put_o (Or.inr (by decide)) (ax_put_o (Or.inr (by decide)) zt)), (fun c j n1 n2 n3 => (ax_put_o (by omega) (ax_put_o (by omega) (fr c j n1 n2 n3))))⟩⟩
  show am_ev (d + 5) 192 0 [.ref 78, am_ph] [] h _
  refine am_ev.step (pc' := 1) rfl rfl ?_
  refine am_ev.step (pc' := 2) rfl rfl ?_
  refine ax_gf (p' := 5) rfl rfl (S.ob rfl) w6 ?_
  refine am_ev.step (pc' := 6) rfl rfl ?_
  refine fx_c_ne_T (pT := 13) rfl (by omega) (by omega) rfl e1 ?_
  refine am_ev.step (pc' := 14) rfl rfl ?_
  refine am_ev.step (pc' := 15) rfl rfl ?_
  refine ax_callT (a := 79) (z := 177) (as := [_, _, _]) rfl (Or.inr (Or.inl ⟨_, rfl⟩)) rfl rfl rfl rfl rfl rfl (S.ob rfl) (md_177f (s := s) S w4) rfl rfl (fO (fO (S.ob rfl))) rfl
theorem em_b (hb : tz_r b) (hL : L ≤ 1600) (C : mE h h0 b L p s e k v w l) (q : k = 1) (hl : l = 30) : ∃ H : am_H, am_ev (d + 5) 192 0 (am_ent [.ref 78] 2) [] h  (some (.retAddr (79 + 1)), H) ∧ mEX H h0 4 s := by
  obtain ⟨S, B, w3, t0, w4, w5, w6, w7, ya, yb, f8, f9, zt, gl, kt, fr⟩ := C
  have f0 := t0.f5 hb
  have hr0 := tH_r (k := k) ⟨f0.2.2.2.1, f0.2.2.2.2⟩
  clear ya yb
  have e1 : tH k = 1 := by
    rw [q]
    rfl
  refine ⟨(am_put (am_put h 78 8 (iv 4)) 78 9 (iv ((s : Int)))), ?_, ⟨((S.po rfl rfl).po rfl rfl), (ax_put_o (Or.inr (by decide)) (ax_put_s _ _ _)), (ax_put_s _ _ _), (ax_put_o (Or.inr (by decide)) (ax_put_o (Or.inr (by decide)) zt)), (fun c j n1 n2 n3 => (ax_put_o (by omega) (ax_put_o (by omega) (fr c j n1 n2 n3))))⟩⟩
  show am_ev (d + 5) 192 0 [.ref 78, am_ph] [] h _
  refine am_ev.step (pc' := 1) rfl rfl ?_
  refine am_ev.step (pc' := 2) rfl rfl ?_
  refine ax_gf (p' := 5) rfl rfl (S.ob rfl) w6 ?_
  refine am_ev.step (pc' := 6) rfl rfl ?_
  refine fx_c_ne_F (pF := 9) rfl (by omega) (by omega) rfl e1 ?_
  refine am_ev.step (pc' := 10) rfl rfl ?_
  refine am_ev.step (pc' := 14) rfl rfl ?_
  refine am_ev.step (pc' := 15) rfl rfl ?_
  refine ax_call (z := 177) (p' := 18) (as := [_, _, _]) rfl (Or.inr (Or.inl ⟨_, rfl⟩)) rfl rfl rfl rfl rfl rfl (S.ob rfl) rfl md_177t rfl ?_
  refine am_ev.step (pc' := 19) rfl rfl ?_
  refine am_ev.step (pc' := 20) rfl rfl ?_
  refine ax_gf (p' := 23) rfl rfl (S.ob rfl) (S.rf rfl rfl) ?_
  refine fx_bip (p' := 25) rfl rfl rfl ?_
  refine ax_iaload (p' := 26) rfl rfl (S.rd (k := 120) rfl rfl rfl rfl rfl (by decide) gl) ?_
  refine fx_bip (p' := 28) rfl rfl rfl ?_
  refine fx_c_ge_T (pT := 35) rfl (by omega) (by omega) rfl (by omega) ?_
  refine am_ev.step (pc' := 36) rfl rfl ?_
  refine am_ev.step (pc' := 37) rfl rfl ?_
  refine ax_callT (a := 79) (z := 177) (as := [_, _, _]) rfl (Or.inr (Or.inl ⟨_, rfl⟩)) rfl rfl rfl rfl rfl rfl (S.ob rfl) (md_177f (s := s) S w4) rfl rfl (fO (fO (S.ob rfl))) rfl
theorem em_c (hb : tz_r b) (hL : L ≤ 1600) (C : mE h h0 b L p s e k v w l) (q : k = 1) (hl : l ≤ 29) : ∃ H : am_H, mE H h0 b L p s e k v w l ∧ H.2.2.2 94 (l + 3600) = iv ((0 : Nat) : Int) ∧ (H.2.2.2 94 (l + 3600) = iv 0 ∧ (∀ c j, 94 ≤ c → c ≤ 97 → (c ≠ 94 ∨ j ≠ (l + 3600)) → H.2.2.2 c j = h.2.2.2 c j)) ∧ ∀ x, am_ev (d + 5) 192 60 [.ref 78, iv ((l : Int) + 3600)] [] H x → am_ev (d + 5) 192 0 (am_ent [.ref 78] 2) [] h x := by
  obtain ⟨S, B, w3, t0, w4, w5, w6, w7, ya, yb, f8, f9, zt, gl, kt, fr⟩ := C
  have f0 := t0.f5 hb
  have hr0 := tH_r (k := k) ⟨f0.2.2.2.1, f0.2.2.2.2⟩
  have e1 : tH k = 1 := by
    rw [q]
    rfl
  refine ⟨(am_put h 94 (l + 3600) (iv 0)), ⟨(S.pa rfl), (B.put (by decide)), (ax_put_o (Or.inl (by decide)) w3), t0, (ax_put_o (Or.inl (by decide)) w4), (ax_put_o (Or.inl (by decide)) w5), (ax_put_o (Or.inl (by decide)) w6), (ax_put_o (Or.inl (by decide)) w7), ya, yb, (ax_put_o (Or.inl (by decide)) f8), (ax_put_o (Or.inl (by decide)) f9), (ax_put_o (Or.inl (by decide)) zt), (ax_put_o (Or.inl (by decide)) gl), (kt.p94), (fun c j n1 n2 n3 => (ax_put_o (by omega) (fr c j n1 n2 n3)))⟩, (ax_put_s _ _ _), ⟨(ax_put_s _ _ _), (fun c j hc hc2 n1 => by
    exact (ax_put_o (by omega) rfl))⟩, fun x q9 => ?_⟩
  show am_ev (d + 5) 192 0 [.ref 78, am_ph] [] h x
  refine am_ev.step (pc' := 1) rfl rfl ?_
  refine am_ev.step (pc' := 2) rfl rfl ?_
  refine ax_gf (p' := 5) rfl rfl (S.ob rfl) w6 ?_
  refine am_ev.step (pc' := 6) rfl rfl ?_
  refine fx_c_ne_F (pF := 9) rfl (by omega) (by omega) rfl e1 ?_
  refine am_ev.step (pc' := 10) rfl rfl ?_
  refine am_ev.step (pc' := 14) rfl rfl ?_
  refine am_ev.step (pc' := 15) rfl rfl ?_
  refine ax_call (z := 177) (p' := 18) (as := [_, _, _]) rfl (Or.inr (Or.inl ⟨_, rfl⟩)) rfl rfl rfl rfl rfl rfl (S.ob rfl) rfl md_177t rfl ?_
  refine am_ev.step (pc' := 19) rfl rfl ?_
  refine am_ev.step (pc' := 20) rfl rfl ?_
  refine ax_gf (p' := 23) rfl rfl (S.ob rfl) (S.rf rfl rfl) ?_
  refine fx_bip (p' := 25) rfl rfl rfl ?_
  refine ax_iaload (p' := 26) rfl rfl (S.rd (k := 120) rfl rfl rfl rfl rfl (by decide) gl) ?_
  refine fx_bip (p' := 28) rfl rfl rfl ?_
  refine fx_c_ge_F (pF := 31) rfl (by omega) (by omega) rfl (by omega) ?_
  refine am_ev.step (pc' := 32) rfl rfl ?_
  refine am_ev.step (pc' := 36) rfl rfl ?_
  refine am_ev.step (pc' := 37) rfl rfl ?_
  refine ax_call (z := 177) (p' := 40) (as := [_, _, _]) rfl (Or.inr (Or.inl ⟨_, rfl⟩)) rfl rfl rfl rfl rfl rfl (S.ob rfl) rfl md_177t rfl ?_
  refine fx_bip (p' := 42) rfl rfl rfl ?_
  refine am_ev.step (pc' := 43) rfl rfl ?_
  refine ax_gf (p' := 46) rfl rfl (S.ob rfl) (S.rf rfl rfl) ?_
  refine fx_bip (p' := 48) rfl rfl rfl ?_
  refine ax_iaload (p' := 49) rfl rfl (S.rd (k := 120) rfl rfl rfl rfl rfl (by decide) gl) ?_
  refine ax_call (z := 191) (p' := 52) (as := [_, _]) rfl (Or.inl ⟨_, rfl⟩) rfl rfl rfl rfl rfl rfl rfl rfl ed_191 rfl ?_
  refine am_ev.step (pc' := 53) (ls' := [.ref 78, iv ((l : Int) + 3600)]) rfl rfl ?_
  refine am_ev.step (pc' := 54) rfl rfl ?_
  refine ax_gf (p' := 57) rfl rfl (S.ob rfl) (S.rf rfl rfl) ?_
  refine am_ev.step (pc' := 58) rfl rfl ?_
  refine am_ev.step (pc' := 59) rfl rfl ?_
  refine ax_iastore (p' := 60) rfl rfl (S.wr (k := (l + 3600)) rfl rfl rfl (by omega) (by omega)) ?_
  exact q9
theorem em_d (hb : tz_r b) (hL : L ≤ 1600) (C : mE h h0 b L p s e k v w l) (q : k = 1) (hl : l ≤ 29) (hn : n = 8) (gn : h.2.2.2 94 (l + 3600) = iv n) : ∃ H : am_H, am_ev (d + 5) 192 60 [.ref 78, iv ((l : Int) + 3600)] [] h  (some (.retAddr (79 + 1)), H) ∧ mEX H h0 4 s := by
  obtain ⟨S, B, w3, t0, w4, w5, w6, w7, ya, yb, f8, f9, zt, gl, kt, fr⟩ := C
  have f0 := t0.f5 hb
  have hr0 := tH_r (k := k) ⟨f0.2.2.2.1, f0.2.2.2.2⟩
  clear ya yb
  have e1 : tH k = 1 := by
    rw [q]
    rfl
  refine ⟨(am_put (am_put h 78 8 (iv 4)) 78 9 (iv ((s : Int)))), ?_, ⟨((S.po rfl rfl).po rfl rfl), (ax_put_o (Or.inr (by decide)) (ax_put_s _ _ _)), (ax_put_s _ _ _), (ax_put_o (Or.inr (by decide)) (ax_put_o (Or.inr (by decide)) zt)), (fun c j n1 n2 n3 => (ax_put_o (by omega) (ax_put_o (by omega) (fr c j n1 n2 n3))))⟩⟩
  refine am_ev.step (pc' := 61) rfl rfl ?_
  refine ax_gf (p' := 64) rfl rfl (S.ob rfl) w6 ?_
  refine am_ev.step (pc' := 65) rfl rfl ?_
  refine fx_c_ne_F (pF := 68) rfl (by omega) (by omega) rfl e1 ?_
  refine am_ev.step (pc' := 69) rfl rfl ?_
  refine am_ev.step (pc' := 70) rfl rfl ?_
  refine ax_gf (p' := 73) rfl rfl (S.ob rfl) (S.rf rfl rfl) ?_
  refine am_ev.step (pc' := 74) rfl rfl ?_
  refine ax_iaload (p' := 75) rfl rfl (S.rd (k := (l + 3600)) rfl rfl rfl rfl (by omega) (by omega) gn) ?_
  refine fx_bip (p' := 77) rfl rfl rfl ?_
  refine fx_c_ge_T (pT := 84) rfl (by omega) (by omega) rfl (by omega) ?_
  refine am_ev.step (pc' := 85) rfl rfl ?_
  refine am_ev.step (pc' := 86) rfl rfl ?_
  refine ax_callT (a := 79) (z := 177) (as := [_, _, _]) rfl (Or.inr (Or.inl ⟨_, rfl⟩)) rfl rfl rfl rfl rfl rfl (S.ob rfl) (md_177f (s := s) S w4) rfl rfl (fO (fO (S.ob rfl))) rfl
theorem em_e (hb : tz_r b) (hL : L ≤ 1600) (C : mE h h0 b L p s e k v w l) (q : k = 1) (hl : l ≤ 29) (hn : n ≤ 7) (gn : h.2.2.2 94 (l + 3600) = iv n) (t1 : tz_t b L e s1 e1 k1 v1) : ∃ H : am_H, mE H h0 b L e s1 e1 k1 v1 (tV b L s1 w) l ∧ H.2.2.2 94 (l + 3600) = iv ((n + 1 : Nat) : Int) ∧ (H.2.2.2 95 (8 * l + n + 28800) = .long (e_vw b L s e 12 0 (Int64.ofNat 0)) ∧ H.2.2.2 94 (l + 3600) = iv ((n : Int) + 1) ∧ (∀ c j, 94 ≤ c → c ≤ 97 → (c ≠ 95 ∨ j ≠ (8 * l + n + 28800)) → (c ≠ 94 ∨ j ≠ (l + 3600)) → H.2.2.2 c j = h.2.2.2 c j)) ∧ ∀ x, am_ev (d + 5) 192 60 [.ref 78, iv ((l : Int) + 3600)] [] H x → am_ev (d + 5) 192 60 [.ref 78, iv ((l : Int) + 3600)] [] h x := by
  obtain ⟨S, B, w3, t0, w4, w5, w6, w7, ya, yb, f8, f9, zt, gl, kt, fr⟩ := C
  have f0 := t0.f5 hb
  have hr0 := tH_r (k := k) ⟨f0.2.2.2.1, f0.2.2.2.2⟩
  clear ya yb
  have y1 : tH k = 1 := by
    rw [q]
    rfl
  refine ⟨(am_put (am_put (am_put (am_put (am_put (am_put h 95 (8 * l + n + 28800) (.long (e_vw b L s e 12 0 (Int64.ofNat 0)))) 94 (l + 3600) (iv ((n : Int) + 1))) 78 4 (iv ((s1 : Int)))) 78 7 (iv ((tV b L s1 (w))))) 78 5 (iv ((e1 : Int)))) 78 6 (iv ((tH k1)))), ⟨((((((S.pa rfl).pa rfl).po rfl rfl).po rfl rfl).po rfl rfl).po rfl rfl), ((((((B.put (by decide)).put (by decide)).put (by decide)).put (by decide)).put (by decide)).put (by decide)), (ax_put_o (Or.inr (by decide)) (ax_put_o (Or.inr (by decide)) (ax_put_o (Or.inr (by decide)) (ax_put_o (Or.inr (by decide)) (ax_put_o (Or.inl (by decide)) (ax_put_o (Or.inl (by decide)) w3)))))), t1, (ax_put_o (Or.inr (by decide)) (ax_put_o (Or.inr (by decide)) (ax_put_o (Or.inr (by decide)) (ax_put_s _ _ _)))), (ax_put_o (Or.inr (by decide)) (ax_put_s _ _ _)), (ax_put_s _ _ _), (ax_put_o (Or.inr (by decide)) (ax_put_o (Or.inr (by decide)) (ax_put_s _ _ _))), (t1.v _).1, (t1.v _).2, (ax_put_o (Or.inr (by decide)) (ax_put_o (Or.inr (by decide)) (ax_put_o (Or.inr (by decide)) (ax_put_o (Or.inr (by decide)) (ax_put_o (Or.inl (by decide)) (ax_put_o (Or.inl (by decide)) f8)))))), (ax_put_o (Or.inr (by decide)) (ax_put_o (Or.inr (by decide)) (ax_put_o (Or.inr (by decide)) (ax_put_o (Or.inr (by decide)) (ax_put_o (Or.inl (by decide)) (ax_put_o (Or.inl (by decide)) f9)))))), (ax_put_o (Or.inr (by decide)) (ax_put_o (Or.inr (by decide)) (ax_put_o (Or.inr (by decide)) (ax_put_o (Or.inr (by decide)) (ax_put_o (Or.inl (by decide)) (ax_put_o (Or.inl (by decide)) zt)))))), (ax_put_o (Or.inl (by decide)) (ax_put_o (Or.inl (by decide)) (ax_put_o (Or.inl (by decide)) (ax_put_o (Or.inl (by decide)) (ax_put_o (Or.inl (by decide)) (ax_put_o (Or.inl (by decide)) gl)))))), ((((((kt.p95).p94).po (by decide)).po (by decide)).po (by decide)).po (by decide)), (fun c j n1 n2 n3 => (ax_put_o (by omega) (ax_put_o (by omega) (ax_put_o (by omega) (ax_put_o (by omega) (ax_put_o (by omega) (ax_put_o (by omega) (fr c j n1 n2 n3))))))))⟩, Eq.trans (ax_put_o (Or.inl (by decide)) (ax_put_o (Or.inl (by decide)) (ax_put_o (Or.inl (by decide)) (ax_put_o (Or.inl (by decide)) (ax_put_s _ _ _))))) (congrArg iv (by omega)), ⟨(ax_put_o (Or.inl (by decide)) (ax_put_o (Or.inl (by decide)) (ax_put_o (Or.inl (by decide)) (ax_put_o (Or.inl (by decide)) (ax_put_o (Or.inl (by decide)) (ax_put_s _ _ _)))))), (ax_put_o (Or.inl (by decide)) (ax_put_o (Or.inl (by decide)) (ax_put_o (Or.inl (by decide)) (ax_put_o (Or.inl (by decide)) (ax_put_s _ _ _))))), (fun c j hc hc2 n1 n2 => by
    exact (ax_put_o (by omega) (ax_put_o (by omega) (ax_put_o (by omega) (ax_put_o (by omega) (ax_put_o (by omega) (ax_put_o (by omega) rfl)))))))⟩, fun x q9 => ?_⟩
  refine am_ev.step (pc' := 61) rfl rfl ?_
  refine ax_gf (p' := 64) rfl rfl (S.ob rfl) w6 ?_
  refine am_ev.step (pc' := 65) rfl rfl ?_
  refine fx_c_ne_F (pF := 68) rfl (by omega) (by omega) rfl y1 ?_
  refine am_ev.step (pc' := 69) rfl rfl ?_
  refine am_ev.step (pc' := 70) rfl rfl ?_
  refine ax_gf (p' := 73) rfl rfl (S.ob rfl) (S.rf rfl rfl) ?_
  refine am_ev.step (pc' := 74) rfl rfl ?_
  refine ax_iaload (p' := 75) rfl rfl (S.rd (k := (l + 3600)) rfl rfl rfl rfl (by omega) (by omega) gn) ?_
  refine fx_bip (p' := 77) rfl rfl rfl ?_
  refine fx_c_ge_F (pF := 80) rfl (by omega) (by omega) rfl (by omega) ?_
  refine am_ev.step (pc' := 81) rfl rfl ?_
  refine am_ev.step (pc' := 85) rfl rfl ?_
  refine am_ev.step (pc' := 86) rfl rfl ?_
  refine ax_call (z := 177) (p' := 89) (as := [_, _, _]) rfl (Or.inr (Or.inl ⟨_, rfl⟩)) rfl rfl rfl rfl rfl rfl (S.ob rfl) rfl md_177t rfl ?_
  refine am_ev.step (pc' := 90) rfl rfl ?_
  refine ax_gf (p' := 93) rfl rfl (S.ob rfl) (S.rf rfl rfl) ?_
  refine fx_bip (p' := 95) rfl rfl rfl ?_
  refine am_ev.step (pc' := 96) rfl rfl ?_
  refine fx_mul (p' := 97) (e := (8 * (l : Int) + 28800)) rfl rfl (by omega) ?_
  refine am_ev.step (pc' := 98) rfl rfl ?_
  refine ax_gf (p' := 101) rfl rfl (S.ob rfl) (S.rf rfl rfl) ?_
  refine am_ev.step (pc' := 102) rfl rfl ?_
  refine ax_iaload (p' := 103) rfl rfl (S.rd (k := (l + 3600)) rfl rfl rfl rfl (by omega) (by omega) gn) ?_
  refine fx_add (p' := 104) (e := (8 * (l : Int) + (n : Int) + 28800)) rfl rfl (by omega) ?_
  refine am_ev.step (pc' := 105) rfl rfl ?_
  refine ax_call (z := 193) (p' := 108) (as := [_]) rfl (Or.inr (Or.inl ⟨_, rfl⟩)) rfl rfl rfl rfl rfl rfl (S.ob rfl) rfl (ed_193 S B hL (by omega) (by omega) w4 w5 f0.2.2.1) rfl ?_
  refine fx_las (p' := 109) rfl rfl (S.wr (k := (8 * l + n + 28800)) rfl rfl rfl (by omega) (by omega)) ?_
  refine am_ev.step (pc' := 110) rfl rfl ?_
  refine ax_gf (p' := 113) rfl rfl (fO (S.ob rfl)) (ax_put_o (Or.inl (by decide)) (S.rf rfl rfl)) ?_
  refine am_ev.step (pc' := 114) rfl rfl ?_
  refine am_ev.step (pc' := 115) rfl rfl ?_
  refine ax_iaload (p' := 116) rfl rfl ((S.pa rfl).rd (k := (l + 3600)) rfl rfl rfl rfl (by omega) (by omega) (ax_put_o (Or.inl (by decide)) gn)) ?_
  refine am_ev.step (pc' := 117) rfl rfl ?_
  refine fx_add (p' := 118) (e := ((n : Int) + 1)) rfl rfl (by omega) ?_
  refine ax_iastore (p' := 119) rfl rfl ((S.pa rfl).wr (k := (l + 3600)) rfl rfl rfl (by omega) (by omega)) ?_
  refine am_ev.step (pc' := 120) rfl rfl ?_
  refine ax_call (z := 170) (p' := 123) (as := [_]) rfl (Or.inr (Or.inl ⟨_, rfl⟩)) rfl rfl rfl rfl rfl rfl (fO (fO (S.ob rfl))) rfl (md_170 ((S.pa rfl).pa rfl) ((B.put (by decide)).put (by decide)) hb hL (ax_put_o (Or.inl (by decide)) (ax_put_o (Or.inl (by decide)) w3)) (ax_put_o (Or.inl (by decide)) (ax_put_o (Or.inl (by decide)) w5)) (ax_put_o (Or.inl (by decide)) (ax_put_o (Or.inl (by decide)) w7)) t1) rfl ?_
  refine am_ev.step (pc' := 60) rfl rfl ?_
  exact q9
theorem em_f (hb : tz_r b) (hL : L ≤ 1600) (C : mE h h0 b L p s e k v w l) (q1 : k ≠ 1) (q : k ≠ 43) (hl : l ≤ 29) (gn : h.2.2.2 94 (l + 3600) = iv n) : ∃ H : am_H, am_ev (d + 5) 192 60 [.ref 78, iv ((l : Int) + 3600)] [] h  (none, H) ∧ mE H h0 b L p s e k v w (l + 1) ∧ (H.2.2.2 97 (l + 3600) = iv 0 ∧ (∀ c j, 94 ≤ c → c ≤ 97 → (c ≠ 97 ∨ j ≠ (l + 3600)) → H.2.2.2 c j = h.2.2.2 c j)) := by
  obtain ⟨S, B, w3, t0, w4, w5, w6, w7, ya, yb, f8, f9, zt, gl, kt, fr⟩ := C
  have f0 := t0.f5 hb
  have hr0 := tH_r (k := k) ⟨f0.2.2.2.1, f0.2.2.2.2⟩
  have y1 : tH k ≠ 1 := fun y => by
    have hh := tH_c (k := k) ⟨f0.2.2.2.1, f0.2.2.2.2⟩
    omega
  refine ⟨(am_put (am_put h 97 (l + 3600) (iv 0)) 93 120 (iv ((l : Int) + 1))), ?_, ⟨((S.pa rfl).pa rfl), ((B.put (by decide)).put (by decide)), (ax_put_o (Or.inl (by decide)) (ax_put_o (Or.inl (by decide)) w3)), t0, (ax_put_o (Or.inl (by decide)) (ax_put_o (Or.inl (by decide)) w4)), (ax_put_o (Or.inl (by decide)) (ax_put_o (Or.inl (by decide)) w5)), (ax_put_o (Or.inl (by decide)) (ax_put_o (Or.inl (by decide)) w6)), (ax_put_o (Or.inl (by decide)) (ax_put_o (Or.inl (by decide)) w7)), ya, yb, (ax_put_o (Or.inl (by decide)) (ax_put_o (Or.inl (by decide)) f8)), (ax_put_o (Or.inl (by decide)) (ax_put_o (Or.inl (by decide)) f9)), (ax_put_o (Or.inl (by decide)) (ax_put_o (Or.inl (by decide)) zt)), (ax_put_s _ _ _), ((kt.p97 (by decide)).po (by decide)), (fun c j n1 n2 n3 => (ax_put_o (by omega) (ax_put_o (by omega) (fr c j n1 n2 n3))))⟩, ⟨(ax_put_o (Or.inl (by decide)) (ax_put_s _ _ _)), (fun c j hc hc2 n1 => by
    exact (ax_put_o (by omega) (ax_put_o (by omega) rfl)))⟩⟩
  refine am_ev.step (pc' := 61) rfl rfl ?_
  refine ax_gf (p' := 64) rfl rfl (S.ob rfl) w6 ?_
  refine am_ev.step (pc' := 65) rfl rfl ?_
  refine fx_c_ne_T (pT := 126) rfl (by omega) (by omega) rfl y1 ?_
  refine am_ev.step (pc' := 127) rfl rfl ?_
  refine ax_gf (p' := 130) rfl rfl (S.ob rfl) (S.rf rfl rfl) ?_
  refine am_ev.step (pc' := 131) rfl rfl ?_
  refine am_ev.step (pc' := 132) rfl rfl ?_
  refine fx_bip (p' := 134) rfl rfl rfl ?_
  refine ax_call (z := 182) (p' := 137) (as := [_, _]) rfl (Or.inr (Or.inl ⟨_, rfl⟩)) rfl rfl rfl rfl rfl rfl (S.ob rfl) rfl (md_182f (s := s) (k := k) (f := 43) S w4 w6 ⟨f0.2.2.2.1, f0.2.2.2.2⟩ w7 yb (by omega) (t0.h4 hb) q) rfl ?_
  refine ax_bas2 (p' := 138) rfl rfl (S.wr (k := (l + 3600)) rfl rfl rfl (by omega) (by omega)) (S.sb rfl rfl) (by decide) ?_
  refine am_ev.step (pc' := 139) rfl rfl ?_
  refine ax_gf (p' := 142) rfl rfl (fO (S.ob rfl)) (ax_put_o (Or.inl (by decide)) (S.rf rfl rfl)) ?_
  refine am_ev.step (pc' := 143) rfl rfl ?_
  refine ax_baload (p' := 144) rfl rfl ((S.pa rfl).rd (k := (l + 3600)) rfl rfl rfl rfl (by omega) (by omega) (ax_put_s _ _ _)) ?_
  refine fx_z_eq_T (pT := 151) rfl (by omega) rfl (by omega) ?_
  refine am_ev.step (pc' := 152) rfl rfl ?_
  refine ax_gf (p' := 155) rfl rfl (fO (S.ob rfl)) (ax_put_o (Or.inl (by decide)) (S.rf rfl rfl)) ?_
  refine fx_bip (p' := 157) rfl rfl rfl ?_
  refine am_ev.step (pc' := 158) rfl rfl ?_
  refine ax_iaload (p' := 159) rfl rfl ((S.pa rfl).rd (k := 120) rfl rfl rfl rfl rfl (by decide) (ax_put_o (Or.inl (by decide)) gl)) ?_
  refine am_ev.step (pc' := 160) rfl rfl ?_
  refine fx_add (p' := 161) (e := ((l : Int) + 1)) rfl rfl (by omega) ?_
  refine ax_iastore (p' := 162) rfl rfl ((S.pa rfl).wr (k := 120) rfl rfl rfl rfl (by decide)) ?_
  exact am_ev.retv rfl rfl
theorem em_g (hb : tz_r b) (hL : L ≤ 1600) (C : mE h h0 b L p s e k v w l) (q1 : k ≠ 1) (q : k = 43) (t1 : tz_t b L e s1 e1 k1 v1) (hl : l ≤ 29) (gn : h.2.2.2 94 (l + 3600) = iv n) : ∃ H : am_H, am_ev (d + 5) 192 60 [.ref 78, iv ((l : Int) + 3600)] [] h  (none, H) ∧ mE H h0 b L e s1 e1 k1 v1 (tV b L s1 w) (l + 1) ∧ (H.2.2.2 97 (l + 3600) = iv 1 ∧ (∀ c j, 94 ≤ c → c ≤ 97 → (c ≠ 97 ∨ j ≠ (l + 3600)) → H.2.2.2 c j = h.2.2.2 c j)) := by
  obtain ⟨S, B, w3, t0, w4, w5, w6, w7, ya, yb, f8, f9, zt, gl, kt, fr⟩ := C
  have f0 := t0.f5 hb
  have hr0 := tH_r (k := k) ⟨f0.2.2.2.1, f0.2.2.2.2⟩
  have y1 : tH k ≠ 1 := fun y => by
    have hh := tH_c (k := k) ⟨f0.2.2.2.1, f0.2.2.2.2⟩
    omega
  refine ⟨(am_put (am_put (am_put (am_put (am_put (am_put h 97 (l + 3600) (iv 1)) 78 4 (iv ((s1 : Int)))) 78 7 (iv ((tV b L s1 (w))))) 78 5 (iv ((e1 : Int)))) 78 6 (iv ((tH k1)))) 93 120 (iv ((l : Int) + 1))), ?_, ⟨((((((S.pa rfl).po rfl rfl).po rfl rfl).po rfl rfl).po rfl rfl).pa rfl), ((((((B.put (by decide)).put (by decide)).put (by decide)).put (by decide)).put (by decide)).put (by decide)), (ax_put_o (Or.inl (by decide)) (ax_put_o (Or.inr (by decide)) (ax_put_o (Or.inr (by decide)) (ax_put_o (Or.inr (by decide)) (ax_put_o (Or.inr (by decide)) (ax_put_o (Or.inl (by decide)) w3)))))), t1, (ax_put_o (Or.inl (by decide)) (ax_put_o (Or.inr (by decide)) (ax_put_o (Or.inr (by decide)) (ax_put_o (Or.inr (by decide)) (ax_put_s _ _ _))))), (ax_put_o (Or.inl (by decide)) (ax_put_o (Or.inr (by decide)) (ax_put_s _ _ _))), (ax_put_o (Or.inl (by decide)) (ax_put_s _ _ _)), (ax_put_o (Or.inl (by decide)) (ax_put_o (Or.inr (by decide)) (ax_put_o (Or.inr (by decide)) (ax_put_s _ _ _)))), (t1.v _).1, (t1.v _).2, (ax_put_o (Or.inl (by decide)) (ax_put_o (Or.inr (by decide)) (ax_put_o (Or.inr (by decide)) (ax_put_o (Or.inr (by decide)) (ax_put_o (Or.inr (by decide)) (ax_put_o (Or.inl (by decide)) f8)))))), (ax_put_o (Or.inl (by decide)) (ax_put_o (Or.inr (by decide)) (ax_put_o (Or.inr (by decide)) (ax_put_o (Or.inr (by decide)) (ax_put_o (Or.inr (by decide)) (ax_put_o (Or.inl (by decide)) f9)))))), (ax_put_o (Or.inl (by decide)) (ax_put_o (Or.inr (by decide)) (ax_put_o (Or.inr (by decide)) (ax_put_o (Or.inr (by decide)) (ax_put_o (Or.inr (by decide)) (ax_put_o (Or.inl (by decide)) zt)))))), (ax_put_s _ _ _), ((((((kt.p97 (by decide)).po (by decide)).po (by decide)).po (by decide)).po (by decide)).po (by decide)), (fun c j n1 n2 n3 => (ax_put_o (by omega) (ax_put_o (by omega) (ax_put_o (by omega) (ax_put_o (by omega) (ax_put_o (by omega) (ax_put_o (by omega) (fr c j n1 n2 n3))))))))⟩, ⟨(ax_put_o (Or.inl (by decide)) (ax_put_o (Or.inl (by decide)) (ax_put_o (Or.inl (by decide)) (ax_put_o (Or.inl (by decide)) (ax_put_o (Or.inl (by decide)) (ax_put_s _ _ _)))))), (fun c j hc hc2 n1 => by
    exact (ax_put_o (by omega) (ax_put_o (by omega) (ax_put_o (by omega) (ax_put_o (by omega) (ax_put_o (by omega) (ax_put_o (by omega) rfl)))))))⟩⟩
  refine am_ev.step (pc' := 61) rfl rfl ?_
  refine ax_gf (p' := 64) rfl rfl (S.ob rfl) w6 ?_
  refine am_ev.step (pc' := 65) rfl rfl ?_
  refine fx_c_ne_T (pT := 126) rfl (by omega) (by omega) rfl y1 ?_
  refine am_ev.step (pc' := 127) rfl rfl ?_
  refine ax_gf (p' := 130) rfl rfl (S.ob rfl) (S.rf rfl rfl) ?_
  refine am_ev.step (pc' := 131) rfl rfl ?_
  refine am_ev.step (pc' := 132) rfl rfl ?_
  refine fx_bip (p' := 134) rfl rfl rfl ?_
  refine ax_call (z := 182) (p' := 137) (as := [_, _]) rfl (Or.inr (Or.inl ⟨_, rfl⟩)) rfl rfl rfl rfl rfl rfl (S.ob rfl) rfl (md_182t (s := s) (k := k) (f := 43) S w4 w6 ⟨f0.2.2.2.1, f0.2.2.2.2⟩ w7 yb (by omega) q) rfl ?_
  refine ax_bas2 (p' := 138) rfl rfl (S.wr (k := (l + 3600)) rfl rfl rfl (by omega) (by omega)) (S.sb rfl rfl) (by decide) ?_
  refine am_ev.step (pc' := 139) rfl rfl ?_
  refine ax_gf (p' := 142) rfl rfl (fO (S.ob rfl)) (ax_put_o (Or.inl (by decide)) (S.rf rfl rfl)) ?_
  refine am_ev.step (pc' := 143) rfl rfl ?_
  refine ax_baload (p' := 144) rfl rfl ((S.pa rfl).rd (k := (l + 3600)) rfl rfl rfl rfl (by omega) (by omega) (ax_put_s _ _ _)) ?_
  refine fx_z_eq_F (pF := 147) rfl (by omega) rfl (by omega) ?_
  refine am_ev.step (pc' := 148) rfl rfl ?_
  refine ax_call (z := 170) (p' := 151) (as := [_]) rfl (Or.inr (Or.inl ⟨_, rfl⟩)) rfl rfl rfl rfl rfl rfl (fO (S.ob rfl)) rfl (md_170 (S.pa rfl) (B.put (by decide)) hb hL (ax_put_o (Or.inl (by decide)) w3) (ax_put_o (Or.inl (by decide)) w5) (ax_put_o (Or.inl (by decide)) w7) t1) rfl ?_
  refine am_ev.step (pc' := 152) rfl rfl ?_
  refine ax_gf (p' := 155) rfl rfl (fO (fO (fO (fO (fO (S.ob rfl)))))) (ax_put_o (Or.inr (by decide)) (ax_put_o (Or.inr (by decide)) (ax_put_o (Or.inr (by decide)) (ax_put_o (Or.inr (by decide)) (ax_put_o (Or.inl (by decide)) (S.rf rfl rfl)))))) ?_
  refine fx_bip (p' := 157) rfl rfl rfl ?_
  refine am_ev.step (pc' := 158) rfl rfl ?_
  refine ax_iaload (p' := 159) rfl rfl ((((((S.pa rfl).po rfl rfl).po rfl rfl).po rfl rfl).po rfl rfl).rd (k := 120) rfl rfl rfl rfl rfl (by decide) (ax_put_o (Or.inl (by decide)) (ax_put_o (Or.inl (by decide)) (ax_put_o (Or.inl (by decide)) (ax_put_o (Or.inl (by decide)) (ax_put_o (Or.inl (by decide)) gl)))))) ?_
  refine am_ev.step (pc' := 160) rfl rfl ?_
  refine fx_add (p' := 161) (e := ((l : Int) + 1)) rfl rfl (by omega) ?_
  refine ax_iastore (p' := 162) rfl rfl ((((((S.pa rfl).po rfl rfl).po rfl rfl).po rfl rfl).po rfl rfl).wr (k := 120) rfl rfl rfl rfl (by decide)) ?_
  exact am_ev.retv rfl rfl
end EDN
end
section
/-! EDITIONS: the draft's text on both sides -/
/-- letters made one number, as the program does; as the other side does -/
def wlP (q : Nat → Int) : Nat → Nat → Int64 → Int64
  | 0, _, a => a
  | m + 1, i, a => wlP q m (i + 1) (a * Int64.ofNat 27 + (Int32.ofInt (q i)).toInt64)
def wlV (q : Nat → Int) : Nat → Nat → Int64 → Int64
  | 0, _, a => a
  | m + 1, i, a => wlV q m (i + 1) (a <<< ((Int32.ofInt 5).toInt64 &&& 63) ||| (Int32.ofInt (q i)).toInt64)
theorem e_pw_wl {b : Nat → Int} {L s e : Nat} : ∀ (m i : Nat) (a : Int64), e_pw b L s e m i a = wlP (e_lt b L s e) m i a
  | 0, _, _ => rfl
  | m + 1, i, a => e_pw_wl m (i + 1) _
theorem e_vw_wl {b : Nat → Int} {L s e : Nat} : ∀ (m i : Nat) (a : Int64), e_vw b L s e m i a = wlV (e_lt b L s e) m i a
  | 0, _, _ => rfl
  | m + 1, i, a => e_vw_wl m (i + 1) _
/-- the same word on both sides -/
def wT (x y : Value) : Prop := ∃ q : Nat → Int, (∀ i, i < 12 → 0 ≤ q i ∧ q i ≤ 26) ∧ x = .long (wlP q 12 0 (Int64.ofNat 0)) ∧ y = .long (wlV q 12 0 (Int64.ofNat 0))
theorem tz_let {b : Nat → Int} {L s : Nat} (h : tK b L s = 1) : ∀ i, s ≤ i → i < tE b L s → 97 ≤ b i ∧ b i ≤ 122 := by
  unfold tK at h
  by_cases c1 : L ≤ s
  · rw [if_pos c1] at h
    exact absurd h (by decide)
  · rw [if_neg c1] at h
    by_cases c2 : tz_le (b s) = true
    · intro i h1 h2
      unfold tE at h2
      rw [if_neg c1, if_pos c2] at h2
      exact of_decide_eq_true (tz_sp_in (c := tz_le) (b := b) (L - s) s i h1 h2)
    · rw [if_neg c2] at h
      by_cases c3 : tz_di (b s) = true
      · rw [if_pos c3] at h
        by_cases c4 : tz_sp tz_di b (L - s) s ≤ s + 5
        · rw [if_pos c4] at h
          exact absurd h (by decide)
        · rw [if_neg c4] at h
          exact absurd h (by decide)
      · rw [if_neg c3] at h
        by_cases c4 : b s = 59 ∨ b s = 47 ∨ b s = 43
        · rw [if_pos c4] at h
          omega
        · rw [if_neg c4] at h
          exact absurd h (by decide)
theorem tz_wT {b : Nat → Int} {L p s e : Nat} {k v : Int} (t : tz_t b L p s e k v) (q : k = 1) : wT (.long (e_pw b L s e 12 0 (Int64.ofNat 0))) (.long (e_vw b L s e 12 0 (Int64.ofNat 0))) := by
  obtain ⟨-, -, t2, t3, -⟩ := t
  refine ⟨e_lt b L s e, fun i _ => ?_, congrArg Value.long (e_pw_wl _ _ _), congrArg Value.long (e_vw_wl _ _ _)⟩
  unfold e_lt
  by_cases c : s + i < e ∧ s + i < L
  · rw [if_pos c]
    have := tz_let (t3.trans q) (s + i) (by omega) (by rw [t2]; exact c.1)
    omega
  · rw [if_neg c]
    omega
def b2 (t : Bool) : Int := if t = true then 1 else 0
/-- both drafts have the same l lines (st: the words ahead of each), n words of the next, and of q lines whether they open a stanza -/
def tC (h g : am_H) (l n q : Nat) (st : Nat → Nat) : Prop := st 0 = 0 ∧ (∀ i, i < l → st i < st (i + 1) ∧ st (i + 1) ≤ st i + 8 ∧ st (i + 1) ≤ st l) ∧ (∀ i, i ≤ l → h.2.2.2 56 i = iv (st i)) ∧ (∀ i, i < l → g.2.2.2 94 (i + 3600) = iv ((st (i + 1) : Int) - (st i : Int))) ∧ (∀ i k, i < l → st i + k < st (i + 1) → wT (h.2.2.2 55 (st i + k)) (g.2.2.2 95 (8 * i + k + 28800))) ∧ (∀ k, k < n → wT (h.2.2.2 55 (st l + k)) (g.2.2.2 95 (8 * l + k + 28800))) ∧ ∃ t u : Int32, h.2.2.2 54 4 = .int t ∧ h.2.2.2 54 5 = .int u ∧ (∀ i, i < l → g.2.2.2 97 (i + 3600) = iv (b2 (bt t i))) ∧ (∀ i, i < 32 → l ≤ i → bt t i = false) ∧ (∀ i, i < q → i < 30 → g.2.2.2 96 (i + 3600) = iv (b2 (bt u i))) ∧ (∀ i, i < 32 → q ≤ i → bt u i = false) ∧ bt u 0 = true
section TCC
variable {h g H G : am_H} {l n q : Nat} {st : Nat → Nat} {x y : Value}
theorem tC_q (C : tC h g l n q st) (hf : ∀ c j, cC c j → H.2.2.2 c j = h.2.2.2 c j) (gf : ∀ c j, 94 ≤ c → c ≤ 97 → (c ≠ 94 ∨ j ≠ l + 3600) → G.2.2.2 c j = g.2.2.2 c j) : tC H G l n q st := by
  obtain ⟨c0, c1, c2, c3, c4, c5, t, u, c6, c7, c8, c9, c10, c11⟩ := C
  have h55 : ∀ j, H.2.2.2 55 j = h.2.2.2 55 j := fun j => hf 55 j (Or.inl rfl)
  have g95 : ∀ j, G.2.2.2 95 j = g.2.2.2 95 j := fun j => gf 95 j (by decide) (by decide) (Or.inl (by decide))
  refine ⟨c0, c1, fun i hi => (hf 56 i (Or.inr (Or.inl rfl))).trans (c2 i hi), fun i hi => (gf 94 _ (by decide) (by decide) (Or.inr (by omega))).trans (c3 i hi), fun i k a b => ?_, fun k a => ?_, t, u, (hf 54 4 (Or.inr (Or.inr ⟨rfl, Or.inl rfl⟩))).trans c6, (hf 54 5 (Or.inr (Or.inr ⟨rfl, Or.inr rfl⟩))).trans c7, fun i hi => (gf 97 _ (by decide) (by decide) (Or.inl (by decide))).trans (c8 i hi), c9, fun i a b => (gf 96 _ (by decide) (by decide) (Or.inl (by decide))).trans (c10 i a b), c11⟩
  · rw [h55, g95]
    exact c4 i k a b
  · rw [h55, g95]
    exact c5 k a
theorem tC_e (C : tC h g l n q st) (hl : l ≤ 29) (hn : n ≤ 7) (X : wT x y) (h1 : H.2.2.2 55 (st l + n) = x) (hf : ∀ c j, cC c j → (c ≠ 55 ∨ j ≠ st l + n) → H.2.2.2 c j = h.2.2.2 c j) (g1 : G.2.2.2 95 (8 * l + n + 28800) = y) (gf : ∀ c j, 94 ≤ c → c ≤ 97 → (c ≠ 95 ∨ j ≠ 8 * l + n + 28800) → (c ≠ 94 ∨ j ≠ l + 3600) → G.2.2.2 c j = g.2.2.2 c j) : tC H G l (n + 1) q st := by
  obtain ⟨c0, c1, c2, c3, c4, c5, t, u, c6, c7, c8, c9, c10, c11⟩ := C
  have h55 : ∀ j, j ≠ st l + n → H.2.2.2 55 j = h.2.2.2 55 j := fun j hj => hf 55 j (Or.inl rfl) (Or.inr hj)
  have g95 : ∀ j, j ≠ 8 * l + n + 28800 → G.2.2.2 95 j = g.2.2.2 95 j := fun j hj => gf 95 j (by decide) (by decide) (Or.inr hj) (Or.inl (by decide))
  refine ⟨c0, c1, fun i hi => (hf 56 i (Or.inr (Or.inl rfl)) (Or.inl (by decide))).trans (c2 i hi), fun i hi => (gf 94 _ (by decide) (by decide) (Or.inl (by decide)) (Or.inr (by omega))).trans (c3 i hi), fun i k a b => ?_, fun k a => ?_, t, u, (hf 54 4 (Or.inr (Or.inr ⟨rfl, Or.inl rfl⟩)) (Or.inl (by decide))).trans c6, (hf 54 5 (Or.inr (Or.inr ⟨rfl, Or.inr rfl⟩)) (Or.inl (by decide))).trans c7, fun i hi => (gf 97 _ (by decide) (by decide) (Or.inl (by decide)) (Or.inl (by decide))).trans (c8 i hi), c9, fun i a b => (gf 96 _ (by decide) (by decide) (Or.inl (by decide)) (Or.inl (by decide))).trans (c10 i a b), c11⟩
  · have := c1 i a
    rw [h55 _ (by omega), g95 _ (by omega)]
    exact c4 i k a b
  · by_cases e : k = n
    · subst e
      rw [h1, g1]
      exact X
    · rw [h55 _ (by omega), g95 _ (by omega)]
      exact c5 k (by omega)
/-- a function with one value changed -/
def upn (f : Nat → Nat) (c v : Nat) : Nat → Nat := fun i => if i = c then v else f i
theorem tC_f {z : Nat} {T : Int32 → Int32} {gl : Bool} (C : tC h g l n (l + 1) st) (hl : l ≤ 29) (h1 : 1 ≤ n) (h8 : n ≤ 8) (hz : z = st l + n) (gn : g.2.2.2 94 (l + 3600) = iv n) (h56 : H.2.2.2 56 (l + 1) = iv ((st l : Int) + (n : Int))) (ht : ∀ t, h.2.2.2 54 4 = .int t → H.2.2.2 54 4 = .int (T t)) (hT : ∀ t i, i < 32 → bt (T t) i = (bt t i || (gl && decide (i = l)))) (hf : ∀ c j, cC c j → (c ≠ 54 ∨ j ≠ 4) → (c ≠ 56 ∨ j ≠ l + 1) → H.2.2.2 c j = h.2.2.2 c j) (g97 : G.2.2.2 97 (l + 3600) = iv (b2 gl)) (gf : ∀ c j, 94 ≤ c → c ≤ 97 → (c ≠ 97 ∨ j ≠ l + 3600) → G.2.2.2 c j = g.2.2.2 c j) : tC H G (l + 1) 0 (l + 1) (upn st (l + 1) z) ∧ upn st (l + 1) z (l + 1) = z := by
  obtain ⟨c0, c1, c2, c3, c4, c5, t, u, c6, c7, c8, c9, c10, c11⟩ := C
  have so : ∀ i, i ≤ l → upn st (l + 1) z i = st i := fun i hi => if_neg (by omega)
  have sn : upn st (l + 1) z (l + 1) = z := if_pos rfl
  have h55 : ∀ j, H.2.2.2 55 j = h.2.2.2 55 j := fun j => hf 55 j (Or.inl rfl) (Or.inl (by decide)) (Or.inl (by decide))
  have g95 : ∀ j, G.2.2.2 95 j = g.2.2.2 95 j := fun j => gf 95 j (by decide) (by decide) (Or.inl (by decide))
  have cm : ∀ i, i ≤ l → st i ≤ st l := fun i hi => by
    rcases Nat.lt_or_ge i l with y | y
    · have := c1 i y
      omega
    · rw [show i = l by omega]
      exact Nat.le_refl _
  refine ⟨⟨(so 0 (Nat.zero_le _)).trans c0, fun i hi => ?_, fun i hi => ?_, fun i hi => ?_, fun i k a b => ?_, fun k a => absurd a (Nat.not_lt_zero k), T t, u, ht t c6, (hf 54 5 (Or.inr (Or.inr ⟨rfl, Or.inr rfl⟩)) (Or.inr (by decide)) (Or.inl (by decide))).trans c7, fun i hi => ?_, fun i a b => ?_, fun i a b => (gf 96 _ (by decide) (by decide) (Or.inl (by decide))).trans (c10 i a b), c11⟩, sn⟩
  · rw [sn]
    by_cases e : i = l
    · subst e
      rw [so i (Nat.le_refl _), sn]
      omega
    · have := c1 i (by omega)
      rw [so i (by omega), so (i + 1) (by omega)]
      omega
  · by_cases e : i = l + 1
    · subst e
      rw [sn, h56, hz]
      exact congrArg iv (by omega)
    · rw [so i (by omega)]
      exact (hf 56 i (Or.inr (Or.inl rfl)) (Or.inl (by decide)) (Or.inr e)).trans (c2 i (by omega))
  · rw [gf 94 _ (by decide) (by decide) (Or.inl (by decide))]
    by_cases e : i = l
    · subst e
      rw [sn, so i (Nat.le_refl _), gn, hz]
      exact congrArg iv (by omega)
    · rw [so i (by omega), so (i + 1) (by omega)]
      exact c3 i (by omega)
  · rw [h55, g95]
    by_cases e : i = l
    · subst e
      rw [sn, so i (Nat.le_refl _)] at b
      rw [so i (Nat.le_refl _)]
      exact c5 k (by omega)
    · rw [so i (by omega), so (i + 1) (by omega)] at b
      rw [so i (by omega)]
      exact c4 i k (by omega) b
  · by_cases e : i = l
    · subst e
      rw [g97, hT t i (by omega), c9 i (by omega) (Nat.le_refl _)]
      simp
    · rw [gf 97 _ (by decide) (by decide) (Or.inr (by omega)), c8 i (by omega), hT t i (by omega), decide_eq_false e, Bool.and_false, Bool.or_false]
  · rw [hT t i a, c9 i a (by omega), decide_eq_false (show ¬ i = l by omega), Bool.and_false, Bool.or_false]
theorem tC_s {U : Int32 → Int32} {sz : Bool} (C : tC h g l 0 l st) (hl : l ≤ 29) (hu : ∀ u, h.2.2.2 54 5 = .int u → H.2.2.2 54 5 = .int (U u)) (hU : ∀ u i, i < 32 → bt (U u) i = (bt u i || (sz && decide (i = l)))) (hf : ∀ c j, cC c j → (c ≠ 54 ∨ j ≠ 5) → H.2.2.2 c j = h.2.2.2 c j) (g96 : G.2.2.2 96 (l + 3600) = iv (b2 sz)) (gf : ∀ c j, 94 ≤ c → c ≤ 97 → (c ≠ 96 ∨ j ≠ l + 3600) → G.2.2.2 c j = g.2.2.2 c j) : tC H G l 0 (l + 1) st := by
  obtain ⟨c0, c1, c2, c3, c4, c5, t, u, c6, c7, c8, c9, c10, c11⟩ := C
  have h55 : ∀ j, H.2.2.2 55 j = h.2.2.2 55 j := fun j => hf 55 j (Or.inl rfl) (Or.inl (by decide))
  have g95 : ∀ j, G.2.2.2 95 j = g.2.2.2 95 j := fun j => gf 95 j (by decide) (by decide) (Or.inl (by decide))
  refine ⟨c0, c1, fun i hi => (hf 56 i (Or.inr (Or.inl rfl)) (Or.inl (by decide))).trans (c2 i hi), fun i hi => (gf 94 _ (by decide) (by decide) (Or.inl (by decide))).trans (c3 i hi), fun i k a b => ?_, fun k a => absurd a (Nat.not_lt_zero k), t, U u, (hf 54 4 (Or.inr (Or.inr ⟨rfl, Or.inl rfl⟩)) (Or.inr (by decide))).trans c6, hu u c7, fun i hi => (gf 97 _ (by decide) (by decide) (Or.inl (by decide))).trans (c8 i hi), c9, fun i a b => ?_, fun i a b => ?_, ?_⟩
  · rw [h55, g95]
    exact c4 i k a b
  · by_cases e : i = l
    · subst e
      rw [g96, hU u i (by omega), c11.1 i (by omega) (Nat.le_refl _)]
      simp
    · rw [gf 96 _ (by decide) (by decide) (Or.inr (by omega)), c10 i (by omega) b, hU u i (by omega), decide_eq_false e, Bool.and_false, Bool.or_false]
  · rw [hU u i a, c11.1 i a (by omega), decide_eq_false (show ¬ i = l by omega), Bool.and_false, Bool.or_false]
  · rw [hU u 0 (by decide), c11.2, Bool.true_or]
theorem tC_30 (C : tC h g l 0 l st) (hl : l = 30) : tC h g l 0 (l + 1) st := by
  obtain ⟨c0, c1, c2, c3, c4, c5, t, u, c6, c7, c8, c9, c10, c11⟩ := C
  exact ⟨c0, c1, c2, c3, c4, c5, t, u, c6, c7, c8, c9, fun i a b => c10 i (by omega) b, fun i a b => c11.1 i a (by omega), c11.2⟩
theorem tC_0 (h0 : H.2.2.2 56 0 = iv 0) (h4 : H.2.2.2 54 4 = iv 0) (h5 : H.2.2.2 54 5 = iv 1) (g0 : G.2.2.2 96 3600 = iv 1) : tC H G 0 0 1 (fun _ => 0) := by
  refine ⟨rfl, fun i hi => absurd hi (Nat.not_lt_zero i), fun i hi => ?_, fun i hi => absurd hi (Nat.not_lt_zero i), fun i k hi => absurd hi (Nat.not_lt_zero i), fun i hi => absurd hi (Nat.not_lt_zero i), Int32.ofInt 0, Int32.ofInt 1, h4, h5, fun i hi => absurd hi (Nat.not_lt_zero i), fun i _ _ => ?_, fun i hi _ => ?_, fun i a b => ?_, ?_⟩
  · rw [show i = 0 by omega]
    exact h0
  · rw [show Int32.ofInt 0 = 0 by decide]
    exact b_0 i
  · rw [show i = 0 by omega, Nat.zero_add, g0, b_1 0 (by decide)]
    rfl
  · rw [b_1 i (by omega)]
    exact decide_eq_false (by omega)
  · rw [b_1 0 (by decide)]
    rfl
theorem bt_or {t : Int32} {l : Nat} (hl : l < 31) (i : Nat) (hi : i < 32) : bt (t ||| (Int32.ofInt 1 <<< (Int32.ofInt (l : Int) &&& 31))) i = (bt t i || (true && decide (i = l))) := by
  rw [b_or, Int32.ofInt_eq_ofNat, b_shl l (by omega) _ (by omega), b_1 (i - l) (by omega), Bool.true_and]
  congr 1
  by_cases e : i = l
  · subst e
    simp
  · by_cases c : l ≤ i
    · have : ¬ i - l = 0 := by omega
      simp [e, this]
    · simp [e, c]
theorem bt_no {t : Int32} {l : Nat} (i : Nat) : bt t i = (bt t i || (false && decide (i = l))) := by simp
end TCC
end
section
/-! EDITIONS: the text, each side -/
section EDT
variable {d : Nat} {h g h0 H : am_H} {b : Nat → Int} {L p s e s1 e1 l z : Nat} {k k1 v v1 w : Int} {x1 : Value}
theorem et_0 (hb : tz_r b) (hL : L ≤ 1600) (Sh : fS h) (C : eH H h0 b L s e k (l + 1) z) (t0 : tz_t b L p s e k v) (hl : l ≤ 29) (z1 : am_ev (d + 5) 45 0 (am_ent [.ref 54, .ref 41] 4) [] h (some (iv 1), H)) (q : k = 0) : am_ev (d + 6) 44 31 [.ref 54, .ref 41, iv ((l : Int))] [] h  (some (iv 1), H) := by
  obtain ⟨S, B, w1, w5, w6, w2, w3, w4, g3, ⟨t, g4⟩, ⟨u, g5⟩, gl, g0, sz, fr⟩ := C
  have f0 := t0.f5 hb
  refine am_ev.step (pc' := 32) rfl rfl ?_
  refine am_ev.step (pc' := 33) rfl rfl ?_
  refine ax_call (z := 45) (p' := 36) (as := [_, _]) rfl (Or.inr (Or.inl ⟨_, rfl⟩)) rfl rfl rfl rfl rfl rfl (Sh.ob rfl) rfl z1 rfl ?_
  refine fx_z_ne_T (pT := 41) rfl (by omega) rfl (by omega) ?_
  refine am_ev.step (pc' := 42) rfl rfl ?_
  refine ax_gf (p' := 45) rfl rfl (S.ob rfl) w2 ?_
  refine fx_z_ne_F (pF := 48) rfl (by omega) rfl q ?_
  refine am_ev.step (pc' := 49) rfl rfl ?_
  exact fx_reti rfl rfl rfl
theorem et_f (Sh : fS h) (z1 : am_ev (d + 5) 45 0 (am_ent [.ref 54, .ref 41] 4) [] h (some (iv 0), H)) : am_ev (d + 6) 44 31 [.ref 54, .ref 41, iv ((l : Int))] [] h  (some (iv 0), H) := by
  refine am_ev.step (pc' := 32) rfl rfl ?_
  refine am_ev.step (pc' := 33) rfl rfl ?_
  refine ax_call (z := 45) (p' := 36) (as := [_, _]) rfl (Or.inr (Or.inl ⟨_, rfl⟩)) rfl rfl rfl rfl rfl rfl (Sh.ob rfl) rfl z1 rfl ?_
  refine fx_z_ne_F (pF := 39) rfl (by omega) rfl (by omega) ?_
  refine am_ev.step (pc' := 40) rfl rfl ?_
  exact fx_reti rfl rfl rfl
theorem et_59 (hb : tz_r b) (hL : L ≤ 1600) (Sh : fS h) (C : eH H h0 b L s e k (l + 1) z) (t0 : tz_t b L p s e k v) (hl : l ≤ 29) (z1 : am_ev (d + 5) 45 0 (am_ent [.ref 54, .ref 41] 4) [] h (some (iv 1), H)) (q : k = 59) (t1 : tz_t b L e s1 e1 k1 v1) : ∃ K : am_H, eH K h0 b L s1 e1 k1 (l + 1) z ∧ ((∀ c j, cC c j → K.2.2.2 c j = H.2.2.2 c j)) ∧ ∀ x, am_ev (d + 6) 44 31 [.ref 54, .ref 41, iv ((l : Int) + 1)] [] K x → am_ev (d + 6) 44 31 [.ref 54, .ref 41, iv ((l : Int))] [] h x := by
  obtain ⟨S, B, w1, w5, w6, w2, w3, w4, g3, ⟨t, g4⟩, ⟨u, g5⟩, gl, g0, sz, fr⟩ := C
  have f0 := t0.f5 hb
  refine ⟨(am_put (am_put (am_put H 41 5 (iv ((s1 : Int)))) 41 6 (iv ((e1 : Int)))) 41 2 (iv (k1))), ⟨(((S.po rfl rfl).po rfl rfl).po rfl rfl), (((B.put (by decide)).put (by decide)).put (by decide)), (ax_put_o (Or.inr (by decide)) (ax_put_o (Or.inr (by decide)) (ax_put_o (Or.inr (by decide)) w1))), (ax_put_o (Or.inr (by decide)) (ax_put_o (Or.inr (by decide)) (ax_put_s _ _ _))), (ax_put_o (Or.inr (by decide)) (ax_put_s _ _ _)), (ax_put_s _ _ _), (ax_put_o (Or.inr (by decide)) (ax_put_o (Or.inr (by decide)) (ax_put_o (Or.inr (by decide)) w3))), (ax_put_o (Or.inr (by decide)) (ax_put_o (Or.inr (by decide)) (ax_put_o (Or.inr (by decide)) w4))), (ax_put_o (Or.inl (by decide)) (ax_put_o (Or.inl (by decide)) (ax_put_o (Or.inl (by decide)) g3))), ⟨_, (ax_put_o (Or.inl (by decide)) (ax_put_o (Or.inl (by decide)) (ax_put_o (Or.inl (by decide)) g4)))⟩, ⟨_, (ax_put_o (Or.inl (by decide)) (ax_put_o (Or.inl (by decide)) (ax_put_o (Or.inl (by decide)) g5)))⟩, (ax_put_o (Or.inl (by decide)) (ax_put_o (Or.inl (by decide)) (ax_put_o (Or.inl (by decide)) gl))), (ax_put_o (Or.inl (by decide)) (ax_put_o (Or.inl (by decide)) (ax_put_o (Or.inl (by decide)) g0))), sz, (fun c j n1 n2 n3 n4 => (ax_put_o (Or.inl n1) (ax_put_o (Or.inl n1) (ax_put_o (Or.inl n1) (fr c j n1 n2 n3 n4)))))⟩, (fun c j hc => by
    have hc : c = 55 ∨ c = 56 ∨ (c = 54 ∧ (j = 4 ∨ j = 5)) := hc
    exact (ax_put_o (by omega) (ax_put_o (by omega) (ax_put_o (by omega) rfl)))), fun x q9 => ?_⟩
  refine am_ev.step (pc' := 32) rfl rfl ?_
  refine am_ev.step (pc' := 33) rfl rfl ?_
  refine ax_call (z := 45) (p' := 36) (as := [_, _]) rfl (Or.inr (Or.inl ⟨_, rfl⟩)) rfl rfl rfl rfl rfl rfl (Sh.ob rfl) rfl z1 rfl ?_
  refine fx_z_ne_T (pT := 41) rfl (by omega) rfl (by omega) ?_
  refine am_ev.step (pc' := 42) rfl rfl ?_
  refine ax_gf (p' := 45) rfl rfl (S.ob rfl) w2 ?_
  refine fx_z_ne_T (pT := 50) rfl (by omega) rfl (by omega) ?_
  refine am_ev.step (pc' := 51) rfl rfl ?_
  refine ax_gf (p' := 54) rfl rfl (S.ob rfl) w2 ?_
  refine fx_bip (p' := 56) rfl rfl rfl ?_
  refine fx_c_ne_T (pT := 83) rfl (by omega) (by omega) rfl (by omega) ?_
  refine fx_inc (p' := 86) (e := ((l : Int) + 1)) (ls' := [.ref 54, .ref 41, iv ((l : Int) + 1)]) rfl rfl rfl (by omega) rfl ?_
  refine am_ev.step (pc' := 21) rfl rfl ?_
  refine am_ev.step (pc' := 22) rfl rfl ?_
  refine fx_bip (p' := 24) rfl rfl rfl ?_
  refine fx_c_gt_F (pF := 27) rfl (by omega) (by omega) rfl (by omega) ?_
  refine am_ev.step (pc' := 28) rfl rfl ?_
  refine ax_call (z := 21) (p' := 31) (as := [_]) rfl (Or.inr (Or.inl ⟨_, rfl⟩)) rfl rfl rfl rfl rfl rfl (S.ob rfl) rfl (tk_21w S B hb hL w1 w6 t1) rfl ?_
  exact q9
theorem et_47a (hb : tz_r b) (hL : L ≤ 1600) (Sh : fS h) (C : eH H h0 b L s e k (l + 1) z) (t0 : tz_t b L p s e k v) (hl : l ≤ 29) (z1 : am_ev (d + 5) 45 0 (am_ent [.ref 54, .ref 41] 4) [] h (some (iv 1), H)) (q : k = 47) (hl2 : l ≤ 28) (t1 : tz_t b L e s1 e1 k1 v1) : ∃ K : am_H, eH K h0 b L s1 e1 k1 (l + 1) z ∧ ((∀ u, H.2.2.2 54 5 = .int u → K.2.2.2 54 5 = .int (u ||| ((Int32.ofInt 1) <<< ((Int32.ofInt ((l : Int) + 1)) &&& 31)))) ∧ (∀ c j, cC c j → (c ≠ 54 ∨ j ≠ 5) → K.2.2.2 c j = H.2.2.2 c j)) ∧ ∀ x, am_ev (d + 6) 44 31 [.ref 54, .ref 41, iv ((l : Int) + 1)] [] K x → am_ev (d + 6) 44 31 [.ref 54, .ref 41, iv ((l : Int))] [] h x := by
  obtain ⟨S, B, w1, w5, w6, w2, w3, w4, g3, ⟨t, g4⟩, ⟨u, g5⟩, gl, g0, sz, fr⟩ := C
  have f0 := t0.f5 hb
  refine ⟨(am_put (am_put (am_put (am_put H 54 5 (.int (u ||| ((Int32.ofInt 1) <<< ((Int32.ofInt ((l : Int) + 1)) &&& 31))))) 41 5 (iv ((s1 : Int)))) 41 6 (iv ((e1 : Int)))) 41 2 (iv (k1))), ⟨((((S.po rfl rfl).po rfl rfl).po rfl rfl).po rfl rfl), ((((B.put (by decide)).put (by decide)).put (by decide)).put (by decide)), (ax_put_o (Or.inr (by decide)) (ax_put_o (Or.inr (by decide)) (ax_put_o (Or.inr (by decide)) (ax_put_o (Or.inl (by decide)) w1)))), (ax_put_o (Or.inr (by decide)) (ax_put_o (Or.inr (by decide)) (ax_put_s _ _ _))), (ax_put_o (Or.inr (by decide)) (ax_put_s _ _ _)), (ax_put_s _ _ _), (ax_put_o (Or.inr (by decide)) (ax_put_o (Or.inr (by decide)) (ax_put_o (Or.inr (by decide)) (ax_put_o (Or.inl (by decide)) w3)))), (ax_put_o (Or.inr (by decide)) (ax_put_o (Or.inr (by decide)) (ax_put_o (Or.inr (by decide)) (ax_put_o (Or.inl (by decide)) w4)))), (ax_put_o (Or.inl (by decide)) (ax_put_o (Or.inl (by decide)) (ax_put_o (Or.inl (by decide)) (ax_put_o (Or.inr (by decide)) g3)))), ⟨_, (ax_put_o (Or.inl (by decide)) (ax_put_o (Or.inl (by decide)) (ax_put_o (Or.inl (by decide)) (ax_put_o (Or.inr (by decide)) g4))))⟩, ⟨_, (ax_put_o (Or.inl (by decide)) (ax_put_o (Or.inl (by decide)) (ax_put_o (Or.inl (by decide)) (ax_put_s _ _ _))))⟩, (ax_put_o (Or.inl (by decide)) (ax_put_o (Or.inl (by decide)) (ax_put_o (Or.inl (by decide)) (ax_put_o (Or.inl (by decide)) gl)))), (ax_put_o (Or.inl (by decide)) (ax_put_o (Or.inl (by decide)) (ax_put_o (Or.inl (by decide)) (ax_put_o (Or.inl (by decide)) g0)))), sz, (fun c j n1 n2 n3 n4 => (ax_put_o (Or.inl n1) (ax_put_o (Or.inl n1) (ax_put_o (Or.inl n1) (ax_put_o (Or.inl n2) (fr c j n1 n2 n3 n4))))))⟩, ⟨(fun u1 y1 => by
    rw [g5] at y1
    cases y1
    exact (ax_put_o (Or.inl (by decide)) (ax_put_o (Or.inl (by decide)) (ax_put_o (Or.inl (by decide)) (ax_put_s _ _ _))))), (fun c j hc n1 => by
    have hc : c = 55 ∨ c = 56 ∨ (c = 54 ∧ (j = 4 ∨ j = 5)) := hc
    exact (ax_put_o (by omega) (ax_put_o (by omega) (ax_put_o (by omega) (ax_put_o (by omega) rfl)))))⟩, fun x q9 => ?_⟩
  refine am_ev.step (pc' := 32) rfl rfl ?_
  refine am_ev.step (pc' := 33) rfl rfl ?_
  refine ax_call (z := 45) (p' := 36) (as := [_, _]) rfl (Or.inr (Or.inl ⟨_, rfl⟩)) rfl rfl rfl rfl rfl rfl (Sh.ob rfl) rfl z1 rfl ?_
  refine fx_z_ne_T (pT := 41) rfl (by omega) rfl (by omega) ?_
  refine am_ev.step (pc' := 42) rfl rfl ?_
  refine ax_gf (p' := 45) rfl rfl (S.ob rfl) w2 ?_
  refine fx_z_ne_T (pT := 50) rfl (by omega) rfl (by omega) ?_
  refine am_ev.step (pc' := 51) rfl rfl ?_
  refine ax_gf (p' := 54) rfl rfl (S.ob rfl) w2 ?_
  refine fx_bip (p' := 56) rfl rfl rfl ?_
  refine fx_c_ne_F (pF := 59) rfl (by omega) (by omega) rfl (by omega) ?_
  refine am_ev.step (pc' := 60) rfl rfl ?_
  refine ax_gf (p' := 63) rfl rfl (S.ob rfl) g3 ?_
  refine fx_bip (p' := 65) rfl rfl rfl ?_
  refine fx_c_ge_F (pF := 68) rfl (by omega) (by omega) rfl (by omega) ?_
  refine am_ev.step (pc' := 69) rfl rfl ?_
  refine am_ev.step (pc' := 70) rfl rfl ?_
  refine ax_gf (p' := 73) rfl rfl (S.ob rfl) g5 ?_
  refine am_ev.step (pc' := 74) rfl rfl ?_
  refine am_ev.step (pc' := 75) rfl rfl ?_
  refine ax_gf (p' := 78) rfl rfl (S.ob rfl) g3 ?_
  refine am_ev.step (pc' := 79) rfl rfl ?_
  refine am_ev.step (pc' := 80) rfl rfl ?_
  refine ax_pf (p' := 83) rfl rfl (S.ob rfl) rfl ?_
  refine fx_inc (p' := 86) (e := ((l : Int) + 1)) (ls' := [.ref 54, .ref 41, iv ((l : Int) + 1)]) rfl rfl rfl (by omega) rfl ?_
  refine am_ev.step (pc' := 21) rfl rfl ?_
  refine am_ev.step (pc' := 22) rfl rfl ?_
  refine fx_bip (p' := 24) rfl rfl rfl ?_
  refine fx_c_gt_F (pF := 27) rfl (by omega) (by omega) rfl (by omega) ?_
  refine am_ev.step (pc' := 28) rfl rfl ?_
  refine ax_call (z := 21) (p' := 31) (as := [_]) rfl (Or.inr (Or.inl ⟨_, rfl⟩)) rfl rfl rfl rfl rfl rfl (fO (S.ob rfl)) rfl (tk_21w (S.po rfl rfl) (B.put (by decide)) hb hL (ax_put_o (Or.inl (by decide)) w1) (ax_put_o (Or.inl (by decide)) w6) t1) rfl ?_
  exact q9
theorem et_47b (hb : tz_r b) (hL : L ≤ 1600) (Sh : fS h) (C : eH H h0 b L s e k (l + 1) z) (t0 : tz_t b L p s e k v) (hl : l ≤ 29) (z1 : am_ev (d + 5) 45 0 (am_ent [.ref 54, .ref 41] 4) [] h (some (iv 1), H)) (q : k = 47) (hl2 : l = 29) (t1 : tz_t b L e s1 e1 k1 v1) : ∃ K : am_H, eH K h0 b L s1 e1 k1 (l + 1) z ∧ ((∀ c j, cC c j → K.2.2.2 c j = H.2.2.2 c j)) ∧ ∀ x, am_ev (d + 6) 44 31 [.ref 54, .ref 41, iv ((l : Int) + 1)] [] K x → am_ev (d + 6) 44 31 [.ref 54, .ref 41, iv ((l : Int))] [] h x := by
  obtain ⟨S, B, w1, w5, w6, w2, w3, w4, g3, ⟨t, g4⟩, ⟨u, g5⟩, gl, g0, sz, fr⟩ := C
  have f0 := t0.f5 hb
  refine ⟨(am_put (am_put (am_put H 41 5 (iv ((s1 : Int)))) 41 6 (iv ((e1 : Int)))) 41 2 (iv (k1))), ⟨(((S.po rfl rfl).po rfl rfl).po rfl rfl), (((B.put (by decide)).put (by decide)).put (by decide)), (ax_put_o (Or.inr (by decide)) (ax_put_o (Or.inr (by decide)) (ax_put_o (Or.inr (by decide)) w1))), (ax_put_o (Or.inr (by decide)) (ax_put_o (Or.inr (by decide)) (ax_put_s _ _ _))), (ax_put_o (Or.inr (by decide)) (ax_put_s _ _ _)), (ax_put_s _ _ _), (ax_put_o (Or.inr (by decide)) (ax_put_o (Or.inr (by decide)) (ax_put_o (Or.inr (by decide)) w3))), (ax_put_o (Or.inr (by decide)) (ax_put_o (Or.inr (by decide)) (ax_put_o (Or.inr (by decide)) w4))), (ax_put_o (Or.inl (by decide)) (ax_put_o (Or.inl (by decide)) (ax_put_o (Or.inl (by decide)) g3))), ⟨_, (ax_put_o (Or.inl (by decide)) (ax_put_o (Or.inl (by decide)) (ax_put_o (Or.inl (by decide)) g4)))⟩, ⟨_, (ax_put_o (Or.inl (by decide)) (ax_put_o (Or.inl (by decide)) (ax_put_o (Or.inl (by decide)) g5)))⟩, (ax_put_o (Or.inl (by decide)) (ax_put_o (Or.inl (by decide)) (ax_put_o (Or.inl (by decide)) gl))), (ax_put_o (Or.inl (by decide)) (ax_put_o (Or.inl (by decide)) (ax_put_o (Or.inl (by decide)) g0))), sz, (fun c j n1 n2 n3 n4 => (ax_put_o (Or.inl n1) (ax_put_o (Or.inl n1) (ax_put_o (Or.inl n1) (fr c j n1 n2 n3 n4)))))⟩, (fun c j hc => by
    have hc : c = 55 ∨ c = 56 ∨ (c = 54 ∧ (j = 4 ∨ j = 5)) := hc
    exact (ax_put_o (by omega) (ax_put_o (by omega) (ax_put_o (by omega) rfl)))), fun x q9 => ?_⟩
  refine am_ev.step (pc' := 32) rfl rfl ?_
  refine am_ev.step (pc' := 33) rfl rfl ?_
  refine ax_call (z := 45) (p' := 36) (as := [_, _]) rfl (Or.inr (Or.inl ⟨_, rfl⟩)) rfl rfl rfl rfl rfl rfl (Sh.ob rfl) rfl z1 rfl ?_
  refine fx_z_ne_T (pT := 41) rfl (by omega) rfl (by omega) ?_
  refine am_ev.step (pc' := 42) rfl rfl ?_
  refine ax_gf (p' := 45) rfl rfl (S.ob rfl) w2 ?_
  refine fx_z_ne_T (pT := 50) rfl (by omega) rfl (by omega) ?_
  refine am_ev.step (pc' := 51) rfl rfl ?_
  refine ax_gf (p' := 54) rfl rfl (S.ob rfl) w2 ?_
  refine fx_bip (p' := 56) rfl rfl rfl ?_
  refine fx_c_ne_F (pF := 59) rfl (by omega) (by omega) rfl (by omega) ?_
  refine am_ev.step (pc' := 60) rfl rfl ?_
  refine ax_gf (p' := 63) rfl rfl (S.ob rfl) g3 ?_
  refine fx_bip (p' := 65) rfl rfl rfl ?_
  refine fx_c_ge_T (pT := 83) rfl (by omega) (by omega) rfl (by omega) ?_
  refine fx_inc (p' := 86) (e := ((l : Int) + 1)) (ls' := [.ref 54, .ref 41, iv ((l : Int) + 1)]) rfl rfl rfl (by omega) rfl ?_
  refine am_ev.step (pc' := 21) rfl rfl ?_
  refine am_ev.step (pc' := 22) rfl rfl ?_
  refine fx_bip (p' := 24) rfl rfl rfl ?_
  refine fx_c_gt_F (pF := 27) rfl (by omega) (by omega) rfl (by omega) ?_
  refine am_ev.step (pc' := 28) rfl rfl ?_
  refine ax_call (z := 21) (p' := 31) (as := [_]) rfl (Or.inr (Or.inl ⟨_, rfl⟩)) rfl rfl rfl rfl rfl rfl (S.ob rfl) rfl (tk_21w S B hb hL w1 w6 t1) rfl ?_
  exact q9
theorem et_s (hb : tz_r b) (hL : L ≤ 1600) (S : fS h) (B : tb h 42 b L) (v1 : h.2.2.2 41 1 = iv L) (g0 : h.2.2.2 56 0 = iv 0) (t0 : tz_t b L 0 s e k v) : ∃ K : am_H, eH K h b L s e k 0 0 ∧ (K.2.2.2 54 4 = iv 0 ∧ K.2.2.2 54 5 = iv 1 ∧ (∀ c j, cC c j → (c ≠ 54 ∨ j ≠ 4) → (c ≠ 54 ∨ j ≠ 5) → K.2.2.2 c j = h.2.2.2 c j)) ∧ ∀ x, am_ev (d + 6) 44 31 [.ref 54, .ref 41, iv ((0 : Nat) : Int)] [] K x → am_ev (d + 6) 44 0 (am_ent [.ref 54, .ref 41] 3) [] h x := by
  refine ⟨(am_put (am_put (am_put (am_put (am_put (am_put (am_put (am_put (am_put h 54 3 (iv 0)) 54 4 (iv 0)) 54 5 (iv 1)) 41 6 (iv 0)) 41 3 (iv 0)) 41 4 (iv (-1))) 41 5 (iv ((s : Int)))) 41 6 (iv ((e : Int)))) 41 2 (iv (k))), ⟨(((((((((S.po rfl rfl).po rfl rfl).po rfl rfl).po rfl rfl).po rfl rfl).po rfl rfl).po rfl rfl).po rfl rfl).po rfl rfl), (((((((((B.put (by decide)).put (by decide)).put (by decide)).put (by decide)).put (by decide)).put (by decide)).put (by decide)).put (by decide)).put (by decide)), (ax_put_o (Or.inr (by decide)) (ax_put_o (Or.inr (by decide)) (ax_put_o (Or.inr (by decide)) (ax_put_o (Or.inr (by decide)) (ax_put_o (Or.inr (by decide)) (ax_put_o (Or.inr (by decide)) (ax_put_o (Or.inl (by decide)) (ax_put_o (Or.inl (by decide)) (ax_put_o (Or.inl (by decide)) v1))))))))), (ax_put_o (Or.inr (by decide)) (ax_put_o (Or.inr (by decide)) (ax_put_s _ _ _))), (ax_put_o (Or.inr (by decide)) (ax_put_s _ _ _)), (ax_put_s _ _ _), (ax_put_o (Or.inr (by decide)) (ax_put_o (Or.inr (by decide)) (ax_put_o (Or.inr (by decide)) (ax_put_o (Or.inr (by decide)) (ax_put_s _ _ _))))), (ax_put_o (Or.inr (by decide)) (ax_put_o (Or.inr (by decide)) (ax_put_o (Or.inr (by decide)) (ax_put_s _ _ _)))), (ax_put_o (Or.inl (by decide)) (ax_put_o (Or.inl (by decide)) (ax_put_o (Or.inl (by decide)) (ax_put_o (Or.inl (by decide)) (ax_put_o (Or.inl (by decide)) (ax_put_o (Or.inl (by decide)) (ax_put_o (Or.inr (by decide)) (ax_put_o (Or.inr (by decide)) (ax_put_s _ _ _))))))))), ⟨_, (ax_put_o (Or.inl (by decide)) (ax_put_o (Or.inl (by decide)) (ax_put_o (Or.inl (by decide)) (ax_put_o (Or.inl (by decide)) (ax_put_o (Or.inl (by decide)) (ax_put_o (Or.inl (by decide)) (ax_put_o (Or.inr (by decide)) (ax_put_s _ _ _))))))))⟩, ⟨_, (ax_put_o (Or.inl (by decide)) (ax_put_o (Or.inl (by decide)) (ax_put_o (Or.inl (by decide)) (ax_put_o (Or.inl (by decide)) (ax_put_o (Or.inl (by decide)) (ax_put_o (Or.inl (by decide)) (ax_put_s _ _ _)))))))⟩, (ax_put_o (Or.inl (by decide)) (ax_put_o (Or.inl (by decide)) (ax_put_o (Or.inl (by decide)) (ax_put_o (Or.inl (by decide)) (ax_put_o (Or.inl (by decide)) (ax_put_o (Or.inl (by decide)) (ax_put_o (Or.inl (by decide)) (ax_put_o (Or.inl (by decide)) (ax_put_o (Or.inl (by decide)) g0))))))))), (ax_put_o (Or.inl (by decide)) (ax_put_o (Or.inl (by decide)) (ax_put_o (Or.inl (by decide)) (ax_put_o (Or.inl (by decide)) (ax_put_o (Or.inl (by decide)) (ax_put_o (Or.inl (by decide)) (ax_put_o (Or.inl (by decide)) (ax_put_o (Or.inl (by decide)) (ax_put_o (Or.inl (by decide)) g0))))))))), ⟨rfl, rfl⟩, (fun c j n1 n2 n3 n4 => (ax_put_o (Or.inl n1) (ax_put_o (Or.inl n1) (ax_put_o (Or.inl n1) (ax_put_o (Or.inl n1) (ax_put_o (Or.inl n1) (ax_put_o (Or.inl n1) (ax_put_o (Or.inl n2) (ax_put_o (Or.inl n2) (ax_put_o (Or.inl n2) rfl))))))))))⟩, ⟨(ax_put_o (Or.inl (by decide)) (ax_put_o (Or.inl (by decide)) (ax_put_o (Or.inl (by decide)) (ax_put_o (Or.inl (by decide)) (ax_put_o (Or.inl (by decide)) (ax_put_o (Or.inl (by decide)) (ax_put_o (Or.inr (by decide)) (ax_put_s _ _ _)))))))), (ax_put_o (Or.inl (by decide)) (ax_put_o (Or.inl (by decide)) (ax_put_o (Or.inl (by decide)) (ax_put_o (Or.inl (by decide)) (ax_put_o (Or.inl (by decide)) (ax_put_o (Or.inl (by decide)) (ax_put_s _ _ _))))))), (fun c j hc n1 n2 => by
    have hc : c = 55 ∨ c = 56 ∨ (c = 54 ∧ (j = 4 ∨ j = 5)) := hc
    exact (ax_put_o (by omega) (ax_put_o (by omega) (ax_put_o (by omega) (ax_put_o (by omega) (ax_put_o (by omega) (ax_put_o (by omega) (ax_put_o (by omega) (ax_put_o (by omega) (ax_put_o (by omega) rfl))))))))))⟩, fun x q9 => ?_⟩
  show am_ev (d + 6) 44 0 [.ref 54, .ref 41, am_ph] [] h x
  refine am_ev.step (pc' := 1) rfl rfl ?_
  refine am_ev.step (pc' := 2) rfl rfl ?_
  refine ax_pf (p' := 5) rfl rfl (S.ob rfl) rfl ?_
  refine am_ev.step (pc' := 6) rfl rfl ?_
  refine am_ev.step (pc' := 7) rfl rfl ?_
  refine ax_pf (p' := 10) rfl rfl (fO (S.ob rfl)) rfl ?_
  refine am_ev.step (pc' := 11) rfl rfl ?_
  refine am_ev.step (pc' := 12) rfl rfl ?_
  refine ax_pf (p' := 15) rfl rfl (fO (fO (S.ob rfl))) rfl ?_
  refine am_ev.step (pc' := 16) rfl rfl ?_
  refine ax_call (z := 20) (p' := 19) (as := [_]) rfl (Or.inr (Or.inl ⟨_, rfl⟩)) rfl rfl rfl rfl rfl rfl (fO (fO (fO (S.ob rfl)))) rfl (rl_20 (((S.po rfl rfl).po rfl rfl).po rfl rfl)) rfl ?_
  refine am_ev.step (pc' := 20) rfl rfl ?_
  refine am_ev.step (pc' := 21) (ls' := [.ref 54, .ref 41, iv 0]) rfl rfl ?_
  refine am_ev.step (pc' := 22) rfl rfl ?_
  refine fx_bip (p' := 24) rfl rfl rfl ?_
  refine fx_c_gt_F (pF := 27) rfl (by omega) (by omega) rfl (by omega) ?_
  refine am_ev.step (pc' := 28) rfl rfl ?_
  refine ax_call (z := 21) (p' := 31) (as := [_]) rfl (Or.inr (Or.inl ⟨_, rfl⟩)) rfl rfl rfl rfl rfl rfl (fO (fO (fO (fO (fO (fO (S.ob rfl))))))) rfl (tk_21w ((((((S.po rfl rfl).po rfl rfl).po rfl rfl).po rfl rfl).po rfl rfl).po rfl rfl) ((((((B.put (by decide)).put (by decide)).put (by decide)).put (by decide)).put (by decide)).put (by decide)) hb hL (ax_put_o (Or.inr (by decide)) (ax_put_o (Or.inr (by decide)) (ax_put_o (Or.inr (by decide)) (ax_put_o (Or.inl (by decide)) (ax_put_o (Or.inl (by decide)) (ax_put_o (Or.inl (by decide)) v1)))))) (ax_put_o (Or.inr (by decide)) (ax_put_o (Or.inr (by decide)) (ax_put_s _ _ _))) t0) rfl ?_
  exact q9
theorem eq_0 (hb : tz_r b) (hL : L ≤ 1600) (C : mE h h0 b L p s e k v w l) (q : k = 0) : am_ev (d + 6) 190 24 [.ref 78, x1] [] h  (none, h) := by
  obtain ⟨S, B, w3, t0, w4, w5, w6, w7, ya, yb, f8, f9, zt, gl, kt, fr⟩ := C
  have f0 := t0.f5 hb
  have hr0 := tH_r (k := k) ⟨f0.2.2.2.1, f0.2.2.2.2⟩
  clear ya yb
  have y0 : tH k = 0 := by
    rw [q]
    rfl
  refine am_ev.step (pc' := 25) rfl rfl ?_
  refine ax_gf (p' := 28) rfl rfl (S.ob rfl) w6 ?_
  refine fx_z_eq_T (pT := 102) rfl (by omega) rfl y0 ?_
  exact am_ev.retv rfl rfl
theorem eq_b (hb : tz_r b) (hL : L ≤ 1600) (C : mE h h0 b L p s e k v w l) (r0 : k ≠ 0) (r59 : k ≠ 59) (r47 : k ≠ 47) : ∃ H : am_H, am_ev (d + 6) 190 24 [.ref 78, x1] [] h  (some (.retAddr (79 + 1)), H) ∧ mEX H h0 1 s := by
  obtain ⟨S, B, w3, t0, w4, w5, w6, w7, ya, yb, f8, f9, zt, gl, kt, fr⟩ := C
  have f0 := t0.f5 hb
  have hr0 := tH_r (k := k) ⟨f0.2.2.2.1, f0.2.2.2.2⟩
  have y0 : tH k ≠ 0 := tH_0 ⟨f0.2.2.2.1, f0.2.2.2.2⟩ r0
  refine ⟨(am_put (am_put h 78 8 (iv 1)) 78 9 (iv ((s : Int)))), ?_, ⟨((S.po rfl rfl).po rfl rfl), (ax_put_o (Or.inr (by decide)) (ax_put_s _ _ _)), (ax_put_s _ _ _), (ax_put_o (Or.inr (by decide)) (ax_put_o (Or.inr (by decide)) zt)), (fun c j n1 n2 n3 => (ax_put_o (by omega) (ax_put_o (by omega) (fr c j n1 n2 n3))))⟩⟩
  refine am_ev.step (pc' := 25) rfl rfl ?_
  refine ax_gf (p' := 28) rfl rfl (S.ob rfl) w6 ?_
  refine fx_z_eq_F (pF := 31) rfl (by omega) rfl y0 ?_
  refine am_ev.step (pc' := 32) rfl rfl ?_
  refine fx_bip (p' := 34) rfl rfl rfl ?_
  refine ax_call (z := 182) (p' := 37) (as := [_, _]) rfl (Or.inr (Or.inl ⟨_, rfl⟩)) rfl rfl rfl rfl rfl rfl (S.ob rfl) rfl (md_182f (s := s) (k := k) (f := 47) S w4 w6 ⟨f0.2.2.2.1, f0.2.2.2.2⟩ w7 yb (by omega) (t0.h4 hb) r47) rfl ?_
  refine am_ev.step (pc' := 38) (ls' := [.ref 78, iv 0]) rfl rfl ?_
  refine am_ev.step (pc' := 39) rfl rfl ?_
  refine am_ev.step (pc' := 40) rfl rfl ?_
  refine fx_z_ne_F (pF := 43) rfl (by omega) rfl (by omega) ?_
  refine am_ev.step (pc' := 44) rfl rfl ?_
  refine fx_bip (p' := 46) rfl rfl rfl ?_
  refine ax_call (z := 182) (p' := 49) (as := [_, _]) rfl (Or.inr (Or.inl ⟨_, rfl⟩)) rfl rfl rfl rfl rfl rfl (S.ob rfl) rfl (md_182f (s := s) (k := k) (f := 59) S w4 w6 ⟨f0.2.2.2.1, f0.2.2.2.2⟩ w7 yb (by omega) (t0.h4 hb) r59) rfl ?_
  refine fx_z_eq_T (pT := 56) rfl (by omega) rfl (by omega) ?_
  refine am_ev.step (pc' := 57) rfl rfl ?_
  refine am_ev.step (pc' := 58) rfl rfl ?_
  refine ax_callT (a := 79) (z := 177) (as := [_, _, _]) rfl (Or.inr (Or.inl ⟨_, rfl⟩)) rfl rfl rfl rfl rfl rfl (S.ob rfl) (md_177f (s := s) S w4) rfl rfl (fO (fO (S.ob rfl))) rfl
theorem eq_59a (hb : tz_r b) (hL : L ≤ 1600) (C : mE h h0 b L p s e k v w l) (q : k = 59) (hl : l ≤ 29) (t1 : tz_t b L e s1 e1 k1 v1) : ∃ H : am_H, mE H h0 b L e s1 e1 k1 v1 (tV b L s1 w) l ∧ (H.2.2.2 96 (l + 3600) = iv 0 ∧ (∀ c j, 94 ≤ c → c ≤ 97 → (c ≠ 96 ∨ j ≠ (l + 3600)) → H.2.2.2 c j = h.2.2.2 c j)) ∧ ∀ x, am_ev (d + 6) 190 95 [.ref 78, iv 0] [] H x → am_ev (d + 6) 190 24 [.ref 78, x1] [] h x := by
  obtain ⟨S, B, w3, t0, w4, w5, w6, w7, ya, yb, f8, f9, zt, gl, kt, fr⟩ := C
  have f0 := t0.f5 hb
  have hr0 := tH_r (k := k) ⟨f0.2.2.2.1, f0.2.2.2.2⟩
  have y0 : tH k ≠ 0 := tH_0 ⟨f0.2.2.2.1, f0.2.2.2.2⟩ (by omega)
  have r : k ≠ 47 := by omega
  refine ⟨(am_put (am_put (am_put (am_put (am_put h 78 4 (iv ((s1 : Int)))) 78 7 (iv ((tV b L s1 (w))))) 78 5 (iv ((e1 : Int)))) 78 6 (iv ((tH k1)))) 96 (l + 3600) (iv 0)), ⟨(((((S.po rfl rfl).po rfl rfl).po rfl rfl).po rfl rfl).pa rfl), (((((B.put (by decide)).put (by decide)).put (by decide)).put (by decide)).put (by decide)), (ax_put_o (Or.inl (by decide)) (ax_put_o (Or.inr (by decide)) (ax_put_o (Or.inr (by decide)) (ax_put_o (Or.inr (by decide)) (ax_put_o (Or.inr (by decide)) w3))))), t1, (ax_put_o (Or.inl (by decide)) (ax_put_o (Or.inr (by decide)) (ax_put_o (Or.inr (by decide)) (ax_put_o (Or.inr (by decide)) (ax_put_s _ _ _))))), (ax_put_o (Or.inl (by decide)) (ax_put_o (Or.inr (by decide)) (ax_put_s _ _ _))), (ax_put_o (Or.inl (by decide)) (ax_put_s _ _ _)), (ax_put_o (Or.inl (by decide)) (ax_put_o (Or.inr (by decide)) (ax_put_o (Or.inr (by decide)) (ax_put_s _ _ _)))), (t1.v _).1, (t1.v _).2, (ax_put_o (Or.inl (by decide)) (ax_put_o (Or.inr (by decide)) (ax_put_o (Or.inr (by decide)) (ax_put_o (Or.inr (by decide)) (ax_put_o (Or.inr (by decide)) f8))))), (ax_put_o (Or.inl (by decide)) (ax_put_o (Or.inr (by decide)) (ax_put_o (Or.inr (by decide)) (ax_put_o (Or.inr (by decide)) (ax_put_o (Or.inr (by decide)) f9))))), (ax_put_o (Or.inl (by decide)) (ax_put_o (Or.inr (by decide)) (ax_put_o (Or.inr (by decide)) (ax_put_o (Or.inr (by decide)) (ax_put_o (Or.inr (by decide)) zt))))), (ax_put_o (Or.inl (by decide)) (ax_put_o (Or.inl (by decide)) (ax_put_o (Or.inl (by decide)) (ax_put_o (Or.inl (by decide)) (ax_put_o (Or.inl (by decide)) gl))))), (((((kt.po (by decide)).po (by decide)).po (by decide)).po (by decide)).p96 (by decide)), (fun c j n1 n2 n3 => (ax_put_o (by omega) (ax_put_o (by omega) (ax_put_o (by omega) (ax_put_o (by omega) (ax_put_o (by omega) (fr c j n1 n2 n3)))))))⟩, ⟨(ax_put_s _ _ _), (fun c j hc hc2 n1 => by
    exact (ax_put_o (by omega) (ax_put_o (by omega) (ax_put_o (by omega) (ax_put_o (by omega) (ax_put_o (by omega) rfl))))))⟩, fun x q9 => ?_⟩
  refine am_ev.step (pc' := 25) rfl rfl ?_
  refine ax_gf (p' := 28) rfl rfl (S.ob rfl) w6 ?_
  refine fx_z_eq_F (pF := 31) rfl (by omega) rfl y0 ?_
  refine am_ev.step (pc' := 32) rfl rfl ?_
  refine fx_bip (p' := 34) rfl rfl rfl ?_
  refine ax_call (z := 182) (p' := 37) (as := [_, _]) rfl (Or.inr (Or.inl ⟨_, rfl⟩)) rfl rfl rfl rfl rfl rfl (S.ob rfl) rfl (md_182f (s := s) (k := k) (f := 47) S w4 w6 ⟨f0.2.2.2.1, f0.2.2.2.2⟩ w7 yb (by omega) (t0.h4 hb) r) rfl ?_
  refine am_ev.step (pc' := 38) (ls' := [.ref 78, iv 0]) rfl rfl ?_
  refine am_ev.step (pc' := 39) rfl rfl ?_
  refine am_ev.step (pc' := 40) rfl rfl ?_
  refine fx_z_ne_F (pF := 43) rfl (by omega) rfl (by omega) ?_
  refine am_ev.step (pc' := 44) rfl rfl ?_
  refine fx_bip (p' := 46) rfl rfl rfl ?_
  refine ax_call (z := 182) (p' := 49) (as := [_, _]) rfl (Or.inr (Or.inl ⟨_, rfl⟩)) rfl rfl rfl rfl rfl rfl (S.ob rfl) rfl (md_182t (s := s) (k := k) (f := 59) S w4 w6 ⟨f0.2.2.2.1, f0.2.2.2.2⟩ w7 yb (by omega) q) rfl ?_
  refine fx_z_eq_F (pF := 52) rfl (by omega) rfl (by omega) ?_
  refine am_ev.step (pc' := 53) rfl rfl ?_
  refine am_ev.step (pc' := 57) rfl rfl ?_
  refine am_ev.step (pc' := 58) rfl rfl ?_
  refine ax_call (z := 177) (p' := 61) (as := [_, _, _]) rfl (Or.inr (Or.inl ⟨_, rfl⟩)) rfl rfl rfl rfl rfl rfl (S.ob rfl) rfl md_177t rfl ?_
  refine am_ev.step (pc' := 62) rfl rfl ?_
  refine ax_call (z := 170) (p' := 65) (as := [_]) rfl (Or.inr (Or.inl ⟨_, rfl⟩)) rfl rfl rfl rfl rfl rfl (S.ob rfl) rfl (md_170 S B hb hL w3 w5 w7 t1) rfl ?_
  refine am_ev.step (pc' := 66) rfl rfl ?_
  refine ax_gf (p' := 69) rfl rfl (fO (fO (fO (fO (S.ob rfl))))) (ax_put_o (Or.inr (by decide)) (ax_put_o (Or.inr (by decide)) (ax_put_o (Or.inr (by decide)) (ax_put_o (Or.inr (by decide)) (S.rf rfl rfl))))) ?_
  refine fx_bip (p' := 71) rfl rfl rfl ?_
  refine ax_iaload (p' := 72) rfl rfl (((((S.po rfl rfl).po rfl rfl).po rfl rfl).po rfl rfl).rd (k := 120) rfl rfl rfl rfl rfl (by decide) (ax_put_o (Or.inl (by decide)) (ax_put_o (Or.inl (by decide)) (ax_put_o (Or.inl (by decide)) (ax_put_o (Or.inl (by decide)) gl))))) ?_
  refine fx_bip (p' := 74) rfl rfl rfl ?_
  refine fx_c_ge_F (pF := 77) rfl (by omega) (by omega) rfl (by omega) ?_
  refine am_ev.step (pc' := 78) rfl rfl ?_
  refine ax_gf (p' := 81) rfl rfl (fO (fO (fO (fO (S.ob rfl))))) (ax_put_o (Or.inr (by decide)) (ax_put_o (Or.inr (by decide)) (ax_put_o (Or.inr (by decide)) (ax_put_o (Or.inr (by decide)) (S.rf rfl rfl))))) ?_
  refine fx_bip (p' := 83) rfl rfl rfl ?_
  refine am_ev.step (pc' := 84) rfl rfl ?_
  refine ax_gf (p' := 87) rfl rfl (fO (fO (fO (fO (S.ob rfl))))) (ax_put_o (Or.inr (by decide)) (ax_put_o (Or.inr (by decide)) (ax_put_o (Or.inr (by decide)) (ax_put_o (Or.inr (by decide)) (S.rf rfl rfl))))) ?_
  refine fx_bip (p' := 89) rfl rfl rfl ?_
  refine ax_iaload (p' := 90) rfl rfl (((((S.po rfl rfl).po rfl rfl).po rfl rfl).po rfl rfl).rd (k := 120) rfl rfl rfl rfl rfl (by decide) (ax_put_o (Or.inl (by decide)) (ax_put_o (Or.inl (by decide)) (ax_put_o (Or.inl (by decide)) (ax_put_o (Or.inl (by decide)) gl))))) ?_
  refine ax_call (z := 191) (p' := 93) (as := [_, _]) rfl (Or.inl ⟨_, rfl⟩) rfl rfl rfl rfl rfl rfl rfl rfl ed_191 rfl ?_
  refine am_ev.step (pc' := 94) rfl rfl ?_
  refine ax_bas2 (p' := 95) rfl rfl (((((S.po rfl rfl).po rfl rfl).po rfl rfl).po rfl rfl).wr (k := (l + 3600)) rfl rfl rfl (by omega) (by omega)) (((((S.po rfl rfl).po rfl rfl).po rfl rfl).po rfl rfl).sb rfl rfl) (by decide) ?_
  exact q9
theorem eq_59b (hb : tz_r b) (hL : L ≤ 1600) (C : mE h h0 b L p s e k v w l) (q : k = 59) (hl : l = 30) (t1 : tz_t b L e s1 e1 k1 v1) : ∃ H : am_H, mE H h0 b L e s1 e1 k1 v1 (tV b L s1 w) l ∧ ((∀ c j, 94 ≤ c → c ≤ 97 → H.2.2.2 c j = h.2.2.2 c j)) ∧ ∀ x, am_ev (d + 6) 190 95 [.ref 78, iv 0] [] H x → am_ev (d + 6) 190 24 [.ref 78, x1] [] h x := by
  obtain ⟨S, B, w3, t0, w4, w5, w6, w7, ya, yb, f8, f9, zt, gl, kt, fr⟩ := C
  have f0 := t0.f5 hb
  have hr0 := tH_r (k := k) ⟨f0.2.2.2.1, f0.2.2.2.2⟩
  have y0 : tH k ≠ 0 := tH_0 ⟨f0.2.2.2.1, f0.2.2.2.2⟩ (by omega)
  have r : k ≠ 47 := by omega
  refine ⟨(am_put (am_put (am_put (am_put h 78 4 (iv ((s1 : Int)))) 78 7 (iv ((tV b L s1 (w))))) 78 5 (iv ((e1 : Int)))) 78 6 (iv ((tH k1)))), ⟨((((S.po rfl rfl).po rfl rfl).po rfl rfl).po rfl rfl), ((((B.put (by decide)).put (by decide)).put (by decide)).put (by decide)), (ax_put_o (Or.inr (by decide)) (ax_put_o (Or.inr (by decide)) (ax_put_o (Or.inr (by decide)) (ax_put_o (Or.inr (by decide)) w3)))), t1, (ax_put_o (Or.inr (by decide)) (ax_put_o (Or.inr (by decide)) (ax_put_o (Or.inr (by decide)) (ax_put_s _ _ _)))), (ax_put_o (Or.inr (by decide)) (ax_put_s _ _ _)), (ax_put_s _ _ _), (ax_put_o (Or.inr (by decide)) (ax_put_o (Or.inr (by decide)) (ax_put_s _ _ _))), (t1.v _).1, (t1.v _).2, (ax_put_o (Or.inr (by decide)) (ax_put_o (Or.inr (by decide)) (ax_put_o (Or.inr (by decide)) (ax_put_o (Or.inr (by decide)) f8)))), (ax_put_o (Or.inr (by decide)) (ax_put_o (Or.inr (by decide)) (ax_put_o (Or.inr (by decide)) (ax_put_o (Or.inr (by decide)) f9)))), (ax_put_o (Or.inr (by decide)) (ax_put_o (Or.inr (by decide)) (ax_put_o (Or.inr (by decide)) (ax_put_o (Or.inr (by decide)) zt)))), (ax_put_o (Or.inl (by decide)) (ax_put_o (Or.inl (by decide)) (ax_put_o (Or.inl (by decide)) (ax_put_o (Or.inl (by decide)) gl)))), ((((kt.po (by decide)).po (by decide)).po (by decide)).po (by decide)), (fun c j n1 n2 n3 => (ax_put_o (by omega) (ax_put_o (by omega) (ax_put_o (by omega) (ax_put_o (by omega) (fr c j n1 n2 n3))))))⟩, (fun c j hc hc2 => by
    exact (ax_put_o (by omega) (ax_put_o (by omega) (ax_put_o (by omega) (ax_put_o (by omega) rfl))))), fun x q9 => ?_⟩
  refine am_ev.step (pc' := 25) rfl rfl ?_
  refine ax_gf (p' := 28) rfl rfl (S.ob rfl) w6 ?_
  refine fx_z_eq_F (pF := 31) rfl (by omega) rfl y0 ?_
  refine am_ev.step (pc' := 32) rfl rfl ?_
  refine fx_bip (p' := 34) rfl rfl rfl ?_
  refine ax_call (z := 182) (p' := 37) (as := [_, _]) rfl (Or.inr (Or.inl ⟨_, rfl⟩)) rfl rfl rfl rfl rfl rfl (S.ob rfl) rfl (md_182f (s := s) (k := k) (f := 47) S w4 w6 ⟨f0.2.2.2.1, f0.2.2.2.2⟩ w7 yb (by omega) (t0.h4 hb) r) rfl ?_
  refine am_ev.step (pc' := 38) (ls' := [.ref 78, iv 0]) rfl rfl ?_
  refine am_ev.step (pc' := 39) rfl rfl ?_
  refine am_ev.step (pc' := 40) rfl rfl ?_
  refine fx_z_ne_F (pF := 43) rfl (by omega) rfl (by omega) ?_
  refine am_ev.step (pc' := 44) rfl rfl ?_
  refine fx_bip (p' := 46) rfl rfl rfl ?_
  refine ax_call (z := 182) (p' := 49) (as := [_, _]) rfl (Or.inr (Or.inl ⟨_, rfl⟩)) rfl rfl rfl rfl rfl rfl (S.ob rfl) rfl (md_182t (s := s) (k := k) (f := 59) S w4 w6 ⟨f0.2.2.2.1, f0.2.2.2.2⟩ w7 yb (by omega) q) rfl ?_
  refine fx_z_eq_F (pF := 52) rfl (by omega) rfl (by omega) ?_
  refine am_ev.step (pc' := 53) rfl rfl ?_
  refine am_ev.step (pc' := 57) rfl rfl ?_
  refine am_ev.step (pc' := 58) rfl rfl ?_
  refine ax_call (z := 177) (p' := 61) (as := [_, _, _]) rfl (Or.inr (Or.inl ⟨_, rfl⟩)) rfl rfl rfl rfl rfl rfl (S.ob rfl) rfl md_177t rfl ?_
  refine am_ev.step (pc' := 62) rfl rfl ?_
  refine ax_call (z := 170) (p' := 65) (as := [_]) rfl (Or.inr (Or.inl ⟨_, rfl⟩)) rfl rfl rfl rfl rfl rfl (S.ob rfl) rfl (md_170 S B hb hL w3 w5 w7 t1) rfl ?_
  refine am_ev.step (pc' := 66) rfl rfl ?_
  refine ax_gf (p' := 69) rfl rfl (fO (fO (fO (fO (S.ob rfl))))) (ax_put_o (Or.inr (by decide)) (ax_put_o (Or.inr (by decide)) (ax_put_o (Or.inr (by decide)) (ax_put_o (Or.inr (by decide)) (S.rf rfl rfl))))) ?_
  refine fx_bip (p' := 71) rfl rfl rfl ?_
  refine ax_iaload (p' := 72) rfl rfl (((((S.po rfl rfl).po rfl rfl).po rfl rfl).po rfl rfl).rd (k := 120) rfl rfl rfl rfl rfl (by decide) (ax_put_o (Or.inl (by decide)) (ax_put_o (Or.inl (by decide)) (ax_put_o (Or.inl (by decide)) (ax_put_o (Or.inl (by decide)) gl))))) ?_
  refine fx_bip (p' := 74) rfl rfl rfl ?_
  refine fx_c_ge_T (pT := 95) rfl (by omega) (by omega) rfl (by omega) ?_
  exact q9
theorem eq_47a (hb : tz_r b) (hL : L ≤ 1600) (C : mE h h0 b L p s e k v w l) (q : k = 47) (hl : l ≤ 29) (t1 : tz_t b L e s1 e1 k1 v1) : ∃ H : am_H, mE H h0 b L e s1 e1 k1 v1 (tV b L s1 w) l ∧ (H.2.2.2 96 (l + 3600) = iv 1 ∧ (∀ c j, 94 ≤ c → c ≤ 97 → (c ≠ 96 ∨ j ≠ (l + 3600)) → H.2.2.2 c j = h.2.2.2 c j)) ∧ ∀ x, am_ev (d + 6) 190 95 [.ref 78, iv 1] [] H x → am_ev (d + 6) 190 24 [.ref 78, x1] [] h x := by
  obtain ⟨S, B, w3, t0, w4, w5, w6, w7, ya, yb, f8, f9, zt, gl, kt, fr⟩ := C
  have f0 := t0.f5 hb
  have hr0 := tH_r (k := k) ⟨f0.2.2.2.1, f0.2.2.2.2⟩
  have y0 : tH k ≠ 0 := tH_0 ⟨f0.2.2.2.1, f0.2.2.2.2⟩ (by omega)
  refine ⟨(am_put (am_put (am_put (am_put (am_put h 78 4 (iv ((s1 : Int)))) 78 7 (iv ((tV b L s1 (w))))) 78 5 (iv ((e1 : Int)))) 78 6 (iv ((tH k1)))) 96 (l + 3600) (iv 1)), ⟨(((((S.po rfl rfl).po rfl rfl).po rfl rfl).po rfl rfl).pa rfl), (((((B.put (by decide)).put (by decide)).put (by decide)).put (by decide)).put (by decide)), (ax_put_o (Or.inl (by decide)) (ax_put_o (Or.inr (by decide)) (ax_put_o (Or.inr (by decide)) (ax_put_o (Or.inr (by decide)) (ax_put_o (Or.inr (by decide)) w3))))), t1, (ax_put_o (Or.inl (by decide)) (ax_put_o (Or.inr (by decide)) (ax_put_o (Or.inr (by decide)) (ax_put_o (Or.inr (by decide)) (ax_put_s _ _ _))))), (ax_put_o (Or.inl (by decide)) (ax_put_o (Or.inr (by decide)) (ax_put_s _ _ _))), (ax_put_o (Or.inl (by decide)) (ax_put_s _ _ _)), (ax_put_o (Or.inl (by decide)) (ax_put_o (Or.inr (by decide)) (ax_put_o (Or.inr (by decide)) (ax_put_s _ _ _)))), (t1.v _).1, (t1.v _).2, (ax_put_o (Or.inl (by decide)) (ax_put_o (Or.inr (by decide)) (ax_put_o (Or.inr (by decide)) (ax_put_o (Or.inr (by decide)) (ax_put_o (Or.inr (by decide)) f8))))), (ax_put_o (Or.inl (by decide)) (ax_put_o (Or.inr (by decide)) (ax_put_o (Or.inr (by decide)) (ax_put_o (Or.inr (by decide)) (ax_put_o (Or.inr (by decide)) f9))))), (ax_put_o (Or.inl (by decide)) (ax_put_o (Or.inr (by decide)) (ax_put_o (Or.inr (by decide)) (ax_put_o (Or.inr (by decide)) (ax_put_o (Or.inr (by decide)) zt))))), (ax_put_o (Or.inl (by decide)) (ax_put_o (Or.inl (by decide)) (ax_put_o (Or.inl (by decide)) (ax_put_o (Or.inl (by decide)) (ax_put_o (Or.inl (by decide)) gl))))), (((((kt.po (by decide)).po (by decide)).po (by decide)).po (by decide)).p96 (by decide)), (fun c j n1 n2 n3 => (ax_put_o (by omega) (ax_put_o (by omega) (ax_put_o (by omega) (ax_put_o (by omega) (ax_put_o (by omega) (fr c j n1 n2 n3)))))))⟩, ⟨(ax_put_s _ _ _), (fun c j hc hc2 n1 => by
    exact (ax_put_o (by omega) (ax_put_o (by omega) (ax_put_o (by omega) (ax_put_o (by omega) (ax_put_o (by omega) rfl))))))⟩, fun x q9 => ?_⟩
  refine am_ev.step (pc' := 25) rfl rfl ?_
  refine ax_gf (p' := 28) rfl rfl (S.ob rfl) w6 ?_
  refine fx_z_eq_F (pF := 31) rfl (by omega) rfl y0 ?_
  refine am_ev.step (pc' := 32) rfl rfl ?_
  refine fx_bip (p' := 34) rfl rfl rfl ?_
  refine ax_call (z := 182) (p' := 37) (as := [_, _]) rfl (Or.inr (Or.inl ⟨_, rfl⟩)) rfl rfl rfl rfl rfl rfl (S.ob rfl) rfl (md_182t (s := s) (k := k) (f := 47) S w4 w6 ⟨f0.2.2.2.1, f0.2.2.2.2⟩ w7 yb (by omega) q) rfl ?_
  refine am_ev.step (pc' := 38) (ls' := [.ref 78, iv 1]) rfl rfl ?_
  refine am_ev.step (pc' := 39) rfl rfl ?_
  refine am_ev.step (pc' := 40) rfl rfl ?_
  refine fx_z_ne_T (pT := 52) rfl (by omega) rfl (by omega) ?_
  refine am_ev.step (pc' := 53) rfl rfl ?_
  refine am_ev.step (pc' := 57) rfl rfl ?_
  refine am_ev.step (pc' := 58) rfl rfl ?_
  refine ax_call (z := 177) (p' := 61) (as := [_, _, _]) rfl (Or.inr (Or.inl ⟨_, rfl⟩)) rfl rfl rfl rfl rfl rfl (S.ob rfl) rfl md_177t rfl ?_
  refine am_ev.step (pc' := 62) rfl rfl ?_
  refine ax_call (z := 170) (p' := 65) (as := [_]) rfl (Or.inr (Or.inl ⟨_, rfl⟩)) rfl rfl rfl rfl rfl rfl (S.ob rfl) rfl (md_170 S B hb hL w3 w5 w7 t1) rfl ?_
  refine am_ev.step (pc' := 66) rfl rfl ?_
  refine ax_gf (p' := 69) rfl rfl (fO (fO (fO (fO (S.ob rfl))))) (ax_put_o (Or.inr (by decide)) (ax_put_o (Or.inr (by decide)) (ax_put_o (Or.inr (by decide)) (ax_put_o (Or.inr (by decide)) (S.rf rfl rfl))))) ?_
  refine fx_bip (p' := 71) rfl rfl rfl ?_
  refine ax_iaload (p' := 72) rfl rfl (((((S.po rfl rfl).po rfl rfl).po rfl rfl).po rfl rfl).rd (k := 120) rfl rfl rfl rfl rfl (by decide) (ax_put_o (Or.inl (by decide)) (ax_put_o (Or.inl (by decide)) (ax_put_o (Or.inl (by decide)) (ax_put_o (Or.inl (by decide)) gl))))) ?_
  refine fx_bip (p' := 74) rfl rfl rfl ?_
  refine fx_c_ge_F (pF := 77) rfl (by omega) (by omega) rfl (by omega) ?_
  refine am_ev.step (pc' := 78) rfl rfl ?_
  refine ax_gf (p' := 81) rfl rfl (fO (fO (fO (fO (S.ob rfl))))) (ax_put_o (Or.inr (by decide)) (ax_put_o (Or.inr (by decide)) (ax_put_o (Or.inr (by decide)) (ax_put_o (Or.inr (by decide)) (S.rf rfl rfl))))) ?_
  refine fx_bip (p' := 83) rfl rfl rfl ?_
  refine am_ev.step (pc' := 84) rfl rfl ?_
  refine ax_gf (p' := 87) rfl rfl (fO (fO (fO (fO (S.ob rfl))))) (ax_put_o (Or.inr (by decide)) (ax_put_o (Or.inr (by decide)) (ax_put_o (Or.inr (by decide)) (ax_put_o (Or.inr (by decide)) (S.rf rfl rfl))))) ?_
  refine fx_bip (p' := 89) rfl rfl rfl ?_
  refine ax_iaload (p' := 90) rfl rfl (((((S.po rfl rfl).po rfl rfl).po rfl rfl).po rfl rfl).rd (k := 120) rfl rfl rfl rfl rfl (by decide) (ax_put_o (Or.inl (by decide)) (ax_put_o (Or.inl (by decide)) (ax_put_o (Or.inl (by decide)) (ax_put_o (Or.inl (by decide)) gl))))) ?_
  refine ax_call (z := 191) (p' := 93) (as := [_, _]) rfl (Or.inl ⟨_, rfl⟩) rfl rfl rfl rfl rfl rfl rfl rfl ed_191 rfl ?_
  refine am_ev.step (pc' := 94) rfl rfl ?_
  refine ax_bas2 (p' := 95) rfl rfl (((((S.po rfl rfl).po rfl rfl).po rfl rfl).po rfl rfl).wr (k := (l + 3600)) rfl rfl rfl (by omega) (by omega)) (((((S.po rfl rfl).po rfl rfl).po rfl rfl).po rfl rfl).sb rfl rfl) (by decide) ?_
  exact q9
theorem eq_47b (hb : tz_r b) (hL : L ≤ 1600) (C : mE h h0 b L p s e k v w l) (q : k = 47) (hl : l = 30) (t1 : tz_t b L e s1 e1 k1 v1) : ∃ H : am_H, mE H h0 b L e s1 e1 k1 v1 (tV b L s1 w) l ∧ ((∀ c j, 94 ≤ c → c ≤ 97 → H.2.2.2 c j = h.2.2.2 c j)) ∧ ∀ x, am_ev (d + 6) 190 95 [.ref 78, iv 1] [] H x → am_ev (d + 6) 190 24 [.ref 78, x1] [] h x := by
  obtain ⟨S, B, w3, t0, w4, w5, w6, w7, ya, yb, f8, f9, zt, gl, kt, fr⟩ := C
  have f0 := t0.f5 hb
  have hr0 := tH_r (k := k) ⟨f0.2.2.2.1, f0.2.2.2.2⟩
  have y0 : tH k ≠ 0 := tH_0 ⟨f0.2.2.2.1, f0.2.2.2.2⟩ (by omega)
  refine ⟨(am_put (am_put (am_put (am_put h 78 4 (iv ((s1 : Int)))) 78 7 (iv ((tV b L s1 (w))))) 78 5 (iv ((e1 : Int)))) 78 6 (iv ((tH k1)))), ⟨((((S.po rfl rfl).po rfl rfl).po rfl rfl).po rfl rfl), ((((B.put (by decide)).put (by decide)).put (by decide)).put (by decide)), (ax_put_o (Or.inr (by decide)) (ax_put_o (Or.inr (by decide)) (ax_put_o (Or.inr (by decide)) (ax_put_o (Or.inr (by decide)) w3)))), t1, (ax_put_o (Or.inr (by decide)) (ax_put_o (Or.inr (by decide)) (ax_put_o (Or.inr (by decide)) (ax_put_s _ _ _)))), (ax_put_o (Or.inr (by decide)) (ax_put_s _ _ _)), (ax_put_s _ _ _), (ax_put_o (Or.inr (by decide)) (ax_put_o (Or.inr (by decide)) (ax_put_s _ _ _))), (t1.v _).1, (t1.v _).2, (ax_put_o (Or.inr (by decide)) (ax_put_o (Or.inr (by decide)) (ax_put_o (Or.inr (by decide)) (ax_put_o (Or.inr (by decide)) f8)))), (ax_put_o (Or.inr (by decide)) (ax_put_o (Or.inr (by decide)) (ax_put_o (Or.inr (by decide)) (ax_put_o (Or.inr (by decide)) f9)))), (ax_put_o (Or.inr (by decide)) (ax_put_o (Or.inr (by decide)) (ax_put_o (Or.inr (by decide)) (ax_put_o (Or.inr (by decide)) zt)))), (ax_put_o (Or.inl (by decide)) (ax_put_o (Or.inl (by decide)) (ax_put_o (Or.inl (by decide)) (ax_put_o (Or.inl (by decide)) gl)))), ((((kt.po (by decide)).po (by decide)).po (by decide)).po (by decide)), (fun c j n1 n2 n3 => (ax_put_o (by omega) (ax_put_o (by omega) (ax_put_o (by omega) (ax_put_o (by omega) (fr c j n1 n2 n3))))))⟩, (fun c j hc hc2 => by
    exact (ax_put_o (by omega) (ax_put_o (by omega) (ax_put_o (by omega) (ax_put_o (by omega) rfl))))), fun x q9 => ?_⟩
  refine am_ev.step (pc' := 25) rfl rfl ?_
  refine ax_gf (p' := 28) rfl rfl (S.ob rfl) w6 ?_
  refine fx_z_eq_F (pF := 31) rfl (by omega) rfl y0 ?_
  refine am_ev.step (pc' := 32) rfl rfl ?_
  refine fx_bip (p' := 34) rfl rfl rfl ?_
  refine ax_call (z := 182) (p' := 37) (as := [_, _]) rfl (Or.inr (Or.inl ⟨_, rfl⟩)) rfl rfl rfl rfl rfl rfl (S.ob rfl) rfl (md_182t (s := s) (k := k) (f := 47) S w4 w6 ⟨f0.2.2.2.1, f0.2.2.2.2⟩ w7 yb (by omega) q) rfl ?_
  refine am_ev.step (pc' := 38) (ls' := [.ref 78, iv 1]) rfl rfl ?_
  refine am_ev.step (pc' := 39) rfl rfl ?_
  refine am_ev.step (pc' := 40) rfl rfl ?_
  refine fx_z_ne_T (pT := 52) rfl (by omega) rfl (by omega) ?_
  refine am_ev.step (pc' := 53) rfl rfl ?_
  refine am_ev.step (pc' := 57) rfl rfl ?_
  refine am_ev.step (pc' := 58) rfl rfl ?_
  refine ax_call (z := 177) (p' := 61) (as := [_, _, _]) rfl (Or.inr (Or.inl ⟨_, rfl⟩)) rfl rfl rfl rfl rfl rfl (S.ob rfl) rfl md_177t rfl ?_
  refine am_ev.step (pc' := 62) rfl rfl ?_
  refine ax_call (z := 170) (p' := 65) (as := [_]) rfl (Or.inr (Or.inl ⟨_, rfl⟩)) rfl rfl rfl rfl rfl rfl (S.ob rfl) rfl (md_170 S B hb hL w3 w5 w7 t1) rfl ?_
  refine am_ev.step (pc' := 66) rfl rfl ?_
  refine ax_gf (p' := 69) rfl rfl (fO (fO (fO (fO (S.ob rfl))))) (ax_put_o (Or.inr (by decide)) (ax_put_o (Or.inr (by decide)) (ax_put_o (Or.inr (by decide)) (ax_put_o (Or.inr (by decide)) (S.rf rfl rfl))))) ?_
  refine fx_bip (p' := 71) rfl rfl rfl ?_
  refine ax_iaload (p' := 72) rfl rfl (((((S.po rfl rfl).po rfl rfl).po rfl rfl).po rfl rfl).rd (k := 120) rfl rfl rfl rfl rfl (by decide) (ax_put_o (Or.inl (by decide)) (ax_put_o (Or.inl (by decide)) (ax_put_o (Or.inl (by decide)) (ax_put_o (Or.inl (by decide)) gl))))) ?_
  refine fx_bip (p' := 74) rfl rfl rfl ?_
  refine fx_c_ge_T (pT := 95) rfl (by omega) (by omega) rfl (by omega) ?_
  exact q9
theorem eq_c20 {M : am_H} (S : fS g) (z1 : am_ev (d + 5) 192 0 (am_ent [.ref 78] 2) [] g (none, M)) {x : Option Value × am_H} (q9 : am_ev (d + 6) 190 24 [.ref 78, x1] [] M x) : am_ev (d + 6) 190 20 [.ref 78, x1] [] g x := by
  refine am_ev.step (pc' := 21) rfl rfl ?_
  refine ax_call (z := 192) (p' := 24) (as := [_]) rfl (Or.inr (Or.inl ⟨_, rfl⟩)) rfl rfl rfl rfl rfl rfl (S.ob rfl) rfl z1 rfl ?_
  exact q9
theorem eq_t20 {M : am_H} (S : fS g) (SM : fS M) (z1 : am_ev (d + 5) 192 0 (am_ent [.ref 78] 2) [] g (some (.retAddr (79 + 1)), M)) : am_ev (d + 6) 190 20 [.ref 78, x1] [] g (some (.retAddr (79 + 1)), M) := by
  refine am_ev.step (pc' := 21) rfl rfl ?_
  refine ax_callT (a := 79) (z := 192) (as := [_]) rfl (Or.inr (Or.inl ⟨_, rfl⟩)) rfl rfl rfl rfl rfl rfl (S.ob rfl) z1 rfl rfl (SM.ob rfl) rfl
theorem eq_c95 {M : am_H} (S : fS g) (z1 : am_ev (d + 5) 192 0 (am_ent [.ref 78] 2) [] g (none, M)) {x : Option Value × am_H} (q9 : am_ev (d + 6) 190 24 [.ref 78, x1] [] M x) : am_ev (d + 6) 190 95 [.ref 78, x1] [] g x := by
  refine am_ev.step (pc' := 96) rfl rfl ?_
  refine ax_call (z := 192) (p' := 99) (as := [_]) rfl (Or.inr (Or.inl ⟨_, rfl⟩)) rfl rfl rfl rfl rfl rfl (S.ob rfl) rfl z1 rfl ?_
  refine am_ev.step (pc' := 24) rfl rfl ?_
  exact q9
theorem eq_t95 {M : am_H} (S : fS g) (SM : fS M) (z1 : am_ev (d + 5) 192 0 (am_ent [.ref 78] 2) [] g (some (.retAddr (79 + 1)), M)) : am_ev (d + 6) 190 95 [.ref 78, x1] [] g (some (.retAddr (79 + 1)), M) := by
  refine am_ev.step (pc' := 96) rfl rfl ?_
  refine ax_callT (a := 79) (z := 192) (as := [_]) rfl (Or.inr (Or.inl ⟨_, rfl⟩)) rfl rfl rfl rfl rfl rfl (S.ob rfl) z1 rfl rfl (SM.ob rfl) rfl
theorem eq_s (S : fS h) (B : tb h 80 b L) (w3 : h.2.2.2 78 3 = iv L) (t0 : tz_t b L p s e k v) (w4 : h.2.2.2 78 4 = iv s) (w5 : h.2.2.2 78 5 = iv e) (w6 : h.2.2.2 78 6 = iv (tH k)) (w7 : h.2.2.2 78 7 = iv w) (ya : k = 2 → w = v) (yb : 43 ≤ k → w = k) (f8 : h.2.2.2 78 8 = iv 0) (f9 : h.2.2.2 78 9 = iv (-1)) (zt : h.2.2.2 78 2 = iv 0) (kt : kT h) : ∃ H : am_H, mE H h b L p s e k v w 0 ∧ (H.2.2.2 96 3600 = iv 1 ∧ (∀ c j, 94 ≤ c → c ≤ 97 → (c ≠ 96 ∨ j ≠ 3600) → H.2.2.2 c j = h.2.2.2 c j)) ∧ ∀ x, am_ev (d + 6) 190 20 [.ref 78, am_ph] [] H x → am_ev (d + 6) 190 0 (am_ent [.ref 78] 2) [] h x := by
  refine ⟨(am_put (am_put h 93 120 (iv 0)) 96 3600 (iv 1)), ⟨((S.pa rfl).pa rfl), ((B.put (by decide)).put (by decide)), (ax_put_o (Or.inl (by decide)) (ax_put_o (Or.inl (by decide)) w3)), t0, (ax_put_o (Or.inl (by decide)) (ax_put_o (Or.inl (by decide)) w4)), (ax_put_o (Or.inl (by decide)) (ax_put_o (Or.inl (by decide)) w5)), (ax_put_o (Or.inl (by decide)) (ax_put_o (Or.inl (by decide)) w6)), (ax_put_o (Or.inl (by decide)) (ax_put_o (Or.inl (by decide)) w7)), ya, yb, (ax_put_o (Or.inl (by decide)) (ax_put_o (Or.inl (by decide)) f8)), (ax_put_o (Or.inl (by decide)) (ax_put_o (Or.inl (by decide)) f9)), (ax_put_o (Or.inl (by decide)) (ax_put_o (Or.inl (by decide)) zt)), (ax_put_o (Or.inl (by decide)) (ax_put_s _ _ _)), ((kt.po (by decide)).p96 (by decide)), (fun c j n1 n2 n3 => (ax_put_o (by omega) (ax_put_o (by omega) rfl)))⟩, ⟨(ax_put_s _ _ _), (fun c j hc hc2 n1 => by
    exact (ax_put_o (by omega) (ax_put_o (by omega) rfl)))⟩, fun x q9 => ?_⟩
  show am_ev (d + 6) 190 0 [.ref 78, am_ph] [] h x
  refine am_ev.step (pc' := 1) rfl rfl ?_
  refine ax_gf (p' := 4) rfl rfl (S.ob rfl) (S.rf rfl rfl) ?_
  refine fx_bip (p' := 6) rfl rfl rfl ?_
  refine am_ev.step (pc' := 7) rfl rfl ?_
  refine ax_iastore (p' := 8) rfl rfl (S.wr (k := 120) rfl rfl rfl rfl (by decide)) ?_
  refine am_ev.step (pc' := 9) rfl rfl ?_
  refine ax_gf (p' := 12) rfl rfl (fO (S.ob rfl)) (ax_put_o (Or.inl (by decide)) (S.rf rfl rfl)) ?_
  refine fx_bip (p' := 14) rfl rfl rfl ?_
  refine am_ev.step (pc' := 15) rfl rfl ?_
  refine ax_call (z := 191) (p' := 18) (as := [_, _]) rfl (Or.inl ⟨_, rfl⟩) rfl rfl rfl rfl rfl rfl rfl rfl (ed_191 (s := 0)) rfl ?_
  refine am_ev.step (pc' := 19) rfl rfl ?_
  refine ax_bas2 (p' := 20) rfl rfl ((S.pa rfl).wr (k := 3600) rfl rfl rfl rfl (by decide)) ((S.pa rfl).sb rfl rfl) (by decide) ?_
  exact q9
end EDT
end
