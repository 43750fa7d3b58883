section
/-! THE LAYOUT OF A TEXT: the chain of pages -/
/-- the line that the page behind i breaks begins with -/
def lyN (D : Nat → lyT) : Nat → Nat
  | 0 => 0
  | i + 1 => (D (lyN D i)).2.2
section LYN
variable {t u : Int32} {l i : Nat} {r P T : Int} {D : Nat → lyT}
def lyQ (D : Nat → lyT) (l : Nat) (j : Nat) (a : lyT) : Prop := a.1 = 0 ∨ a.1 = 1 ∨ (2 ≤ a.1 ∧ j < a.2.2 ∧ a.2.2 < l ∧ (D a.2.2).1 + 1 = a.1)
theorem lyR_q (hi : ∀ j, 0 ≤ (D j).1) : ∀ k, i + k ≤ l → lyQ D l i (lyR t u l r D i k)
  | 0, _ => Or.inl rfl
  | k + 1, hk => by
    have ih := lyR_q hi k (by omega)
    show lyQ D l i (lyC t u l r D i k (lyR t u l r D i k))
    unfold lyC
    by_cases c1 : lyU u i (k + 1) ≤ r
    · rw [if_pos c1]
      by_cases c2 : i + k + 1 = l
      · rw [if_pos c2]
        exact Or.inr (Or.inl rfl)
      · rw [if_neg c2]
        by_cases c3 : lyM t u l (i + k) = true ∧ 0 < (D (i + k + 1)).1
        · rw [if_pos c3]
          unfold lyB
          split
          · exact Or.inr (Or.inr ⟨by show 2 ≤ (D (i + k + 1)).1 + 1; omega, by show i < i + k + 1; omega, by show i + k + 1 < l; omega, rfl⟩)
          · exact ih
        · rw [if_neg c3]
          exact ih
    · rw [if_neg c1]
      exact ih
theorem lyD_q (hP : P ≤ 60) (hT : 0 ≤ T) : ∀ n, n ≤ l → ∀ j, l ≤ j + n → j < l → lyQ (lyD t u l P T n) l j (lyD t u l P T n j)
  | 0, _, j, h1, h2 => absurd h1 (by omega)
  | n + 1, hn, j, h1, h2 => by
    have O := lyD_b (t := t) (u := u) (l := l) hP hT n (by omega)
    have old : ∀ a : lyT, lyQ (lyD t u l P T n) l j a → (j + n + 1 = l ∨ l ≤ j + n) → lyQ (lyD t u l P T (n + 1)) l j a := fun a q c => by
      rcases q with q | q | ⟨q1, q2, q3, q4⟩
      · exact Or.inl q
      · exact Or.inr (Or.inl q)
      · exact Or.inr (Or.inr ⟨q1, q2, q3, by rw [lyD_o (by omega)]; exact q4⟩)
    by_cases c : j + n + 1 = l
    · rw [lyD_n c]
      exact old _ (lyR_q (fun j => (O j).1) (l - j) (by omega)) (Or.inl c)
    · rw [lyD_o c]
      exact old _ (lyD_q hP hT n (by omega) j (by omega) h2) (Or.inr (by omega))
theorem lyN_q (hP : P ≤ 60) (hT : 0 ≤ T) (hl : 1 ≤ l) : ∀ i : Nat, (i : Int) + 1 ≤ (lyD t u l P T l 0).1 → lyN (lyD t u l P T l) i < l ∧ (lyD t u l P T l (lyN (lyD t u l P T l) i)).1 + (i : Int) = (lyD t u l P T l 0).1
  | 0, _ => ⟨hl, by show (lyD t u l P T l 0).1 + ((0 : Nat) : Int) = _; omega⟩
  | i + 1, h => by
    obtain ⟨a, b⟩ := lyN_q hP hT hl i (by omega)
    have q := lyD_q (t := t) (u := u) hP hT l (Nat.le_refl _) (lyN (lyD t u l P T l) i) (by omega) a
    rcases q with q | q | ⟨q1, q2, q3, q4⟩
    · omega
    · omega
    · refine ⟨q3, ?_⟩
      show (lyD t u l P T l (lyD t u l P T l (lyN (lyD t u l P T l) i)).2.2).1 + ((i + 1 : Nat) : Int) = _
      omega
end LYN
/-! layOut, the program's side -/
section LYG
variable {d E B l i j m nb : Nat} {h : am_H} {t u : Int32} {P T f6 f7 p s z : Int}
/-- nothing but the rows, the edition's layout and its breaks has changed -/
def lyV (h H : am_H) (E B : Nat) : Prop := fS H ∧ H.1 = h.1 ∧ H.2.2.1 = h.2.2.1 ∧ (∀ c k, c ≠ 58 → c ≠ 59 → c ≠ 60 → (c ≠ E ∨ k < 6 ∨ 9 < k) → c ≠ B → H.2.2.2 c k = h.2.2.2 c k) ∧ lyi h H
def lyY (h H : am_H) : Prop := fS H ∧ H.1 = h.1 ∧ H.2.2.1 = h.2.2.1 ∧ (∀ c k, c ≠ 58 → c ≠ 59 → c ≠ 60 → H.2.2.2 c k = h.2.2.2 c k) ∧ lyi h H
theorem lyY.tr {H K : am_H} (A : lyY h H) (B : lyY H K) : lyY h K := ⟨B.1, B.2.1.trans A.2.1, B.2.2.1.trans A.2.2.1, fun c k a b e => (B.2.2.2.1 c k a b e).trans (A.2.2.2.1 c k a b e), A.2.2.2.2.tr B.2.2.2.2⟩
theorem lyX.y {H : am_H} (A : lyX h H i) : lyY h H := ⟨A.1, A.2.1, A.2.2.1, fun c k a b e => A.2.2.2.1 c k (Or.inl ⟨a, b, e⟩), A.2.2.2.2⟩
theorem lyY.v {H : am_H} (A : lyY h H) : lyV h H E B := ⟨A.1, A.2.1, A.2.2.1, fun c k a b e _ _ => A.2.2.2.1 c k a b e, A.2.2.2.2⟩
theorem lyV.tr {H K : am_H} (A : lyV h H E B) (C : lyV H K E B) : lyV h K E B := ⟨C.1, C.2.1.trans A.2.1, C.2.2.1.trans A.2.2.1, fun c k a b e f g => (C.2.2.2.1 c k a b e f g).trans (A.2.2.2.1 c k a b e f g), A.2.2.2.2.tr C.2.2.2.2⟩
theorem lyV.po {v : Int32} {c k : Nat} (S : fS h) (hc : 130 ≤ c) (w : c = B ∨ (c = E ∧ 6 ≤ k ∧ k ≤ 9)) : lyV h (am_put h c k (.int v)) E B := ⟨S.pd hc, rfl, rfl, fun c' k' _ _ _ e f => ax_put_o (by omega) rfl, lyi.po⟩
theorem lyE.y {H : am_H} (TE : lyE h E l t u) (X : lyY h H) : lyE H E l t u := by
  obtain ⟨x1, x2, x3, x4, x5⟩ := TE
  have n : ∀ k, H.2.2.2 E k = h.2.2.2 E k := fun k => X.2.2.2.1 E k (by omega) (by omega) (by omega)
  refine ⟨?_, x2, (n 3).trans x3, (n 4).trans x4, (n 5).trans x5⟩
  unfold am_isO at x1 ⊢
  rw [X.2.1, X.2.2.1]
  exact x1
theorem lyE.v {H : am_H} (TE : lyE h E l t u) (X : lyV h H E B) (ne : B ≠ E) : lyE H E l t u := by
  obtain ⟨x1, x2, x3, x4, x5⟩ := TE
  have n : ∀ k, k < 6 → H.2.2.2 E k = h.2.2.2 E k := fun k hk => X.2.2.2.1 E k (by omega) (by omega) (by omega) (by omega) (fun e => ne e.symm)
  refine ⟨?_, x2, (n 3 (by decide)).trans x3, (n 4 (by decide)).trans x4, (n 5 (by decide)).trans x5⟩
  unfold am_isO at x1 ⊢
  rw [X.2.1, X.2.2.1]
  exact x1
theorem ly_55t (S : fS h) (TE : lyE h E l t u) (x6 : h.2.2.2 E 6 = iv f6) (x7 : h.2.2.2 E 7 = iv f7) (bP : 6 ≤ P ∧ P ≤ 60) (bT : 0 ≤ T ∧ T ≤ 4) (b6 : -2147483648 ≤ f6 ∧ f6 ≤ 2147483647) (b7 : -2147483648 ≤ f7 ∧ f7 ≤ 2147483647) (c : f6 = P ∧ f7 = T) : am_ev d 55 0 (am_ent [.ref E, iv (P), iv (T)] 3) [] h (some (iv 1), h) := by
  obtain ⟨OE, hE, x3, x4, x5⟩ := TE
  show am_ev d 55 0 [.ref E, iv (P), iv (T)] [] h _
  refine am_ev.step (pc' := 1) rfl rfl ?_
  refine ax_gf (p' := 4) rfl rfl OE x6 ?_
  refine am_ev.step (pc' := 5) rfl rfl ?_
  refine fx_c_ne (pT := 20) (pF := 8) rfl (by omega) (by omega) rfl rfl (fun c1 => ?_) (fun c1 => ?_)
  · refine am_ev.step (pc' := 21) rfl rfl ?_
    exfalso
    omega
  · refine am_ev.step (pc' := 9) rfl rfl ?_
    refine ax_gf (p' := 12) rfl rfl OE x7 ?_
    refine am_ev.step (pc' := 13) rfl rfl ?_
    refine fx_c_ne (pT := 20) (pF := 16) rfl (by omega) (by omega) rfl rfl (fun c2 => ?_) (fun c2 => ?_)
    · refine am_ev.step (pc' := 21) rfl rfl ?_
      exfalso
      omega
    · refine am_ev.step (pc' := 17) rfl rfl ?_
      refine am_ev.step (pc' := 21) rfl rfl ?_
      exact fx_reti rfl rfl rfl
theorem ly_55f (S : fS h) (TE : lyE h E l t u) (x6 : h.2.2.2 E 6 = iv f6) (x7 : h.2.2.2 E 7 = iv f7) (bP : 6 ≤ P ∧ P ≤ 60) (bT : 0 ≤ T ∧ T ≤ 4) (b6 : -2147483648 ≤ f6 ∧ f6 ≤ 2147483647) (b7 : -2147483648 ≤ f7 ∧ f7 ≤ 2147483647) (c : ¬ (f6 = P ∧ f7 = T)) : am_ev d 55 0 (am_ent [.ref E, iv (P), iv (T)] 3) [] h (some (iv 0), h) := by
  obtain ⟨OE, hE, x3, x4, x5⟩ := TE
  show am_ev d 55 0 [.ref E, iv (P), iv (T)] [] h _
  refine am_ev.step (pc' := 1) rfl rfl ?_
  refine ax_gf (p' := 4) rfl rfl OE x6 ?_
  refine am_ev.step (pc' := 5) rfl rfl ?_
  refine fx_c_ne (pT := 20) (pF := 8) rfl (by omega) (by omega) rfl rfl (fun c1 => ?_) (fun c1 => ?_)
  · refine am_ev.step (pc' := 21) rfl rfl ?_
    exact fx_reti rfl rfl rfl
  · refine am_ev.step (pc' := 9) rfl rfl ?_
    refine ax_gf (p' := 12) rfl rfl OE x7 ?_
    refine am_ev.step (pc' := 13) rfl rfl ?_
    refine fx_c_ne (pT := 20) (pF := 16) rfl (by omega) (by omega) rfl rfl (fun c2 => ?_) (fun c2 => ?_)
    · refine am_ev.step (pc' := 21) rfl rfl ?_
      exact fx_reti rfl rfl rfl
    · refine am_ev.step (pc' := 17) rfl rfl ?_
      refine am_ev.step (pc' := 21) rfl rfl ?_
      exfalso
      omega
theorem ly_56 (S : fS h) (TE : lyE h E l t u) : am_ev d 56 0 (am_ent [.ref E, iv (P), iv (T)] 3) [] h (none, (am_put (am_put (am_put (am_put h E 6 (iv (P))) E 7 (iv (T))) E 8 (iv (-1))) E 9 (iv (-1)))) := by
  obtain ⟨OE, hE, x3, x4, x5⟩ := TE
  show am_ev d 56 0 [.ref E, iv (P), iv (T)] [] h _
  refine am_ev.step (pc' := 1) rfl rfl ?_
  refine am_ev.step (pc' := 2) rfl rfl ?_
  refine ax_pf (p' := 5) rfl rfl OE rfl ?_
  refine am_ev.step (pc' := 6) rfl rfl ?_
  refine am_ev.step (pc' := 7) rfl rfl ?_
  refine ax_pf (p' := 10) rfl rfl (fO OE) rfl ?_
  refine am_ev.step (pc' := 11) rfl rfl ?_
  refine am_ev.step (pc' := 12) rfl rfl ?_
  refine ax_pf (p' := 15) rfl rfl (fO (fO OE)) rfl ?_
  refine am_ev.step (pc' := 16) rfl rfl ?_
  refine am_ev.step (pc' := 17) rfl rfl ?_
  refine ax_pf (p' := 20) rfl rfl (fO (fO (fO OE))) rfl ?_
  exact am_ev.retv rfl rfl
theorem ly_62 (S : fS h) (TE : lyE h E l t u) (x2 : h.2.2.2 E 2 = .ref B) (hal : am_len h B = some nb) (hwr : am_wr h B (Int32.ofInt (i : Int)) 0 (iv z) = some (am_put h B i (iv z))) (hi : i < nb) (hn : nb ≤ 1000) : am_ev d 62 0 (am_ent [.ref E, iv ((i : Int)), iv (z)] 3) [] h (none, am_put h B i (iv z)) := by
  obtain ⟨OE, hE, x3, x4, x5⟩ := TE
  show am_ev d 62 0 [.ref E, iv ((i : Int)), iv (z)] [] h _
  refine am_ev.step (pc' := 1) rfl rfl ?_
  refine fx_z_lt_F (pF := 4) rfl (by omega) rfl (by omega) ?_
  refine am_ev.step (pc' := 5) rfl rfl ?_
  refine am_ev.step (pc' := 6) rfl rfl ?_
  refine ax_gf (p' := 9) rfl rfl OE x2 ?_
  refine fx_alen (p' := 10) (n := nb) rfl rfl hal ?_
  refine fx_c_ge_F (pF := 13) rfl (by omega) (by omega) rfl (by omega) ?_
  refine am_ev.step (pc' := 14) rfl rfl ?_
  refine ax_gf (p' := 17) rfl rfl OE x2 ?_
  refine am_ev.step (pc' := 18) rfl rfl ?_
  refine am_ev.step (pc' := 19) rfl rfl ?_
  refine ax_iastore (p' := 20) rfl rfl hwr ?_
  exact am_ev.retv rfl rfl
theorem ly_54t (S : fS h) (TE : lyE h E l t u) (hl : 1 ≤ l ∧ l ≤ 30) (vP : h.2.2.2 44 0 = iv P) (vT : h.2.2.2 44 2 = iv T) (x6 : h.2.2.2 E 6 = iv f6) (x7 : h.2.2.2 E 7 = iv f7) (bP : 6 ≤ P ∧ P ≤ 60) (bT : 0 ≤ T ∧ T ≤ 4) (b6 : -2147483648 ≤ f6 ∧ f6 ≤ 2147483647) (b7 : -2147483648 ≤ f7 ∧ f7 ≤ 2147483647) (c : f6 = P ∧ f7 = T) : am_ev (d + 3) 54 0 (am_ent [.ref 53, .ref E, .ref 43] 8) [] h (none, h) := by
  obtain ⟨OE, hE, x3, x4, x5⟩ := id TE
  show am_ev (d + 3) 54 0 [.ref 53, .ref E, .ref 43, am_ph, am_ph, am_ph, am_ph, am_ph] [] h _
  refine am_ev.step (pc' := 1) rfl rfl ?_
  refine am_ev.step (pc' := 2) rfl rfl ?_
  refine ax_call (z := 37) (p' := 5) (as := [_, _]) rfl (Or.inr (Or.inl ⟨_, rfl⟩)) rfl rfl rfl rfl rfl rfl (S.ob rfl) rfl (ru_37a (i := 0) S (by omega) vP) rfl ?_
  refine am_ev.step (pc' := 6) (ls' := [.ref 53, .ref E, .ref 43, iv (P), am_ph, am_ph, am_ph, am_ph]) rfl rfl ?_
  refine am_ev.step (pc' := 7) rfl rfl ?_
  refine am_ev.step (pc' := 8) rfl rfl ?_
  refine ax_call (z := 37) (p' := 11) (as := [_, _]) rfl (Or.inr (Or.inl ⟨_, rfl⟩)) rfl rfl rfl rfl rfl rfl (S.ob rfl) rfl (ru_37a (i := 2) S (by omega) vT) rfl ?_
  refine am_ev.step (pc' := 13) (ls' := [.ref 53, .ref E, .ref 43, iv (P), iv (T), am_ph, am_ph, am_ph]) rfl rfl ?_
  refine am_ev.step (pc' := 14) rfl rfl ?_
  refine am_ev.step (pc' := 15) rfl rfl ?_
  refine am_ev.step (pc' := 17) rfl rfl ?_
  refine ax_call (z := 55) (p' := 20) (as := [_, _, _]) rfl (Or.inr (Or.inl ⟨_, rfl⟩)) rfl rfl rfl rfl rfl rfl OE rfl (ly_55t S TE x6 x7 bP bT b6 b7 c) rfl ?_
  refine fx_z_eq_F (pF := 23) rfl (by omega) rfl (by omega) ?_
  exact am_ev.retv rfl rfl
theorem ly_54s (S : fS h) (TE : lyE h E l t u) (hl : 1 ≤ l ∧ l ≤ 30) (vP : h.2.2.2 44 0 = iv P) (vT : h.2.2.2 44 2 = iv T) (x6 : h.2.2.2 E 6 = iv f6) (x7 : h.2.2.2 E 7 = iv f7) (bP : 6 ≤ P ∧ P ≤ 60) (bT : 0 ≤ T ∧ T ≤ 4) (b6 : -2147483648 ≤ f6 ∧ f6 ≤ 2147483647) (b7 : -2147483648 ≤ f7 ∧ f7 ≤ 2147483647) (c : ¬ (f6 = P ∧ f7 = T)) {x : Option Value × am_H} (q9 : am_ev (d + 3) 54 48 [.ref 53, .ref E, .ref 43, iv (P), iv (T), iv ((l : Int)), iv ((l : Int) - 1), am_ph] [] (am_put (am_put (am_put (am_put h E 6 (iv (P))) E 7 (iv (T))) E 8 (iv (-1))) E 9 (iv (-1))) x) : am_ev (d + 3) 54 0 (am_ent [.ref 53, .ref E, .ref 43] 8) [] h x := by
  obtain ⟨OE, hE, x3, x4, x5⟩ := id TE
  show am_ev (d + 3) 54 0 [.ref 53, .ref E, .ref 43, am_ph, am_ph, am_ph, am_ph, am_ph] [] h _
  refine am_ev.step (pc' := 1) rfl rfl ?_
  refine am_ev.step (pc' := 2) rfl rfl ?_
  refine ax_call (z := 37) (p' := 5) (as := [_, _]) rfl (Or.inr (Or.inl ⟨_, rfl⟩)) rfl rfl rfl rfl rfl rfl (S.ob rfl) rfl (ru_37a (i := 0) S (by omega) vP) rfl ?_
  refine am_ev.step (pc' := 6) (ls' := [.ref 53, .ref E, .ref 43, iv (P), am_ph, am_ph, am_ph, am_ph]) rfl rfl ?_
  refine am_ev.step (pc' := 7) rfl rfl ?_
  refine am_ev.step (pc' := 8) rfl rfl ?_
  refine ax_call (z := 37) (p' := 11) (as := [_, _]) rfl (Or.inr (Or.inl ⟨_, rfl⟩)) rfl rfl rfl rfl rfl rfl (S.ob rfl) rfl (ru_37a (i := 2) S (by omega) vT) rfl ?_
  refine am_ev.step (pc' := 13) (ls' := [.ref 53, .ref E, .ref 43, iv (P), iv (T), am_ph, am_ph, am_ph]) rfl rfl ?_
  refine am_ev.step (pc' := 14) rfl rfl ?_
  refine am_ev.step (pc' := 15) rfl rfl ?_
  refine am_ev.step (pc' := 17) rfl rfl ?_
  refine ax_call (z := 55) (p' := 20) (as := [_, _, _]) rfl (Or.inr (Or.inl ⟨_, rfl⟩)) rfl rfl rfl rfl rfl rfl OE rfl (ly_55f S TE x6 x7 bP bT b6 b7 c) rfl ?_
  refine fx_z_eq_T (pT := 24) rfl (by omega) rfl (by omega) ?_
  refine am_ev.step (pc' := 25) rfl rfl ?_
  refine am_ev.step (pc' := 26) rfl rfl ?_
  refine am_ev.step (pc' := 28) rfl rfl ?_
  refine ax_call (z := 56) (p' := 31) (as := [_, _, _]) rfl (Or.inr (Or.inl ⟨_, rfl⟩)) rfl rfl rfl rfl rfl rfl OE rfl (ly_56 S TE) rfl ?_
  refine am_ev.step (pc' := 32) rfl rfl ?_
  refine ax_gf (p' := 35) rfl rfl (fO (fO (fO (fO OE)))) (ax_put_o (Or.inr (by decide)) (ax_put_o (Or.inr (by decide)) (ax_put_o (Or.inr (by decide)) (ax_put_o (Or.inr (by decide)) x3)))) ?_
  refine fx_bip (p' := 37) rfl rfl rfl ?_
  refine fx_mn (p' := 40) (e := (l : Int)) rfl (Or.inl ⟨_, rfl⟩) rfl rfl rfl rfl (by omega) (by omega) (fun _ => by omega) (fun _ => by omega) ?_
  refine am_ev.step (pc' := 42) (ls' := [.ref 53, .ref E, .ref 43, iv (P), iv (T), iv ((l : Int)), am_ph, am_ph]) rfl rfl ?_
  refine am_ev.step (pc' := 44) rfl rfl ?_
  refine am_ev.step (pc' := 45) rfl rfl ?_
  refine fx_sub (p' := 46) (e := ((l : Int) - 1)) rfl rfl (by omega) ?_
  refine am_ev.step (pc' := 48) (ls' := [.ref 53, .ref E, .ref 43, iv (P), iv (T), iv ((l : Int)), iv ((l : Int) - 1), am_ph]) rfl rfl ?_
  exact q9
theorem ls_54z (S : fS h) (TE : lyE h E l t u) {x : Option Value × am_H} (q9 : am_ev (d + 3) 54 79 [.ref 53, .ref E, .ref 43, iv (P), iv (T), iv ((l : Int)), iv (-1), am_ph] [] h x) : am_ev (d + 3) 54 48 [.ref 53, .ref E, .ref 43, iv (P), iv (T), iv ((l : Int)), iv (-1), am_ph] [] h x := by
  obtain ⟨OE, hE, x3, x4, x5⟩ := TE
  refine am_ev.step (pc' := 50) rfl rfl ?_
  refine fx_z_lt_T (pT := 79) rfl (by omega) rfl (by omega) ?_
  exact q9
theorem ls_54p {H : am_H} (S : fS h) (TE : lyE h E l t u) (hm : 0 < m ∧ m < l) (hl : l ≤ 30) (bP : 6 ≤ P ∧ P ≤ 60) (bT : 0 ≤ T ∧ T ≤ 4) (z8 : am_ev (d + 2) 58 0 (am_ent [.ref 53, .ref E, iv ((m : Int)), iv (P)] 7) [] h (none, H)) {x : Option Value × am_H} (q9 : am_ev (d + 3) 54 48 [.ref 53, .ref E, .ref 43, iv (P), iv (T), iv ((l : Int)), iv ((m : Int) - 1), am_ph] [] H x) : am_ev (d + 3) 54 48 [.ref 53, .ref E, .ref 43, iv (P), iv (T), iv ((l : Int)), iv ((m : Int)), am_ph] [] h x := by
  obtain ⟨OE, hE, x3, x4, x5⟩ := TE
  refine am_ev.step (pc' := 50) rfl rfl ?_
  refine fx_z_lt_F (pF := 53) rfl (by omega) rfl (by omega) ?_
  refine am_ev.step (pc' := 54) rfl rfl ?_
  refine am_ev.step (pc' := 55) rfl rfl ?_
  refine am_ev.step (pc' := 57) rfl rfl ?_
  refine am_ev.step (pc' := 59) rfl rfl ?_
  refine fx_z_ne_T (pT := 69) rfl (by omega) rfl (by omega) ?_
  refine am_ev.step (pc' := 70) rfl rfl ?_
  refine ax_call (z := 58) (p' := 73) (as := [_, _, _, _]) rfl (Or.inr (Or.inl ⟨_, rfl⟩)) rfl rfl rfl rfl rfl rfl (S.ob rfl) rfl z8 rfl ?_
  refine fx_inc (p' := 76) (e := ((m : Int) - 1)) (ls' := [.ref 53, .ref E, .ref 43, iv (P), iv (T), iv ((l : Int)), iv ((m : Int) - 1), am_ph]) rfl rfl rfl (by omega) rfl ?_
  refine am_ev.step (pc' := 48) rfl rfl ?_
  exact q9
theorem ls_54q {H : am_H} (S : fS h) (TE : lyE h E l t u) (hl : l ≤ 30) (bP : 6 ≤ P ∧ P ≤ 60) (bT : 0 ≤ T ∧ T ≤ 4) (z8 : am_ev (d + 2) 58 0 (am_ent [.ref 53, .ref E, iv 0, iv (P - T)] 7) [] h (none, H)) {x : Option Value × am_H} (q9 : am_ev (d + 3) 54 48 [.ref 53, .ref E, .ref 43, iv (P), iv (T), iv ((l : Int)), iv (-1), am_ph] [] H x) : am_ev (d + 3) 54 48 [.ref 53, .ref E, .ref 43, iv (P), iv (T), iv ((l : Int)), iv 0, am_ph] [] h x := by
  obtain ⟨OE, hE, x3, x4, x5⟩ := TE
  refine am_ev.step (pc' := 50) rfl rfl ?_
  refine fx_z_lt_F (pF := 53) rfl (by omega) rfl (by omega) ?_
  refine am_ev.step (pc' := 54) rfl rfl ?_
  refine am_ev.step (pc' := 55) rfl rfl ?_
  refine am_ev.step (pc' := 57) rfl rfl ?_
  refine am_ev.step (pc' := 59) rfl rfl ?_
  refine fx_z_ne_F (pF := 62) rfl (by omega) rfl (by omega) ?_
  refine am_ev.step (pc' := 63) rfl rfl ?_
  refine am_ev.step (pc' := 65) rfl rfl ?_
  refine fx_sub (p' := 66) (e := (P - T)) rfl rfl (by omega) ?_
  refine am_ev.step (pc' := 70) rfl rfl ?_
  refine ax_call (z := 58) (p' := 73) (as := [_, _, _, _]) rfl (Or.inr (Or.inl ⟨_, rfl⟩)) rfl rfl rfl rfl rfl rfl (S.ob rfl) rfl z8 rfl ?_
  refine fx_inc (p' := 76) (e := (-1)) (ls' := [.ref 53, .ref E, .ref 43, iv (P), iv (T), iv ((l : Int)), iv (-1), am_ph]) rfl rfl rfl (by omega) rfl ?_
  refine am_ev.step (pc' := 48) rfl rfl ?_
  exact q9
theorem lo_54 (hl : l ≤ 30) (bP : 6 ≤ P ∧ P ≤ 60) (bT : 0 ≤ T ∧ T ≤ 4) : ∀ (m : Nat) (h : am_H), m ≤ l → fS h → lyE h E l t u → (∀ j, m ≤ j → j < l → lyW h j (lyD t u l P T (l - m) j)) → ∃ H, (∀ x, am_ev (d + 3) 54 79 [.ref 53, .ref E, .ref 43, iv P, iv T, iv l, iv (-1), am_ph] [] H x → am_ev (d + 3) 54 48 [.ref 53, .ref E, .ref 43, iv P, iv T, iv l, iv ((m : Int) - 1), am_ph] [] h x) ∧ lyY h H ∧ ∀ j, j < l → lyW H j (lyD t u l P T l j)
  | 0, h, hm, S, TE, B => ⟨h, fun x q => ls_54z S TE q, ⟨S, rfl, rfl, fun _ _ _ _ _ => rfl, lyi.rf⟩, fun j hj => B j (Nat.zero_le _) hj⟩
  | m + 1, h, hm, S, TE, B => by
    obtain ⟨n, hn⟩ : ∃ n, n = l - (m + 1) := ⟨_, rfl⟩
    have O := lyD_b (t := t) (u := u) (l := l) (P := P) (T := T) (by omega) bT.1 n (by omega)
    have z1 : ∃ H1, am_ev (d + 2) 58 0 (am_ent [.ref 53, .ref E, iv m, iv (if m = 0 then P - T else P)] 7) [] h (none, H1) ∧ lyX h H1 m ∧ lyW H1 m (lyR t u l (if m = 0 then P - T else P) (lyD t u l P T n) m (l - m)) :=
      ly_58 S TE hl (by omega) (n := n) (by omega) (by split <;> omega) (by split <;> omega) O (fun j j1 j2 => by
        have q := B j (by omega) j2
        rw [← hn] at q
        exact q)
    obtain ⟨H1, g1, g2, g3⟩ := z1
    have nl : l - m = n + 1 := by omega
    obtain ⟨H, k1, k2, k3⟩ := lo_54 hl bP bT m H1 (by omega) g2.1 (TE.x g2) (fun j j1 j2 => by
      rw [nl]
      by_cases e : j = m
      · subst e
        rw [lyD_n (by omega)]
        rw [nl] at g3
        rw [show l - j = n + 1 by omega]
        exact g3
      · rw [lyD_o (by omega)]
        have q := B j (by omega) j2
        rw [← hn] at q
        exact q.x g2 e)
    refine ⟨H, fun x q => ?_, g2.y.tr k2, k3⟩
    have y := k1 x q
    rw [show ((m + 1 : Nat) : Int) - 1 = (m : Int) by omega]
    by_cases e : m = 0
    · subst e
      rw [if_pos rfl] at g1
      exact ls_54q S TE hl bP bT g1 y
    · rw [if_neg e] at g1
      exact ls_54p S TE (by omega) hl bP bT g1 y
theorem le_54z (S : fS h) (TE : lyE h E l t u) (hl : 1 ≤ l ∧ l ≤ 30) (w1 : h.2.2.2 58 0 = iv p) (c : p = 0) : am_ev (d + 3) 54 79 [.ref 53, .ref E, .ref 43, iv (P), iv (T), iv ((l : Int)), iv (-1), am_ph] [] h (none, h) := by
  obtain ⟨OE, hE, x3, x4, x5⟩ := TE
  refine am_ev.step (pc' := 81) rfl rfl ?_
  refine am_ev.step (pc' := 82) rfl rfl ?_
  refine fx_c_lt_F (pF := 85) rfl (by omega) (by omega) rfl (by omega) ?_
  refine am_ev.step (pc' := 86) rfl rfl ?_
  refine ax_gf (p' := 89) rfl rfl (S.ob rfl) (S.rf rfl rfl) ?_
  refine am_ev.step (pc' := 90) rfl rfl ?_
  refine ax_iaload (p' := 91) rfl rfl (S.rd (k := 0) rfl rfl rfl rfl rfl (by decide) w1) ?_
  refine fx_z_ne_F (pF := 94) rfl (by omega) rfl (by omega) ?_
  exact am_ev.retv rfl rfl
theorem le_54p (S : fS h) (TE : lyE h E l t u) (hl : 1 ≤ l ∧ l ≤ 30) (w1 : h.2.2.2 58 0 = iv p) (w2 : h.2.2.2 59 0 = iv s) (c : p ≠ 0) (bp : 0 ≤ p ∧ p ≤ 100) {x : Option Value × am_H} (q9 : am_ev (d + 3) 54 121 [.ref 53, .ref E, .ref 43, iv (P), iv (T), iv ((l : Int)), iv 0, iv 0] [] (am_put (am_put h E 8 (iv (p))) E 9 (iv (s))) x) : am_ev (d + 3) 54 79 [.ref 53, .ref E, .ref 43, iv (P), iv (T), iv ((l : Int)), iv (-1), am_ph] [] h x := by
  obtain ⟨OE, hE, x3, x4, x5⟩ := TE
  refine am_ev.step (pc' := 81) rfl rfl ?_
  refine am_ev.step (pc' := 82) rfl rfl ?_
  refine fx_c_lt_F (pF := 85) rfl (by omega) (by omega) rfl (by omega) ?_
  refine am_ev.step (pc' := 86) rfl rfl ?_
  refine ax_gf (p' := 89) rfl rfl (S.ob rfl) (S.rf rfl rfl) ?_
  refine am_ev.step (pc' := 90) rfl rfl ?_
  refine ax_iaload (p' := 91) rfl rfl (S.rd (k := 0) rfl rfl rfl rfl rfl (by decide) w1) ?_
  refine fx_z_ne_T (pT := 95) rfl (by omega) rfl (by omega) ?_
  refine am_ev.step (pc' := 96) rfl rfl ?_
  refine am_ev.step (pc' := 97) rfl rfl ?_
  refine ax_gf (p' := 100) rfl rfl (S.ob rfl) (S.rf rfl rfl) ?_
  refine am_ev.step (pc' := 101) rfl rfl ?_
  refine ax_iaload (p' := 102) rfl rfl (S.rd (k := 0) rfl rfl rfl rfl rfl (by decide) w1) ?_
  refine ax_pf (p' := 105) rfl rfl OE rfl ?_
  refine am_ev.step (pc' := 106) rfl rfl ?_
  refine am_ev.step (pc' := 107) rfl rfl ?_
  refine ax_gf (p' := 110) rfl rfl (fO (S.ob rfl)) (ax_put_o (Or.inl (by omega)) (S.rf rfl rfl)) ?_
  refine am_ev.step (pc' := 111) rfl rfl ?_
  refine ax_iaload (p' := 112) rfl rfl ((S.pd (by omega)).rd (k := 0) rfl rfl rfl rfl rfl (by decide) (ax_put_o (Or.inl (by omega)) w2)) ?_
  refine ax_pf (p' := 115) rfl rfl (fO OE) rfl ?_
  refine am_ev.step (pc' := 116) rfl rfl ?_
  refine am_ev.step (pc' := 118) (ls' := [.ref 53, .ref E, .ref 43, iv (P), iv (T), iv ((l : Int)), iv 0, am_ph]) rfl rfl ?_
  refine am_ev.step (pc' := 119) rfl rfl ?_
  refine am_ev.step (pc' := 121) (ls' := [.ref 53, .ref E, .ref 43, iv (P), iv (T), iv ((l : Int)), iv 0, iv 0]) rfl rfl ?_
  exact q9
theorem lk_z (S : fS h) (TE : lyE h E l t u) (x8 : h.2.2.2 E 8 = iv p) (c : (i : Int) + 1 = p) (bp : p ≤ 100) : am_ev (d + 3) 54 121 [.ref 53, .ref E, .ref 43, iv (P), iv (T), iv ((l : Int)), iv ((j : Int)), iv ((i : Int))] [] h (none, h) := by
  obtain ⟨OE, hE, x3, x4, x5⟩ := TE
  refine am_ev.step (pc' := 123) rfl rfl ?_
  refine am_ev.step (pc' := 124) rfl rfl ?_
  refine ax_gf (p' := 127) rfl rfl OE x8 ?_
  refine am_ev.step (pc' := 128) rfl rfl ?_
  refine fx_sub (p' := 129) (e := (p - 1)) rfl rfl (by omega) ?_
  refine fx_c_ge_T (pT := 169) rfl (by omega) (by omega) rfl (by omega) ?_
  exact am_ev.retv rfl rfl
theorem lk_s (S : fS h) (TE : lyE h E l t u) (x8 : h.2.2.2 E 8 = iv p) (c : (i : Int) + 1 < p) (bp : p ≤ 100) (hj : j < l) (hl : l ≤ 30) (hm : m ≤ 30) (w3 : h.2.2.2 60 j = iv m) (z2 : am_ev (d + 2) 62 0 (am_ent [.ref E, iv i, iv ((m : Int) - 1)] 3) [] h (none, am_put h B i (iv ((m : Int) - 1)))) {x : Option Value × am_H} (q9 : am_ev (d + 3) 54 121 [.ref 53, .ref E, .ref 43, iv P, iv T, iv l, iv m, iv ((i + 1 : Nat) : Int)] [] (am_put h B i (iv ((m : Int) - 1))) x) : am_ev (d + 3) 54 121 [.ref 53, .ref E, .ref 43, iv (P), iv (T), iv ((l : Int)), iv ((j : Int)), iv ((i : Int))] [] h x := by
  obtain ⟨OE, hE, x3, x4, x5⟩ := TE
  refine am_ev.step (pc' := 123) rfl rfl ?_
  refine am_ev.step (pc' := 124) rfl rfl ?_
  refine ax_gf (p' := 127) rfl rfl OE x8 ?_
  refine am_ev.step (pc' := 128) rfl rfl ?_
  refine fx_sub (p' := 129) (e := (p - 1)) rfl rfl (by omega) ?_
  refine fx_c_ge_F (pF := 132) rfl (by omega) (by omega) rfl (by omega) ?_
  refine am_ev.step (pc' := 134) rfl rfl ?_
  refine fx_z_lt_F (pF := 137) rfl (by omega) rfl (by omega) ?_
  refine am_ev.step (pc' := 139) rfl rfl ?_
  refine am_ev.step (pc' := 141) rfl rfl ?_
  refine fx_c_ge_F (pF := 144) rfl (by omega) (by omega) rfl (by omega) ?_
  refine am_ev.step (pc' := 145) rfl rfl ?_
  refine ax_gf (p' := 148) rfl rfl (S.ob rfl) (S.rf rfl rfl) ?_
  refine am_ev.step (pc' := 150) rfl rfl ?_
  refine ax_iaload (p' := 151) rfl rfl (S.rd (k := j) rfl rfl rfl rfl rfl (by omega) w3) ?_
  refine am_ev.step (pc' := 153) (ls' := [.ref 53, .ref E, .ref 43, iv (P), iv (T), iv ((l : Int)), iv ((m : Int)), iv ((i : Int))]) rfl rfl ?_
  refine am_ev.step (pc' := 154) rfl rfl ?_
  refine am_ev.step (pc' := 156) rfl rfl ?_
  refine am_ev.step (pc' := 158) rfl rfl ?_
  refine am_ev.step (pc' := 159) rfl rfl ?_
  refine fx_sub (p' := 160) (e := ((m : Int) - 1)) rfl rfl (by omega) ?_
  refine ax_call (z := 62) (p' := 163) (as := [_, _, _]) rfl (Or.inr (Or.inl ⟨_, rfl⟩)) rfl rfl rfl rfl rfl rfl OE rfl z2 rfl ?_
  refine fx_inc (p' := 166) (e := ((i : Int) + 1)) (ls' := [.ref 53, .ref E, .ref 43, iv (P), iv (T), iv ((l : Int)), iv ((m : Int)), iv ((i : Int) + 1)]) rfl rfl rfl (by omega) rfl ?_
  refine am_ev.step (pc' := 121) rfl rfl ?_
  exact (rr_n ▸ q9)
theorem lk_54 (hl : 1 ≤ l ∧ l ≤ 30) (bP : P ≤ 60) (bT : 0 ≤ T) (ne : B ≠ E) (hB : 130 ≤ B) (hn : l ≤ nb ∧ nb ≤ 1000) (hp : (lyD t u l P T l 0).1 = p) : ∀ (m i : Nat) (h : am_H), (i : Int) + m + 1 = p → fS h → lyE h E l t u → h.2.2.2 E 2 = .ref B → h.2.2.1 B = (1, 0, nb) → B < h.1 → h.2.2.2 E 8 = iv p → (∀ j, j < l → lyW h j (lyD t u l P T l j)) → ∃ H, am_ev (d + 3) 54 121 [.ref 53, .ref E, .ref 43, iv P, iv T, iv l, iv (lyN (lyD t u l P T l) i : Int), iv i] [] h (none, H) ∧ lyV h H E B ∧ (∀ j, H.2.2.2 E j = h.2.2.2 E j) ∧ (∀ k, k < i → H.2.2.2 B k = h.2.2.2 B k) ∧ ∀ k, i ≤ k → (k : Int) + 1 < p → H.2.2.2 B k = iv ((lyN (lyD t u l P T l) (k + 1) : Int) - 1)
  | 0, i, h, hm, S, TE, x2, sB, lB, x8, R => ⟨h, lk_z S TE x8 (by omega) (by have := (lyD_b (t := t) (u := u) bP bT l (Nat.le_refl _) 0).2.1; omega), lyY.v ⟨S, rfl, rfl, fun _ _ _ _ _ => rfl, lyi.rf⟩, fun _ => rfl, fun _ _ => rfl, fun k a b => absurd b (by omega)⟩
  | m + 1, i, h, hm, S, TE, x2, sB, lB, x8, R => by
    have b0 := lyD_b (t := t) (u := u) bP bT l (Nat.le_refl _)
    have p30 : p ≤ 30 := by
      have := (b0 0).2.1
      omega
    obtain ⟨q1, q2⟩ := lyN_q (t := t) (u := u) bP bT hl.1 i (by omega)
    have il : i < l := by
      have := (b0 0).2.1
      omega
    obtain ⟨w1, w2, w3⟩ := R _ q1
    have m30 := (b0 (lyN (lyD t u l P T l) i)).2.2.2.2
    have hal : am_len h B = some nb := by
      unfold am_len
      rw [sB]
      rw [show Nat.blt B h.1 = true from Nat.ble_eq_true_of_le lB]
      rfl
    have hwr : am_wr h B (Int32.ofInt (i : Int)) 0 (iv (((lyD t u l P T l (lyN (lyD t u l P T l) i)).2.2 : Int) - 1)) = some (am_put h B i (iv (((lyD t u l P T l (lyN (lyD t u l P T l) i)).2.2 : Int) - 1))) := by
      have z := fx_ti (e := (i : Int)) (by omega)
      rw [ax_wrv (h := h) (a := B) (n := nb) (tc := 0) lB sB (by rw [z]; omega) (by rw [z]; omega), z, Int.toNat_natCast]
    have z2 := ly_62 (d := d + 2) (z := ((lyD t u l P T l (lyN (lyD t u l P T l) i)).2.2 : Int) - 1) S TE x2 hal hwr (by omega) hn.2
    have V1 : lyV h (am_put h B i (iv (((lyD t u l P T l (lyN (lyD t u l P T l) i)).2.2 : Int) - 1))) E B := lyV.po S hB (Or.inl rfl)
    have eE : ∀ j, (am_put h B i (iv (((lyD t u l P T l (lyN (lyD t u l P T l) i)).2.2 : Int) - 1))).2.2.2 E j = h.2.2.2 E j := fun j => ax_put_o (Or.inl (fun e => ne e.symm)) rfl
    have fo : ∀ c k, c < 130 → (am_put h B i (iv (((lyD t u l P T l (lyN (lyD t u l P T l) i)).2.2 : Int) - 1))).2.2.2 c k = h.2.2.2 c k := fun c k hc => ax_put_o (Or.inl (by omega)) rfl
    obtain ⟨H, g1, g2, g3, g4, g5⟩ := lk_54 hl bP bT ne hB hn hp m (i + 1) _ (by omega) V1.1 (TE.v V1 ne) ((eE 2).trans x2) sB lB ((eE 8).trans x8) (fun j hj => by
      obtain ⟨a1, a2, a3⟩ := R j hj
      exact ⟨(fo 58 j (by decide)).trans a1, (fo 59 j (by decide)).trans a2, (fo 60 j (by decide)).trans a3⟩)
    refine ⟨H, lk_s S TE x8 (by omega) (by omega) q1 hl.2 (by omega) w3 z2 g1, V1.tr g2, fun j => (g3 j).trans (eE j), fun k hk => (g4 k (by omega)).trans (ax_put_o (Or.inr (by omega)) rfl), fun k k1 k2 => ?_⟩
    by_cases e : k = i
    · subst e
      exact (g4 k (by omega)).trans (ax_put_s _ _ _)
    · exact g5 k (by omega) k2
/-- an edition's layout, as it is kept, is the right one -/
def lyK (h : am_H) (E B l : Nat) (t u : Int32) (P T : Int) : Prop := h.2.2.2 E 6 = iv P ∧ h.2.2.2 E 7 = iv T ∧ (((lyD t u l P T l 0).1 = 0 ∧ h.2.2.2 E 8 = iv (-1) ∧ h.2.2.2 E 9 = iv (-1)) ∨ (0 < (lyD t u l P T l 0).1 ∧ h.2.2.2 E 8 = iv (lyD t u l P T l 0).1 ∧ h.2.2.2 E 9 = iv (lyD t u l P T l 0).2.1 ∧ ∀ k : Nat, (k : Int) + 1 < (lyD t u l P T l 0).1 → h.2.2.2 B k = iv ((lyN (lyD t u l P T l) (k + 1) : Int) - 1)))
theorem ly_54f (S : fS h) (TE : lyE h E l t u) (hl : 1 ≤ l ∧ l ≤ 30) (vP : h.2.2.2 44 0 = iv P) (vT : h.2.2.2 44 2 = iv T) (x6 : h.2.2.2 E 6 = iv f6) (x7 : h.2.2.2 E 7 = iv f7) (bP : 6 ≤ P ∧ P ≤ 60) (bT : 0 ≤ T ∧ T ≤ 4) (b6 : -2147483648 ≤ f6 ∧ f6 ≤ 2147483647) (b7 : -2147483648 ≤ f7 ∧ f7 ≤ 2147483647) (x2 : h.2.2.2 E 2 = .ref B) (ne : B ≠ E) (hB : 130 ≤ B) (sB : h.2.2.1 B = (1, 0, nb)) (lB : B < h.1) (hn : l ≤ nb ∧ nb ≤ 1000) (c : ¬ (f6 = P ∧ f7 = T)) : ∃ H, am_ev (d + 3) 54 0 (am_ent [.ref 53, .ref E, .ref 43] 8) [] h (none, H) ∧ lyV h H E B ∧ lyK H E B l t u P T := by
  have V1 : lyV h (am_put (am_put (am_put (am_put h E 6 (iv (P))) E 7 (iv (T))) E 8 (iv (-1))) E 9 (iv (-1))) E B := ((lyV.po S TE.2.1 (Or.inr ⟨rfl, by decide, by decide⟩)).tr (lyV.po (S.pd TE.2.1) TE.2.1 (Or.inr ⟨rfl, by decide, by decide⟩))).tr ((lyV.po ((S.pd TE.2.1).pd TE.2.1) TE.2.1 (Or.inr ⟨rfl, by decide, by decide⟩)).tr (lyV.po (((S.pd TE.2.1).pd TE.2.1).pd TE.2.1) TE.2.1 (Or.inr ⟨rfl, by decide, by decide⟩)))
  have TE1 := TE.v V1 ne
  obtain ⟨H1, g1, g2, g3⟩ := lo_54 (d := d) (t := t) (u := u) hl.2 bP bT l _ (Nat.le_refl _) V1.1 TE1 (fun j j1 j2 => absurd j1 (by omega))
  have TE2 := TE1.y g2
  have S2 := g2.1
  obtain ⟨w1, w2, w3⟩ := g3 0 hl.1
  have fE : ∀ k, H1.2.2.2 E k = (am_put (am_put (am_put (am_put h E 6 (iv (P))) E 7 (iv (T))) E 8 (iv (-1))) E 9 (iv (-1))).2.2.2 E k := fun k => g2.2.2.2.1 E k (by have := TE.2.1; omega) (by have := TE.2.1; omega) (by have := TE.2.1; omega)
  have b0 := lyD_b (t := t) (u := u) (l := l) (P := P) (T := T) (by omega) bT.1 l (Nat.le_refl _) 0
  have q6 : (am_put (am_put (am_put (am_put h E 6 (iv (P))) E 7 (iv (T))) E 8 (iv (-1))) E 9 (iv (-1))).2.2.2 E 6 = iv P := ax_put_o (Or.inr (by decide)) (ax_put_o (Or.inr (by decide)) (ax_put_o (Or.inr (by decide)) (ax_put_s _ _ _)))
  have q7 : (am_put (am_put (am_put (am_put h E 6 (iv (P))) E 7 (iv (T))) E 8 (iv (-1))) E 9 (iv (-1))).2.2.2 E 7 = iv T := ax_put_o (Or.inr (by decide)) (ax_put_o (Or.inr (by decide)) (ax_put_s _ _ _))
  have q8 : (am_put (am_put (am_put (am_put h E 6 (iv (P))) E 7 (iv (T))) E 8 (iv (-1))) E 9 (iv (-1))).2.2.2 E 8 = iv (-1) := ax_put_o (Or.inr (by decide)) (ax_put_s _ _ _)
  have q9 : (am_put (am_put (am_put (am_put h E 6 (iv (P))) E 7 (iv (T))) E 8 (iv (-1))) E 9 (iv (-1))).2.2.2 E 9 = iv (-1) := ax_put_s _ _ _
  have VY := V1.tr (g2.v (E := E) (B := B))
  by_cases c0 : (lyD t u l P T l 0).1 = 0
  · exact ⟨H1, ly_54s S TE hl vP vT x6 x7 bP bT b6 b7 c (g1 _ (le_54z S2 TE2 hl w1 c0)), VY, (fE 6).trans q6, (fE 7).trans q7, Or.inl ⟨c0, (fE 8).trans q8, (fE 9).trans q9⟩⟩
  · have n2 : (am_put (am_put (am_put (am_put h E 6 (iv (P))) E 7 (iv (T))) E 8 (iv (-1))) E 9 (iv (-1))).2.2.2 E 2 = .ref B := (V1.2.2.2.1 E 2 (by have := TE.2.1; omega) (by have := TE.2.1; omega) (by have := TE.2.1; omega) (Or.inr (Or.inl (by decide))) (fun e => ne e.symm)).trans x2
    have SA : fS (am_put H1 E 8 (iv (lyD t u l P T l 0).1)) := S2.pd TE.2.1
    have V2 : lyV H1 (am_put (am_put H1 E 8 (iv (lyD t u l P T l 0).1)) E 9 (iv (lyD t u l P T l 0).2.1)) E B := (lyV.po S2 TE.2.1 (Or.inr ⟨rfl, by decide, by decide⟩)).tr (lyV.po SA TE.2.1 (Or.inr ⟨rfl, by decide, by decide⟩))
    have fo : ∀ c k, c < 130 → (am_put (am_put H1 E 8 (iv (lyD t u l P T l 0).1)) E 9 (iv (lyD t u l P T l 0).2.1)).2.2.2 c k = H1.2.2.2 c k := fun c k hc => ax_put_o (Or.inl (by have := TE.2.1; omega)) (ax_put_o (Or.inl (by have := TE.2.1; omega)) rfl)
    have fp : ∀ k, k < 8 → (am_put (am_put H1 E 8 (iv (lyD t u l P T l 0).1)) E 9 (iv (lyD t u l P T l 0).2.1)).2.2.2 E k = H1.2.2.2 E k := fun k hk => ax_put_o (Or.inr (by omega)) (ax_put_o (Or.inr (by omega)) rfl)
    have sz1 : H1.1 = h.1 := VY.2.1
    have sz2 : H1.2.2.1 = h.2.2.1 := VY.2.2.1
    obtain ⟨H, k1, k2, k3, k4, k5⟩ := lk_54 (d := d) (t := t) (u := u) hl (by omega : P ≤ 60) bT.1 ne hB hn rfl ((lyD t u l P T l 0).1.toNat - 1) 0 _ (by omega) V2.1 (TE2.v V2 ne) ((fp 2 (by decide)).trans ((fE 2).trans n2)) (show H1.2.2.1 B = _ by rw [sz2]; exact sB) (show B < H1.1 by rw [sz1]; exact lB) (ax_put_o (Or.inr (by decide)) (ax_put_s _ _ _)) (fun j hj => by
      obtain ⟨a1, a2, a3⟩ := g3 j hj
      exact ⟨(fo 58 j (by decide)).trans a1, (fo 59 j (by decide)).trans a2, (fo 60 j (by decide)).trans a3⟩)
    refine ⟨H, ly_54s S TE hl vP vT x6 x7 bP bT b6 b7 c (g1 _ (le_54p S2 TE2 hl w1 w2 c0 (by omega) k1)), (VY.tr V2).tr k2, (k3 6).trans ((fp 6 (by decide)).trans ((fE 6).trans q6)), (k3 7).trans ((fp 7 (by decide)).trans ((fE 7).trans q7)), Or.inr ⟨by omega, (k3 8).trans (ax_put_o (Or.inr (by decide)) (ax_put_s _ _ _)), (k3 9).trans (ax_put_s _ _ _), fun k hk => k5 k (Nat.zero_le _) hk⟩⟩
end LYG
end
section
/-! THE LAYOUT OF A TEXT, the model's side -/
section LYM
variable {d z l i j k m n a c : Nat} {h g : am_H} {t u : Int32} {P T q e : Int}
/-- a text's lines, as the model keeps them -/
def lyF (g : am_H) (z l : Nat) (t u : Int32) (P T : Int) : Prop := z ≤ 119 ∧ (1 ≤ l ∧ l ≤ 30) ∧ bt u 0 = true ∧ g.2.2.2 93 z = iv l ∧ (∀ i, i < l → g.2.2.2 96 (30 * z + i) = iv (b2 (bt u i))) ∧ (∀ i, i < l → g.2.2.2 97 (30 * z + i) = iv (b2 (bt t i))) ∧ g.2.2.2 81 0 = iv P ∧ g.2.2.2 81 2 = iv T ∧ (6 ≤ P ∧ P ≤ 60) ∧ (0 ≤ T ∧ T ≤ 4)
theorem ml_191 (hz : z ≤ 119) (hi : i ≤ 31) : am_ev d 191 0 (am_ent [iv z, iv i] 2) [] h (some (iv (30 * (z : Int) + (i : Int))), h) := by
  show am_ev d 191 0 [iv z, iv i] [] h _
  refine fx_bip (p' := 2) rfl rfl rfl ?_
  refine am_ev.step (pc' := 3) rfl rfl ?_
  refine fx_mul (p' := 4) (e := (30 * (z : Int))) rfl rfl (by omega) ?_
  refine am_ev.step (pc' := 5) rfl rfl ?_
  refine fx_add (p' := 6) (e := (30 * (z : Int) + (i : Int))) rfl rfl (by omega) ?_
  exact fx_reti rfl rfl rfl
theorem ml_191x (hz : z ≤ 119) (hi : i ≤ 31) (he : e = (i : Int)) : am_ev d 191 0 (am_ent [iv z, iv e] 2) [] h (some (iv (30 * (z : Int) + (i : Int))), h) := by
  subst he
  exact ml_191 hz hi
theorem ma_t (S : fS h) (M : lyF h z l t u P T) (hi : i + 1 < l) (hm : m + a = i + 1) (w : bt u m = true) {x : Option Value × am_H} (q9 : am_ev (d + 1) 201 57 [.ref 78, iv ((z : Int)), iv ((i : Int)), iv ((a : Int)), am_ph] [] h x) : am_ev (d + 1) 201 34 [.ref 78, iv ((z : Int)), iv ((i : Int)), iv ((a : Int)), am_ph] [] h x := by
  obtain ⟨hz, hl, u0, g93, g96, g97, g810, g812, bP, bT⟩ := id M
  have w1 : h.2.2.2 96 (30 * z + m) = iv 1 := by
    rw [g96 m (by omega), w]
    rfl
  refine am_ev.step (pc' := 35) rfl rfl ?_
  refine ax_gf (p' := 38) rfl rfl (S.ob rfl) (S.rf rfl rfl) ?_
  refine am_ev.step (pc' := 39) rfl rfl ?_
  refine am_ev.step (pc' := 40) rfl rfl ?_
  refine am_ev.step (pc' := 41) rfl rfl ?_
  refine fx_add (p' := 42) (e := ((i : Int) + 1)) rfl rfl (by omega) ?_
  refine am_ev.step (pc' := 43) rfl rfl ?_
  refine fx_sub (p' := 44) (e := ((i : Int) - (a : Int) + 1)) rfl rfl (by omega) ?_
  refine ax_call (z := 191) (p' := 47) (as := [_, _]) rfl (Or.inl ⟨_, rfl⟩) rfl rfl rfl rfl rfl rfl rfl rfl (ml_191x (i := m) (by omega) (by omega) (by omega)) rfl ?_
  refine ax_baload (p' := 48) rfl rfl (S.rd (k := (30 * z + m)) rfl rfl rfl rfl (by omega) (by omega) w1) ?_
  refine fx_z_ne_T (pT := 57) rfl (by omega) rfl (by omega) ?_
  exact q9
theorem ma_f (S : fS h) (M : lyF h z l t u P T) (hi : i + 1 < l) (hm : m + a = i + 1) (w : bt u m = false) {x : Option Value × am_H} (q9 : am_ev (d + 1) 201 34 [.ref 78, iv z, iv i, iv ((a + 1 : Nat) : Int), am_ph] [] h x) : am_ev (d + 1) 201 34 [.ref 78, iv ((z : Int)), iv ((i : Int)), iv ((a : Int)), am_ph] [] h x := by
  obtain ⟨hz, hl, u0, g93, g96, g97, g810, g812, bP, bT⟩ := id M
  have w1 : h.2.2.2 96 (30 * z + m) = iv 0 := by
    rw [g96 m (by omega), w]
    rfl
  refine am_ev.step (pc' := 35) rfl rfl ?_
  refine ax_gf (p' := 38) rfl rfl (S.ob rfl) (S.rf rfl rfl) ?_
  refine am_ev.step (pc' := 39) rfl rfl ?_
  refine am_ev.step (pc' := 40) rfl rfl ?_
  refine am_ev.step (pc' := 41) rfl rfl ?_
  refine fx_add (p' := 42) (e := ((i : Int) + 1)) rfl rfl (by omega) ?_
  refine am_ev.step (pc' := 43) rfl rfl ?_
  refine fx_sub (p' := 44) (e := ((i : Int) - (a : Int) + 1)) rfl rfl (by omega) ?_
  refine ax_call (z := 191) (p' := 47) (as := [_, _]) rfl (Or.inl ⟨_, rfl⟩) rfl rfl rfl rfl rfl rfl rfl rfl (ml_191x (i := m) (by omega) (by omega) (by omega)) rfl ?_
  refine ax_baload (p' := 48) rfl rfl (S.rd (k := (30 * z + m)) rfl rfl rfl rfl (by omega) (by omega) w1) ?_
  refine fx_z_ne_F (pF := 51) rfl (by omega) rfl (by omega) ?_
  refine fx_inc (p' := 54) (e := ((a : Int) + 1)) (ls' := [.ref 78, iv ((z : Int)), iv ((i : Int)), iv ((a : Int) + 1), am_ph]) rfl rfl rfl (by omega) rfl ?_
  refine am_ev.step (pc' := 34) rfl rfl ?_
  exact (rr_n ▸ q9)
theorem ma_lp (S : fS h) (M : lyF h z l t u P T) (hi : i + 1 < l) : ∀ m a : Nat, m + a = i + 1 → ∃ a', a ≤ a' ∧ a' ≤ i + 1 ∧ ∀ x, am_ev (d + 1) 201 57 [.ref 78, iv z, iv i, iv (a' : Int), am_ph] [] h x → am_ev (d + 1) 201 34 [.ref 78, iv z, iv i, iv (a : Int), am_ph] [] h x
  | 0, a, hm => ⟨a, Nat.le_refl _, by omega, fun x q => ma_t S M hi hm M.2.2.1 q⟩
  | m + 1, a, hm => by
    cases w : bt u (m + 1) with
    | true => exact ⟨a, Nat.le_refl _, by omega, fun x q => ma_t S M hi hm w q⟩
    | false =>
      obtain ⟨a', b1, b2, b3⟩ := ma_lp S M hi m (a + 1) (by omega)
      exact ⟨a', by omega, b2, fun x q => ma_f S M hi hm w (b3 x q)⟩
theorem mb_e (S : fS h) (M : lyF h z l t u P T) (hm : l ≤ i + 1 + c) (hc : c ≤ 40) (hi : i ≤ 40) {x : Option Value × am_H} (q9 : am_ev (d + 1) 201 99 [.ref 78, iv ((z : Int)), iv ((i : Int)), iv ((a : Int)), iv ((c : Int))] [] h x) : am_ev (d + 1) 201 60 [.ref 78, iv ((z : Int)), iv ((i : Int)), iv ((a : Int)), iv ((c : Int))] [] h x := by
  obtain ⟨hz, hl, u0, g93, g96, g97, g810, g812, bP, bT⟩ := id M
  refine am_ev.step (pc' := 61) rfl rfl ?_
  refine am_ev.step (pc' := 62) rfl rfl ?_
  refine fx_add (p' := 63) (e := ((i : Int) + 1)) rfl rfl (by omega) ?_
  refine am_ev.step (pc' := 65) rfl rfl ?_
  refine fx_add (p' := 66) (e := ((i : Int) + (c : Int) + 1)) rfl rfl (by omega) ?_
  refine am_ev.step (pc' := 67) rfl rfl ?_
  refine ax_gf (p' := 70) rfl rfl (S.ob rfl) (S.rf rfl rfl) ?_
  refine am_ev.step (pc' := 71) rfl rfl ?_
  refine ax_iaload (p' := 72) rfl rfl (S.rd (k := z) rfl rfl rfl rfl rfl (by omega) g93) ?_
  refine fx_c_ge_T (pT := 99) rfl (by omega) (by omega) rfl (by omega) ?_
  exact q9
theorem mb_t (S : fS h) (M : lyF h z l t u P T) (hm : i + 1 + c = m) (hl2 : m < l) (w : bt u m = true) {x : Option Value × am_H} (q9 : am_ev (d + 1) 201 99 [.ref 78, iv ((z : Int)), iv ((i : Int)), iv ((a : Int)), iv ((c : Int))] [] h x) : am_ev (d + 1) 201 60 [.ref 78, iv ((z : Int)), iv ((i : Int)), iv ((a : Int)), iv ((c : Int))] [] h x := by
  obtain ⟨hz, hl, u0, g93, g96, g97, g810, g812, bP, bT⟩ := id M
  have w1 : h.2.2.2 96 (30 * z + m) = iv 1 := by
    rw [g96 m (by omega), w]
    rfl
  refine am_ev.step (pc' := 61) rfl rfl ?_
  refine am_ev.step (pc' := 62) rfl rfl ?_
  refine fx_add (p' := 63) (e := ((i : Int) + 1)) rfl rfl (by omega) ?_
  refine am_ev.step (pc' := 65) rfl rfl ?_
  refine fx_add (p' := 66) (e := ((i : Int) + (c : Int) + 1)) rfl rfl (by omega) ?_
  refine am_ev.step (pc' := 67) rfl rfl ?_
  refine ax_gf (p' := 70) rfl rfl (S.ob rfl) (S.rf rfl rfl) ?_
  refine am_ev.step (pc' := 71) rfl rfl ?_
  refine ax_iaload (p' := 72) rfl rfl (S.rd (k := z) rfl rfl rfl rfl rfl (by omega) g93) ?_
  refine fx_c_ge_F (pF := 75) rfl (by omega) (by omega) rfl (by omega) ?_
  refine am_ev.step (pc' := 76) rfl rfl ?_
  refine ax_gf (p' := 79) rfl rfl (S.ob rfl) (S.rf rfl rfl) ?_
  refine am_ev.step (pc' := 80) rfl rfl ?_
  refine am_ev.step (pc' := 81) rfl rfl ?_
  refine am_ev.step (pc' := 82) rfl rfl ?_
  refine fx_add (p' := 83) (e := ((i : Int) + 1)) rfl rfl (by omega) ?_
  refine am_ev.step (pc' := 85) rfl rfl ?_
  refine fx_add (p' := 86) (e := ((i : Int) + (c : Int) + 1)) rfl rfl (by omega) ?_
  refine ax_call (z := 191) (p' := 89) (as := [_, _]) rfl (Or.inl ⟨_, rfl⟩) rfl rfl rfl rfl rfl rfl rfl rfl (ml_191x (i := m) (by omega) (by omega) (by omega)) rfl ?_
  refine ax_baload (p' := 90) rfl rfl (S.rd (k := (30 * z + m)) rfl rfl rfl rfl (by omega) (by omega) w1) ?_
  refine fx_z_ne_T (pT := 99) rfl (by omega) rfl (by omega) ?_
  exact q9
theorem mb_f (S : fS h) (M : lyF h z l t u P T) (hm : i + 1 + c = m) (hl2 : m < l) (w : bt u m = false) {x : Option Value × am_H} (q9 : am_ev (d + 1) 201 60 [.ref 78, iv z, iv i, iv (a : Int), iv ((c + 1 : Nat) : Int)] [] h x) : am_ev (d + 1) 201 60 [.ref 78, iv ((z : Int)), iv ((i : Int)), iv ((a : Int)), iv ((c : Int))] [] h x := by
  obtain ⟨hz, hl, u0, g93, g96, g97, g810, g812, bP, bT⟩ := id M
  have w1 : h.2.2.2 96 (30 * z + m) = iv 0 := by
    rw [g96 m (by omega), w]
    rfl
  refine am_ev.step (pc' := 61) rfl rfl ?_
  refine am_ev.step (pc' := 62) rfl rfl ?_
  refine fx_add (p' := 63) (e := ((i : Int) + 1)) rfl rfl (by omega) ?_
  refine am_ev.step (pc' := 65) rfl rfl ?_
  refine fx_add (p' := 66) (e := ((i : Int) + (c : Int) + 1)) rfl rfl (by omega) ?_
  refine am_ev.step (pc' := 67) rfl rfl ?_
  refine ax_gf (p' := 70) rfl rfl (S.ob rfl) (S.rf rfl rfl) ?_
  refine am_ev.step (pc' := 71) rfl rfl ?_
  refine ax_iaload (p' := 72) rfl rfl (S.rd (k := z) rfl rfl rfl rfl rfl (by omega) g93) ?_
  refine fx_c_ge_F (pF := 75) rfl (by omega) (by omega) rfl (by omega) ?_
  refine am_ev.step (pc' := 76) rfl rfl ?_
  refine ax_gf (p' := 79) rfl rfl (S.ob rfl) (S.rf rfl rfl) ?_
  refine am_ev.step (pc' := 80) rfl rfl ?_
  refine am_ev.step (pc' := 81) rfl rfl ?_
  refine am_ev.step (pc' := 82) rfl rfl ?_
  refine fx_add (p' := 83) (e := ((i : Int) + 1)) rfl rfl (by omega) ?_
  refine am_ev.step (pc' := 85) rfl rfl ?_
  refine fx_add (p' := 86) (e := ((i : Int) + (c : Int) + 1)) rfl rfl (by omega) ?_
  refine ax_call (z := 191) (p' := 89) (as := [_, _]) rfl (Or.inl ⟨_, rfl⟩) rfl rfl rfl rfl rfl rfl rfl rfl (ml_191x (i := m) (by omega) (by omega) (by omega)) rfl ?_
  refine ax_baload (p' := 90) rfl rfl (S.rd (k := (30 * z + m)) rfl rfl rfl rfl (by omega) (by omega) w1) ?_
  refine fx_z_ne_F (pF := 93) rfl (by omega) rfl (by omega) ?_
  refine fx_inc (p' := 96) (e := ((c : Int) + 1)) (ls' := [.ref 78, iv ((z : Int)), iv ((i : Int)), iv ((a : Int)), iv ((c : Int) + 1)]) rfl rfl rfl (by omega) rfl ?_
  refine am_ev.step (pc' := 60) rfl rfl ?_
  exact (rr_n ▸ q9)
theorem mb_lp (S : fS h) (M : lyF h z l t u P T) : ∀ m c : Nat, i + 1 + c + m = l → ∃ c', c ≤ c' ∧ c' ≤ l ∧ ∀ x, am_ev (d + 1) 201 99 [.ref 78, iv z, iv i, iv (a : Int), iv (c' : Int)] [] h x → am_ev (d + 1) 201 60 [.ref 78, iv z, iv i, iv (a : Int), iv (c : Int)] [] h x
  | 0, c, hm => ⟨c, Nat.le_refl _, by omega, fun x q => mb_e S M (by omega) (by have := M.2.1; omega) (by have := M.2.1; omega) q⟩
  | m + 1, c, hm => by
    cases w : bt u (i + 1 + c) with
    | true => exact ⟨c, Nat.le_refl _, by omega, fun x q => mb_t S M rfl (by omega) w q⟩
    | false =>
      obtain ⟨c', b1, b2, b3⟩ := mb_lp S M m (c + 1) (by omega)
      exact ⟨c', by omega, b2, fun x q => mb_f S M rfl (by omega) w (b3 x q)⟩
theorem me_a (ha : a ≤ 40) (hc : c ≤ 40) (c1 : 1 < a) (c2 : 1 < c) : am_ev (d + 1) 201 99 [.ref 78, iv z, iv i, iv (a : Int), iv (c : Int)] [] h (some (iv 1), h) := by
  refine am_ev.step (pc' := 100) rfl rfl ?_
  refine am_ev.step (pc' := 101) rfl rfl ?_
  refine fx_c_le_F (pF := 104) rfl (by omega) (by omega) rfl (by omega) ?_
  refine am_ev.step (pc' := 106) rfl rfl ?_
  refine am_ev.step (pc' := 107) rfl rfl ?_
  refine fx_c_le_F (pF := 110) rfl (by omega) (by omega) rfl (by omega) ?_
  refine am_ev.step (pc' := 111) rfl rfl ?_
  refine am_ev.step (pc' := 115) rfl rfl ?_
  exact fx_reti rfl rfl rfl
theorem me_b (ha : a ≤ 40) (hc : c ≤ 40) (c1 : 1 < a) (c2 : c = 1) : am_ev (d + 1) 201 99 [.ref 78, iv z, iv i, iv (a : Int), iv (c : Int)] [] h (some (iv 0), h) := by
  refine am_ev.step (pc' := 100) rfl rfl ?_
  refine am_ev.step (pc' := 101) rfl rfl ?_
  refine fx_c_le_F (pF := 104) rfl (by omega) (by omega) rfl (by omega) ?_
  refine am_ev.step (pc' := 106) rfl rfl ?_
  refine am_ev.step (pc' := 107) rfl rfl ?_
  refine fx_c_le_T (pT := 114) rfl (by omega) (by omega) rfl (by omega) ?_
  refine am_ev.step (pc' := 115) rfl rfl ?_
  exact fx_reti rfl rfl rfl
theorem me_c (ha : a ≤ 40) (hc : c ≤ 40) (c1 : a = 1) (c2 : True) : am_ev (d + 1) 201 99 [.ref 78, iv z, iv i, iv (a : Int), iv (c : Int)] [] h (some (iv 0), h) := by
  refine am_ev.step (pc' := 100) rfl rfl ?_
  refine am_ev.step (pc' := 101) rfl rfl ?_
  refine fx_c_le_T (pT := 114) rfl (by omega) (by omega) rfl (by omega) ?_
  refine am_ev.step (pc' := 115) rfl rfl ?_
  exact fx_reti rfl rfl rfl
theorem ms_t (S : fS h) (M : lyF h z l t u P T) (hi : i + 1 < l) (w : bt t i = true) : am_ev (d + 1) 201 0 [.ref 78, iv z, iv i, am_ph, am_ph] [] h (some (iv 0), h) := by
  obtain ⟨hz, hl, u0, g93, g96, g97, g810, g812, bP, bT⟩ := id M
  have w0 : h.2.2.2 97 (30 * z + i) = iv 1 := by
    rw [g97 i (by omega), w]
    rfl
  refine am_ev.step (pc' := 1) rfl rfl ?_
  refine ax_gf (p' := 4) rfl rfl (S.ob rfl) (S.rf rfl rfl) ?_
  refine am_ev.step (pc' := 5) rfl rfl ?_
  refine am_ev.step (pc' := 6) rfl rfl ?_
  refine ax_call (z := 191) (p' := 9) (as := [_, _]) rfl (Or.inl ⟨_, rfl⟩) rfl rfl rfl rfl rfl rfl rfl rfl (ml_191x (i := i) (by omega) (by omega) (by omega)) rfl ?_
  refine ax_baload (p' := 10) rfl rfl (S.rd (k := (30 * z + i)) rfl rfl rfl rfl (by omega) (by omega) w0) ?_
  refine fx_z_eq_F (pF := 13) rfl (by omega) rfl (by omega) ?_
  refine am_ev.step (pc' := 14) rfl rfl ?_
  exact fx_reti rfl rfl rfl
theorem ms_s (S : fS h) (M : lyF h z l t u P T) (hi : i + 1 < l) (w : bt t i = false) (w2 : bt u (i + 1) = true) : am_ev (d + 1) 201 0 [.ref 78, iv z, iv i, am_ph, am_ph] [] h (some (iv 1), h) := by
  obtain ⟨hz, hl, u0, g93, g96, g97, g810, g812, bP, bT⟩ := id M
  have w0 : h.2.2.2 97 (30 * z + i) = iv 0 := by
    rw [g97 i (by omega), w]
    rfl
  have w1 : h.2.2.2 96 (30 * z + i + 1) = iv 1 := by
    have y := g96 (i + 1) (by omega)
    rw [w2] at y
    exact y
  refine am_ev.step (pc' := 1) rfl rfl ?_
  refine ax_gf (p' := 4) rfl rfl (S.ob rfl) (S.rf rfl rfl) ?_
  refine am_ev.step (pc' := 5) rfl rfl ?_
  refine am_ev.step (pc' := 6) rfl rfl ?_
  refine ax_call (z := 191) (p' := 9) (as := [_, _]) rfl (Or.inl ⟨_, rfl⟩) rfl rfl rfl rfl rfl rfl rfl rfl (ml_191x (i := i) (by omega) (by omega) (by omega)) rfl ?_
  refine ax_baload (p' := 10) rfl rfl (S.rd (k := (30 * z + i)) rfl rfl rfl rfl (by omega) (by omega) w0) ?_
  refine fx_z_eq_T (pT := 15) rfl (by omega) rfl (by omega) ?_
  refine am_ev.step (pc' := 16) rfl rfl ?_
  refine ax_gf (p' := 19) rfl rfl (S.ob rfl) (S.rf rfl rfl) ?_
  refine am_ev.step (pc' := 20) rfl rfl ?_
  refine am_ev.step (pc' := 21) rfl rfl ?_
  refine am_ev.step (pc' := 22) rfl rfl ?_
  refine fx_add (p' := 23) (e := ((i : Int) + 1)) rfl rfl (by omega) ?_
  refine ax_call (z := 191) (p' := 26) (as := [_, _]) rfl (Or.inl ⟨_, rfl⟩) rfl rfl rfl rfl rfl rfl rfl rfl (ml_191x (i := (i + 1)) (by omega) (by omega) (by omega)) rfl ?_
  refine ax_baload (p' := 27) rfl rfl (S.rd (k := (30 * z + i + 1)) rfl rfl rfl rfl (by omega) (by omega) w1) ?_
  refine fx_z_eq_F (pF := 30) rfl (by omega) rfl (by omega) ?_
  refine am_ev.step (pc' := 31) rfl rfl ?_
  exact fx_reti rfl rfl rfl
theorem ms_o (S : fS h) (M : lyF h z l t u P T) (hi : i + 1 < l) (w : bt t i = false) (w2 : bt u (i + 1) = false) {x : Option Value × am_H} (q9 : am_ev (d + 1) 201 34 [.ref 78, iv z, iv i, iv ((1 : Nat) : Int), am_ph] [] h x) : am_ev (d + 1) 201 0 [.ref 78, iv z, iv i, am_ph, am_ph] [] h x := by
  obtain ⟨hz, hl, u0, g93, g96, g97, g810, g812, bP, bT⟩ := id M
  have w0 : h.2.2.2 97 (30 * z + i) = iv 0 := by
    rw [g97 i (by omega), w]
    rfl
  have w1 : h.2.2.2 96 (30 * z + i + 1) = iv 0 := by
    have y := g96 (i + 1) (by omega)
    rw [w2] at y
    exact y
  refine am_ev.step (pc' := 1) rfl rfl ?_
  refine ax_gf (p' := 4) rfl rfl (S.ob rfl) (S.rf rfl rfl) ?_
  refine am_ev.step (pc' := 5) rfl rfl ?_
  refine am_ev.step (pc' := 6) rfl rfl ?_
  refine ax_call (z := 191) (p' := 9) (as := [_, _]) rfl (Or.inl ⟨_, rfl⟩) rfl rfl rfl rfl rfl rfl rfl rfl (ml_191x (i := i) (by omega) (by omega) (by omega)) rfl ?_
  refine ax_baload (p' := 10) rfl rfl (S.rd (k := (30 * z + i)) rfl rfl rfl rfl (by omega) (by omega) w0) ?_
  refine fx_z_eq_T (pT := 15) rfl (by omega) rfl (by omega) ?_
  refine am_ev.step (pc' := 16) rfl rfl ?_
  refine ax_gf (p' := 19) rfl rfl (S.ob rfl) (S.rf rfl rfl) ?_
  refine am_ev.step (pc' := 20) rfl rfl ?_
  refine am_ev.step (pc' := 21) rfl rfl ?_
  refine am_ev.step (pc' := 22) rfl rfl ?_
  refine fx_add (p' := 23) (e := ((i : Int) + 1)) rfl rfl (by omega) ?_
  refine ax_call (z := 191) (p' := 26) (as := [_, _]) rfl (Or.inl ⟨_, rfl⟩) rfl rfl rfl rfl rfl rfl rfl rfl (ml_191x (i := (i + 1)) (by omega) (by omega) (by omega)) rfl ?_
  refine ax_baload (p' := 27) rfl rfl (S.rd (k := (30 * z + i + 1)) rfl rfl rfl rfl (by omega) (by omega) w1) ?_
  refine fx_z_eq_T (pT := 32) rfl (by omega) rfl (by omega) ?_
  refine am_ev.step (pc' := 33) rfl rfl ?_
  refine am_ev.step (pc' := 34) (ls' := [.ref 78, iv ((z : Int)), iv ((i : Int)), iv 1, am_ph]) rfl rfl ?_
  exact q9
theorem ms_c {x : Option Value × am_H} (q9 : am_ev (d + 1) 201 60 [.ref 78, iv z, iv i, iv (a : Int), iv ((1 : Nat) : Int)] [] h x) : am_ev (d + 1) 201 57 [.ref 78, iv z, iv i, iv (a : Int), am_ph] [] h x := by
  refine am_ev.step (pc' := 58) rfl rfl ?_
  refine am_ev.step (pc' := 60) (ls' := [.ref 78, iv ((z : Int)), iv ((i : Int)), iv ((a : Int)), iv 1]) rfl rfl ?_
  exact q9
theorem ml_201 (S : fS h) (M : lyF h z l t u P T) (hi : i + 1 < l) : am_ev (d + 1) 201 0 (am_ent [.ref 78, iv z, iv i] 5) [] h (some (iv (b2 (lyM t u l i))), h) := by
  have hl := M.2.1
  show am_ev (d + 1) 201 0 [.ref 78, iv z, iv i, am_ph, am_ph] [] h _
  cases w : bt t i with
  | true =>
    rw [show lyM t u l i = false by unfold lyM; simp [w]]
    exact ms_t S M hi w
  | false =>
    cases w2 : bt u (i + 1) with
    | true =>
      rw [show lyM t u l i = true by unfold lyM; simp [w, w2]]
      exact ms_s S M hi w w2
    | false =>
      refine ms_o S M hi w w2 ?_
      cases w3 : bt u i with
      | true =>
        rw [show lyM t u l i = false by unfold lyM; simp [w, w2, w3]]
        refine ma_t S M hi (m := i) (by omega) w3 (ms_c ?_)
        obtain ⟨c', b1, b2, b3⟩ := mb_lp (d := d) (i := i) (a := 1) S M (l - (i + 1 + 1)) 1 (by omega)
        exact b3 _ (me_c (by omega) (by omega) rfl trivial)
      | false =>
        refine ma_f S M hi (m := i) (by omega) w3 ?_
        have A : ∃ a', 2 ≤ a' ∧ a' ≤ i + 1 ∧ ∀ x, am_ev (d + 1) 201 57 [.ref 78, iv z, iv i, iv (a' : Int), am_ph] [] h x → am_ev (d + 1) 201 34 [.ref 78, iv z, iv i, iv ((1 + 1 : Nat) : Int), am_ph] [] h x := by
          have i0 : i ≠ 0 := fun y => by
            rw [y, M.2.2.1] at w3
            cases w3
          exact ma_lp S M hi (i - 1) 2 (by omega)
        obtain ⟨a', p1, p2, p3⟩ := A
        refine p3 _ (ms_c ?_)
        by_cases e2 : i + 2 < l
        · cases w4 : bt u (i + 2) with
          | true =>
            rw [show lyM t u l i = false by unfold lyM; simp [w, w2, w3, w4]]
            exact mb_t S M (m := i + 2) (by omega) e2 w4 (me_b (by omega) (by omega) p1 rfl)
          | false =>
            rw [show lyM t u l i = true by unfold lyM; simp [w, w2, w3, w4, e2]]
            refine mb_f S M (m := i + 2) (by omega) e2 w4 ?_
            obtain ⟨c', b1, b2, b3⟩ := mb_lp (d := d) (i := i) (a := a') S M (l - (i + 1 + 2)) 2 (by omega)
            exact b3 _ (me_a (by omega) (by omega) p1 (by omega))
        · rw [show lyM t u l i = false by unfold lyM; simp [w, w2, w3, e2]]
          exact mb_e S M (by omega) (by omega) (by omega) (me_b (by omega) (by omega) p1 rfl)
/-- the title's lines -/
def lyT0 (T : Int) (i : Nat) : Int := if i = 0 then T else 0
theorem mu_q (S : fS h) (M : lyF h z l t u P T) {x : Option Value × am_H} (q9 : am_ev (d + 1) 200 23 [.ref 78, iv z, iv 0, iv j, iv (T + 1), iv 1] [] h x) : am_ev (d + 1) 200 0 [.ref 78, iv ((z : Int)), iv 0, iv ((j : Int)), am_ph, am_ph] [] h x := by
  obtain ⟨hz, hl, u0, g93, g96, g97, g810, g812, bP, bT⟩ := id M
  refine am_ev.step (pc' := 1) rfl rfl ?_
  refine fx_z_ne_F (pF := 4) rfl (by omega) rfl (by omega) ?_
  refine am_ev.step (pc' := 5) rfl rfl ?_
  refine ax_gf (p' := 8) rfl rfl (S.ob rfl) (S.rf rfl rfl) ?_
  refine am_ev.step (pc' := 9) rfl rfl ?_
  refine ax_iaload (p' := 10) rfl rfl (S.rd (k := 2) rfl rfl rfl rfl rfl (by decide) g812) ?_
  refine am_ev.step (pc' := 14) rfl rfl ?_
  refine am_ev.step (pc' := 15) rfl rfl ?_
  refine fx_add (p' := 16) (e := (T + 1)) rfl rfl (by omega) ?_
  refine am_ev.step (pc' := 18) (ls' := [.ref 78, iv ((z : Int)), iv 0, iv ((j : Int)), iv (T + 1), am_ph]) rfl rfl ?_
  refine am_ev.step (pc' := 19) rfl rfl ?_
  refine am_ev.step (pc' := 20) rfl rfl ?_
  refine fx_add (p' := 21) (e := 1) rfl rfl (by omega) ?_
  refine am_ev.step (pc' := 23) (ls' := [.ref 78, iv ((z : Int)), iv 0, iv ((j : Int)), iv (T + 1), iv 1]) rfl rfl ?_
  exact q9
theorem mu_p (S : fS h) (M : lyF h z l t u P T) (hi : 0 < i ∧ i ≤ 40) {x : Option Value × am_H} (q9 : am_ev (d + 1) 200 23 [.ref 78, iv z, iv ((i : Int)), iv j, iv (1), iv ((i : Int) + 1)] [] h x) : am_ev (d + 1) 200 0 [.ref 78, iv ((z : Int)), iv ((i : Int)), iv ((j : Int)), am_ph, am_ph] [] h x := by
  obtain ⟨hz, hl, u0, g93, g96, g97, g810, g812, bP, bT⟩ := id M
  refine am_ev.step (pc' := 1) rfl rfl ?_
  refine fx_z_ne_T (pT := 13) rfl (by omega) rfl (by omega) ?_
  refine am_ev.step (pc' := 14) rfl rfl ?_
  refine am_ev.step (pc' := 15) rfl rfl ?_
  refine fx_add (p' := 16) (e := 1) rfl rfl (by omega) ?_
  refine am_ev.step (pc' := 18) (ls' := [.ref 78, iv ((z : Int)), iv ((i : Int)), iv ((j : Int)), iv 1, am_ph]) rfl rfl ?_
  refine am_ev.step (pc' := 19) rfl rfl ?_
  refine am_ev.step (pc' := 20) rfl rfl ?_
  refine fx_add (p' := 21) (e := ((i : Int) + 1)) rfl rfl (by omega) ?_
  refine am_ev.step (pc' := 23) (ls' := [.ref 78, iv ((z : Int)), iv ((i : Int)), iv ((j : Int)), iv 1, iv ((i : Int) + 1)]) rfl rfl ?_
  exact (q9)
theorem mv_e (hk : k ≤ 40) (hj : j < k) : am_ev (d + 1) 200 23 [.ref 78, iv ((z : Int)), iv ((i : Int)), iv ((j : Int)), iv (q), iv ((k : Int))] [] h (some (iv q), h) := by
  refine am_ev.step (pc' := 25) rfl rfl ?_
  refine am_ev.step (pc' := 26) rfl rfl ?_
  refine fx_c_gt_T (pT := 59) rfl (by omega) (by omega) rfl (by omega) ?_
  refine am_ev.step (pc' := 61) rfl rfl ?_
  exact fx_reti rfl rfl rfl
theorem mv_1 (S : fS h) (M : lyF h z l t u P T) (hk : k ≤ j) (hj : j < l) (bq : -1000 ≤ q ∧ q ≤ 1000) (w : bt u k = true) {x : Option Value × am_H} (q9 : am_ev (d + 1) 200 23 [.ref 78, iv z, iv i, iv j, iv (q + 2), iv ((k + 1 : Nat) : Int)] [] h x) : am_ev (d + 1) 200 23 [.ref 78, iv ((z : Int)), iv ((i : Int)), iv ((j : Int)), iv (q), iv ((k : Int))] [] h x := by
  obtain ⟨hz, hl, u0, g93, g96, g97, g810, g812, bP, bT⟩ := id M
  have w1 : h.2.2.2 96 (30 * z + k) = iv 1 := by
    rw [g96 k (by omega), w]
    rfl
  refine am_ev.step (pc' := 25) rfl rfl ?_
  refine am_ev.step (pc' := 26) rfl rfl ?_
  refine fx_c_gt_F (pF := 29) rfl (by omega) (by omega) rfl (by omega) ?_
  refine am_ev.step (pc' := 31) rfl rfl ?_
  refine am_ev.step (pc' := 32) rfl rfl ?_
  refine ax_gf (p' := 35) rfl rfl (S.ob rfl) (S.rf rfl rfl) ?_
  refine am_ev.step (pc' := 36) rfl rfl ?_
  refine am_ev.step (pc' := 38) rfl rfl ?_
  refine ax_call (z := 191) (p' := 41) (as := [_, _]) rfl (Or.inl ⟨_, rfl⟩) rfl rfl rfl rfl rfl rfl rfl rfl (ml_191x (i := k) (by omega) (by omega) (by omega)) rfl ?_
  refine ax_baload (p' := 42) rfl rfl (S.rd (k := (30 * z + k)) rfl rfl rfl rfl (by omega) (by omega) w1) ?_
  refine fx_z_eq_F (pF := 45) rfl (by omega) rfl (by omega) ?_
  refine am_ev.step (pc' := 46) rfl rfl ?_
  refine am_ev.step (pc' := 50) rfl rfl ?_
  refine fx_add (p' := 51) (e := (q + 2)) rfl rfl (by omega) ?_
  refine am_ev.step (pc' := 53) (ls' := [.ref 78, iv ((z : Int)), iv ((i : Int)), iv ((j : Int)), iv (q + 2), iv ((k : Int))]) rfl rfl ?_
  refine fx_inc (p' := 56) (e := ((k : Int) + 1)) (ls' := [.ref 78, iv ((z : Int)), iv ((i : Int)), iv ((j : Int)), iv (q + 2), iv ((k : Int) + 1)]) rfl rfl rfl (by omega) rfl ?_
  refine am_ev.step (pc' := 23) rfl rfl ?_
  exact (rr_n ▸ q9)
theorem mv_0 (S : fS h) (M : lyF h z l t u P T) (hk : k ≤ j) (hj : j < l) (bq : -1000 ≤ q ∧ q ≤ 1000) (w : bt u k = false) {x : Option Value × am_H} (q9 : am_ev (d + 1) 200 23 [.ref 78, iv z, iv i, iv j, iv (q + 1), iv ((k + 1 : Nat) : Int)] [] h x) : am_ev (d + 1) 200 23 [.ref 78, iv ((z : Int)), iv ((i : Int)), iv ((j : Int)), iv (q), iv ((k : Int))] [] h x := by
  obtain ⟨hz, hl, u0, g93, g96, g97, g810, g812, bP, bT⟩ := id M
  have w1 : h.2.2.2 96 (30 * z + k) = iv 0 := by
    rw [g96 k (by omega), w]
    rfl
  refine am_ev.step (pc' := 25) rfl rfl ?_
  refine am_ev.step (pc' := 26) rfl rfl ?_
  refine fx_c_gt_F (pF := 29) rfl (by omega) (by omega) rfl (by omega) ?_
  refine am_ev.step (pc' := 31) rfl rfl ?_
  refine am_ev.step (pc' := 32) rfl rfl ?_
  refine ax_gf (p' := 35) rfl rfl (S.ob rfl) (S.rf rfl rfl) ?_
  refine am_ev.step (pc' := 36) rfl rfl ?_
  refine am_ev.step (pc' := 38) rfl rfl ?_
  refine ax_call (z := 191) (p' := 41) (as := [_, _]) rfl (Or.inl ⟨_, rfl⟩) rfl rfl rfl rfl rfl rfl rfl rfl (ml_191x (i := k) (by omega) (by omega) (by omega)) rfl ?_
  refine ax_baload (p' := 42) rfl rfl (S.rd (k := (30 * z + k)) rfl rfl rfl rfl (by omega) (by omega) w1) ?_
  refine fx_z_eq_T (pT := 49) rfl (by omega) rfl (by omega) ?_
  refine am_ev.step (pc' := 50) rfl rfl ?_
  refine fx_add (p' := 51) (e := (q + 1)) rfl rfl (by omega) ?_
  refine am_ev.step (pc' := 53) (ls' := [.ref 78, iv ((z : Int)), iv ((i : Int)), iv ((j : Int)), iv (q + 1), iv ((k : Int))]) rfl rfl ?_
  refine fx_inc (p' := 56) (e := ((k : Int) + 1)) (ls' := [.ref 78, iv ((z : Int)), iv ((i : Int)), iv ((j : Int)), iv (q + 1), iv ((k : Int) + 1)]) rfl rfl rfl (by omega) rfl ?_
  refine am_ev.step (pc' := 23) rfl rfl ?_
  exact (rr_n ▸ q9)
theorem mv_lp (S : fS h) (M : lyF h z l t u P T) (hj : j < l) (bT : 0 ≤ e ∧ e ≤ 4) : ∀ m n k : Nat, k = i + n → 0 < n → k + m = j + 1 → am_ev (d + 1) 200 23 [.ref 78, iv z, iv i, iv j, iv (e + lyU u i n), iv k] [] h (some (iv (e + lyU u i (n + m))), h)
  | 0, n, k, hk, h0, hm => mv_e (by have := M.2.1; omega) (by omega)
  | m + 1, n, k, hk, h0, hm => by
    have b := lyU_b (u := u) (i := i) n
    have hl := M.2.1
    have IH := mv_lp S M hj bT m (n + 1) (k + 1) (by omega) (by omega) (by omega)
    have e1 : lyU u i (n + 1) = lyU u i n + (if 0 < n ∧ bt u (i + n) = true then 2 else 1) := rfl
    rw [show n + (m + 1) = n + 1 + m by omega]
    cases w : bt u k with
    | true =>
      refine mv_1 S M (by omega) hj (by omega) w ?_
      rw [show e + lyU u i n + 2 = e + lyU u i (n + 1) by rw [e1, ← hk, if_pos ⟨h0, w⟩]; omega]
      exact IH
    | false =>
      refine mv_0 S M (by omega) hj (by omega) w ?_
      rw [show e + lyU u i n + 1 = e + lyU u i (n + 1) by rw [e1, ← hk, if_neg (fun y => by rw [w] at y; exact absurd y.2 (by decide))]; omega]
      exact IH
theorem ml_200 (S : fS h) (M : lyF h z l t u P T) (hj : j < l) (hk : i + k = j) : am_ev (d + 1) 200 0 (am_ent [.ref 78, iv z, iv i, iv j] 6) [] h (some (iv (lyT0 T i + lyU u i (k + 1))), h) := by
  have hl := M.2.1
  have bT := M.2.2.2.2.2.2.2.2.2
  have u1 : lyU u i 1 = 1 := by
    show lyU u i 0 + (if 0 < 0 ∧ bt u (i + 0) = true then 2 else 1) = 1
    rw [if_neg (fun y => absurd y.1 (by decide))]
    rfl
  show am_ev (d + 1) 200 0 [.ref 78, iv z, iv i, iv j, am_ph, am_ph] [] h _
  rw [show k + 1 = 1 + k by omega]
  by_cases i0 : i = 0
  · subst i0
    have R := mv_lp (d := d) (i := 0) (e := T) S M hj bT k 1 1 (by omega) (by omega) (by omega)
    rw [u1] at R
    exact mu_q S M R
  · have R := mv_lp (d := d) (i := i) (e := 0) S M hj (by omega) k 1 (i + 1) (by omega) (by omega) (by omega)
    rw [u1, show (0 : Int) + lyU u i (1 + k) = lyT0 T i + lyU u i (1 + k) by unfold lyT0; rw [if_neg i0]] at R
    refine mu_p S M (by omega) ?_
    rw [show ((i : Int) + 1) = ((i + 1 : Nat) : Int) by omega]
    exact R
/-- the square of a page's free lines; 10^9: no page -/
def lyZ (t u : Int32) (l : Nat) (r : Int) (i k : Nat) : Int := if lyU u i (k + 1) ≤ r then (if i + k + 1 = l then 0 else if lyM t u l (i + k) = true then (r - lyU u i (k + 1)) * (r - lyU u i (k + 1)) else 1000000000) else 1000000000
theorem mq_o (S : fS h) (M : lyF h z l t u P T) (hj : j < l) (bq : 0 ≤ q ∧ q ≤ 200) (z2 : am_ev (d + 2) 200 0 (am_ent [.ref 78, iv ((z : Int)), iv ((i : Int)), iv ((j : Int))] 6) [] h (some (iv q), h)) (c : P < q) : am_ev (d + 3) 199 0 (am_ent [.ref 78, iv ((z : Int)), iv ((i : Int)), iv ((j : Int))] 6) [] h (some (iv 1000000000), h) := by
  obtain ⟨hz, hl, u0, g93, g96, g97, g810, g812, bP, bT⟩ := id M
  show am_ev (d + 3) 199 0 [.ref 78, iv ((z : Int)), iv ((i : Int)), iv ((j : Int)), am_ph, am_ph] [] h _
  refine am_ev.step (pc' := 1) rfl rfl ?_
  refine ax_gf (p' := 4) rfl rfl (S.ob rfl) (S.rf rfl rfl) ?_
  refine am_ev.step (pc' := 5) rfl rfl ?_
  refine ax_iaload (p' := 6) rfl rfl (S.rd (k := 0) rfl rfl rfl rfl rfl (by decide) g810) ?_
  refine am_ev.step (pc' := 7) rfl rfl ?_
  refine am_ev.step (pc' := 8) rfl rfl ?_
  refine am_ev.step (pc' := 9) rfl rfl ?_
  refine am_ev.step (pc' := 10) rfl rfl ?_
  refine ax_call (z := 200) (p' := 13) (as := [_, _, _, _]) rfl (Or.inr (Or.inl ⟨_, rfl⟩)) rfl rfl rfl rfl rfl rfl (S.ob rfl) rfl z2 rfl ?_
  refine fx_sub (p' := 14) (e := (P - q)) rfl rfl (by omega) ?_
  refine am_ev.step (pc' := 16) (ls' := [.ref 78, iv ((z : Int)), iv ((i : Int)), iv ((j : Int)), iv (P - q), am_ph]) rfl rfl ?_
  refine am_ev.step (pc' := 17) rfl rfl ?_
  refine am_ev.step (pc' := 18) rfl rfl ?_
  refine fx_add (p' := 19) (e := ((j : Int) + 1)) rfl rfl (by omega) ?_
  refine am_ev.step (pc' := 20) rfl rfl ?_
  refine ax_gf (p' := 23) rfl rfl (S.ob rfl) (S.rf rfl rfl) ?_
  refine am_ev.step (pc' := 24) rfl rfl ?_
  refine ax_iaload (p' := 25) rfl rfl (S.rd (k := z) rfl rfl rfl rfl rfl (by omega) g93) ?_
  refine fx_c_ne (pT := 32) (pF := 28) rfl (by omega) (by omega) rfl rfl (fun c1 => ?_) (fun c1 => ?_)
  · refine am_ev.step (pc' := 33) rfl rfl ?_
    refine am_ev.step (pc' := 35) (ls' := [.ref 78, iv ((z : Int)), iv ((i : Int)), iv ((j : Int)), iv (P - q), iv 0]) rfl rfl ?_
    refine am_ev.step (pc' := 37) rfl rfl ?_
    refine fx_z_lt_T (pT := 54) rfl (by omega) rfl (by omega) ?_
    refine am_ev.step (pc' := 57) rfl rfl ?_
    exact fx_reti rfl rfl rfl
  · refine am_ev.step (pc' := 29) rfl rfl ?_
    refine am_ev.step (pc' := 33) rfl rfl ?_
    refine am_ev.step (pc' := 35) (ls' := [.ref 78, iv ((z : Int)), iv ((i : Int)), iv ((j : Int)), iv (P - q), iv 1]) rfl rfl ?_
    refine am_ev.step (pc' := 37) rfl rfl ?_
    refine fx_z_lt_T (pT := 54) rfl (by omega) rfl (by omega) ?_
    refine am_ev.step (pc' := 57) rfl rfl ?_
    exact fx_reti rfl rfl rfl
theorem mq_l (S : fS h) (M : lyF h z l t u P T) (hj : j < l) (bq : 0 ≤ q ∧ q ≤ 200) (z2 : am_ev (d + 2) 200 0 (am_ent [.ref 78, iv ((z : Int)), iv ((i : Int)), iv ((j : Int))] 6) [] h (some (iv q), h)) (c : q ≤ P) (c2 : j + 1 = l) : am_ev (d + 3) 199 0 (am_ent [.ref 78, iv ((z : Int)), iv ((i : Int)), iv ((j : Int))] 6) [] h (some (iv 0), h) := by
  obtain ⟨hz, hl, u0, g93, g96, g97, g810, g812, bP, bT⟩ := id M
  show am_ev (d + 3) 199 0 [.ref 78, iv ((z : Int)), iv ((i : Int)), iv ((j : Int)), am_ph, am_ph] [] h _
  refine am_ev.step (pc' := 1) rfl rfl ?_
  refine ax_gf (p' := 4) rfl rfl (S.ob rfl) (S.rf rfl rfl) ?_
  refine am_ev.step (pc' := 5) rfl rfl ?_
  refine ax_iaload (p' := 6) rfl rfl (S.rd (k := 0) rfl rfl rfl rfl rfl (by decide) g810) ?_
  refine am_ev.step (pc' := 7) rfl rfl ?_
  refine am_ev.step (pc' := 8) rfl rfl ?_
  refine am_ev.step (pc' := 9) rfl rfl ?_
  refine am_ev.step (pc' := 10) rfl rfl ?_
  refine ax_call (z := 200) (p' := 13) (as := [_, _, _, _]) rfl (Or.inr (Or.inl ⟨_, rfl⟩)) rfl rfl rfl rfl rfl rfl (S.ob rfl) rfl z2 rfl ?_
  refine fx_sub (p' := 14) (e := (P - q)) rfl rfl (by omega) ?_
  refine am_ev.step (pc' := 16) (ls' := [.ref 78, iv ((z : Int)), iv ((i : Int)), iv ((j : Int)), iv (P - q), am_ph]) rfl rfl ?_
  refine am_ev.step (pc' := 17) rfl rfl ?_
  refine am_ev.step (pc' := 18) rfl rfl ?_
  refine fx_add (p' := 19) (e := ((j : Int) + 1)) rfl rfl (by omega) ?_
  refine am_ev.step (pc' := 20) rfl rfl ?_
  refine ax_gf (p' := 23) rfl rfl (S.ob rfl) (S.rf rfl rfl) ?_
  refine am_ev.step (pc' := 24) rfl rfl ?_
  refine ax_iaload (p' := 25) rfl rfl (S.rd (k := z) rfl rfl rfl rfl rfl (by omega) g93) ?_
  refine fx_c_ne_F (pF := 28) rfl (by omega) (by omega) rfl (by omega) ?_
  refine am_ev.step (pc' := 29) rfl rfl ?_
  refine am_ev.step (pc' := 33) rfl rfl ?_
  refine am_ev.step (pc' := 35) (ls' := [.ref 78, iv ((z : Int)), iv ((i : Int)), iv ((j : Int)), iv (P - q), iv 1]) rfl rfl ?_
  refine am_ev.step (pc' := 37) rfl rfl ?_
  refine fx_z_lt_F (pF := 40) rfl (by omega) rfl (by omega) ?_
  refine am_ev.step (pc' := 42) rfl rfl ?_
  refine fx_z_ne_T (pT := 58) rfl (by omega) rfl (by omega) ?_
  refine am_ev.step (pc' := 60) rfl rfl ?_
  refine fx_z_eq_F (pF := 63) rfl (by omega) rfl (by omega) ?_
  refine am_ev.step (pc' := 64) rfl rfl ?_
  refine am_ev.step (pc' := 72) rfl rfl ?_
  exact fx_reti rfl rfl rfl
theorem mq_n (S : fS h) (M : lyF h z l t u P T) (hj : j < l) (bq : 0 ≤ q ∧ q ≤ 200) (z2 : am_ev (d + 2) 200 0 (am_ent [.ref 78, iv ((z : Int)), iv ((i : Int)), iv ((j : Int))] 6) [] h (some (iv q), h)) (c : q ≤ P) (c2 : j + 1 < l) (z3 : am_ev (d + 2) 201 0 (am_ent [.ref 78, iv z, iv j] 5) [] h (some (iv 0), h)) : am_ev (d + 3) 199 0 (am_ent [.ref 78, iv ((z : Int)), iv ((i : Int)), iv ((j : Int))] 6) [] h (some (iv 1000000000), h) := by
  obtain ⟨hz, hl, u0, g93, g96, g97, g810, g812, bP, bT⟩ := id M
  show am_ev (d + 3) 199 0 [.ref 78, iv ((z : Int)), iv ((i : Int)), iv ((j : Int)), am_ph, am_ph] [] h _
  refine am_ev.step (pc' := 1) rfl rfl ?_
  refine ax_gf (p' := 4) rfl rfl (S.ob rfl) (S.rf rfl rfl) ?_
  refine am_ev.step (pc' := 5) rfl rfl ?_
  refine ax_iaload (p' := 6) rfl rfl (S.rd (k := 0) rfl rfl rfl rfl rfl (by decide) g810) ?_
  refine am_ev.step (pc' := 7) rfl rfl ?_
  refine am_ev.step (pc' := 8) rfl rfl ?_
  refine am_ev.step (pc' := 9) rfl rfl ?_
  refine am_ev.step (pc' := 10) rfl rfl ?_
  refine ax_call (z := 200) (p' := 13) (as := [_, _, _, _]) rfl (Or.inr (Or.inl ⟨_, rfl⟩)) rfl rfl rfl rfl rfl rfl (S.ob rfl) rfl z2 rfl ?_
  refine fx_sub (p' := 14) (e := (P - q)) rfl rfl (by omega) ?_
  refine am_ev.step (pc' := 16) (ls' := [.ref 78, iv ((z : Int)), iv ((i : Int)), iv ((j : Int)), iv (P - q), am_ph]) rfl rfl ?_
  refine am_ev.step (pc' := 17) rfl rfl ?_
  refine am_ev.step (pc' := 18) rfl rfl ?_
  refine fx_add (p' := 19) (e := ((j : Int) + 1)) rfl rfl (by omega) ?_
  refine am_ev.step (pc' := 20) rfl rfl ?_
  refine ax_gf (p' := 23) rfl rfl (S.ob rfl) (S.rf rfl rfl) ?_
  refine am_ev.step (pc' := 24) rfl rfl ?_
  refine ax_iaload (p' := 25) rfl rfl (S.rd (k := z) rfl rfl rfl rfl rfl (by omega) g93) ?_
  refine fx_c_ne_T (pT := 32) rfl (by omega) (by omega) rfl (by omega) ?_
  refine am_ev.step (pc' := 33) rfl rfl ?_
  refine am_ev.step (pc' := 35) (ls' := [.ref 78, iv ((z : Int)), iv ((i : Int)), iv ((j : Int)), iv (P - q), iv 0]) rfl rfl ?_
  refine am_ev.step (pc' := 37) rfl rfl ?_
  refine fx_z_lt_F (pF := 40) rfl (by omega) rfl (by omega) ?_
  refine am_ev.step (pc' := 42) rfl rfl ?_
  refine fx_z_ne_F (pF := 45) rfl (by omega) rfl (by omega) ?_
  refine am_ev.step (pc' := 46) rfl rfl ?_
  refine am_ev.step (pc' := 47) rfl rfl ?_
  refine am_ev.step (pc' := 48) rfl rfl ?_
  refine ax_call (z := 201) (p' := 51) (as := [_, _, _]) rfl (Or.inr (Or.inl ⟨_, rfl⟩)) rfl rfl rfl rfl rfl rfl (S.ob rfl) rfl (z3 : am_ev _ 201 0 _ [] h (some (iv 0), h)) rfl ?_
  refine fx_z_ne_F (pF := 54) rfl (by omega) rfl (by omega) ?_
  refine am_ev.step (pc' := 57) rfl rfl ?_
  exact fx_reti rfl rfl rfl
theorem mq_y (S : fS h) (M : lyF h z l t u P T) (hj : j < l) (bq : 0 ≤ q ∧ q ≤ 200) (z2 : am_ev (d + 2) 200 0 (am_ent [.ref 78, iv ((z : Int)), iv ((i : Int)), iv ((j : Int))] 6) [] h (some (iv q), h)) (c : q ≤ P) (c2 : j + 1 < l) (z3 : am_ev (d + 2) 201 0 (am_ent [.ref 78, iv z, iv j] 5) [] h (some (iv 1), h)) (he : (P - q) * (P - q) = e) : am_ev (d + 3) 199 0 (am_ent [.ref 78, iv ((z : Int)), iv ((i : Int)), iv ((j : Int))] 6) [] h (some (iv e), h) := by
  obtain ⟨hz, hl, u0, g93, g96, g97, g810, g812, bP, bT⟩ := id M
  show am_ev (d + 3) 199 0 [.ref 78, iv ((z : Int)), iv ((i : Int)), iv ((j : Int)), am_ph, am_ph] [] h _
  refine am_ev.step (pc' := 1) rfl rfl ?_
  refine ax_gf (p' := 4) rfl rfl (S.ob rfl) (S.rf rfl rfl) ?_
  refine am_ev.step (pc' := 5) rfl rfl ?_
  refine ax_iaload (p' := 6) rfl rfl (S.rd (k := 0) rfl rfl rfl rfl rfl (by decide) g810) ?_
  refine am_ev.step (pc' := 7) rfl rfl ?_
  refine am_ev.step (pc' := 8) rfl rfl ?_
  refine am_ev.step (pc' := 9) rfl rfl ?_
  refine am_ev.step (pc' := 10) rfl rfl ?_
  refine ax_call (z := 200) (p' := 13) (as := [_, _, _, _]) rfl (Or.inr (Or.inl ⟨_, rfl⟩)) rfl rfl rfl rfl rfl rfl (S.ob rfl) rfl z2 rfl ?_
  refine fx_sub (p' := 14) (e := (P - q)) rfl rfl (by omega) ?_
  refine am_ev.step (pc' := 16) (ls' := [.ref 78, iv ((z : Int)), iv ((i : Int)), iv ((j : Int)), iv (P - q), am_ph]) rfl rfl ?_
  refine am_ev.step (pc' := 17) rfl rfl ?_
  refine am_ev.step (pc' := 18) rfl rfl ?_
  refine fx_add (p' := 19) (e := ((j : Int) + 1)) rfl rfl (by omega) ?_
  refine am_ev.step (pc' := 20) rfl rfl ?_
  refine ax_gf (p' := 23) rfl rfl (S.ob rfl) (S.rf rfl rfl) ?_
  refine am_ev.step (pc' := 24) rfl rfl ?_
  refine ax_iaload (p' := 25) rfl rfl (S.rd (k := z) rfl rfl rfl rfl rfl (by omega) g93) ?_
  refine fx_c_ne_T (pT := 32) rfl (by omega) (by omega) rfl (by omega) ?_
  refine am_ev.step (pc' := 33) rfl rfl ?_
  refine am_ev.step (pc' := 35) (ls' := [.ref 78, iv ((z : Int)), iv ((i : Int)), iv ((j : Int)), iv (P - q), iv 0]) rfl rfl ?_
  refine am_ev.step (pc' := 37) rfl rfl ?_
  refine fx_z_lt_F (pF := 40) rfl (by omega) rfl (by omega) ?_
  refine am_ev.step (pc' := 42) rfl rfl ?_
  refine fx_z_ne_F (pF := 45) rfl (by omega) rfl (by omega) ?_
  refine am_ev.step (pc' := 46) rfl rfl ?_
  refine am_ev.step (pc' := 47) rfl rfl ?_
  refine am_ev.step (pc' := 48) rfl rfl ?_
  refine ax_call (z := 201) (p' := 51) (as := [_, _, _]) rfl (Or.inr (Or.inl ⟨_, rfl⟩)) rfl rfl rfl rfl rfl rfl (S.ob rfl) rfl (z3 : am_ev _ 201 0 _ [] h (some (iv 1), h)) rfl ?_
  refine fx_z_ne_T (pT := 58) rfl (by omega) rfl (by omega) ?_
  refine am_ev.step (pc' := 60) rfl rfl ?_
  refine fx_z_eq_T (pT := 67) rfl (by omega) rfl (by omega) ?_
  refine am_ev.step (pc' := 69) rfl rfl ?_
  refine am_ev.step (pc' := 71) rfl rfl ?_
  refine fx_mul (p' := 72) (e := e) rfl rfl he ?_
  exact fx_reti rfl rfl rfl
theorem ml_199 (S : fS h) (M : lyF h z l t u P T) (hj : j < l) (hk : i + k = j) : am_ev (d + 3) 199 0 (am_ent [.ref 78, iv z, iv i, iv j] 6) [] h (some (iv (lyZ t u l (if i = 0 then P - T else P) i k)), h) := by
  have hl := M.2.1
  have bP := M.2.2.2.2.2.2.2.2.1
  have bT := M.2.2.2.2.2.2.2.2.2
  have b := lyU_b (u := u) (i := i) (k + 1)
  have z2 := ml_200 (d := d + 1) S M hj hk
  have t0 : lyT0 T i = if i = 0 then T else 0 := rfl
  have rr : (if i = 0 then P - T else P) = P - lyT0 T i := by
    rw [t0]
    split <;> omega
  have bt0 : 0 ≤ lyT0 T i ∧ lyT0 T i ≤ 4 := by
    rw [t0]
    split <;> omega
  rw [rr]
  unfold lyZ
  by_cases c : lyT0 T i + lyU u i (k + 1) ≤ P
  · rw [if_pos (by omega)]
    by_cases c2 : j + 1 = l
    · rw [if_pos (by omega)]
      exact mq_l S M hj (by omega) z2 c c2
    · rw [if_neg (by omega)]
      have z3 := ml_201 (d := d + 1) (i := j) S M (by omega)
      rw [hk]
      cases w : lyM t u l j with
      | true =>
        rw [w] at z3
        rw [if_pos rfl]
        exact mq_y S M hj (by omega) z2 c (by omega) z3 (by rw [show P - (lyT0 T i + lyU u i (k + 1)) = P - lyT0 T i - lyU u i (k + 1) by omega])
      | false =>
        rw [w] at z3
        rw [if_neg (by decide)]
        exact mq_n S M hj (by omega) z2 c (by omega) z3
  · rw [if_neg (by omega)]
    exact mq_o S M hj (by omega) z2 (by omega)
end LYM
end
