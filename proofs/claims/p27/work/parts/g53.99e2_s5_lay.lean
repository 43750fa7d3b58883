section
/-! THE LAYOUT OF A TEXT, the model's table -/
theorem fx_ldcw {d y pc p' k l a b w : Nat} {t : Int} {ls r : List Value} {h : am_H} {x : Option Value × am_H} {n : Int} (hc : am_at y pc (.ldc_w k, l, t, a, b, w)) (hb : b = 0) (hp : pc + 3 = p') (hv : Int32.ofNat a = Int32.ofInt n) (q : am_ev d y p' ls (iv n :: r) h x) : am_ev d y pc ls r h x := by
  subst hp hb
  refine am_ev.step hc (by dsimp only [am_st]; rfl) ?_
  rw [hv]
  exact q
section LYP
variable {d z l i j k m n : Nat} {g : am_H} {t u : Int32} {P T r q f0 f1 s0 s1 : Int} {D : Nat → lyT} {x4 x5 x6 : Value}
def lyI (a : lyT) : Int := if a.1 = 0 then 1000000000 else a.1
theorem lyI_0 {a : lyT} (h : a.1 = 0) : lyI a = 1000000000 := if_pos h
theorem lyI_n {a : lyT} (h : a.1 ≠ 0) : lyI a = a.1 := if_neg h
/-- a row of the model's table -/
def mlW (g : am_H) (j : Nat) (a : lyT) : Prop := g.2.2.2 98 j = iv (lyI a) ∧ g.2.2.2 99 j = iv a.2.1
def mlX (g G : am_H) (i : Nat) : Prop := fS G ∧ G.1 = g.1 ∧ G.2.2.1 = g.2.2.1 ∧ ∀ c k, (c ≠ 98 ∧ c ≠ 99 ∨ k ≠ i) → G.2.2.2 c k = g.2.2.2 c k
def mlY (g G : am_H) : Prop := fS G ∧ G.1 = g.1 ∧ G.2.2.1 = g.2.2.1 ∧ ∀ c k, c ≠ 98 → c ≠ 99 → G.2.2.2 c k = g.2.2.2 c k
theorem mlX.y {G : am_H} (A : mlX g G i) : mlY g G := ⟨A.1, A.2.1, A.2.2.1, fun c k a b => A.2.2.2 c k (Or.inl ⟨a, b⟩)⟩
theorem mlY.tr {G K : am_H} (A : mlY g G) (B : mlY G K) : mlY g K := ⟨B.1, B.2.1.trans A.2.1, B.2.2.1.trans A.2.2.1, fun c k a b => (B.2.2.2 c k a b).trans (A.2.2.2 c k a b)⟩
theorem mlX.rf (S : fS g) : mlX g g i := ⟨S, rfl, rfl, fun _ _ _ => rfl⟩
theorem mlX.tr {G K : am_H} (A : mlX g G i) (B : mlX G K i) : mlX g K i := ⟨B.1, B.2.1.trans A.2.1, B.2.2.1.trans A.2.2.1, fun c k n => (B.2.2.2 c k n).trans (A.2.2.2 c k n)⟩
theorem mlW.x {G : am_H} {a : lyT} {k : Nat} (A : mlW g k a) (X : mlX g G i) (n : k ≠ i) : mlW G k a := ⟨(X.2.2.2 98 k (Or.inr n)).trans A.1, (X.2.2.2 99 k (Or.inr n)).trans A.2⟩
theorem lyF.y {G : am_H} (M : lyF g z l t u P T) (X : mlY g G) : lyF G z l t u P T := by
  obtain ⟨a1, a2, a3, a4, a5, a6, a7, a8, a9⟩ := M
  have n : ∀ c k, c ≠ 98 → c ≠ 99 → G.2.2.2 c k = g.2.2.2 c k := X.2.2.2
  exact ⟨a1, a2, a3, (n 93 z (by decide) (by decide)).trans a4, fun i hi => (n 96 _ (by decide) (by decide)).trans (a5 i hi), fun i hi => (n 97 _ (by decide) (by decide)).trans (a6 i hi), (n 81 0 (by decide) (by decide)).trans a7, (n 81 2 (by decide) (by decide)).trans a8, a9⟩
theorem mlX.put2 {v w : Value} (S : fS g) : mlX g (am_put (am_put g 98 i v) 99 i w) i := ⟨(S.pa rfl).pa rfl, rfl, rfl, fun c k n => ax_put_o (by omega) (ax_put_o (by omega) rfl)⟩
theorem mlW.of2 {f s : Int} {a : lyT} (e1 : f = lyI a) (e2 : s = a.2.1) : mlW (am_put (am_put g 98 i (iv f)) 99 i (iv s)) i a := by
  subst e1 e2
  exact ⟨ax_put_o (Or.inl (by decide)) (ax_put_s _ _ _), ax_put_s _ _ _⟩
theorem lyR_n1 (hD : ∀ j, 0 ≤ (D j).1) : ∀ k, i + k < l → (lyR t u l r D i k).1 ≠ 1
  | 0, _ => by
    show (0 : Int) ≠ 1
    decide
  | k + 1, hk => by
    have ih := lyR_n1 hD k (by omega)
    rw [show lyR t u l r D i (k + 1) = lyC t u l r D i k (lyR t u l r D i k) from rfl]
    unfold lyC
    by_cases c1 : lyU u i (k + 1) ≤ r
    · rw [if_pos c1, if_neg (by omega)]
      by_cases c3 : lyM t u l (i + k) = true ∧ 0 < (D (i + k + 1)).1
      · rw [if_pos c3]
        unfold lyB
        split
        · show (D (i + k + 1)).1 + 1 ≠ 1
          omega
        · exact ih
      · rw [if_neg c3]
        exact ih
    · rw [if_neg c1]
      exact ih
theorem mi_s (S : fS g) (hl : l ≤ 30) (hi : i ≤ j) (hj : j < l) (z9 : am_ev (d + 3) 199 0 (am_ent [.ref 78, iv z, iv i, iv j] 6) [] g (some (iv 1000000000), g)) {x : Option Value × am_H} (q9 : am_ev (d + 4) 198 48 [.ref 78, iv z, iv l, iv i, iv ((j + 1 : Nat) : Int), iv 1000000000, x6] [] g x) : am_ev (d + 4) 198 48 [.ref 78, iv ((z : Int)), iv ((l : Int)), iv ((i : Int)), iv ((j : Int)), x5, x6] [] g x := by
  refine am_ev.step (pc' := 50) rfl rfl ?_
  refine am_ev.step (pc' := 51) rfl rfl ?_
  refine fx_c_ge_F (pF := 54) rfl (by omega) (by omega) rfl (by omega) ?_
  refine am_ev.step (pc' := 55) rfl rfl ?_
  refine am_ev.step (pc' := 56) rfl rfl ?_
  refine am_ev.step (pc' := 57) rfl rfl ?_
  refine am_ev.step (pc' := 59) rfl rfl ?_
  refine ax_call (z := 199) (p' := 62) (as := [_, _, _, _]) rfl (Or.inr (Or.inl ⟨_, rfl⟩)) rfl rfl rfl rfl rfl rfl (S.ob rfl) rfl z9 rfl ?_
  refine am_ev.step (pc' := 64) (ls' := [.ref 78, iv ((z : Int)), iv ((l : Int)), iv ((i : Int)), iv ((j : Int)), iv 1000000000, x6]) rfl rfl ?_
  refine am_ev.step (pc' := 66) rfl rfl ?_
  refine fx_ldcw (p' := 69) (n := 1000000000) rfl rfl rfl (by decide) ?_
  refine fx_c_ge_T (pT := 175) rfl (by omega) (by omega) rfl (by omega) ?_
  refine fx_inc (p' := 178) (e := ((j : Int) + 1)) (ls' := [.ref 78, iv ((z : Int)), iv ((l : Int)), iv ((i : Int)), iv ((j : Int) + 1), iv 1000000000, x6]) rfl rfl rfl (by omega) rfl ?_
  refine am_ev.step (pc' := 48) rfl rfl ?_
  exact (rr_n ▸ q9)
theorem mi_n (S : fS g) (hl : l ≤ 30) (hi : i ≤ j) (hj : j < l) (z9 : am_ev (d + 3) 199 0 (am_ent [.ref 78, iv z, iv i, iv j] 6) [] g (some (iv q), g)) (bq : 0 ≤ q ∧ q ≤ 3600) (w1 : g.2.2.2 98 (j + 1) = iv 1000000000) {x : Option Value × am_H} (q9 : am_ev (d + 4) 198 48 [.ref 78, iv z, iv l, iv i, iv ((j + 1 : Nat) : Int), iv (q), x6] [] g x) : am_ev (d + 4) 198 48 [.ref 78, iv ((z : Int)), iv ((l : Int)), iv ((i : Int)), iv ((j : Int)), x5, x6] [] g x := by
  refine am_ev.step (pc' := 50) rfl rfl ?_
  refine am_ev.step (pc' := 51) rfl rfl ?_
  refine fx_c_ge_F (pF := 54) rfl (by omega) (by omega) rfl (by omega) ?_
  refine am_ev.step (pc' := 55) rfl rfl ?_
  refine am_ev.step (pc' := 56) rfl rfl ?_
  refine am_ev.step (pc' := 57) rfl rfl ?_
  refine am_ev.step (pc' := 59) rfl rfl ?_
  refine ax_call (z := 199) (p' := 62) (as := [_, _, _, _]) rfl (Or.inr (Or.inl ⟨_, rfl⟩)) rfl rfl rfl rfl rfl rfl (S.ob rfl) rfl z9 rfl ?_
  refine am_ev.step (pc' := 64) (ls' := [.ref 78, iv ((z : Int)), iv ((l : Int)), iv ((i : Int)), iv ((j : Int)), iv (q), x6]) rfl rfl ?_
  refine am_ev.step (pc' := 66) rfl rfl ?_
  refine fx_ldcw (p' := 69) (n := 1000000000) rfl rfl rfl (by decide) ?_
  refine fx_c_ge_F (pF := 72) rfl (by omega) (by omega) rfl (by omega) ?_
  refine am_ev.step (pc' := 73) rfl rfl ?_
  refine ax_gf (p' := 76) rfl rfl (S.ob rfl) (S.rf rfl rfl) ?_
  refine am_ev.step (pc' := 78) rfl rfl ?_
  refine am_ev.step (pc' := 79) rfl rfl ?_
  refine fx_add (p' := 80) (e := ((j : Int) + 1)) rfl rfl (by omega) ?_
  refine ax_iaload (p' := 81) rfl rfl (S.rd (k := (j + 1)) rfl rfl rfl rfl (by omega) (by omega) w1) ?_
  refine fx_ldcw (p' := 84) (n := 1000000000) rfl rfl rfl (by decide) ?_
  refine fx_c_lt_F (pF := 87) rfl (by omega) (by omega) rfl (by omega) ?_
  refine am_ev.step (pc' := 175) rfl rfl ?_
  refine fx_inc (p' := 178) (e := ((j : Int) + 1)) (ls' := [.ref 78, iv ((z : Int)), iv ((l : Int)), iv ((i : Int)), iv ((j : Int) + 1), iv (q), x6]) rfl rfl rfl (by omega) rfl ?_
  refine am_ev.step (pc' := 48) rfl rfl ?_
  exact (rr_n ▸ q9)
theorem mi_b (S : fS g) (hl : l ≤ 30) (hi : i ≤ j) (hj : j < l) (z9 : am_ev (d + 3) 199 0 (am_ent [.ref 78, iv z, iv i, iv j] 6) [] g (some (iv q), g)) (bq : 0 ≤ q ∧ q ≤ 3600) (w1 : g.2.2.2 98 (j + 1) = iv f1) (w2 : g.2.2.2 99 (j + 1) = iv s1) (w3 : g.2.2.2 98 i = iv f0) (w4 : g.2.2.2 99 i = iv s0) (b1 : 0 ≤ f1 ∧ f1 ≤ 100) (b2 : 0 ≤ s1 ∧ s1 ≤ 200000) (b3 : 0 ≤ f0 ∧ f0 ≤ 1000000000) (b4 : 0 ≤ s0 ∧ s0 ≤ 200000) (c4 : f1 + 1 < f0 ∨ (f1 + 1 = f0 ∧ q + s1 < s0)) {x : Option Value × am_H} (q9 : am_ev (d + 4) 198 48 [.ref 78, iv z, iv l, iv i, iv ((j + 1 : Nat) : Int), iv (q), iv (f1 + 1)] [] (am_put (am_put g 98 i (iv (f1 + 1))) 99 i (iv (q + s1))) x) : am_ev (d + 4) 198 48 [.ref 78, iv ((z : Int)), iv ((l : Int)), iv ((i : Int)), iv ((j : Int)), x5, x6] [] g x := by
  refine am_ev.step (pc' := 50) rfl rfl ?_
  refine am_ev.step (pc' := 51) rfl rfl ?_
  refine fx_c_ge_F (pF := 54) rfl (by omega) (by omega) rfl (by omega) ?_
  refine am_ev.step (pc' := 55) rfl rfl ?_
  refine am_ev.step (pc' := 56) rfl rfl ?_
  refine am_ev.step (pc' := 57) rfl rfl ?_
  refine am_ev.step (pc' := 59) rfl rfl ?_
  refine ax_call (z := 199) (p' := 62) (as := [_, _, _, _]) rfl (Or.inr (Or.inl ⟨_, rfl⟩)) rfl rfl rfl rfl rfl rfl (S.ob rfl) rfl z9 rfl ?_
  refine am_ev.step (pc' := 64) (ls' := [.ref 78, iv ((z : Int)), iv ((l : Int)), iv ((i : Int)), iv ((j : Int)), iv (q), x6]) rfl rfl ?_
  refine am_ev.step (pc' := 66) rfl rfl ?_
  refine fx_ldcw (p' := 69) (n := 1000000000) rfl rfl rfl (by decide) ?_
  refine fx_c_ge_F (pF := 72) rfl (by omega) (by omega) rfl (by omega) ?_
  refine am_ev.step (pc' := 73) rfl rfl ?_
  refine ax_gf (p' := 76) rfl rfl (S.ob rfl) (S.rf rfl rfl) ?_
  refine am_ev.step (pc' := 78) rfl rfl ?_
  refine am_ev.step (pc' := 79) rfl rfl ?_
  refine fx_add (p' := 80) (e := ((j : Int) + 1)) rfl rfl (by omega) ?_
  refine ax_iaload (p' := 81) rfl rfl (S.rd (k := (j + 1)) rfl rfl rfl rfl (by omega) (by omega) w1) ?_
  refine fx_ldcw (p' := 84) (n := 1000000000) rfl rfl rfl (by decide) ?_
  refine fx_c_lt_T (pT := 90) rfl (by omega) (by omega) rfl (by omega) ?_
  refine am_ev.step (pc' := 91) rfl rfl ?_
  refine am_ev.step (pc' := 92) rfl rfl ?_
  refine ax_gf (p' := 95) rfl rfl (S.ob rfl) (S.rf rfl rfl) ?_
  refine am_ev.step (pc' := 97) rfl rfl ?_
  refine am_ev.step (pc' := 98) rfl rfl ?_
  refine fx_add (p' := 99) (e := ((j : Int) + 1)) rfl rfl (by omega) ?_
  refine ax_iaload (p' := 100) rfl rfl (S.rd (k := (j + 1)) rfl rfl rfl rfl (by omega) (by omega) w1) ?_
  refine fx_add (p' := 101) (e := (f1 + 1)) rfl rfl (by omega) ?_
  refine am_ev.step (pc' := 103) (ls' := [.ref 78, iv ((z : Int)), iv ((l : Int)), iv ((i : Int)), iv ((j : Int)), iv (q), iv (f1 + 1)]) rfl rfl ?_
  refine am_ev.step (pc' := 105) rfl rfl ?_
  refine am_ev.step (pc' := 106) rfl rfl ?_
  refine ax_gf (p' := 109) rfl rfl (S.ob rfl) (S.rf rfl rfl) ?_
  refine am_ev.step (pc' := 110) rfl rfl ?_
  refine ax_iaload (p' := 111) rfl rfl (S.rd (k := i) rfl rfl rfl rfl rfl (by omega) w3) ?_
  refine fx_c_gt (pT := 175) (pF := 114) rfl (by omega) (by omega) rfl rfl (fun c1 => ?_) (fun c1 => ?_)
  · refine fx_inc (p' := 178) (e := ((j : Int) + 1)) (ls' := [.ref 78, iv ((z : Int)), iv ((l : Int)), iv ((i : Int)), iv ((j : Int) + 1), iv (q), iv (f1 + 1)]) rfl rfl rfl (by omega) rfl ?_
    refine am_ev.step (pc' := 48) rfl rfl ?_
    exfalso
    omega
  · refine am_ev.step (pc' := 116) rfl rfl ?_
    refine am_ev.step (pc' := 117) rfl rfl ?_
    refine ax_gf (p' := 120) rfl rfl (S.ob rfl) (S.rf rfl rfl) ?_
    refine am_ev.step (pc' := 121) rfl rfl ?_
    refine ax_iaload (p' := 122) rfl rfl (S.rd (k := i) rfl rfl rfl rfl rfl (by omega) w3) ?_
    refine fx_c_ne (pT := 149) (pF := 125) rfl (by omega) (by omega) rfl rfl (fun c2 => ?_) (fun c2 => ?_)
    · refine am_ev.step (pc' := 150) rfl rfl ?_
      refine ax_gf (p' := 153) rfl rfl (S.ob rfl) (S.rf rfl rfl) ?_
      refine am_ev.step (pc' := 154) rfl rfl ?_
      refine am_ev.step (pc' := 156) rfl rfl ?_
      refine ax_iastore (p' := 157) rfl rfl (S.wr (k := i) rfl rfl rfl rfl (by omega)) ?_
      refine am_ev.step (pc' := 158) rfl rfl ?_
      refine ax_gf (p' := 161) rfl rfl (fO (S.ob rfl)) (ax_put_o (Or.inl (by decide)) (S.rf rfl rfl)) ?_
      refine am_ev.step (pc' := 162) rfl rfl ?_
      refine am_ev.step (pc' := 164) rfl rfl ?_
      refine am_ev.step (pc' := 165) rfl rfl ?_
      refine ax_gf (p' := 168) rfl rfl (fO (S.ob rfl)) (ax_put_o (Or.inl (by decide)) (S.rf rfl rfl)) ?_
      refine am_ev.step (pc' := 170) rfl rfl ?_
      refine am_ev.step (pc' := 171) rfl rfl ?_
      refine fx_add (p' := 172) (e := ((j : Int) + 1)) rfl rfl (by omega) ?_
      refine ax_iaload (p' := 173) rfl rfl ((S.pa rfl).rd (k := (j + 1)) rfl rfl rfl rfl (by omega) (by omega) (ax_put_o (Or.inl (by decide)) w2)) ?_
      refine fx_add (p' := 174) (e := (q + s1)) rfl rfl (by omega) ?_
      refine ax_iastore (p' := 175) rfl rfl ((S.pa rfl).wr (k := i) rfl rfl rfl rfl (by omega)) ?_
      refine fx_inc (p' := 178) (e := ((j : Int) + 1)) (ls' := [.ref 78, iv ((z : Int)), iv ((l : Int)), iv ((i : Int)), iv ((j : Int) + 1), iv (q), iv (f1 + 1)]) rfl rfl rfl (by omega) rfl ?_
      refine am_ev.step (pc' := 48) rfl rfl ?_
      exact (rr_n ▸ q9)
    · refine am_ev.step (pc' := 127) rfl rfl ?_
      refine am_ev.step (pc' := 128) rfl rfl ?_
      refine ax_gf (p' := 131) rfl rfl (S.ob rfl) (S.rf rfl rfl) ?_
      refine am_ev.step (pc' := 133) rfl rfl ?_
      refine am_ev.step (pc' := 134) rfl rfl ?_
      refine fx_add (p' := 135) (e := ((j : Int) + 1)) rfl rfl (by omega) ?_
      refine ax_iaload (p' := 136) rfl rfl (S.rd (k := (j + 1)) rfl rfl rfl rfl (by omega) (by omega) w2) ?_
      refine fx_add (p' := 137) (e := (q + s1)) rfl rfl (by omega) ?_
      refine am_ev.step (pc' := 138) rfl rfl ?_
      refine ax_gf (p' := 141) rfl rfl (S.ob rfl) (S.rf rfl rfl) ?_
      refine am_ev.step (pc' := 142) rfl rfl ?_
      refine ax_iaload (p' := 143) rfl rfl (S.rd (k := i) rfl rfl rfl rfl rfl (by omega) w4) ?_
      refine fx_c_lt (pT := 149) (pF := 146) rfl (by omega) (by omega) rfl rfl (fun c3 => ?_) (fun c3 => ?_)
      · refine am_ev.step (pc' := 150) rfl rfl ?_
        refine ax_gf (p' := 153) rfl rfl (S.ob rfl) (S.rf rfl rfl) ?_
        refine am_ev.step (pc' := 154) rfl rfl ?_
        refine am_ev.step (pc' := 156) rfl rfl ?_
        refine ax_iastore (p' := 157) rfl rfl (S.wr (k := i) rfl rfl rfl rfl (by omega)) ?_
        refine am_ev.step (pc' := 158) rfl rfl ?_
        refine ax_gf (p' := 161) rfl rfl (fO (S.ob rfl)) (ax_put_o (Or.inl (by decide)) (S.rf rfl rfl)) ?_
        refine am_ev.step (pc' := 162) rfl rfl ?_
        refine am_ev.step (pc' := 164) rfl rfl ?_
        refine am_ev.step (pc' := 165) rfl rfl ?_
        refine ax_gf (p' := 168) rfl rfl (fO (S.ob rfl)) (ax_put_o (Or.inl (by decide)) (S.rf rfl rfl)) ?_
        refine am_ev.step (pc' := 170) rfl rfl ?_
        refine am_ev.step (pc' := 171) rfl rfl ?_
        refine fx_add (p' := 172) (e := ((j : Int) + 1)) rfl rfl (by omega) ?_
        refine ax_iaload (p' := 173) rfl rfl ((S.pa rfl).rd (k := (j + 1)) rfl rfl rfl rfl (by omega) (by omega) (ax_put_o (Or.inl (by decide)) w2)) ?_
        refine fx_add (p' := 174) (e := (q + s1)) rfl rfl (by omega) ?_
        refine ax_iastore (p' := 175) rfl rfl ((S.pa rfl).wr (k := i) rfl rfl rfl rfl (by omega)) ?_
        refine fx_inc (p' := 178) (e := ((j : Int) + 1)) (ls' := [.ref 78, iv ((z : Int)), iv ((l : Int)), iv ((i : Int)), iv ((j : Int) + 1), iv (q), iv (f1 + 1)]) rfl rfl rfl (by omega) rfl ?_
        refine am_ev.step (pc' := 48) rfl rfl ?_
        exact (rr_n ▸ q9)
      · refine am_ev.step (pc' := 175) rfl rfl ?_
        refine fx_inc (p' := 178) (e := ((j : Int) + 1)) (ls' := [.ref 78, iv ((z : Int)), iv ((l : Int)), iv ((i : Int)), iv ((j : Int) + 1), iv (q), iv (f1 + 1)]) rfl rfl rfl (by omega) rfl ?_
        refine am_ev.step (pc' := 48) rfl rfl ?_
        exfalso
        omega
theorem mi_k (S : fS g) (hl : l ≤ 30) (hi : i ≤ j) (hj : j < l) (z9 : am_ev (d + 3) 199 0 (am_ent [.ref 78, iv z, iv i, iv j] 6) [] g (some (iv q), g)) (bq : 0 ≤ q ∧ q ≤ 3600) (w1 : g.2.2.2 98 (j + 1) = iv f1) (w2 : g.2.2.2 99 (j + 1) = iv s1) (w3 : g.2.2.2 98 i = iv f0) (w4 : g.2.2.2 99 i = iv s0) (b1 : 0 ≤ f1 ∧ f1 ≤ 100) (b2 : 0 ≤ s1 ∧ s1 ≤ 200000) (b3 : 0 ≤ f0 ∧ f0 ≤ 1000000000) (b4 : 0 ≤ s0 ∧ s0 ≤ 200000) (c4 : ¬ (f1 + 1 < f0 ∨ (f1 + 1 = f0 ∧ q + s1 < s0))) {x : Option Value × am_H} (q9 : am_ev (d + 4) 198 48 [.ref 78, iv z, iv l, iv i, iv ((j + 1 : Nat) : Int), iv (q), iv (f1 + 1)] [] g x) : am_ev (d + 4) 198 48 [.ref 78, iv ((z : Int)), iv ((l : Int)), iv ((i : Int)), iv ((j : Int)), x5, x6] [] g x := by
  refine am_ev.step (pc' := 50) rfl rfl ?_
  refine am_ev.step (pc' := 51) rfl rfl ?_
  refine fx_c_ge_F (pF := 54) rfl (by omega) (by omega) rfl (by omega) ?_
  refine am_ev.step (pc' := 55) rfl rfl ?_
  refine am_ev.step (pc' := 56) rfl rfl ?_
  refine am_ev.step (pc' := 57) rfl rfl ?_
  refine am_ev.step (pc' := 59) rfl rfl ?_
  refine ax_call (z := 199) (p' := 62) (as := [_, _, _, _]) rfl (Or.inr (Or.inl ⟨_, rfl⟩)) rfl rfl rfl rfl rfl rfl (S.ob rfl) rfl z9 rfl ?_
  refine am_ev.step (pc' := 64) (ls' := [.ref 78, iv ((z : Int)), iv ((l : Int)), iv ((i : Int)), iv ((j : Int)), iv (q), x6]) rfl rfl ?_
  refine am_ev.step (pc' := 66) rfl rfl ?_
  refine fx_ldcw (p' := 69) (n := 1000000000) rfl rfl rfl (by decide) ?_
  refine fx_c_ge_F (pF := 72) rfl (by omega) (by omega) rfl (by omega) ?_
  refine am_ev.step (pc' := 73) rfl rfl ?_
  refine ax_gf (p' := 76) rfl rfl (S.ob rfl) (S.rf rfl rfl) ?_
  refine am_ev.step (pc' := 78) rfl rfl ?_
  refine am_ev.step (pc' := 79) rfl rfl ?_
  refine fx_add (p' := 80) (e := ((j : Int) + 1)) rfl rfl (by omega) ?_
  refine ax_iaload (p' := 81) rfl rfl (S.rd (k := (j + 1)) rfl rfl rfl rfl (by omega) (by omega) w1) ?_
  refine fx_ldcw (p' := 84) (n := 1000000000) rfl rfl rfl (by decide) ?_
  refine fx_c_lt_T (pT := 90) rfl (by omega) (by omega) rfl (by omega) ?_
  refine am_ev.step (pc' := 91) rfl rfl ?_
  refine am_ev.step (pc' := 92) rfl rfl ?_
  refine ax_gf (p' := 95) rfl rfl (S.ob rfl) (S.rf rfl rfl) ?_
  refine am_ev.step (pc' := 97) rfl rfl ?_
  refine am_ev.step (pc' := 98) rfl rfl ?_
  refine fx_add (p' := 99) (e := ((j : Int) + 1)) rfl rfl (by omega) ?_
  refine ax_iaload (p' := 100) rfl rfl (S.rd (k := (j + 1)) rfl rfl rfl rfl (by omega) (by omega) w1) ?_
  refine fx_add (p' := 101) (e := (f1 + 1)) rfl rfl (by omega) ?_
  refine am_ev.step (pc' := 103) (ls' := [.ref 78, iv ((z : Int)), iv ((l : Int)), iv ((i : Int)), iv ((j : Int)), iv (q), iv (f1 + 1)]) rfl rfl ?_
  refine am_ev.step (pc' := 105) rfl rfl ?_
  refine am_ev.step (pc' := 106) rfl rfl ?_
  refine ax_gf (p' := 109) rfl rfl (S.ob rfl) (S.rf rfl rfl) ?_
  refine am_ev.step (pc' := 110) rfl rfl ?_
  refine ax_iaload (p' := 111) rfl rfl (S.rd (k := i) rfl rfl rfl rfl rfl (by omega) w3) ?_
  refine fx_c_gt (pT := 175) (pF := 114) rfl (by omega) (by omega) rfl rfl (fun c1 => ?_) (fun c1 => ?_)
  · refine fx_inc (p' := 178) (e := ((j : Int) + 1)) (ls' := [.ref 78, iv ((z : Int)), iv ((l : Int)), iv ((i : Int)), iv ((j : Int) + 1), iv (q), iv (f1 + 1)]) rfl rfl rfl (by omega) rfl ?_
    refine am_ev.step (pc' := 48) rfl rfl ?_
    exact (rr_n ▸ q9)
  · refine am_ev.step (pc' := 116) rfl rfl ?_
    refine am_ev.step (pc' := 117) rfl rfl ?_
    refine ax_gf (p' := 120) rfl rfl (S.ob rfl) (S.rf rfl rfl) ?_
    refine am_ev.step (pc' := 121) rfl rfl ?_
    refine ax_iaload (p' := 122) rfl rfl (S.rd (k := i) rfl rfl rfl rfl rfl (by omega) w3) ?_
    refine fx_c_ne (pT := 149) (pF := 125) rfl (by omega) (by omega) rfl rfl (fun c2 => ?_) (fun c2 => ?_)
    · refine am_ev.step (pc' := 150) rfl rfl ?_
      refine ax_gf (p' := 153) rfl rfl (S.ob rfl) (S.rf rfl rfl) ?_
      refine am_ev.step (pc' := 154) rfl rfl ?_
      refine am_ev.step (pc' := 156) rfl rfl ?_
      refine ax_iastore (p' := 157) rfl rfl (S.wr (k := i) rfl rfl rfl rfl (by omega)) ?_
      refine am_ev.step (pc' := 158) rfl rfl ?_
      refine ax_gf (p' := 161) rfl rfl (fO (S.ob rfl)) (ax_put_o (Or.inl (by decide)) (S.rf rfl rfl)) ?_
      refine am_ev.step (pc' := 162) rfl rfl ?_
      refine am_ev.step (pc' := 164) rfl rfl ?_
      refine am_ev.step (pc' := 165) rfl rfl ?_
      refine ax_gf (p' := 168) rfl rfl (fO (S.ob rfl)) (ax_put_o (Or.inl (by decide)) (S.rf rfl rfl)) ?_
      refine am_ev.step (pc' := 170) rfl rfl ?_
      refine am_ev.step (pc' := 171) rfl rfl ?_
      refine fx_add (p' := 172) (e := ((j : Int) + 1)) rfl rfl (by omega) ?_
      refine ax_iaload (p' := 173) rfl rfl ((S.pa rfl).rd (k := (j + 1)) rfl rfl rfl rfl (by omega) (by omega) (ax_put_o (Or.inl (by decide)) w2)) ?_
      refine fx_add (p' := 174) (e := (q + s1)) rfl rfl (by omega) ?_
      refine ax_iastore (p' := 175) rfl rfl ((S.pa rfl).wr (k := i) rfl rfl rfl rfl (by omega)) ?_
      refine fx_inc (p' := 178) (e := ((j : Int) + 1)) (ls' := [.ref 78, iv ((z : Int)), iv ((l : Int)), iv ((i : Int)), iv ((j : Int) + 1), iv (q), iv (f1 + 1)]) rfl rfl rfl (by omega) rfl ?_
      refine am_ev.step (pc' := 48) rfl rfl ?_
      exfalso
      omega
    · refine am_ev.step (pc' := 127) rfl rfl ?_
      refine am_ev.step (pc' := 128) rfl rfl ?_
      refine ax_gf (p' := 131) rfl rfl (S.ob rfl) (S.rf rfl rfl) ?_
      refine am_ev.step (pc' := 133) rfl rfl ?_
      refine am_ev.step (pc' := 134) rfl rfl ?_
      refine fx_add (p' := 135) (e := ((j : Int) + 1)) rfl rfl (by omega) ?_
      refine ax_iaload (p' := 136) rfl rfl (S.rd (k := (j + 1)) rfl rfl rfl rfl (by omega) (by omega) w2) ?_
      refine fx_add (p' := 137) (e := (q + s1)) rfl rfl (by omega) ?_
      refine am_ev.step (pc' := 138) rfl rfl ?_
      refine ax_gf (p' := 141) rfl rfl (S.ob rfl) (S.rf rfl rfl) ?_
      refine am_ev.step (pc' := 142) rfl rfl ?_
      refine ax_iaload (p' := 143) rfl rfl (S.rd (k := i) rfl rfl rfl rfl rfl (by omega) w4) ?_
      refine fx_c_lt (pT := 149) (pF := 146) rfl (by omega) (by omega) rfl rfl (fun c3 => ?_) (fun c3 => ?_)
      · refine am_ev.step (pc' := 150) rfl rfl ?_
        refine ax_gf (p' := 153) rfl rfl (S.ob rfl) (S.rf rfl rfl) ?_
        refine am_ev.step (pc' := 154) rfl rfl ?_
        refine am_ev.step (pc' := 156) rfl rfl ?_
        refine ax_iastore (p' := 157) rfl rfl (S.wr (k := i) rfl rfl rfl rfl (by omega)) ?_
        refine am_ev.step (pc' := 158) rfl rfl ?_
        refine ax_gf (p' := 161) rfl rfl (fO (S.ob rfl)) (ax_put_o (Or.inl (by decide)) (S.rf rfl rfl)) ?_
        refine am_ev.step (pc' := 162) rfl rfl ?_
        refine am_ev.step (pc' := 164) rfl rfl ?_
        refine am_ev.step (pc' := 165) rfl rfl ?_
        refine ax_gf (p' := 168) rfl rfl (fO (S.ob rfl)) (ax_put_o (Or.inl (by decide)) (S.rf rfl rfl)) ?_
        refine am_ev.step (pc' := 170) rfl rfl ?_
        refine am_ev.step (pc' := 171) rfl rfl ?_
        refine fx_add (p' := 172) (e := ((j : Int) + 1)) rfl rfl (by omega) ?_
        refine ax_iaload (p' := 173) rfl rfl ((S.pa rfl).rd (k := (j + 1)) rfl rfl rfl rfl (by omega) (by omega) (ax_put_o (Or.inl (by decide)) w2)) ?_
        refine fx_add (p' := 174) (e := (q + s1)) rfl rfl (by omega) ?_
        refine ax_iastore (p' := 175) rfl rfl ((S.pa rfl).wr (k := i) rfl rfl rfl rfl (by omega)) ?_
        refine fx_inc (p' := 178) (e := ((j : Int) + 1)) (ls' := [.ref 78, iv ((z : Int)), iv ((l : Int)), iv ((i : Int)), iv ((j : Int) + 1), iv (q), iv (f1 + 1)]) rfl rfl rfl (by omega) rfl ?_
        refine am_ev.step (pc' := 48) rfl rfl ?_
        exfalso
        omega
      · refine am_ev.step (pc' := 175) rfl rfl ?_
        refine fx_inc (p' := 178) (e := ((j : Int) + 1)) (ls' := [.ref 78, iv ((z : Int)), iv ((l : Int)), iv ((i : Int)), iv ((j : Int) + 1), iv (q), iv (f1 + 1)]) rfl rfl rfl (by omega) rfl ?_
        refine am_ev.step (pc' := 48) rfl rfl ?_
        exact (rr_n ▸ q9)
theorem mi_z (hl : l ≤ 30) (hi : i < l) (hj : j = l) {x : Option Value × am_H} (q9 : am_ev (d + 4) 198 25 [.ref 78, iv z, iv l, iv ((i : Int) - 1), iv j, x5, x6] [] g x) : am_ev (d + 4) 198 48 [.ref 78, iv ((z : Int)), iv ((l : Int)), iv ((i : Int)), iv ((j : Int)), x5, x6] [] g x := by
  refine am_ev.step (pc' := 50) rfl rfl ?_
  refine am_ev.step (pc' := 51) rfl rfl ?_
  refine fx_c_ge_T (pT := 181) rfl (by omega) (by omega) rfl (by omega) ?_
  refine fx_inc (p' := 184) (e := ((i : Int) - 1)) (ls' := [.ref 78, iv ((z : Int)), iv ((l : Int)), iv ((i : Int) - 1), iv ((j : Int)), x5, x6]) rfl rfl rfl (by omega) rfl ?_
  refine am_ev.step (pc' := 25) rfl rfl ?_
  exact q9
theorem mi_lp {n : Nat} (hn : n ≤ 30) (O : lyO D n l) (hr : r = if i = 0 then P - T else P) (hi : i < l) : ∀ (m k j : Nat) (g : am_H) (x5 x6 : Value), j = i + k → j + m = l → fS g → lyF g z l t u P T → mlW g i (lyR t u l r D i k) → (∀ j, i < j → j < l → mlW g j (D j)) → g.2.2.2 98 l = iv 0 → g.2.2.2 99 l = iv 0 → ∃ (G : am_H) (x5' x6' : Value), (∀ x, am_ev (d + 4) 198 25 [.ref 78, iv z, iv l, iv ((i : Int) - 1), iv l, x5', x6'] [] G x → am_ev (d + 4) 198 48 [.ref 78, iv z, iv l, iv i, iv j, x5, x6] [] g x) ∧ mlX g G i ∧ mlW G i (lyR t u l r D i (k + m))
  | 0, k, j, g, x5, x6, hj, hm, S, M, A, B, w98, w99 => ⟨g, x5, x6, fun x q => mi_z M.2.1.2 hi (by omega) (by rw [show j = l by omega]; exact q), mlX.rf S, A⟩
  | m + 1, k, j, g, x5, x6, hj, hm, S, M, A, B, w98, w99 => by
    have hl := M.2.1
    have bP := M.2.2.2.2.2.2.2.2.1
    have bT := M.2.2.2.2.2.2.2.2.2
    have br : r ≤ 60 := by
      rw [hr]
      split <;> omega
    have rb := lyR_b (t := t) (u := u) (i := i) (r := r) O br k (by omega)
    have rn := lyR_n1 (t := t) (u := u) (i := i) (l := l) (r := r) (fun j => (O j).1) k (by omega)
    have uu := lyU_b (u := u) (i := i) (k + 1)
    have z9 := ml_199 (d := d) (i := i) (k := k) S M (show j < l by omega) hj.symm
    rw [← hr] at z9
    have e1 : lyR t u l r D i (k + 1) = lyC t u l r D i k (lyR t u l r D i k) := rfl
    have km : k + (m + 1) = k + 1 + m := by omega
    have bI : 0 ≤ lyI (lyR t u l r D i k) ∧ lyI (lyR t u l r D i k) ≤ 1000000000 := by
      unfold lyI
      split <;> omega
    obtain ⟨A1, A2⟩ := id A
    have same : lyR t u l r D i (k + 1) = lyR t u l r D i k → ∀ (v5 v6 : Value), (∀ x, am_ev (d + 4) 198 48 [.ref 78, iv z, iv l, iv i, iv ((j + 1 : Nat) : Int), v5, v6] [] g x → am_ev (d + 4) 198 48 [.ref 78, iv z, iv l, iv i, iv j, x5, x6] [] g x) → ∃ (G : am_H) (x5' x6' : Value), (∀ x, am_ev (d + 4) 198 25 [.ref 78, iv z, iv l, iv ((i : Int) - 1), iv l, x5', x6'] [] G x → am_ev (d + 4) 198 48 [.ref 78, iv z, iv l, iv i, iv j, x5, x6] [] g x) ∧ mlX g G i ∧ mlW G i (lyR t u l r D i (k + (m + 1))) := fun e2 v5 v6 st => by
      obtain ⟨G, y5, y6, g1, g2, g3⟩ := mi_lp hn O hr hi m (k + 1) (j + 1) g v5 v6 (by omega) (by omega) S M (e2 ▸ A) B w98 w99
      exact ⟨G, y5, y6, fun x q => st x (g1 x q), g2, km ▸ g3⟩
    have step : ∀ (f s : Int) (a : lyT) (v5 v6 : Value), lyR t u l r D i (k + 1) = a → f = lyI a → s = a.2.1 → (∀ x, am_ev (d + 4) 198 48 [.ref 78, iv z, iv l, iv i, iv ((j + 1 : Nat) : Int), v5, v6] [] (am_put (am_put g 98 i (iv f)) 99 i (iv s)) x → am_ev (d + 4) 198 48 [.ref 78, iv z, iv l, iv i, iv j, x5, x6] [] g x) → ∃ (G : am_H) (x5' x6' : Value), (∀ x, am_ev (d + 4) 198 25 [.ref 78, iv z, iv l, iv ((i : Int) - 1), iv l, x5', x6'] [] G x → am_ev (d + 4) 198 48 [.ref 78, iv z, iv l, iv i, iv j, x5, x6] [] g x) ∧ mlX g G i ∧ mlW G i (lyR t u l r D i (k + (m + 1))) := fun f s a v5 v6 e2 ef es st => by
      have X1 : mlX g (am_put (am_put g 98 i (iv f)) 99 i (iv s)) i := mlX.put2 S
      obtain ⟨G, y5, y6, g1, g2, g3⟩ := mi_lp hn O hr hi m (k + 1) (j + 1) _ v5 v6 (by omega) (by omega) X1.1 (M.y X1.y) (e2 ▸ mlW.of2 ef es) (fun j' j1 j2 => (B j' j1 j2).x X1 (by omega)) ((X1.2.2.2 98 l (Or.inr (by omega))).trans w98) ((X1.2.2.2 99 l (Or.inr (by omega))).trans w99)
      exact ⟨G, y5, y6, fun x q => st x (g1 x q), X1.tr g2, km ▸ g3⟩
    have hl30 := hl.2
    have hij : i ≤ j := by omega
    have hjl : j < l := by omega
    by_cases c1 : lyU u i (k + 1) ≤ r
    · by_cases c2 : j + 1 = l
      · have e2 : lyR t u l r D i (k + 1) = (1, 0, l) := by
          rw [e1]
          unfold lyC
          rw [if_pos c1, ← hj, if_pos c2]
        have zv : lyZ t u l r i k = 0 := by
          unfold lyZ
          rw [if_pos c1, ← hj, if_pos c2]
        rw [zv] at z9
        have c4 : (0 : Int) + 1 < lyI (lyR t u l r D i k) ∨ ((0 : Int) + 1 = lyI (lyR t u l r D i k) ∧ (0 : Int) + 0 < (lyR t u l r D i k).2.1) := by
          refine Or.inl ?_
          unfold lyI
          split <;> omega
        exact step _ _ _ _ _ e2 (by show (0 : Int) + 1 = if (1 : Int) = 0 then 1000000000 else 1; decide) rfl (fun x q => mi_b S hl30 hij hjl z9 (by omega) (by rw [c2]; exact w98) (by rw [c2]; exact w99) A1 A2 (by omega) (by omega) bI (by omega) c4 q)
      · have c2' : j + 1 < l := by omega
        have o := O (j + 1)
        obtain ⟨w1, w2⟩ := B (j + 1) (by omega) c2'
        cases e6 : lyM t u l j with
        | false =>
          have e2 : lyR t u l r D i (k + 1) = lyR t u l r D i k := by
            rw [e1]
            unfold lyC
            rw [if_pos c1, ← hj, if_neg c2, if_neg (fun z => by rw [e6] at z; exact absurd z.1 (by decide))]
          have zv : lyZ t u l r i k = 1000000000 := by
            unfold lyZ
            rw [if_pos c1, ← hj, if_neg c2, e6, if_neg (by decide)]
          rw [zv] at z9
          exact same e2 _ _ (fun x q => mi_s S hl30 hij hjl z9 q)
        | true =>
          obtain ⟨q, hq⟩ : ∃ q : Int, (r - lyU u i (k + 1)) * (r - lyU u i (k + 1)) = q := ⟨_, rfl⟩
          have bq := ly_sq (a := r - lyU u i (k + 1)) (by omega)
          rw [hq] at bq
          have zv : lyZ t u l r i k = q := by
            unfold lyZ
            rw [if_pos c1, ← hj, if_neg c2, e6, if_pos rfl, hq]
          rw [zv] at z9
          by_cases c3 : 0 < (D (j + 1)).1
          · rw [lyI_n (by omega)] at w1
            have e2 : lyR t u l r D i (k + 1) = lyB (lyR t u l r D i k) ((D (j + 1)).1 + 1) ((D (j + 1)).2.1 + q) (j + 1) := by
              rw [e1]
              unfold lyC lyS
              rw [if_pos c1, ← hj, if_neg c2, if_pos ⟨e6, c3⟩, hq]
            by_cases c4 : (lyR t u l r D i k).1 = 0 ∨ (D (j + 1)).1 + 1 < (lyR t u l r D i k).1 ∨ ((D (j + 1)).1 + 1 = (lyR t u l r D i k).1 ∧ (D (j + 1)).2.1 + q < (lyR t u l r D i k).2.1)
            · have e2 : lyR t u l r D i (k + 1) = ((D (j + 1)).1 + 1, (D (j + 1)).2.1 + q, j + 1) := e2.trans (if_pos c4)
              have c4' : (D (j + 1)).1 + 1 < lyI (lyR t u l r D i k) ∨ ((D (j + 1)).1 + 1 = lyI (lyR t u l r D i k) ∧ q + (D (j + 1)).2.1 < (lyR t u l r D i k).2.1) := by
                unfold lyI
                split <;> omega
              exact step _ _ _ _ _ e2 (by rw [lyI_n (show (D (j + 1)).1 + 1 ≠ 0 by omega)]) (by show q + (D (j + 1)).2.1 = (D (j + 1)).2.1 + q; omega) (fun x q' => mi_b S hl30 hij hjl z9 bq w1 w2 A1 A2 (by omega) (by omega) bI (by omega) c4' q')
            · have e2 : lyR t u l r D i (k + 1) = lyR t u l r D i k := e2.trans (if_neg c4)
              have c4' : ¬ ((D (j + 1)).1 + 1 < lyI (lyR t u l r D i k) ∨ ((D (j + 1)).1 + 1 = lyI (lyR t u l r D i k) ∧ q + (D (j + 1)).2.1 < (lyR t u l r D i k).2.1)) := by
                have n0 : (lyR t u l r D i k).1 ≠ 0 := fun z => c4 (Or.inl z)
                rw [lyI_n n0]
                omega
              exact same e2 _ _ (fun x q' => mi_k S hl30 hij hjl z9 bq w1 w2 A1 A2 (by omega) (by omega) bI (by omega) c4' q')
          · have e2 : lyR t u l r D i (k + 1) = lyR t u l r D i k := by
              rw [e1]
              unfold lyC
              rw [if_pos c1, ← hj, if_neg c2, if_neg (fun z => c3 z.2)]
            rw [lyI_0 (by omega)] at w1
            exact same e2 _ _ (fun x q' => mi_n S hl30 hij hjl z9 bq w1 q')
    · have e2 : lyR t u l r D i (k + 1) = lyR t u l r D i k := by
        rw [e1]
        unfold lyC
        rw [if_neg c1]
      have zv : lyZ t u l r i k = 1000000000 := by
        unfold lyZ
        rw [if_neg c1]
      rw [zv] at z9
      exact same e2 _ _ (fun x q => mi_s S hl30 hij hjl z9 q)
theorem mo_s (S : fS g) (hm : m ≤ 29) {x : Option Value × am_H} (q9 : am_ev (d + 4) 198 48 [.ref 78, iv ((z : Int)), iv ((l : Int)), iv ((m : Int)), iv ((m : Int)), x5, x6] [] (am_put (am_put g 98 m (iv 1000000000)) 99 m (iv 0)) x) : am_ev (d + 4) 198 25 [.ref 78, iv ((z : Int)), iv ((l : Int)), iv ((m : Int)), x4, x5, x6] [] g x := by
  refine am_ev.step (pc' := 26) rfl rfl ?_
  refine fx_z_lt_F (pF := 29) rfl (by omega) rfl (by omega) ?_
  refine am_ev.step (pc' := 30) rfl rfl ?_
  refine ax_gf (p' := 33) rfl rfl (S.ob rfl) (S.rf rfl rfl) ?_
  refine am_ev.step (pc' := 34) rfl rfl ?_
  refine fx_ldcw (p' := 37) (n := 1000000000) rfl rfl rfl (by decide) ?_
  refine ax_iastore (p' := 38) rfl rfl (S.wr (k := m) rfl rfl rfl rfl (by omega)) ?_
  refine am_ev.step (pc' := 39) rfl rfl ?_
  refine ax_gf (p' := 42) rfl rfl (fO (S.ob rfl)) (ax_put_o (Or.inl (by decide)) (S.rf rfl rfl)) ?_
  refine am_ev.step (pc' := 43) rfl rfl ?_
  refine am_ev.step (pc' := 44) rfl rfl ?_
  refine ax_iastore (p' := 45) rfl rfl ((S.pa rfl).wr (k := m) rfl rfl rfl rfl (by omega)) ?_
  refine am_ev.step (pc' := 46) rfl rfl ?_
  refine am_ev.step (pc' := 48) (ls' := [.ref 78, iv ((z : Int)), iv ((l : Int)), iv ((m : Int)), iv ((m : Int)), x5, x6]) rfl rfl ?_
  exact q9
theorem mo_z (S : fS g) (w1 : g.2.2.2 98 0 = iv q) : am_ev (d + 4) 198 25 [.ref 78, iv ((z : Int)), iv ((l : Int)), iv (-1), x4, x5, x6] [] g (some (iv q), g) := by
  refine am_ev.step (pc' := 26) rfl rfl ?_
  refine fx_z_lt_T (pT := 187) rfl (by omega) rfl (by omega) ?_
  refine am_ev.step (pc' := 188) rfl rfl ?_
  refine ax_gf (p' := 191) rfl rfl (S.ob rfl) (S.rf rfl rfl) ?_
  refine am_ev.step (pc' := 192) rfl rfl ?_
  refine ax_iaload (p' := 193) rfl rfl (S.rd (k := 0) rfl rfl rfl rfl rfl (by decide) w1) ?_
  exact fx_reti rfl rfl rfl
theorem mo_lp : ∀ (m : Nat) (g : am_H) (x4 x5 x6 : Value), m ≤ l → fS g → lyF g z l t u P T → (∀ j, m ≤ j → j < l → mlW g j (lyD t u l P T (l - m) j)) → g.2.2.2 98 l = iv 0 → g.2.2.2 99 l = iv 0 → ∃ G, am_ev (d + 4) 198 25 [.ref 78, iv z, iv l, iv ((m : Int) - 1), x4, x5, x6] [] g (some (iv (lyI (lyD t u l P T l 0))), G) ∧ mlY g G ∧ (∀ j, j < l → mlW G j (lyD t u l P T l j)) ∧ G.2.2.2 98 l = iv 0 ∧ G.2.2.2 99 l = iv 0
  | 0, g, x4, x5, x6, hm, S, M, B, w98, w99 => ⟨g, mo_z S (B 0 (Nat.le_refl _) M.2.1.1).1, ⟨S, rfl, rfl, fun _ _ _ _ => rfl⟩, fun j hj => B j (Nat.zero_le _) hj, w98, w99⟩
  | m + 1, g, x4, x5, x6, hm, S, M, B, w98, w99 => by
    have hl := M.2.1
    have bP := M.2.2.2.2.2.2.2.2.1
    have bT := M.2.2.2.2.2.2.2.2.2
    obtain ⟨n, hn⟩ : ∃ n, n = l - (m + 1) := ⟨_, rfl⟩
    have O := lyD_b (t := t) (u := u) (l := l) (P := P) (T := T) (by omega) bT.1 n (by omega)
    have X1 : mlX g (am_put (am_put g 98 m (iv 1000000000)) 99 m (iv 0)) m := mlX.put2 S
    have z1 : ∃ (G : am_H) (x5' x6' : Value), (∀ x, am_ev (d + 4) 198 25 [.ref 78, iv z, iv l, iv ((m : Int) - 1), iv l, x5', x6'] [] G x → am_ev (d + 4) 198 48 [.ref 78, iv z, iv l, iv m, iv m, x5, x6] [] (am_put (am_put g 98 m (iv 1000000000)) 99 m (iv 0)) x) ∧ mlX (am_put (am_put g 98 m (iv 1000000000)) 99 m (iv 0)) G m ∧ mlW G m (lyR t u l (if m = 0 then P - T else P) (lyD t u l P T n) m (0 + (l - m))) :=
      mi_lp (n := n) (by omega) O rfl (by omega) (l - m) 0 m _ x5 x6 (by omega) (by omega) X1.1 (M.y X1.y) (mlW.of2 (a := (0, 0, l)) rfl rfl) (fun j j1 j2 => by
        have q := B j (by omega) j2
        rw [← hn] at q
        exact q.x X1 (by omega)) ((X1.2.2.2 98 l (Or.inr (by omega))).trans w98) ((X1.2.2.2 99 l (Or.inr (by omega))).trans w99)
    obtain ⟨G1, y5, y6, g1, g2, g3⟩ := z1
    have X2 := X1.tr g2
    have nl : l - m = n + 1 := by omega
    rw [Nat.zero_add] at g3
    obtain ⟨G, k1, k2, k3⟩ := mo_lp m G1 (iv l) y5 y6 (by omega) g2.1 (M.y X2.y) (fun j j1 j2 => by
      rw [nl]
      by_cases e : j = m
      · subst e
        rw [lyD_n (by omega)]
        rw [nl] at g3
        rw [show l - j = n + 1 by omega]
        exact g3
      · rw [lyD_o (by omega)]
        have q := B j (by omega) j2
        rw [← hn] at q
        exact q.x X2 e) ((X2.2.2.2 98 l (Or.inr (by omega))).trans w98) ((X2.2.2.2 99 l (Or.inr (by omega))).trans w99)
    refine ⟨G, ?_, X2.y.tr k2, k3⟩
    rw [show ((m + 1 : Nat) : Int) - 1 = (m : Int) by omega]
    exact mo_s S (by omega) (g1 _ k1)
theorem ms_198 (S : fS g) (M : lyF g z l t u P T) {x : Option Value × am_H} (q9 : am_ev (d + 4) 198 25 [.ref 78, iv ((z : Int)), iv ((l : Int)), iv ((l : Int) - 1), am_ph, am_ph, am_ph] [] (am_put (am_put g 98 l (iv 0)) 99 l (iv 0)) x) : am_ev (d + 4) 198 0 [.ref 78, iv ((z : Int)), am_ph, am_ph, am_ph, am_ph, am_ph] [] g x := by
  obtain ⟨hz, hl, u0, g93, g96, g97, g810, g812, bP, bT⟩ := id M
  refine am_ev.step (pc' := 1) rfl rfl ?_
  refine ax_gf (p' := 4) rfl rfl (S.ob rfl) (S.rf rfl rfl) ?_
  refine am_ev.step (pc' := 5) rfl rfl ?_
  refine ax_iaload (p' := 6) rfl rfl (S.rd (k := z) rfl rfl rfl rfl rfl (by omega) g93) ?_
  refine am_ev.step (pc' := 7) (ls' := [.ref 78, iv ((z : Int)), iv ((l : Int)), am_ph, am_ph, am_ph, am_ph]) rfl rfl ?_
  refine am_ev.step (pc' := 8) rfl rfl ?_
  refine ax_gf (p' := 11) rfl rfl (S.ob rfl) (S.rf rfl rfl) ?_
  refine am_ev.step (pc' := 12) rfl rfl ?_
  refine am_ev.step (pc' := 13) rfl rfl ?_
  refine ax_iastore (p' := 14) rfl rfl (S.wr (k := l) rfl rfl rfl rfl (by omega)) ?_
  refine am_ev.step (pc' := 15) rfl rfl ?_
  refine ax_gf (p' := 18) rfl rfl (fO (S.ob rfl)) (ax_put_o (Or.inl (by decide)) (S.rf rfl rfl)) ?_
  refine am_ev.step (pc' := 19) rfl rfl ?_
  refine am_ev.step (pc' := 20) rfl rfl ?_
  refine ax_iastore (p' := 21) rfl rfl ((S.pa rfl).wr (k := l) rfl rfl rfl rfl (by omega)) ?_
  refine am_ev.step (pc' := 22) rfl rfl ?_
  refine am_ev.step (pc' := 23) rfl rfl ?_
  refine fx_sub (p' := 24) (e := ((l : Int) - 1)) rfl rfl (by omega) ?_
  refine am_ev.step (pc' := 25) (ls' := [.ref 78, iv ((z : Int)), iv ((l : Int)), iv ((l : Int) - 1), am_ph, am_ph, am_ph]) rfl rfl ?_
  exact q9
/-- the model's table for a text -/
def mlT (g G : am_H) (l : Nat) (t u : Int32) (P T : Int) : Prop := mlY g G ∧ (∀ j, j < l → mlW G j (lyD t u l P T l j)) ∧ G.2.2.2 98 l = iv 0 ∧ G.2.2.2 99 l = iv 0
theorem ml_198 (S : fS g) (M : lyF g z l t u P T) : ∃ G, am_ev (d + 4) 198 0 (am_ent [.ref 78, iv z] 7) [] g (some (iv (lyI (lyD t u l P T l 0))), G) ∧ mlT g G l t u P T := by
  have X1 : mlX g (am_put (am_put g 98 l (iv 0)) 99 l (iv 0)) l := mlX.put2 S
  obtain ⟨G, g1, g2, g3⟩ := mo_lp (d := d) l (am_put (am_put g 98 l (iv 0)) 99 l (iv 0)) am_ph am_ph am_ph (Nat.le_refl _) X1.1 (M.y X1.y) (fun j j1 j2 => absurd j1 (by omega)) (ax_put_o (Or.inl (by decide)) (ax_put_s _ _ _)) (ax_put_s _ _ _)
  refine ⟨G, ?_, X1.y.tr g2, g3⟩
  show am_ev (d + 4) 198 0 [.ref 78, iv z, am_ph, am_ph, am_ph, am_ph, am_ph] [] g _
  exact ms_198 S M g1
theorem mp_n {G : am_H} (S : fS g) (SG : fS G) (z1 : am_ev (d + 4) 198 0 (am_ent [.ref 78, iv z] 7) [] g (some (iv 1000000000), G)) : am_ev (d + 5) 197 0 (am_ent [.ref 78, iv z] 3) [] g (some (iv (-1)), G) := by
  show am_ev (d + 5) 197 0 [.ref 78, iv z, am_ph] [] g _
  refine am_ev.step (pc' := 1) rfl rfl ?_
  refine am_ev.step (pc' := 2) rfl rfl ?_
  refine ax_call (z := 198) (p' := 5) (as := [_, _]) rfl (Or.inr (Or.inl ⟨_, rfl⟩)) rfl rfl rfl rfl rfl rfl (S.ob rfl) rfl z1 rfl ?_
  refine am_ev.step (pc' := 6) (ls' := [.ref 78, iv ((z : Int)), iv 1000000000]) rfl rfl ?_
  refine am_ev.step (pc' := 7) rfl rfl ?_
  refine fx_ldcw (p' := 10) (n := 1000000000) rfl rfl rfl (by decide) ?_
  refine fx_c_lt_F (pF := 13) rfl (by omega) (by omega) rfl (by omega) ?_
  refine am_ev.step (pc' := 14) rfl rfl ?_
  refine am_ev.step (pc' := 18) rfl rfl ?_
  exact fx_reti rfl rfl rfl
theorem mp_y {G : am_H} (S : fS g) (SG : fS G) (bq : 0 ≤ q ∧ q ≤ 1000) (z1 : am_ev (d + 4) 198 0 (am_ent [.ref 78, iv z] 7) [] g (some (iv q), G)) : am_ev (d + 5) 197 0 (am_ent [.ref 78, iv z] 3) [] g (some (iv (q)), G) := by
  show am_ev (d + 5) 197 0 [.ref 78, iv z, am_ph] [] g _
  refine am_ev.step (pc' := 1) rfl rfl ?_
  refine am_ev.step (pc' := 2) rfl rfl ?_
  refine ax_call (z := 198) (p' := 5) (as := [_, _]) rfl (Or.inr (Or.inl ⟨_, rfl⟩)) rfl rfl rfl rfl rfl rfl (S.ob rfl) rfl z1 rfl ?_
  refine am_ev.step (pc' := 6) (ls' := [.ref 78, iv ((z : Int)), iv (q)]) rfl rfl ?_
  refine am_ev.step (pc' := 7) rfl rfl ?_
  refine fx_ldcw (p' := 10) (n := 1000000000) rfl rfl rfl (by decide) ?_
  refine fx_c_lt_T (pT := 17) rfl (by omega) (by omega) rfl (by omega) ?_
  refine am_ev.step (pc' := 18) rfl rfl ?_
  exact fx_reti rfl rfl rfl
def lyJ (a : lyT) : Int := if a.1 = 0 then -1 else a.1
theorem ml_197 (S : fS g) (M : lyF g z l t u P T) : ∃ G, am_ev (d + 5) 197 0 (am_ent [.ref 78, iv z] 3) [] g (some (iv (lyJ (lyD t u l P T l 0))), G) ∧ mlT g G l t u P T := by
  obtain ⟨G, g1, g2⟩ := ml_198 (d := d) S M
  have b := lyD_b (t := t) (u := u) (l := l) (P := P) (T := T) (by have := M.2.2.2.2.2.2.2.2.1; omega) M.2.2.2.2.2.2.2.2.2.1 l (Nat.le_refl _) 0
  have hl := M.2.1
  refine ⟨G, ?_, g2⟩
  unfold lyJ
  by_cases c : (lyD t u l P T l 0).1 = 0
  · rw [lyI_0 c] at g1
    rw [if_pos c]
    exact mp_n S g2.1.1 g1
  · rw [lyI_n c] at g1
    rw [if_neg c]
    exact mp_y S g2.1.1 (by omega) g1
end LYP
end
section
/-! THE LAYOUT OF A TEXT: a page's first way; the model's breaks -/
section LYW
variable {t u : Int32} {l i n m : Nat} {P T r : Int} {D D' : Nat → lyT}
theorem lyR_cg (e : ∀ j, i < j → j < l → D j = D' j) : ∀ k, i + k ≤ l → lyR t u l r D i k = lyR t u l r D' i k
  | 0, _ => rfl
  | k + 1, hk => by
    have ih := lyR_cg e k (by omega)
    rw [show lyR t u l r D i (k + 1) = lyC t u l r D i k (lyR t u l r D i k) from rfl, show lyR t u l r D' i (k + 1) = lyC t u l r D' i k (lyR t u l r D' i k) from rfl, ih]
    unfold lyC lyS
    by_cases c2 : i + k + 1 = l
    · rw [if_pos c2, if_pos c2]
    · rw [e (i + k + 1) (by omega) (by omega)]
theorem lyD_st (h : l ≤ i + n) : ∀ m, lyD t u l P T (n + m) i = lyD t u l P T n i
  | 0 => rfl
  | m + 1 => by
    rw [show n + (m + 1) = n + m + 1 from rfl, lyD_o (by omega)]
    exact lyD_st h m
theorem lyD_row (h : i < l) : lyD t u l P T l i = lyR t u l (if i = 0 then P - T else P) (lyD t u l P T l) i (l - i) := by
  obtain ⟨n, hn⟩ : ∃ n, n + 1 = l - i := ⟨l - i - 1, by omega⟩
  have e1 : lyD t u l P T l i = lyD t u l P T (n + 1) i := by
    have q := lyD_st (t := t) (u := u) (P := P) (T := T) (show l ≤ i + (n + 1) by omega) (l - (n + 1))
    rw [show n + 1 + (l - (n + 1)) = l by omega] at q
    exact q
  rw [e1, lyD_n (by omega)]
  refine lyR_cg (fun j a b => ?_) _ (by omega)
  have q := lyD_st (t := t) (u := u) (P := P) (T := T) (show l ≤ j + n by omega) (l - n)
  rw [show n + (l - n) = l by omega] at q
  exact q.symm
/-- a page of k + 1 lines is a way -/
def lyA (t u : Int32) (l : Nat) (r : Int) (D : Nat → lyT) (i k : Nat) : Prop := lyU u i (k + 1) ≤ r ∧ i + k + 1 < l ∧ lyM t u l (i + k) = true ∧ 0 < (D (i + k + 1)).1
theorem lyR_f : ∀ K, i + K < l → ((lyR t u l r D i K).1 = 0 ∧ ∀ k, k < K → ¬ lyA t u l r D i k) ∨ (∃ k0, k0 < K ∧ lyA t u l r D i k0 ∧ lyR t u l r D i K = ((D (i + k0 + 1)).1 + 1, lyS u r D i k0, i + k0 + 1) ∧ (∀ k, k < K → lyA t u l r D i k → (D (i + k0 + 1)).1 < (D (i + k + 1)).1 ∨ ((D (i + k0 + 1)).1 = (D (i + k + 1)).1 ∧ lyS u r D i k0 ≤ lyS u r D i k)) ∧ ∀ k, k < k0 → lyA t u l r D i k → (D (i + k0 + 1)).1 < (D (i + k + 1)).1 ∨ ((D (i + k0 + 1)).1 = (D (i + k + 1)).1 ∧ lyS u r D i k0 < lyS u r D i k))
  | 0, _ => Or.inl ⟨rfl, fun k hk => absurd hk (Nat.not_lt_zero k)⟩
  | K + 1, hK => by
    have ih := lyR_f K (by omega)
    have e1 : lyR t u l r D i (K + 1) = lyC t u l r D i K (lyR t u l r D i K) := rfl
    by_cases A : lyA t u l r D i K
    · have e2 : lyR t u l r D i (K + 1) = lyB (lyR t u l r D i K) ((D (i + K + 1)).1 + 1) (lyS u r D i K) (i + K + 1) := by
        rw [e1]
        unfold lyC
        rw [if_pos A.1, if_neg (by omega), if_pos ⟨A.2.2.1, A.2.2.2⟩]
      by_cases c : (lyR t u l r D i K).1 = 0 ∨ (D (i + K + 1)).1 + 1 < (lyR t u l r D i K).1 ∨ ((D (i + K + 1)).1 + 1 = (lyR t u l r D i K).1 ∧ lyS u r D i K < (lyR t u l r D i K).2.1)
      · refine Or.inr ⟨K, Nat.lt_succ_self K, A, e2.trans (if_pos c), ?_⟩
        rcases ih with ⟨z, nz⟩ | ⟨k0, a1, a2, a3, a4, a5⟩
        · refine ⟨fun k hk q => ?_, fun k hk q => absurd q (nz k hk)⟩
          by_cases e : k = K
          · subst e
            exact Or.inr ⟨rfl, Int.le_refl _⟩
          · exact absurd q (nz k (by omega))
        · rw [a3] at c
          have c : (D (i + k0 + 1)).1 + 1 = 0 ∨ (D (i + K + 1)).1 + 1 < (D (i + k0 + 1)).1 + 1 ∨ ((D (i + K + 1)).1 + 1 = (D (i + k0 + 1)).1 + 1 ∧ lyS u r D i K < lyS u r D i k0) := c
          have p0 := a2.2.2.2
          refine ⟨fun k hk q => ?_, fun k hk q => ?_⟩
          · by_cases e : k = K
            · subst e
              exact Or.inr ⟨rfl, Int.le_refl _⟩
            · have := a4 k (by omega) q
              omega
          · have := a4 k hk q
            omega
      · have e3 : lyR t u l r D i (K + 1) = lyR t u l r D i K := e2.trans (if_neg c)
        rcases ih with ⟨z, nz⟩ | ⟨k0, a1, a2, a3, a4, a5⟩
        · exact absurd (Or.inl z) c
        · refine Or.inr ⟨k0, by omega, a2, e3.trans a3, fun k hk q => ?_, a5⟩
          by_cases e : k = K
          · subst e
            rw [a3] at c
            have c : ¬ ((D (i + k0 + 1)).1 + 1 = 0 ∨ (D (i + k + 1)).1 + 1 < (D (i + k0 + 1)).1 + 1 ∨ ((D (i + k + 1)).1 + 1 = (D (i + k0 + 1)).1 + 1 ∧ lyS u r D i k < lyS u r D i k0)) := c
            omega
          · exact a4 k (by omega) q
    · have e3 : lyR t u l r D i (K + 1) = lyR t u l r D i K := by
        rw [e1]
        unfold lyC
        by_cases c1 : lyU u i (K + 1) ≤ r
        · rw [if_pos c1, if_neg (by omega), if_neg (fun q => A ⟨c1, by omega, q.1, q.2⟩)]
        · rw [if_neg c1]
      rw [e3]
      rcases ih with ⟨z, nz⟩ | ⟨k0, a1, a2, a3, a4, a5⟩
      · refine Or.inl ⟨z, fun k hk q => ?_⟩
        by_cases e : k = K
        · subst e
          exact A q
        · exact nz k (by omega) q
      · refine Or.inr ⟨k0, by omega, a2, a3, fun k hk q => ?_, a5⟩
        by_cases e : k = K
        · subst e
          exact absurd q A
        · exact a4 k (by omega) q
theorem ly_first (hi : i < l) (row : D i = lyR t u l r D i (l - i)) (h2 : 2 ≤ (D i).1) : ∃ k0, lyA t u l r D i k0 ∧ D i = ((D (i + k0 + 1)).1 + 1, lyS u r D i k0, i + k0 + 1) ∧ ∀ k, k < k0 → lyA t u l r D i k → ¬ ((D (i + k + 1)).1 + 1 = (D i).1 ∧ lyS u r D i k = (D i).2.1) := by
  obtain ⟨K, hK⟩ : ∃ K, K + 1 = l - i := ⟨l - i - 1, by omega⟩
  rw [← hK] at row
  have e1 : lyR t u l r D i (K + 1) = lyC t u l r D i K (lyR t u l r D i K) := rfl
  have e2 : D i = lyR t u l r D i K := by
    by_cases c1 : lyU u i (K + 1) ≤ r
    · have : D i = (1, 0, l) := by
        rw [row, e1]
        unfold lyC
        rw [if_pos c1, if_pos (by omega)]
      rw [this] at h2
      have h2 : (2 : Int) ≤ 1 := h2
      omega
    · rw [row, e1]
      unfold lyC
      rw [if_neg c1]
  rcases lyR_f (t := t) (u := u) (l := l) (r := r) (D := D) (i := i) K (by omega) with ⟨z, -⟩ | ⟨k0, -, a2, a3, -, a5⟩
  · rw [e2, z] at h2
    exact absurd h2 (by decide)
  · refine ⟨k0, a2, e2.trans a3, fun k hk q y => ?_⟩
    have w := a5 k hk q
    rw [e2.trans a3] at y
    have y : (D (i + k + 1)).1 + 1 = (D (i + k0 + 1)).1 + 1 ∧ lyS u r D i k = lyS u r D i k0 := y
    omega
end LYW
section LYX
variable {d z l i j k m n : Nat} {g : am_H} {t u : Int32} {P T r q f0 f1 s0 s1 : Int} {D : Nat → lyT} {x3 : Value}
theorem fb_e (S : fS g) (hi : i ≤ 29) (w3 : g.2.2.2 98 i = iv f0) (b : 0 ≤ f0 ∧ f0 ≤ 1) : am_ev (d + 4) 203 7 [.ref 78, iv ((z : Int)), iv ((i : Int)), x3] [] g (none, g) := by
  refine am_ev.step (pc' := 8) rfl rfl ?_
  refine ax_gf (p' := 11) rfl rfl (S.ob rfl) (S.rf rfl rfl) ?_
  refine am_ev.step (pc' := 12) rfl rfl ?_
  refine ax_iaload (p' := 13) rfl rfl (S.rd (k := i) rfl rfl rfl rfl rfl (by omega) w3) ?_
  refine am_ev.step (pc' := 14) rfl rfl ?_
  refine fx_c_le_T (pT := 123) rfl (by omega) (by omega) rfl (by omega) ?_
  exact am_ev.retv rfl rfl
theorem fb_s (S : fS g) (hi : i ≤ 29) (w3 : g.2.2.2 98 i = iv f0) (b : 2 ≤ f0 ∧ f0 ≤ 100) {x : Option Value × am_H} (q9 : am_ev (d + 4) 203 19 [.ref 78, iv ((z : Int)), iv ((i : Int)), iv ((i : Int))] [] g x) : am_ev (d + 4) 203 7 [.ref 78, iv ((z : Int)), iv ((i : Int)), x3] [] g x := by
  refine am_ev.step (pc' := 8) rfl rfl ?_
  refine ax_gf (p' := 11) rfl rfl (S.ob rfl) (S.rf rfl rfl) ?_
  refine am_ev.step (pc' := 12) rfl rfl ?_
  refine ax_iaload (p' := 13) rfl rfl (S.rd (k := i) rfl rfl rfl rfl rfl (by omega) w3) ?_
  refine am_ev.step (pc' := 14) rfl rfl ?_
  refine fx_c_le_F (pF := 17) rfl (by omega) (by omega) rfl (by omega) ?_
  refine am_ev.step (pc' := 18) rfl rfl ?_
  refine am_ev.step (pc' := 19) (ls' := [.ref 78, iv ((z : Int)), iv ((i : Int)), iv ((i : Int))]) rfl rfl ?_
  exact q9
theorem fb_1 (S : fS g) (hi : i ≤ j) (hj : j ≤ 28) (z9 : am_ev (d + 3) 199 0 (am_ent [.ref 78, iv z, iv i, iv j] 6) [] g (some (iv 1000000000), g)) {x : Option Value × am_H} (q9 : am_ev (d + 4) 203 19 [.ref 78, iv z, iv i, iv ((j + 1 : Nat) : Int)] [] g x) : am_ev (d + 4) 203 19 [.ref 78, iv ((z : Int)), iv ((i : Int)), iv ((j : Int))] [] g x := by
  refine am_ev.step (pc' := 20) rfl rfl ?_
  refine am_ev.step (pc' := 21) rfl rfl ?_
  refine am_ev.step (pc' := 22) rfl rfl ?_
  refine am_ev.step (pc' := 23) rfl rfl ?_
  refine ax_call (z := 199) (p' := 26) (as := [_, _, _, _]) rfl (Or.inr (Or.inl ⟨_, rfl⟩)) rfl rfl rfl rfl rfl rfl (S.ob rfl) rfl z9 rfl ?_
  refine fx_ldcw (p' := 29) (n := 1000000000) rfl rfl rfl (by decide) ?_
  refine fx_c_ge_T (pT := 90) rfl (by omega) (by omega) rfl (by omega) ?_
  refine fx_inc (p' := 93) (e := ((j : Int) + 1)) (ls' := [.ref 78, iv ((z : Int)), iv ((i : Int)), iv ((j : Int) + 1)]) rfl rfl rfl (by omega) rfl ?_
  refine am_ev.step (pc' := 19) rfl rfl ?_
  exact (rr_n ▸ q9)
theorem fb_2 (S : fS g) (hi : i ≤ j) (hj : j ≤ 28) (z9 : am_ev (d + 3) 199 0 (am_ent [.ref 78, iv z, iv i, iv j] 6) [] g (some (iv q), g)) (bq : 0 ≤ q ∧ q ≤ 3600) (w1 : g.2.2.2 98 (j + 1) = iv 1000000000) {x : Option Value × am_H} (q9 : am_ev (d + 4) 203 19 [.ref 78, iv z, iv i, iv ((j + 1 : Nat) : Int)] [] g x) : am_ev (d + 4) 203 19 [.ref 78, iv ((z : Int)), iv ((i : Int)), iv ((j : Int))] [] g x := by
  refine am_ev.step (pc' := 20) rfl rfl ?_
  refine am_ev.step (pc' := 21) rfl rfl ?_
  refine am_ev.step (pc' := 22) rfl rfl ?_
  refine am_ev.step (pc' := 23) rfl rfl ?_
  refine ax_call (z := 199) (p' := 26) (as := [_, _, _, _]) rfl (Or.inr (Or.inl ⟨_, rfl⟩)) rfl rfl rfl rfl rfl rfl (S.ob rfl) rfl z9 rfl ?_
  refine fx_ldcw (p' := 29) (n := 1000000000) rfl rfl rfl (by decide) ?_
  refine fx_c_ge_F (pF := 32) rfl (by omega) (by omega) rfl (by omega) ?_
  refine am_ev.step (pc' := 33) rfl rfl ?_
  refine ax_gf (p' := 36) rfl rfl (S.ob rfl) (S.rf rfl rfl) ?_
  refine am_ev.step (pc' := 37) rfl rfl ?_
  refine am_ev.step (pc' := 38) rfl rfl ?_
  refine fx_add (p' := 39) (e := ((j : Int) + 1)) rfl rfl (by omega) ?_
  refine ax_iaload (p' := 40) rfl rfl (S.rd (k := (j + 1)) rfl rfl rfl rfl (by omega) (by omega) w1) ?_
  refine fx_ldcw (p' := 43) (n := 1000000000) rfl rfl rfl (by decide) ?_
  refine fx_c_ge_T (pT := 90) rfl (by omega) (by omega) rfl (by omega) ?_
  refine fx_inc (p' := 93) (e := ((j : Int) + 1)) (ls' := [.ref 78, iv ((z : Int)), iv ((i : Int)), iv ((j : Int) + 1)]) rfl rfl rfl (by omega) rfl ?_
  refine am_ev.step (pc' := 19) rfl rfl ?_
  exact (rr_n ▸ q9)
theorem fb_3 (S : fS g) (hi : i ≤ j) (hj : j ≤ 28) (z9 : am_ev (d + 3) 199 0 (am_ent [.ref 78, iv z, iv i, iv j] 6) [] g (some (iv q), g)) (bq : 0 ≤ q ∧ q ≤ 3600) (w1 : g.2.2.2 98 (j + 1) = iv f1) (w2 : g.2.2.2 99 (j + 1) = iv s1) (w3 : g.2.2.2 98 i = iv f0) (w4 : g.2.2.2 99 i = iv s0) (b1 : 0 ≤ f1 ∧ f1 ≤ 100) (b2 : 0 ≤ s1 ∧ s1 ≤ 200000) (b3 : 0 ≤ f0 ∧ f0 ≤ 100) (b4 : 0 ≤ s0 ∧ s0 ≤ 200000) (c : f1 + 1 ≠ f0) {x : Option Value × am_H} (q9 : am_ev (d + 4) 203 19 [.ref 78, iv z, iv i, iv ((j + 1 : Nat) : Int)] [] g x) : am_ev (d + 4) 203 19 [.ref 78, iv ((z : Int)), iv ((i : Int)), iv ((j : Int))] [] g x := by
  refine am_ev.step (pc' := 20) rfl rfl ?_
  refine am_ev.step (pc' := 21) rfl rfl ?_
  refine am_ev.step (pc' := 22) rfl rfl ?_
  refine am_ev.step (pc' := 23) rfl rfl ?_
  refine ax_call (z := 199) (p' := 26) (as := [_, _, _, _]) rfl (Or.inr (Or.inl ⟨_, rfl⟩)) rfl rfl rfl rfl rfl rfl (S.ob rfl) rfl z9 rfl ?_
  refine fx_ldcw (p' := 29) (n := 1000000000) rfl rfl rfl (by decide) ?_
  refine fx_c_ge_F (pF := 32) rfl (by omega) (by omega) rfl (by omega) ?_
  refine am_ev.step (pc' := 33) rfl rfl ?_
  refine ax_gf (p' := 36) rfl rfl (S.ob rfl) (S.rf rfl rfl) ?_
  refine am_ev.step (pc' := 37) rfl rfl ?_
  refine am_ev.step (pc' := 38) rfl rfl ?_
  refine fx_add (p' := 39) (e := ((j : Int) + 1)) rfl rfl (by omega) ?_
  refine ax_iaload (p' := 40) rfl rfl (S.rd (k := (j + 1)) rfl rfl rfl rfl (by omega) (by omega) w1) ?_
  refine fx_ldcw (p' := 43) (n := 1000000000) rfl rfl rfl (by decide) ?_
  refine fx_c_ge_F (pF := 46) rfl (by omega) (by omega) rfl (by omega) ?_
  refine am_ev.step (pc' := 47) rfl rfl ?_
  refine am_ev.step (pc' := 48) rfl rfl ?_
  refine ax_gf (p' := 51) rfl rfl (S.ob rfl) (S.rf rfl rfl) ?_
  refine am_ev.step (pc' := 52) rfl rfl ?_
  refine am_ev.step (pc' := 53) rfl rfl ?_
  refine fx_add (p' := 54) (e := ((j : Int) + 1)) rfl rfl (by omega) ?_
  refine ax_iaload (p' := 55) rfl rfl (S.rd (k := (j + 1)) rfl rfl rfl rfl (by omega) (by omega) w1) ?_
  refine fx_add (p' := 56) (e := (f1 + 1)) rfl rfl (by omega) ?_
  refine am_ev.step (pc' := 57) rfl rfl ?_
  refine ax_gf (p' := 60) rfl rfl (S.ob rfl) (S.rf rfl rfl) ?_
  refine am_ev.step (pc' := 61) rfl rfl ?_
  refine ax_iaload (p' := 62) rfl rfl (S.rd (k := i) rfl rfl rfl rfl rfl (by omega) w3) ?_
  refine fx_c_ne_T (pT := 90) rfl (by omega) (by omega) rfl (by omega) ?_
  refine fx_inc (p' := 93) (e := ((j : Int) + 1)) (ls' := [.ref 78, iv ((z : Int)), iv ((i : Int)), iv ((j : Int) + 1)]) rfl rfl rfl (by omega) rfl ?_
  refine am_ev.step (pc' := 19) rfl rfl ?_
  exact (rr_n ▸ q9)
theorem fb_4 (S : fS g) (hi : i ≤ j) (hj : j ≤ 28) (z9 : am_ev (d + 3) 199 0 (am_ent [.ref 78, iv z, iv i, iv j] 6) [] g (some (iv q), g)) (bq : 0 ≤ q ∧ q ≤ 3600) (w1 : g.2.2.2 98 (j + 1) = iv f1) (w2 : g.2.2.2 99 (j + 1) = iv s1) (w3 : g.2.2.2 98 i = iv f0) (w4 : g.2.2.2 99 i = iv s0) (b1 : 0 ≤ f1 ∧ f1 ≤ 100) (b2 : 0 ≤ s1 ∧ s1 ≤ 200000) (b3 : 0 ≤ f0 ∧ f0 ≤ 100) (b4 : 0 ≤ s0 ∧ s0 ≤ 200000) (c0 : f1 + 1 = f0) (c : s1 + q ≠ s0) {x : Option Value × am_H} (q9 : am_ev (d + 4) 203 19 [.ref 78, iv z, iv i, iv ((j + 1 : Nat) : Int)] [] g x) : am_ev (d + 4) 203 19 [.ref 78, iv ((z : Int)), iv ((i : Int)), iv ((j : Int))] [] g x := by
  refine am_ev.step (pc' := 20) rfl rfl ?_
  refine am_ev.step (pc' := 21) rfl rfl ?_
  refine am_ev.step (pc' := 22) rfl rfl ?_
  refine am_ev.step (pc' := 23) rfl rfl ?_
  refine ax_call (z := 199) (p' := 26) (as := [_, _, _, _]) rfl (Or.inr (Or.inl ⟨_, rfl⟩)) rfl rfl rfl rfl rfl rfl (S.ob rfl) rfl z9 rfl ?_
  refine fx_ldcw (p' := 29) (n := 1000000000) rfl rfl rfl (by decide) ?_
  refine fx_c_ge_F (pF := 32) rfl (by omega) (by omega) rfl (by omega) ?_
  refine am_ev.step (pc' := 33) rfl rfl ?_
  refine ax_gf (p' := 36) rfl rfl (S.ob rfl) (S.rf rfl rfl) ?_
  refine am_ev.step (pc' := 37) rfl rfl ?_
  refine am_ev.step (pc' := 38) rfl rfl ?_
  refine fx_add (p' := 39) (e := ((j : Int) + 1)) rfl rfl (by omega) ?_
  refine ax_iaload (p' := 40) rfl rfl (S.rd (k := (j + 1)) rfl rfl rfl rfl (by omega) (by omega) w1) ?_
  refine fx_ldcw (p' := 43) (n := 1000000000) rfl rfl rfl (by decide) ?_
  refine fx_c_ge_F (pF := 46) rfl (by omega) (by omega) rfl (by omega) ?_
  refine am_ev.step (pc' := 47) rfl rfl ?_
  refine am_ev.step (pc' := 48) rfl rfl ?_
  refine ax_gf (p' := 51) rfl rfl (S.ob rfl) (S.rf rfl rfl) ?_
  refine am_ev.step (pc' := 52) rfl rfl ?_
  refine am_ev.step (pc' := 53) rfl rfl ?_
  refine fx_add (p' := 54) (e := ((j : Int) + 1)) rfl rfl (by omega) ?_
  refine ax_iaload (p' := 55) rfl rfl (S.rd (k := (j + 1)) rfl rfl rfl rfl (by omega) (by omega) w1) ?_
  refine fx_add (p' := 56) (e := (f1 + 1)) rfl rfl (by omega) ?_
  refine am_ev.step (pc' := 57) rfl rfl ?_
  refine ax_gf (p' := 60) rfl rfl (S.ob rfl) (S.rf rfl rfl) ?_
  refine am_ev.step (pc' := 61) rfl rfl ?_
  refine ax_iaload (p' := 62) rfl rfl (S.rd (k := i) rfl rfl rfl rfl rfl (by omega) w3) ?_
  refine fx_c_ne_F (pF := 65) rfl (by omega) (by omega) rfl (by omega) ?_
  refine am_ev.step (pc' := 66) rfl rfl ?_
  refine am_ev.step (pc' := 67) rfl rfl ?_
  refine am_ev.step (pc' := 68) rfl rfl ?_
  refine am_ev.step (pc' := 69) rfl rfl ?_
  refine ax_call (z := 199) (p' := 72) (as := [_, _, _, _]) rfl (Or.inr (Or.inl ⟨_, rfl⟩)) rfl rfl rfl rfl rfl rfl (S.ob rfl) rfl z9 rfl ?_
  refine am_ev.step (pc' := 73) rfl rfl ?_
  refine ax_gf (p' := 76) rfl rfl (S.ob rfl) (S.rf rfl rfl) ?_
  refine am_ev.step (pc' := 77) rfl rfl ?_
  refine am_ev.step (pc' := 78) rfl rfl ?_
  refine fx_add (p' := 79) (e := ((j : Int) + 1)) rfl rfl (by omega) ?_
  refine ax_iaload (p' := 80) rfl rfl (S.rd (k := (j + 1)) rfl rfl rfl rfl (by omega) (by omega) w2) ?_
  refine fx_add (p' := 81) (e := (q + s1)) rfl rfl (by omega) ?_
  refine am_ev.step (pc' := 82) rfl rfl ?_
  refine ax_gf (p' := 85) rfl rfl (S.ob rfl) (S.rf rfl rfl) ?_
  refine am_ev.step (pc' := 86) rfl rfl ?_
  refine ax_iaload (p' := 87) rfl rfl (S.rd (k := i) rfl rfl rfl rfl rfl (by omega) w4) ?_
  refine fx_c_eq_F (pF := 90) rfl (by omega) (by omega) rfl (by omega) ?_
  refine fx_inc (p' := 93) (e := ((j : Int) + 1)) (ls' := [.ref 78, iv ((z : Int)), iv ((i : Int)), iv ((j : Int) + 1)]) rfl rfl rfl (by omega) rfl ?_
  refine am_ev.step (pc' := 19) rfl rfl ?_
  exact (rr_n ▸ q9)
theorem fb_m (S : fS g) (hi : i ≤ j) (hj : j ≤ 28) (z9 : am_ev (d + 3) 199 0 (am_ent [.ref 78, iv z, iv i, iv j] 6) [] g (some (iv q), g)) (bq : 0 ≤ q ∧ q ≤ 3600) (w1 : g.2.2.2 98 (j + 1) = iv f1) (w2 : g.2.2.2 99 (j + 1) = iv s1) (w3 : g.2.2.2 98 i = iv f0) (w4 : g.2.2.2 99 i = iv s0) (b1 : 0 ≤ f1 ∧ f1 ≤ 100) (b2 : 0 ≤ s1 ∧ s1 ≤ 200000) (b3 : 0 ≤ f0 ∧ f0 ≤ 100) (b4 : 0 ≤ s0 ∧ s0 ≤ 200000) (c0 : f1 + 1 = f0) (c : s1 + q = s0) (w5 : g.2.2.2 78 32 = iv n) (hn : n ≤ 29) {x : Option Value × am_H} (q9 : am_ev (d + 4) 203 7 [.ref 78, iv ((z : Int)), iv ((j : Int) + 1), iv ((j : Int))] [] (am_put (am_put g 100 n (iv ((j : Int)))) 78 32 (iv ((n : Int) + 1))) x) : am_ev (d + 4) 203 19 [.ref 78, iv ((z : Int)), iv ((i : Int)), iv ((j : Int))] [] g x := by
  refine am_ev.step (pc' := 20) rfl rfl ?_
  refine am_ev.step (pc' := 21) rfl rfl ?_
  refine am_ev.step (pc' := 22) rfl rfl ?_
  refine am_ev.step (pc' := 23) rfl rfl ?_
  refine ax_call (z := 199) (p' := 26) (as := [_, _, _, _]) rfl (Or.inr (Or.inl ⟨_, rfl⟩)) rfl rfl rfl rfl rfl rfl (S.ob rfl) rfl z9 rfl ?_
  refine fx_ldcw (p' := 29) (n := 1000000000) rfl rfl rfl (by decide) ?_
  refine fx_c_ge_F (pF := 32) rfl (by omega) (by omega) rfl (by omega) ?_
  refine am_ev.step (pc' := 33) rfl rfl ?_
  refine ax_gf (p' := 36) rfl rfl (S.ob rfl) (S.rf rfl rfl) ?_
  refine am_ev.step (pc' := 37) rfl rfl ?_
  refine am_ev.step (pc' := 38) rfl rfl ?_
  refine fx_add (p' := 39) (e := ((j : Int) + 1)) rfl rfl (by omega) ?_
  refine ax_iaload (p' := 40) rfl rfl (S.rd (k := (j + 1)) rfl rfl rfl rfl (by omega) (by omega) w1) ?_
  refine fx_ldcw (p' := 43) (n := 1000000000) rfl rfl rfl (by decide) ?_
  refine fx_c_ge_F (pF := 46) rfl (by omega) (by omega) rfl (by omega) ?_
  refine am_ev.step (pc' := 47) rfl rfl ?_
  refine am_ev.step (pc' := 48) rfl rfl ?_
  refine ax_gf (p' := 51) rfl rfl (S.ob rfl) (S.rf rfl rfl) ?_
  refine am_ev.step (pc' := 52) rfl rfl ?_
  refine am_ev.step (pc' := 53) rfl rfl ?_
  refine fx_add (p' := 54) (e := ((j : Int) + 1)) rfl rfl (by omega) ?_
  refine ax_iaload (p' := 55) rfl rfl (S.rd (k := (j + 1)) rfl rfl rfl rfl (by omega) (by omega) w1) ?_
  refine fx_add (p' := 56) (e := (f1 + 1)) rfl rfl (by omega) ?_
  refine am_ev.step (pc' := 57) rfl rfl ?_
  refine ax_gf (p' := 60) rfl rfl (S.ob rfl) (S.rf rfl rfl) ?_
  refine am_ev.step (pc' := 61) rfl rfl ?_
  refine ax_iaload (p' := 62) rfl rfl (S.rd (k := i) rfl rfl rfl rfl rfl (by omega) w3) ?_
  refine fx_c_ne_F (pF := 65) rfl (by omega) (by omega) rfl (by omega) ?_
  refine am_ev.step (pc' := 66) rfl rfl ?_
  refine am_ev.step (pc' := 67) rfl rfl ?_
  refine am_ev.step (pc' := 68) rfl rfl ?_
  refine am_ev.step (pc' := 69) rfl rfl ?_
  refine ax_call (z := 199) (p' := 72) (as := [_, _, _, _]) rfl (Or.inr (Or.inl ⟨_, rfl⟩)) rfl rfl rfl rfl rfl rfl (S.ob rfl) rfl z9 rfl ?_
  refine am_ev.step (pc' := 73) rfl rfl ?_
  refine ax_gf (p' := 76) rfl rfl (S.ob rfl) (S.rf rfl rfl) ?_
  refine am_ev.step (pc' := 77) rfl rfl ?_
  refine am_ev.step (pc' := 78) rfl rfl ?_
  refine fx_add (p' := 79) (e := ((j : Int) + 1)) rfl rfl (by omega) ?_
  refine ax_iaload (p' := 80) rfl rfl (S.rd (k := (j + 1)) rfl rfl rfl rfl (by omega) (by omega) w2) ?_
  refine fx_add (p' := 81) (e := (q + s1)) rfl rfl (by omega) ?_
  refine am_ev.step (pc' := 82) rfl rfl ?_
  refine ax_gf (p' := 85) rfl rfl (S.ob rfl) (S.rf rfl rfl) ?_
  refine am_ev.step (pc' := 86) rfl rfl ?_
  refine ax_iaload (p' := 87) rfl rfl (S.rd (k := i) rfl rfl rfl rfl rfl (by omega) w4) ?_
  refine fx_c_eq_T (pT := 96) rfl (by omega) (by omega) rfl (by omega) ?_
  refine am_ev.step (pc' := 97) rfl rfl ?_
  refine ax_gf (p' := 100) rfl rfl (S.ob rfl) (S.rf rfl rfl) ?_
  refine am_ev.step (pc' := 101) rfl rfl ?_
  refine ax_gf (p' := 104) rfl rfl (S.ob rfl) w5 ?_
  refine am_ev.step (pc' := 105) rfl rfl ?_
  refine ax_iastore (p' := 106) rfl rfl (S.wr (k := n) rfl rfl rfl rfl (by omega)) ?_
  refine am_ev.step (pc' := 107) rfl rfl ?_
  refine am_ev.step (pc' := 108) rfl rfl ?_
  refine ax_gf (p' := 111) rfl rfl (fO (S.ob rfl)) (ax_put_o (Or.inl (by decide)) w5) ?_
  refine am_ev.step (pc' := 112) rfl rfl ?_
  refine fx_add (p' := 113) (e := ((n : Int) + 1)) rfl rfl (by omega) ?_
  refine ax_pf (p' := 116) rfl rfl (fO (S.ob rfl)) rfl ?_
  refine am_ev.step (pc' := 117) rfl rfl ?_
  refine am_ev.step (pc' := 118) rfl rfl ?_
  refine fx_add (p' := 119) (e := ((j : Int) + 1)) rfl rfl (by omega) ?_
  refine am_ev.step (pc' := 120) (ls' := [.ref 78, iv ((z : Int)), iv ((j : Int) + 1), iv ((j : Int))]) rfl rfl ?_
  refine am_ev.step (pc' := 7) rfl rfl ?_
  exact q9
theorem fb_0 (S : fS g) {x : Option Value × am_H} (q9 : am_ev (d + 4) 203 7 [.ref 78, iv ((z : Int)), iv 0, am_ph] [] (am_put g 78 32 (iv 0)) x) : am_ev (d + 4) 203 0 [.ref 78, iv z, am_ph, am_ph] [] g x := by
  refine am_ev.step (pc' := 1) rfl rfl ?_
  refine am_ev.step (pc' := 2) rfl rfl ?_
  refine ax_pf (p' := 5) rfl rfl (S.ob rfl) rfl ?_
  refine am_ev.step (pc' := 6) rfl rfl ?_
  refine am_ev.step (pc' := 7) (ls' := [.ref 78, iv ((z : Int)), iv 0, am_ph]) rfl rfl ?_
  exact q9
theorem lyF.gn {G : am_H} (M : lyF g z l t u P T) (n : ∀ c k, c = 93 ∨ c = 96 ∨ c = 97 ∨ c = 81 → G.2.2.2 c k = g.2.2.2 c k) : lyF G z l t u P T := by
  obtain ⟨a1, a2, a3, a4, a5, a6, a7, a8, a9⟩ := M
  exact ⟨a1, a2, a3, (n 93 z (by omega)).trans a4, fun i hi => (n 96 _ (by omega)).trans (a5 i hi), fun i hi => (n 97 _ (by omega)).trans (a6 i hi), (n 81 0 (by omega)).trans a7, (n 81 2 (by omega)).trans a8, a9⟩
/-- the way from a line on is looked for -/
theorem fb_in {k0 : Nat} (A : lyA t u l r D i k0) (hr : r = if i = 0 then P - T else P) (O : lyO D l l) (hi : i < l) (S : fS g) (M : lyF g z l t u P T) (R : ∀ j, j < l → mlW g j (D j)) (e0 : D i = ((D (i + k0 + 1)).1 + 1, lyS u r D i k0, i + k0 + 1)) (no : ∀ k, k < k0 → lyA t u l r D i k → ¬ ((D (i + k + 1)).1 + 1 = (D i).1 ∧ lyS u r D i k = (D i).2.1)) : ∀ m k : Nat, k + m = k0 → ∀ x, am_ev (d + 4) 203 19 [.ref 78, iv z, iv i, iv ((i + k0 : Nat) : Int)] [] g x → am_ev (d + 4) 203 19 [.ref 78, iv z, iv i, iv ((i + k : Nat) : Int)] [] g x
  | 0, k, hk, x, q => by
    rw [show k = k0 by omega]
    exact q
  | m + 1, k, hk, x, q9 => by
    have hl := M.2.1
    have bP := M.2.2.2.2.2.2.2.2.1
    have bT := M.2.2.2.2.2.2.2.2.2
    have br : r ≤ 60 := by
      rw [hr]
      split <;> omega
    have IH := fb_in A hr O hi S M R e0 no m (k + 1) (by omega) x q9
    have uu := lyU_b (u := u) (i := i) (k + 1)
    have a2 := A.2.1
    have z9 := ml_199 (d := d) (i := i) (k := k) (j := i + k) S M (by omega) rfl
    rw [← hr] at z9
    have hjl : i + k ≤ 28 := by omega
    obtain ⟨w1, w2⟩ := R (i + k + 1) (by omega)
    obtain ⟨w3, w4⟩ := R i hi
    have o1 := O (i + k + 1)
    have oi := O i
    have p0 := A.2.2.2
    have f2 : (D i).1 = (D (i + k0 + 1)).1 + 1 := congrArg Prod.fst e0
    by_cases c1 : lyU u i (k + 1) ≤ r
    · cases e6 : lyM t u l (i + k) with
      | false =>
        have zv : lyZ t u l r i k = 1000000000 := by
          unfold lyZ
          rw [if_pos c1, if_neg (by omega), e6, if_neg (by decide)]
        rw [zv] at z9
        exact fb_1 S (by omega) hjl z9 IH
      | true =>
        obtain ⟨q, hq⟩ : ∃ q : Int, (r - lyU u i (k + 1)) * (r - lyU u i (k + 1)) = q := ⟨_, rfl⟩
        have bq := ly_sq (a := r - lyU u i (k + 1)) (by omega)
        rw [hq] at bq
        have zv : lyZ t u l r i k = q := by
          unfold lyZ
          rw [if_pos c1, if_neg (by omega), e6, if_pos rfl, hq]
        rw [zv] at z9
        by_cases c3 : 0 < (D (i + k + 1)).1
        · rw [lyI_n (by omega)] at w1 w3
          have nn := no k (by omega) ⟨c1, by omega, e6, c3⟩
          have sS : lyS u r D i k = (D (i + k + 1)).2.1 + q := by
            unfold lyS
            rw [hq]
          rw [sS] at nn
          by_cases c : (D (i + k + 1)).1 + 1 = (D i).1
          · exact fb_4 S (by omega) hjl z9 bq w1 w2 w3 w4 (by omega) (by omega) (by omega) (by omega) c (fun y => nn ⟨c, y⟩) IH
          · exact fb_3 S (by omega) hjl z9 bq w1 w2 w3 w4 (by omega) (by omega) (by omega) (by omega) c IH
        · rw [lyI_0 (by omega)] at w1
          exact fb_2 S (by omega) hjl z9 bq w1 IH
    · have zv : lyZ t u l r i k = 1000000000 := by
        unfold lyZ
        rw [if_neg c1]
      rw [zv] at z9
      exact fb_1 S (by omega) hjl z9 IH
/-- nothing but the breaks has changed -/
def mlV (g G : am_H) : Prop := fS G ∧ G.1 = g.1 ∧ G.2.2.1 = g.2.2.1 ∧ ∀ c k, c ≠ 100 → (c ≠ 78 ∨ k ≠ 32) → G.2.2.2 c k = g.2.2.2 c k
theorem mlV.tr {G K : am_H} (A : mlV g G) (B : mlV G K) : mlV g K := ⟨B.1, B.2.1.trans A.2.1, B.2.2.1.trans A.2.2.1, fun c k a b => (B.2.2.2 c k a b).trans (A.2.2.2 c k a b)⟩
theorem fb_lp {p : Int} (hp : (lyD t u l P T l 0).1 = p) : ∀ (m i : Nat) (g : am_H) (x3 : Value), (i : Int) + m + 1 = p → fS g → lyF g z l t u P T → (∀ j, j < l → mlW g j (lyD t u l P T l j)) → g.2.2.2 78 32 = iv i → ∃ G, am_ev (d + 4) 203 7 [.ref 78, iv z, iv (lyN (lyD t u l P T l) i : Int), x3] [] g (none, G) ∧ mlV g G ∧ G.2.2.2 78 32 = iv (p - 1) ∧ (∀ k, k < i → G.2.2.2 100 k = g.2.2.2 100 k) ∧ ∀ k, i ≤ k → (k : Int) + 1 < p → G.2.2.2 100 k = iv ((lyN (lyD t u l P T l) (k + 1) : Int) - 1)
  | m, i, g, x3, hm, S, M, R, v32 => by
    have hl := M.2.1
    have bP := M.2.2.2.2.2.2.2.2.1
    have bT := M.2.2.2.2.2.2.2.2.2
    have O := lyD_b (t := t) (u := u) (l := l) (P := P) (T := T) (by omega) bT.1 l (Nat.le_refl _)
    obtain ⟨q1, q2⟩ := lyN_q (t := t) (u := u) (l := l) (P := P) (T := T) (by omega) bT.1 hl.1 i (by omega)
    have o0 := O 0
    have oi := O (lyN (lyD t u l P T l) i)
    obtain ⟨w3, w4⟩ := R _ q1
    rw [lyI_n (by omega)] at w3
    rcases m with _ | m
    · exact ⟨g, fb_e S (by omega) w3 (by omega), ⟨S, rfl, rfl, fun _ _ _ _ => rfl⟩, by rw [v32]; exact congrArg iv (by omega), fun _ _ => rfl, fun k a b => absurd b (by omega)⟩
    · obtain ⟨k0, A, e0, no⟩ := ly_first (t := t) (u := u) (D := lyD t u l P T l) q1 (lyD_row q1) (by omega)
      have z19 := fb_in (d := d) A rfl O q1 S M R e0 no k0 0 (by omega)
      obtain ⟨w1, w2⟩ := R (lyN (lyD t u l P T l) i + k0 + 1) A.2.1
      have p0 := A.2.2.2
      rw [lyI_n (by omega)] at w1
      have o1 := O (lyN (lyD t u l P T l) i + k0 + 1)
      have uu := lyU_b (u := u) (i := lyN (lyD t u l P T l) i) (k0 + 1)
      have nx : lyN (lyD t u l P T l) (i + 1) = lyN (lyD t u l P T l) i + k0 + 1 := by
        show (lyD t u l P T l (lyN (lyD t u l P T l) i)).2.2 = _
        rw [e0]
      have f2 : (lyD t u l P T l (lyN (lyD t u l P T l) i)).1 = (lyD t u l P T l (lyN (lyD t u l P T l) i + k0 + 1)).1 + 1 := congrArg Prod.fst e0
      have s2 : (lyD t u l P T l (lyN (lyD t u l P T l) i)).2.1 = lyS u (if lyN (lyD t u l P T l) i = 0 then P - T else P) (lyD t u l P T l) (lyN (lyD t u l P T l) i) k0 := congrArg (fun a => a.2.1) e0
      have z9 := ml_199 (d := d) (i := lyN (lyD t u l P T l) i) (k := k0) (j := lyN (lyD t u l P T l) i + k0) S M (by have := A.2.1; omega) rfl
      generalize hr : (if lyN (lyD t u l P T l) i = 0 then P - T else P) = r at *
      have br : r ≤ 60 := by
        rw [← hr]
        split <;> omega
      obtain ⟨q, hq⟩ : ∃ q : Int, (r - lyU u (lyN (lyD t u l P T l) i) (k0 + 1)) * (r - lyU u (lyN (lyD t u l P T l) i) (k0 + 1)) = q := ⟨_, rfl⟩
      have A1 := A.1
      have A2 := A.2.1
      have bq := ly_sq (a := r - lyU u (lyN (lyD t u l P T l) i) (k0 + 1)) (by omega)
      rw [hq] at bq
      have zv : lyZ t u l r (lyN (lyD t u l P T l) i) k0 = q := by
        unfold lyZ
        rw [if_pos A1, if_neg (by omega), A.2.2.1, if_pos rfl, hq]
      rw [zv] at z9
      unfold lyS at s2
      rw [hq] at s2
      generalize hL : lyN (lyD t u l P T l) i = L at *
      have V1 : mlV g ((am_put (am_put g 100 i (iv ((L + k0 : Nat) : Int))) 78 32 (iv ((i : Int) + 1)))) := ⟨(S.pa rfl).po rfl rfl, rfl, rfl, fun c k a b => ax_put_o (by omega) (ax_put_o (by omega) rfl)⟩
      obtain ⟨G, g1, g2, g3, g4, g5⟩ := fb_lp hp m (i + 1) ((am_put (am_put g 100 i (iv ((L + k0 : Nat) : Int))) 78 32 (iv ((i : Int) + 1)))) (iv ((L + k0 : Nat) : Int)) (by omega) V1.1 (M.gn (fun c k hc => V1.2.2.2 c k (by omega) (by omega))) (fun j hj => ⟨(V1.2.2.2 98 j (by decide) (Or.inl (by decide))).trans (R j hj).1, (V1.2.2.2 99 j (by decide) (Or.inl (by decide))).trans (R j hj).2⟩) (ax_put_s _ _ _)
      rw [nx] at g1
      refine ⟨G, ?_, V1.tr g2, g3, fun k hk => (g4 k (by omega)).trans (ax_put_o (Or.inl (by decide)) (ax_put_o (Or.inr (by omega)) rfl)), fun k k1 k2 => ?_⟩
      · refine fb_s S (by omega) w3 (by omega) (z19 _ (fb_m (j := L + k0) S (by omega) (by omega) z9 bq w1 w2 w3 w4 (by omega) (by omega) (by omega) (by omega) f2.symm s2.symm v32 (by omega) ?_))
        exact g1
      · by_cases e : k = i
        · subst e
          rw [g4 k (by omega), nx]
          refine (ax_put_o (Or.inl (by decide)) (ax_put_s _ _ _)).trans (congrArg iv (by omega))
        · exact g5 k (by omega) k2
theorem ml_203 (S : fS g) (M : lyF g z l t u P T) (R : ∀ j, j < l → mlW g j (lyD t u l P T l j)) (hp : 1 ≤ (lyD t u l P T l 0).1) : ∃ G, am_ev (d + 4) 203 0 (am_ent [.ref 78, iv z] 4) [] g (none, G) ∧ mlV g G ∧ G.2.2.2 78 32 = iv ((lyD t u l P T l 0).1 - 1) ∧ ∀ k : Nat, (k : Int) + 1 < (lyD t u l P T l 0).1 → G.2.2.2 100 k = iv ((lyN (lyD t u l P T l) (k + 1) : Int) - 1) := by
  have V1 : mlV g (am_put g 78 32 (iv 0)) := ⟨S.po rfl rfl, rfl, rfl, fun c k a b => ax_put_o (by omega) rfl⟩
  obtain ⟨G, g1, g2, g3, g4, g5⟩ := fb_lp (d := d) (t := t) (u := u) (l := l) (P := P) (T := T) rfl ((lyD t u l P T l 0).1.toNat - 1) 0 _ am_ph (by omega) V1.1 (M.gn (fun c k hc => V1.2.2.2 c k (by omega) (by omega))) (fun j hj => ⟨(V1.2.2.2 98 j (by decide) (Or.inl (by decide))).trans (R j hj).1, (V1.2.2.2 99 j (by decide) (Or.inl (by decide))).trans (R j hj).2⟩) (ax_put_s _ _ _)
  refine ⟨G, ?_, V1.tr g2, g3, fun k hk => g5 k (Nat.zero_le _) hk⟩
  show am_ev (d + 4) 203 0 [.ref 78, iv z, am_ph, am_ph] [] g _
  exact fb_0 S g1
end LYX
end
