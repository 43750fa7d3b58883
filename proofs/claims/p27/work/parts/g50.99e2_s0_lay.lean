/-! THE LAYOUT OF A TEXT: what it is -/
/-- may a page break behind line i -/
def lyM (t u : Int32) (l i : Nat) : Bool := !bt t i && (bt u (i + 1) || (!bt u i && (decide (i + 2 < l) && !bt u (i + 2))))
/-- lines that k lines take from line i on -/
def lyU (u : Int32) (i : Nat) : Nat → Int
  | 0 => 0
  | k + 1 => lyU u i k + (if 0 < k ∧ bt u (i + k) = true then 2 else 1)
/-- pages (0: no way), squares, the line behind the first page -/
abbrev lyT : Type := Int × Int × Nat
def lyB (a : lyT) (f s : Int) (j : Nat) : lyT := if a.1 = 0 ∨ f < a.1 ∨ (f = a.1 ∧ s < a.2.1) then (f, s, j) else a
def lyS (u : Int32) (r : Int) (D : Nat → lyT) (i k : Nat) : Int := (D (i + k + 1)).2.1 + (r - lyU u i (k + 1)) * (r - lyU u i (k + 1))
/-- a first page of k + 1 lines is tried -/
def lyC (t u : Int32) (l : Nat) (r : Int) (D : Nat → lyT) (i k : Nat) (a : lyT) : lyT := if lyU u i (k + 1) ≤ r then (if i + k + 1 = l then (1, 0, l) else if lyM t u l (i + k) = true ∧ 0 < (D (i + k + 1)).1 then lyB a ((D (i + k + 1)).1 + 1) (lyS u r D i k) (i + k + 1) else a) else a
def lyR (t u : Int32) (l : Nat) (r : Int) (D : Nat → lyT) (i : Nat) : Nat → lyT
  | 0 => (0, 0, l)
  | k + 1 => lyC t u l r D i k (lyR t u l r D i k)
/-- the best from each of the last n lines on -/
def lyD (t u : Int32) (l : Nat) (P T : Int) : Nat → Nat → lyT
  | 0 => fun _ => (0, 0, l)
  | n + 1 => fun i => if i + n + 1 = l then lyR t u l (if i = 0 then P - T else P) (lyD t u l P T n) i (l - i) else lyD t u l P T n i
section LYS
variable {t u : Int32} {l i : Nat} {r P T : Int} {D : Nat → lyT}
theorem lyU_b : ∀ k : Nat, (k : Int) ≤ lyU u i k ∧ lyU u i k ≤ 2 * (k : Int)
  | 0 => ⟨Int.le_refl 0, Int.le_refl 0⟩
  | k + 1 => by
    have := lyU_b k
    show ((k + 1 : Nat) : Int) ≤ lyU u i k + (if 0 < k ∧ bt u (i + k) = true then 2 else 1) ∧ lyU u i k + (if 0 < k ∧ bt u (i + k) = true then 2 else 1) ≤ 2 * ((k + 1 : Nat) : Int)
    split <;> omega
theorem lyU_m : ∀ m k : Nat, lyU u i k ≤ lyU u i (k + m)
  | 0, k => Int.le_refl _
  | m + 1, k => by
    have := lyU_m m k
    show lyU u i k ≤ lyU u i (k + m) + (if 0 < k + m ∧ bt u (i + (k + m)) = true then 2 else 1)
    split <;> omega
theorem lyR_stop {k : Nat} (h : r < lyU u i (k + 1)) : ∀ m, lyR t u l r D i (k + m) = lyR t u l r D i k
  | 0 => rfl
  | m + 1 => by
    have e : lyR t u l r D i (k + (m + 1)) = lyC t u l r D i (k + m) (lyR t u l r D i (k + m)) := rfl
    have := lyU_m (u := u) (i := i) m (k + 1)
    rw [e, lyR_stop h m]
    refine if_neg ?_
    rw [show k + m + 1 = k + 1 + m by omega]
    omega
theorem ly_sq {a : Int} (h : 0 ≤ a ∧ a ≤ 60) : 0 ≤ a * a ∧ a * a ≤ 3600 := by
  refine ⟨Int.mul_nonneg h.1 h.1, ?_⟩
  have := Int.mul_le_mul h.2 h.2 h.1 (by decide)
  omega
/-- bounds of a table -/
def lyO (D : Nat → lyT) (n l : Nat) : Prop := ∀ j, 0 ≤ (D j).1 ∧ (D j).1 ≤ (n : Int) ∧ 0 ≤ (D j).2.1 ∧ (D j).2.1 ≤ 3600 * (n : Int) ∧ (D j).2.2 ≤ l
theorem lyR_b {n : Nat} (O : lyO D n l) (hr : r ≤ 60) : ∀ k, (i + k ≤ l) → 0 ≤ (lyR t u l r D i k).1 ∧ (lyR t u l r D i k).1 ≤ (n : Int) + 1 ∧ 0 ≤ (lyR t u l r D i k).2.1 ∧ (lyR t u l r D i k).2.1 ≤ 3600 * (n : Int) + 3600 ∧ (lyR t u l r D i k).2.2 ≤ l
  | 0, _ => by
    show (0 : Int) ≤ 0 ∧ (0 : Int) ≤ (n : Int) + 1 ∧ (0 : Int) ≤ 0 ∧ (0 : Int) ≤ 3600 * (n : Int) + 3600 ∧ l ≤ l
    omega
  | k + 1, hk => by
    have ih := lyR_b O hr k (by omega)
    have o := O (i + k + 1)
    have uu := lyU_b (u := u) (i := i) (k + 1)
    rw [show lyR t u l r D i (k + 1) = lyC t u l r D i k (lyR t u l r D i k) from rfl]
    unfold lyC
    by_cases c1 : lyU u i (k + 1) ≤ r
    · have q := ly_sq (a := r - lyU u i (k + 1)) (by omega)
      rw [if_pos c1]
      by_cases c2 : i + k + 1 = l
      · rw [if_pos c2]
        show (0 : Int) ≤ 1 ∧ (1 : Int) ≤ (n : Int) + 1 ∧ (0 : Int) ≤ 0 ∧ (0 : Int) ≤ 3600 * (n : Int) + 3600 ∧ l ≤ l
        omega
      · rw [if_neg c2]
        by_cases c3 : lyM t u l (i + k) = true ∧ 0 < (D (i + k + 1)).1
        · rw [if_pos c3]
          unfold lyB lyS
          by_cases c4 : (lyR t u l r D i k).1 = 0 ∨ (D (i + k + 1)).1 + 1 < (lyR t u l r D i k).1 ∨ ((D (i + k + 1)).1 + 1 = (lyR t u l r D i k).1 ∧ (D (i + k + 1)).2.1 + (r - lyU u i (k + 1)) * (r - lyU u i (k + 1)) < (lyR t u l r D i k).2.1)
          · rw [if_pos c4]
            show 0 ≤ (D (i + k + 1)).1 + 1 ∧ (D (i + k + 1)).1 + 1 ≤ (n : Int) + 1 ∧ 0 ≤ (D (i + k + 1)).2.1 + (r - lyU u i (k + 1)) * (r - lyU u i (k + 1)) ∧ (D (i + k + 1)).2.1 + (r - lyU u i (k + 1)) * (r - lyU u i (k + 1)) ≤ 3600 * (n : Int) + 3600 ∧ i + k + 1 ≤ l
            omega
          · rw [if_neg c4]
            exact ih
        · rw [if_neg c3]
          exact ih
    · rw [if_neg c1]
      exact ih
theorem lyD_b (hP : P ≤ 60) (hT : 0 ≤ T) : ∀ n, n ≤ l → lyO (lyD t u l P T n) n l
  | 0, _ => fun j => by
    show (0 : Int) ≤ 0 ∧ (0 : Int) ≤ ((0 : Nat) : Int) ∧ (0 : Int) ≤ 0 ∧ (0 : Int) ≤ 3600 * ((0 : Nat) : Int) ∧ l ≤ l
    omega
  | n + 1, hn => fun j => by
    have ih := lyD_b hP hT n (by omega)
    rw [show lyD t u l P T (n + 1) j = (if j + n + 1 = l then lyR t u l (if j = 0 then P - T else P) (lyD t u l P T n) j (l - j) else lyD t u l P T n j) from rfl]
    by_cases c : j + n + 1 = l
    · rw [if_pos c]
      have := lyR_b (t := t) (u := u) (i := j) (r := if j = 0 then P - T else P) ih (by split <;> omega) (l - j) (by omega)
      omega
    · rw [if_neg c]
      have := ih j
      omega
theorem lyD_o {n : Nat} {j : Nat} (h : j + n + 1 ≠ l) : lyD t u l P T (n + 1) j = lyD t u l P T n j := if_neg h
theorem lyD_n {n : Nat} {j : Nat} (h : j + n + 1 = l) : lyD t u l P T (n + 1) j = lyR t u l (if j = 0 then P - T else P) (lyD t u l P T n) j (l - j) := if_pos h
end LYS
theorem fx_mn {d y pc p' : Nat} {ls r : List Value} {h : am_H} {x : Option Value × am_H} {em : am_E} {x1 x2 e : Int} (hc : am_at y pc em) (hi : am_isC em.1) (hz : em.2.2.2.1 = 57) (hb : em.2.2.2.2.1 = 0) (hcs : Nat.ble (am_cs r) 8 = true) (hp : pc + 3 = p') (b1 : -2147483648 ≤ x1 ∧ x1 ≤ 2147483647) (b2 : -2147483648 ≤ x2 ∧ x2 ≤ 2147483647) (e1 : x2 < x1 → e = x2) (e2 : ¬ x2 < x1 → e = x1) (q : am_ev (d + 1) y p' ls (iv e :: r) h x) : am_ev (d + 1) y pc ls (iv x2 :: iv x1 :: r) h x := by
  subst hp
  refine am_ev.min hc hi hz hb (Nat.le_of_ble_eq_true hcs) ?_
  by_cases c : x2 < x1
  · rw [if_pos (Int32.lt_iff_toInt_lt.2 (by rw [fx_ti b1, fx_ti b2]; exact c)), ← e1 c]
    exact q
  · rw [if_neg (fun z => c (by have z := Int32.lt_iff_toInt_lt.1 z; rw [fx_ti b1, fx_ti b2] at z; exact z)), ← e2 c]
    exact q
/-! THE LAYOUT, the program's side -/
theorem b2_ok {y : Nat} (hy : am_rt y = some .boolean) (t : Bool) : am_rok (am_rt y) (Int32.ofInt (b2 t)) = true := by
  rw [hy]
  cases t <;> rfl
section LYC
variable {d E l i j : Nat} {h : am_H} {t u : Int32} {r q a1 a2 f0 s0 : Int}
theorem ly_31 {t : Int32} {c : Nat} (hc : c < 31) : am_ev d 31 0 (am_ent [.int t, iv c] 2) [] h (some (iv (b2 (bt t c))), h) := by
  cases e : bt t c with
  | true => exact (tk_31 (h := h) (d := d) hc).1 e
  | false => exact (tk_31 (h := h) (d := d) hc).2 e
/-- an edition's text, as the program keeps it -/
def lyE (h : am_H) (E l : Nat) (t u : Int32) : Prop := am_isO h E 3 = true ∧ 130 ≤ E ∧ h.2.2.2 E 3 = iv l ∧ h.2.2.2 E 4 = .int t ∧ h.2.2.2 E 5 = .int u
theorem ly_59 (S : fS h) (TE : lyE h E l t u) (hi : i < 31) : am_ev (d + 1) 59 0 (am_ent [.ref E, iv i] 2) [] h (some (iv (b2 (bt u i))), h) := by
  obtain ⟨OE, hE, x3, x4, x5⟩ := TE
  show am_ev (d + 1) 59 0 [.ref E, iv i] [] h _
  refine am_ev.step (pc' := 1) rfl rfl ?_
  refine ax_gf (p' := 4) rfl rfl OE x5 ?_
  refine am_ev.step (pc' := 5) rfl rfl ?_
  refine ax_call (z := 31) (p' := 8) (as := [_, _]) rfl (Or.inl ⟨_, rfl⟩) rfl rfl rfl rfl rfl rfl rfl rfl (ly_31 (t := u) (c := i) (by omega)) rfl ?_
  exact fx_reti rfl (b2_ok rfl _) rfl
theorem ly_60 (S : fS h) (TE : lyE h E l t u) (hi : i + 1 < l) (hl : l ≤ 30) : am_ev (d + 1) 60 0 (am_ent [.ref E, iv i] 4) [] h (some (iv (b2 (lyM t u l i))), h) := by
  obtain ⟨OE, hE, x3, x4, x5⟩ := TE
  show am_ev (d + 1) 60 0 [.ref E, iv i, am_ph, am_ph] [] h _
  cases e1 : bt t i with
  | true =>
    rw [show lyM t u l i = false by unfold lyM; simp [e1]]
    refine am_ev.step (pc' := 1) rfl rfl ?_
    refine fx_z_lt_F (pF := 4) rfl (by omega) rfl (by omega) ?_
    refine am_ev.step (pc' := 5) rfl rfl ?_
    refine am_ev.step (pc' := 6) rfl rfl ?_
    refine fx_add (p' := 7) (e := ((i : Int) + 1)) rfl rfl (by omega) ?_
    refine am_ev.step (pc' := 8) rfl rfl ?_
    refine ax_gf (p' := 11) rfl rfl OE x3 ?_
    refine fx_c_ge_F (pF := 14) rfl (by omega) (by omega) rfl (by omega) ?_
    refine am_ev.step (pc' := 15) rfl rfl ?_
    refine ax_gf (p' := 18) rfl rfl OE x4 ?_
    refine am_ev.step (pc' := 19) rfl rfl ?_
    refine ax_call (z := 31) (p' := 22) (as := [_, _]) rfl (Or.inl ⟨_, rfl⟩) rfl rfl rfl rfl rfl rfl rfl rfl (show am_ev _ 31 0 (am_ent [.int t, iv ((i : Int))] 2) [] _ (some (iv 1), _) from (by rw [show ((i : Int)) = ((i : Nat) : Int) by omega]; exact (tk_31 (t := t) (c := i) (by omega)).1 e1)) rfl ?_
    refine fx_z_eq_F (pF := 25) rfl (by omega) rfl (by omega) ?_
    refine am_ev.step (pc' := 26) rfl rfl ?_
    exact fx_reti rfl rfl rfl
  | false =>
    cases e2 : bt u (i + 1) with
    | true =>
      cases e3 : bt u i with
      | true =>
        by_cases c4 : i + 2 < l
        · cases e5 : bt u (i + 2) with
          | true =>
            rw [show lyM t u l i = true by unfold lyM; simp [e1, e2]]
            refine am_ev.step (pc' := 1) rfl rfl ?_
            refine fx_z_lt_F (pF := 4) rfl (by omega) rfl (by omega) ?_
            refine am_ev.step (pc' := 5) rfl rfl ?_
            refine am_ev.step (pc' := 6) rfl rfl ?_
            refine fx_add (p' := 7) (e := ((i : Int) + 1)) rfl rfl (by omega) ?_
            refine am_ev.step (pc' := 8) rfl rfl ?_
            refine ax_gf (p' := 11) rfl rfl OE x3 ?_
            refine fx_c_ge_F (pF := 14) rfl (by omega) (by omega) rfl (by omega) ?_
            refine am_ev.step (pc' := 15) rfl rfl ?_
            refine ax_gf (p' := 18) rfl rfl OE x4 ?_
            refine am_ev.step (pc' := 19) rfl rfl ?_
            refine ax_call (z := 31) (p' := 22) (as := [_, _]) rfl (Or.inl ⟨_, rfl⟩) rfl rfl rfl rfl rfl rfl rfl rfl (show am_ev _ 31 0 (am_ent [.int t, iv ((i : Int))] 2) [] _ (some (iv 0), _) from (by rw [show ((i : Int)) = ((i : Nat) : Int) by omega]; exact (tk_31 (t := t) (c := i) (by omega)).2 e1)) rfl ?_
            refine fx_z_eq_T (pT := 27) rfl (by omega) rfl (by omega) ?_
            refine am_ev.step (pc' := 28) rfl rfl ?_
            refine ax_gf (p' := 31) rfl rfl OE x5 ?_
            refine am_ev.step (pc' := 32) rfl rfl ?_
            refine ax_call (z := 31) (p' := 35) (as := [_, _]) rfl (Or.inl ⟨_, rfl⟩) rfl rfl rfl rfl rfl rfl rfl rfl (show am_ev _ 31 0 (am_ent [.int u, iv ((i : Int))] 2) [] _ (some (iv 1), _) from (by rw [show ((i : Int)) = ((i : Nat) : Int) by omega]; exact (tk_31 (t := u) (c := i) (by omega)).1 e3)) rfl ?_
            refine fx_z_ne_T (pT := 42) rfl (by omega) rfl (by omega) ?_
            refine am_ev.step (pc' := 43) rfl rfl ?_
            refine am_ev.step (pc' := 44) (ls' := [.ref E, iv ((i : Int)), iv 0, am_ph]) rfl rfl ?_
            refine am_ev.step (pc' := 45) rfl rfl ?_
            refine am_ev.step (pc' := 46) rfl rfl ?_
            refine fx_add (p' := 47) (e := ((i : Int) + 2)) rfl rfl (by omega) ?_
            refine am_ev.step (pc' := 48) rfl rfl ?_
            refine ax_gf (p' := 51) rfl rfl OE x3 ?_
            refine fx_c_ge_F (pF := 54) rfl (by omega) (by omega) rfl (by omega) ?_
            refine am_ev.step (pc' := 55) rfl rfl ?_
            refine ax_gf (p' := 58) rfl rfl OE x5 ?_
            refine am_ev.step (pc' := 59) rfl rfl ?_
            refine am_ev.step (pc' := 60) rfl rfl ?_
            refine fx_add (p' := 61) (e := ((i : Int) + 2)) rfl rfl (by omega) ?_
            refine ax_call (z := 31) (p' := 64) (as := [_, _]) rfl (Or.inl ⟨_, rfl⟩) rfl rfl rfl rfl rfl rfl rfl rfl (show am_ev _ 31 0 (am_ent [.int u, iv ((i : Int) + 2)] 2) [] _ (some (iv 1), _) from (by rw [show ((i : Int) + 2) = (((i + 2) : Nat) : Int) by omega]; exact (tk_31 (t := u) (c := (i + 2)) (by omega)).1 e5)) rfl ?_
            refine fx_z_ne_T (pT := 71) rfl (by omega) rfl (by omega) ?_
            refine am_ev.step (pc' := 72) rfl rfl ?_
            refine am_ev.step (pc' := 73) (ls' := [.ref E, iv ((i : Int)), iv 0, iv 0]) rfl rfl ?_
            refine am_ev.step (pc' := 74) rfl rfl ?_
            refine ax_gf (p' := 77) rfl rfl OE x5 ?_
            refine am_ev.step (pc' := 78) rfl rfl ?_
            refine am_ev.step (pc' := 79) rfl rfl ?_
            refine fx_add (p' := 80) (e := ((i : Int) + 1)) rfl rfl (by omega) ?_
            refine ax_call (z := 31) (p' := 83) (as := [_, _]) rfl (Or.inl ⟨_, rfl⟩) rfl rfl rfl rfl rfl rfl rfl rfl (show am_ev _ 31 0 (am_ent [.int u, iv ((i : Int) + 1)] 2) [] _ (some (iv 1), _) from (by rw [show ((i : Int) + 1) = (((i + 1) : Nat) : Int) by omega]; exact (tk_31 (t := u) (c := (i + 1)) (by omega)).1 e2)) rfl ?_
            refine fx_z_ne_T (pT := 94) rfl (by omega) rfl (by omega) ?_
            refine am_ev.step (pc' := 95) rfl rfl ?_
            refine am_ev.step (pc' := 99) rfl rfl ?_
            exact fx_reti rfl rfl rfl
          | false =>
            rw [show lyM t u l i = true by unfold lyM; simp [e1, e2]]
            refine am_ev.step (pc' := 1) rfl rfl ?_
            refine fx_z_lt_F (pF := 4) rfl (by omega) rfl (by omega) ?_
            refine am_ev.step (pc' := 5) rfl rfl ?_
            refine am_ev.step (pc' := 6) rfl rfl ?_
            refine fx_add (p' := 7) (e := ((i : Int) + 1)) rfl rfl (by omega) ?_
            refine am_ev.step (pc' := 8) rfl rfl ?_
            refine ax_gf (p' := 11) rfl rfl OE x3 ?_
            refine fx_c_ge_F (pF := 14) rfl (by omega) (by omega) rfl (by omega) ?_
            refine am_ev.step (pc' := 15) rfl rfl ?_
            refine ax_gf (p' := 18) rfl rfl OE x4 ?_
            refine am_ev.step (pc' := 19) rfl rfl ?_
            refine ax_call (z := 31) (p' := 22) (as := [_, _]) rfl (Or.inl ⟨_, rfl⟩) rfl rfl rfl rfl rfl rfl rfl rfl (show am_ev _ 31 0 (am_ent [.int t, iv ((i : Int))] 2) [] _ (some (iv 0), _) from (by rw [show ((i : Int)) = ((i : Nat) : Int) by omega]; exact (tk_31 (t := t) (c := i) (by omega)).2 e1)) rfl ?_
            refine fx_z_eq_T (pT := 27) rfl (by omega) rfl (by omega) ?_
            refine am_ev.step (pc' := 28) rfl rfl ?_
            refine ax_gf (p' := 31) rfl rfl OE x5 ?_
            refine am_ev.step (pc' := 32) rfl rfl ?_
            refine ax_call (z := 31) (p' := 35) (as := [_, _]) rfl (Or.inl ⟨_, rfl⟩) rfl rfl rfl rfl rfl rfl rfl rfl (show am_ev _ 31 0 (am_ent [.int u, iv ((i : Int))] 2) [] _ (some (iv 1), _) from (by rw [show ((i : Int)) = ((i : Nat) : Int) by omega]; exact (tk_31 (t := u) (c := i) (by omega)).1 e3)) rfl ?_
            refine fx_z_ne_T (pT := 42) rfl (by omega) rfl (by omega) ?_
            refine am_ev.step (pc' := 43) rfl rfl ?_
            refine am_ev.step (pc' := 44) (ls' := [.ref E, iv ((i : Int)), iv 0, am_ph]) rfl rfl ?_
            refine am_ev.step (pc' := 45) rfl rfl ?_
            refine am_ev.step (pc' := 46) rfl rfl ?_
            refine fx_add (p' := 47) (e := ((i : Int) + 2)) rfl rfl (by omega) ?_
            refine am_ev.step (pc' := 48) rfl rfl ?_
            refine ax_gf (p' := 51) rfl rfl OE x3 ?_
            refine fx_c_ge_F (pF := 54) rfl (by omega) (by omega) rfl (by omega) ?_
            refine am_ev.step (pc' := 55) rfl rfl ?_
            refine ax_gf (p' := 58) rfl rfl OE x5 ?_
            refine am_ev.step (pc' := 59) rfl rfl ?_
            refine am_ev.step (pc' := 60) rfl rfl ?_
            refine fx_add (p' := 61) (e := ((i : Int) + 2)) rfl rfl (by omega) ?_
            refine ax_call (z := 31) (p' := 64) (as := [_, _]) rfl (Or.inl ⟨_, rfl⟩) rfl rfl rfl rfl rfl rfl rfl rfl (show am_ev _ 31 0 (am_ent [.int u, iv ((i : Int) + 2)] 2) [] _ (some (iv 0), _) from (by rw [show ((i : Int) + 2) = (((i + 2) : Nat) : Int) by omega]; exact (tk_31 (t := u) (c := (i + 2)) (by omega)).2 e5)) rfl ?_
            refine fx_z_ne_F (pF := 67) rfl (by omega) rfl (by omega) ?_
            refine am_ev.step (pc' := 68) rfl rfl ?_
            refine am_ev.step (pc' := 72) rfl rfl ?_
            refine am_ev.step (pc' := 73) (ls' := [.ref E, iv ((i : Int)), iv 0, iv 1]) rfl rfl ?_
            refine am_ev.step (pc' := 74) rfl rfl ?_
            refine ax_gf (p' := 77) rfl rfl OE x5 ?_
            refine am_ev.step (pc' := 78) rfl rfl ?_
            refine am_ev.step (pc' := 79) rfl rfl ?_
            refine fx_add (p' := 80) (e := ((i : Int) + 1)) rfl rfl (by omega) ?_
            refine ax_call (z := 31) (p' := 83) (as := [_, _]) rfl (Or.inl ⟨_, rfl⟩) rfl rfl rfl rfl rfl rfl rfl rfl (show am_ev _ 31 0 (am_ent [.int u, iv ((i : Int) + 1)] 2) [] _ (some (iv 1), _) from (by rw [show ((i : Int) + 1) = (((i + 1) : Nat) : Int) by omega]; exact (tk_31 (t := u) (c := (i + 1)) (by omega)).1 e2)) rfl ?_
            refine fx_z_ne_T (pT := 94) rfl (by omega) rfl (by omega) ?_
            refine am_ev.step (pc' := 95) rfl rfl ?_
            refine am_ev.step (pc' := 99) rfl rfl ?_
            exact fx_reti rfl rfl rfl
        · rw [show lyM t u l i = true by unfold lyM; simp [e1, e2]]
          refine am_ev.step (pc' := 1) rfl rfl ?_
          refine fx_z_lt_F (pF := 4) rfl (by omega) rfl (by omega) ?_
          refine am_ev.step (pc' := 5) rfl rfl ?_
          refine am_ev.step (pc' := 6) rfl rfl ?_
          refine fx_add (p' := 7) (e := ((i : Int) + 1)) rfl rfl (by omega) ?_
          refine am_ev.step (pc' := 8) rfl rfl ?_
          refine ax_gf (p' := 11) rfl rfl OE x3 ?_
          refine fx_c_ge_F (pF := 14) rfl (by omega) (by omega) rfl (by omega) ?_
          refine am_ev.step (pc' := 15) rfl rfl ?_
          refine ax_gf (p' := 18) rfl rfl OE x4 ?_
          refine am_ev.step (pc' := 19) rfl rfl ?_
          refine ax_call (z := 31) (p' := 22) (as := [_, _]) rfl (Or.inl ⟨_, rfl⟩) rfl rfl rfl rfl rfl rfl rfl rfl (show am_ev _ 31 0 (am_ent [.int t, iv ((i : Int))] 2) [] _ (some (iv 0), _) from (by rw [show ((i : Int)) = ((i : Nat) : Int) by omega]; exact (tk_31 (t := t) (c := i) (by omega)).2 e1)) rfl ?_
          refine fx_z_eq_T (pT := 27) rfl (by omega) rfl (by omega) ?_
          refine am_ev.step (pc' := 28) rfl rfl ?_
          refine ax_gf (p' := 31) rfl rfl OE x5 ?_
          refine am_ev.step (pc' := 32) rfl rfl ?_
          refine ax_call (z := 31) (p' := 35) (as := [_, _]) rfl (Or.inl ⟨_, rfl⟩) rfl rfl rfl rfl rfl rfl rfl rfl (show am_ev _ 31 0 (am_ent [.int u, iv ((i : Int))] 2) [] _ (some (iv 1), _) from (by rw [show ((i : Int)) = ((i : Nat) : Int) by omega]; exact (tk_31 (t := u) (c := i) (by omega)).1 e3)) rfl ?_
          refine fx_z_ne_T (pT := 42) rfl (by omega) rfl (by omega) ?_
          refine am_ev.step (pc' := 43) rfl rfl ?_
          refine am_ev.step (pc' := 44) (ls' := [.ref E, iv ((i : Int)), iv 0, am_ph]) rfl rfl ?_
          refine am_ev.step (pc' := 45) rfl rfl ?_
          refine am_ev.step (pc' := 46) rfl rfl ?_
          refine fx_add (p' := 47) (e := ((i : Int) + 2)) rfl rfl (by omega) ?_
          refine am_ev.step (pc' := 48) rfl rfl ?_
          refine ax_gf (p' := 51) rfl rfl OE x3 ?_
          refine fx_c_ge_T (pT := 71) rfl (by omega) (by omega) rfl (by omega) ?_
          refine am_ev.step (pc' := 72) rfl rfl ?_
          refine am_ev.step (pc' := 73) (ls' := [.ref E, iv ((i : Int)), iv 0, iv 0]) rfl rfl ?_
          refine am_ev.step (pc' := 74) rfl rfl ?_
          refine ax_gf (p' := 77) rfl rfl OE x5 ?_
          refine am_ev.step (pc' := 78) rfl rfl ?_
          refine am_ev.step (pc' := 79) rfl rfl ?_
          refine fx_add (p' := 80) (e := ((i : Int) + 1)) rfl rfl (by omega) ?_
          refine ax_call (z := 31) (p' := 83) (as := [_, _]) rfl (Or.inl ⟨_, rfl⟩) rfl rfl rfl rfl rfl rfl rfl rfl (show am_ev _ 31 0 (am_ent [.int u, iv ((i : Int) + 1)] 2) [] _ (some (iv 1), _) from (by rw [show ((i : Int) + 1) = (((i + 1) : Nat) : Int) by omega]; exact (tk_31 (t := u) (c := (i + 1)) (by omega)).1 e2)) rfl ?_
          refine fx_z_ne_T (pT := 94) rfl (by omega) rfl (by omega) ?_
          refine am_ev.step (pc' := 95) rfl rfl ?_
          refine am_ev.step (pc' := 99) rfl rfl ?_
          exact fx_reti rfl rfl rfl
      | false =>
        by_cases c4 : i + 2 < l
        · cases e5 : bt u (i + 2) with
          | true =>
            rw [show lyM t u l i = true by unfold lyM; simp [e1, e2]]
            refine am_ev.step (pc' := 1) rfl rfl ?_
            refine fx_z_lt_F (pF := 4) rfl (by omega) rfl (by omega) ?_
            refine am_ev.step (pc' := 5) rfl rfl ?_
            refine am_ev.step (pc' := 6) rfl rfl ?_
            refine fx_add (p' := 7) (e := ((i : Int) + 1)) rfl rfl (by omega) ?_
            refine am_ev.step (pc' := 8) rfl rfl ?_
            refine ax_gf (p' := 11) rfl rfl OE x3 ?_
            refine fx_c_ge_F (pF := 14) rfl (by omega) (by omega) rfl (by omega) ?_
            refine am_ev.step (pc' := 15) rfl rfl ?_
            refine ax_gf (p' := 18) rfl rfl OE x4 ?_
            refine am_ev.step (pc' := 19) rfl rfl ?_
            refine ax_call (z := 31) (p' := 22) (as := [_, _]) rfl (Or.inl ⟨_, rfl⟩) rfl rfl rfl rfl rfl rfl rfl rfl (show am_ev _ 31 0 (am_ent [.int t, iv ((i : Int))] 2) [] _ (some (iv 0), _) from (by rw [show ((i : Int)) = ((i : Nat) : Int) by omega]; exact (tk_31 (t := t) (c := i) (by omega)).2 e1)) rfl ?_
            refine fx_z_eq_T (pT := 27) rfl (by omega) rfl (by omega) ?_
            refine am_ev.step (pc' := 28) rfl rfl ?_
            refine ax_gf (p' := 31) rfl rfl OE x5 ?_
            refine am_ev.step (pc' := 32) rfl rfl ?_
            refine ax_call (z := 31) (p' := 35) (as := [_, _]) rfl (Or.inl ⟨_, rfl⟩) rfl rfl rfl rfl rfl rfl rfl rfl (show am_ev _ 31 0 (am_ent [.int u, iv ((i : Int))] 2) [] _ (some (iv 0), _) from (by rw [show ((i : Int)) = ((i : Nat) : Int) by omega]; exact (tk_31 (t := u) (c := i) (by omega)).2 e3)) rfl ?_
            refine fx_z_ne_F (pF := 38) rfl (by omega) rfl (by omega) ?_
            refine am_ev.step (pc' := 39) rfl rfl ?_
            refine am_ev.step (pc' := 43) rfl rfl ?_
            refine am_ev.step (pc' := 44) (ls' := [.ref E, iv ((i : Int)), iv 1, am_ph]) rfl rfl ?_
            refine am_ev.step (pc' := 45) rfl rfl ?_
            refine am_ev.step (pc' := 46) rfl rfl ?_
            refine fx_add (p' := 47) (e := ((i : Int) + 2)) rfl rfl (by omega) ?_
            refine am_ev.step (pc' := 48) rfl rfl ?_
            refine ax_gf (p' := 51) rfl rfl OE x3 ?_
            refine fx_c_ge_F (pF := 54) rfl (by omega) (by omega) rfl (by omega) ?_
            refine am_ev.step (pc' := 55) rfl rfl ?_
            refine ax_gf (p' := 58) rfl rfl OE x5 ?_
            refine am_ev.step (pc' := 59) rfl rfl ?_
            refine am_ev.step (pc' := 60) rfl rfl ?_
            refine fx_add (p' := 61) (e := ((i : Int) + 2)) rfl rfl (by omega) ?_
            refine ax_call (z := 31) (p' := 64) (as := [_, _]) rfl (Or.inl ⟨_, rfl⟩) rfl rfl rfl rfl rfl rfl rfl rfl (show am_ev _ 31 0 (am_ent [.int u, iv ((i : Int) + 2)] 2) [] _ (some (iv 1), _) from (by rw [show ((i : Int) + 2) = (((i + 2) : Nat) : Int) by omega]; exact (tk_31 (t := u) (c := (i + 2)) (by omega)).1 e5)) rfl ?_
            refine fx_z_ne_T (pT := 71) rfl (by omega) rfl (by omega) ?_
            refine am_ev.step (pc' := 72) rfl rfl ?_
            refine am_ev.step (pc' := 73) (ls' := [.ref E, iv ((i : Int)), iv 1, iv 0]) rfl rfl ?_
            refine am_ev.step (pc' := 74) rfl rfl ?_
            refine ax_gf (p' := 77) rfl rfl OE x5 ?_
            refine am_ev.step (pc' := 78) rfl rfl ?_
            refine am_ev.step (pc' := 79) rfl rfl ?_
            refine fx_add (p' := 80) (e := ((i : Int) + 1)) rfl rfl (by omega) ?_
            refine ax_call (z := 31) (p' := 83) (as := [_, _]) rfl (Or.inl ⟨_, rfl⟩) rfl rfl rfl rfl rfl rfl rfl rfl (show am_ev _ 31 0 (am_ent [.int u, iv ((i : Int) + 1)] 2) [] _ (some (iv 1), _) from (by rw [show ((i : Int) + 1) = (((i + 1) : Nat) : Int) by omega]; exact (tk_31 (t := u) (c := (i + 1)) (by omega)).1 e2)) rfl ?_
            refine fx_z_ne_T (pT := 94) rfl (by omega) rfl (by omega) ?_
            refine am_ev.step (pc' := 95) rfl rfl ?_
            refine am_ev.step (pc' := 99) rfl rfl ?_
            exact fx_reti rfl rfl rfl
          | false =>
            rw [show lyM t u l i = true by unfold lyM; simp [e1, e2]]
            refine am_ev.step (pc' := 1) rfl rfl ?_
            refine fx_z_lt_F (pF := 4) rfl (by omega) rfl (by omega) ?_
            refine am_ev.step (pc' := 5) rfl rfl ?_
            refine am_ev.step (pc' := 6) rfl rfl ?_
            refine fx_add (p' := 7) (e := ((i : Int) + 1)) rfl rfl (by omega) ?_
            refine am_ev.step (pc' := 8) rfl rfl ?_
            refine ax_gf (p' := 11) rfl rfl OE x3 ?_
            refine fx_c_ge_F (pF := 14) rfl (by omega) (by omega) rfl (by omega) ?_
            refine am_ev.step (pc' := 15) rfl rfl ?_
            refine ax_gf (p' := 18) rfl rfl OE x4 ?_
            refine am_ev.step (pc' := 19) rfl rfl ?_
            refine ax_call (z := 31) (p' := 22) (as := [_, _]) rfl (Or.inl ⟨_, rfl⟩) rfl rfl rfl rfl rfl rfl rfl rfl (show am_ev _ 31 0 (am_ent [.int t, iv ((i : Int))] 2) [] _ (some (iv 0), _) from (by rw [show ((i : Int)) = ((i : Nat) : Int) by omega]; exact (tk_31 (t := t) (c := i) (by omega)).2 e1)) rfl ?_
            refine fx_z_eq_T (pT := 27) rfl (by omega) rfl (by omega) ?_
            refine am_ev.step (pc' := 28) rfl rfl ?_
            refine ax_gf (p' := 31) rfl rfl OE x5 ?_
            refine am_ev.step (pc' := 32) rfl rfl ?_
            refine ax_call (z := 31) (p' := 35) (as := [_, _]) rfl (Or.inl ⟨_, rfl⟩) rfl rfl rfl rfl rfl rfl rfl rfl (show am_ev _ 31 0 (am_ent [.int u, iv ((i : Int))] 2) [] _ (some (iv 0), _) from (by rw [show ((i : Int)) = ((i : Nat) : Int) by omega]; exact (tk_31 (t := u) (c := i) (by omega)).2 e3)) rfl ?_
            refine fx_z_ne_F (pF := 38) rfl (by omega) rfl (by omega) ?_
            refine am_ev.step (pc' := 39) rfl rfl ?_
            refine am_ev.step (pc' := 43) rfl rfl ?_
            refine am_ev.step (pc' := 44) (ls' := [.ref E, iv ((i : Int)), iv 1, am_ph]) rfl rfl ?_
            refine am_ev.step (pc' := 45) rfl rfl ?_
            refine am_ev.step (pc' := 46) rfl rfl ?_
            refine fx_add (p' := 47) (e := ((i : Int) + 2)) rfl rfl (by omega) ?_
            refine am_ev.step (pc' := 48) rfl rfl ?_
            refine ax_gf (p' := 51) rfl rfl OE x3 ?_
            refine fx_c_ge_F (pF := 54) rfl (by omega) (by omega) rfl (by omega) ?_
            refine am_ev.step (pc' := 55) rfl rfl ?_
            refine ax_gf (p' := 58) rfl rfl OE x5 ?_
            refine am_ev.step (pc' := 59) rfl rfl ?_
            refine am_ev.step (pc' := 60) rfl rfl ?_
            refine fx_add (p' := 61) (e := ((i : Int) + 2)) rfl rfl (by omega) ?_
            refine ax_call (z := 31) (p' := 64) (as := [_, _]) rfl (Or.inl ⟨_, rfl⟩) rfl rfl rfl rfl rfl rfl rfl rfl (show am_ev _ 31 0 (am_ent [.int u, iv ((i : Int) + 2)] 2) [] _ (some (iv 0), _) from (by rw [show ((i : Int) + 2) = (((i + 2) : Nat) : Int) by omega]; exact (tk_31 (t := u) (c := (i + 2)) (by omega)).2 e5)) rfl ?_
            refine fx_z_ne_F (pF := 67) rfl (by omega) rfl (by omega) ?_
            refine am_ev.step (pc' := 68) rfl rfl ?_
            refine am_ev.step (pc' := 72) rfl rfl ?_
            refine am_ev.step (pc' := 73) (ls' := [.ref E, iv ((i : Int)), iv 1, iv 1]) rfl rfl ?_
            refine am_ev.step (pc' := 74) rfl rfl ?_
            refine ax_gf (p' := 77) rfl rfl OE x5 ?_
            refine am_ev.step (pc' := 78) rfl rfl ?_
            refine am_ev.step (pc' := 79) rfl rfl ?_
            refine fx_add (p' := 80) (e := ((i : Int) + 1)) rfl rfl (by omega) ?_
            refine ax_call (z := 31) (p' := 83) (as := [_, _]) rfl (Or.inl ⟨_, rfl⟩) rfl rfl rfl rfl rfl rfl rfl rfl (show am_ev _ 31 0 (am_ent [.int u, iv ((i : Int) + 1)] 2) [] _ (some (iv 1), _) from (by rw [show ((i : Int) + 1) = (((i + 1) : Nat) : Int) by omega]; exact (tk_31 (t := u) (c := (i + 1)) (by omega)).1 e2)) rfl ?_
            refine fx_z_ne_T (pT := 94) rfl (by omega) rfl (by omega) ?_
            refine am_ev.step (pc' := 95) rfl rfl ?_
            refine am_ev.step (pc' := 99) rfl rfl ?_
            exact fx_reti rfl rfl rfl
        · rw [show lyM t u l i = true by unfold lyM; simp [e1, e2]]
          refine am_ev.step (pc' := 1) rfl rfl ?_
          refine fx_z_lt_F (pF := 4) rfl (by omega) rfl (by omega) ?_
          refine am_ev.step (pc' := 5) rfl rfl ?_
          refine am_ev.step (pc' := 6) rfl rfl ?_
          refine fx_add (p' := 7) (e := ((i : Int) + 1)) rfl rfl (by omega) ?_
          refine am_ev.step (pc' := 8) rfl rfl ?_
          refine ax_gf (p' := 11) rfl rfl OE x3 ?_
          refine fx_c_ge_F (pF := 14) rfl (by omega) (by omega) rfl (by omega) ?_
          refine am_ev.step (pc' := 15) rfl rfl ?_
          refine ax_gf (p' := 18) rfl rfl OE x4 ?_
          refine am_ev.step (pc' := 19) rfl rfl ?_
          refine ax_call (z := 31) (p' := 22) (as := [_, _]) rfl (Or.inl ⟨_, rfl⟩) rfl rfl rfl rfl rfl rfl rfl rfl (show am_ev _ 31 0 (am_ent [.int t, iv ((i : Int))] 2) [] _ (some (iv 0), _) from (by rw [show ((i : Int)) = ((i : Nat) : Int) by omega]; exact (tk_31 (t := t) (c := i) (by omega)).2 e1)) rfl ?_
          refine fx_z_eq_T (pT := 27) rfl (by omega) rfl (by omega) ?_
          refine am_ev.step (pc' := 28) rfl rfl ?_
          refine ax_gf (p' := 31) rfl rfl OE x5 ?_
          refine am_ev.step (pc' := 32) rfl rfl ?_
          refine ax_call (z := 31) (p' := 35) (as := [_, _]) rfl (Or.inl ⟨_, rfl⟩) rfl rfl rfl rfl rfl rfl rfl rfl (show am_ev _ 31 0 (am_ent [.int u, iv ((i : Int))] 2) [] _ (some (iv 0), _) from (by rw [show ((i : Int)) = ((i : Nat) : Int) by omega]; exact (tk_31 (t := u) (c := i) (by omega)).2 e3)) rfl ?_
          refine fx_z_ne_F (pF := 38) rfl (by omega) rfl (by omega) ?_
          refine am_ev.step (pc' := 39) rfl rfl ?_
          refine am_ev.step (pc' := 43) rfl rfl ?_
          refine am_ev.step (pc' := 44) (ls' := [.ref E, iv ((i : Int)), iv 1, am_ph]) rfl rfl ?_
          refine am_ev.step (pc' := 45) rfl rfl ?_
          refine am_ev.step (pc' := 46) rfl rfl ?_
          refine fx_add (p' := 47) (e := ((i : Int) + 2)) rfl rfl (by omega) ?_
          refine am_ev.step (pc' := 48) rfl rfl ?_
          refine ax_gf (p' := 51) rfl rfl OE x3 ?_
          refine fx_c_ge_T (pT := 71) rfl (by omega) (by omega) rfl (by omega) ?_
          refine am_ev.step (pc' := 72) rfl rfl ?_
          refine am_ev.step (pc' := 73) (ls' := [.ref E, iv ((i : Int)), iv 1, iv 0]) rfl rfl ?_
          refine am_ev.step (pc' := 74) rfl rfl ?_
          refine ax_gf (p' := 77) rfl rfl OE x5 ?_
          refine am_ev.step (pc' := 78) rfl rfl ?_
          refine am_ev.step (pc' := 79) rfl rfl ?_
          refine fx_add (p' := 80) (e := ((i : Int) + 1)) rfl rfl (by omega) ?_
          refine ax_call (z := 31) (p' := 83) (as := [_, _]) rfl (Or.inl ⟨_, rfl⟩) rfl rfl rfl rfl rfl rfl rfl rfl (show am_ev _ 31 0 (am_ent [.int u, iv ((i : Int) + 1)] 2) [] _ (some (iv 1), _) from (by rw [show ((i : Int) + 1) = (((i + 1) : Nat) : Int) by omega]; exact (tk_31 (t := u) (c := (i + 1)) (by omega)).1 e2)) rfl ?_
          refine fx_z_ne_T (pT := 94) rfl (by omega) rfl (by omega) ?_
          refine am_ev.step (pc' := 95) rfl rfl ?_
          refine am_ev.step (pc' := 99) rfl rfl ?_
          exact fx_reti rfl rfl rfl
    | false =>
      cases e3 : bt u i with
      | true =>
        by_cases c4 : i + 2 < l
        · cases e5 : bt u (i + 2) with
          | true =>
            rw [show lyM t u l i = false by unfold lyM; simp [e1, e2, e3, c4, e5]]
            refine am_ev.step (pc' := 1) rfl rfl ?_
            refine fx_z_lt_F (pF := 4) rfl (by omega) rfl (by omega) ?_
            refine am_ev.step (pc' := 5) rfl rfl ?_
            refine am_ev.step (pc' := 6) rfl rfl ?_
            refine fx_add (p' := 7) (e := ((i : Int) + 1)) rfl rfl (by omega) ?_
            refine am_ev.step (pc' := 8) rfl rfl ?_
            refine ax_gf (p' := 11) rfl rfl OE x3 ?_
            refine fx_c_ge_F (pF := 14) rfl (by omega) (by omega) rfl (by omega) ?_
            refine am_ev.step (pc' := 15) rfl rfl ?_
            refine ax_gf (p' := 18) rfl rfl OE x4 ?_
            refine am_ev.step (pc' := 19) rfl rfl ?_
            refine ax_call (z := 31) (p' := 22) (as := [_, _]) rfl (Or.inl ⟨_, rfl⟩) rfl rfl rfl rfl rfl rfl rfl rfl (show am_ev _ 31 0 (am_ent [.int t, iv ((i : Int))] 2) [] _ (some (iv 0), _) from (by rw [show ((i : Int)) = ((i : Nat) : Int) by omega]; exact (tk_31 (t := t) (c := i) (by omega)).2 e1)) rfl ?_
            refine fx_z_eq_T (pT := 27) rfl (by omega) rfl (by omega) ?_
            refine am_ev.step (pc' := 28) rfl rfl ?_
            refine ax_gf (p' := 31) rfl rfl OE x5 ?_
            refine am_ev.step (pc' := 32) rfl rfl ?_
            refine ax_call (z := 31) (p' := 35) (as := [_, _]) rfl (Or.inl ⟨_, rfl⟩) rfl rfl rfl rfl rfl rfl rfl rfl (show am_ev _ 31 0 (am_ent [.int u, iv ((i : Int))] 2) [] _ (some (iv 1), _) from (by rw [show ((i : Int)) = ((i : Nat) : Int) by omega]; exact (tk_31 (t := u) (c := i) (by omega)).1 e3)) rfl ?_
            refine fx_z_ne_T (pT := 42) rfl (by omega) rfl (by omega) ?_
            refine am_ev.step (pc' := 43) rfl rfl ?_
            refine am_ev.step (pc' := 44) (ls' := [.ref E, iv ((i : Int)), iv 0, am_ph]) rfl rfl ?_
            refine am_ev.step (pc' := 45) rfl rfl ?_
            refine am_ev.step (pc' := 46) rfl rfl ?_
            refine fx_add (p' := 47) (e := ((i : Int) + 2)) rfl rfl (by omega) ?_
            refine am_ev.step (pc' := 48) rfl rfl ?_
            refine ax_gf (p' := 51) rfl rfl OE x3 ?_
            refine fx_c_ge_F (pF := 54) rfl (by omega) (by omega) rfl (by omega) ?_
            refine am_ev.step (pc' := 55) rfl rfl ?_
            refine ax_gf (p' := 58) rfl rfl OE x5 ?_
            refine am_ev.step (pc' := 59) rfl rfl ?_
            refine am_ev.step (pc' := 60) rfl rfl ?_
            refine fx_add (p' := 61) (e := ((i : Int) + 2)) rfl rfl (by omega) ?_
            refine ax_call (z := 31) (p' := 64) (as := [_, _]) rfl (Or.inl ⟨_, rfl⟩) rfl rfl rfl rfl rfl rfl rfl rfl (show am_ev _ 31 0 (am_ent [.int u, iv ((i : Int) + 2)] 2) [] _ (some (iv 1), _) from (by rw [show ((i : Int) + 2) = (((i + 2) : Nat) : Int) by omega]; exact (tk_31 (t := u) (c := (i + 2)) (by omega)).1 e5)) rfl ?_
            refine fx_z_ne_T (pT := 71) rfl (by omega) rfl (by omega) ?_
            refine am_ev.step (pc' := 72) rfl rfl ?_
            refine am_ev.step (pc' := 73) (ls' := [.ref E, iv ((i : Int)), iv 0, iv 0]) rfl rfl ?_
            refine am_ev.step (pc' := 74) rfl rfl ?_
            refine ax_gf (p' := 77) rfl rfl OE x5 ?_
            refine am_ev.step (pc' := 78) rfl rfl ?_
            refine am_ev.step (pc' := 79) rfl rfl ?_
            refine fx_add (p' := 80) (e := ((i : Int) + 1)) rfl rfl (by omega) ?_
            refine ax_call (z := 31) (p' := 83) (as := [_, _]) rfl (Or.inl ⟨_, rfl⟩) rfl rfl rfl rfl rfl rfl rfl rfl (show am_ev _ 31 0 (am_ent [.int u, iv ((i : Int) + 1)] 2) [] _ (some (iv 0), _) from (by rw [show ((i : Int) + 1) = (((i + 1) : Nat) : Int) by omega]; exact (tk_31 (t := u) (c := (i + 1)) (by omega)).2 e2)) rfl ?_
            refine fx_z_ne_F (pF := 86) rfl (by omega) rfl (by omega) ?_
            refine am_ev.step (pc' := 87) rfl rfl ?_
            refine fx_z_eq_T (pT := 98) rfl (by omega) rfl (by omega) ?_
            refine am_ev.step (pc' := 99) rfl rfl ?_
            exact fx_reti rfl rfl rfl
          | false =>
            rw [show lyM t u l i = false by unfold lyM; simp [e1, e2, e3, c4, e5]]
            refine am_ev.step (pc' := 1) rfl rfl ?_
            refine fx_z_lt_F (pF := 4) rfl (by omega) rfl (by omega) ?_
            refine am_ev.step (pc' := 5) rfl rfl ?_
            refine am_ev.step (pc' := 6) rfl rfl ?_
            refine fx_add (p' := 7) (e := ((i : Int) + 1)) rfl rfl (by omega) ?_
            refine am_ev.step (pc' := 8) rfl rfl ?_
            refine ax_gf (p' := 11) rfl rfl OE x3 ?_
            refine fx_c_ge_F (pF := 14) rfl (by omega) (by omega) rfl (by omega) ?_
            refine am_ev.step (pc' := 15) rfl rfl ?_
            refine ax_gf (p' := 18) rfl rfl OE x4 ?_
            refine am_ev.step (pc' := 19) rfl rfl ?_
            refine ax_call (z := 31) (p' := 22) (as := [_, _]) rfl (Or.inl ⟨_, rfl⟩) rfl rfl rfl rfl rfl rfl rfl rfl (show am_ev _ 31 0 (am_ent [.int t, iv ((i : Int))] 2) [] _ (some (iv 0), _) from (by rw [show ((i : Int)) = ((i : Nat) : Int) by omega]; exact (tk_31 (t := t) (c := i) (by omega)).2 e1)) rfl ?_
            refine fx_z_eq_T (pT := 27) rfl (by omega) rfl (by omega) ?_
            refine am_ev.step (pc' := 28) rfl rfl ?_
            refine ax_gf (p' := 31) rfl rfl OE x5 ?_
            refine am_ev.step (pc' := 32) rfl rfl ?_
            refine ax_call (z := 31) (p' := 35) (as := [_, _]) rfl (Or.inl ⟨_, rfl⟩) rfl rfl rfl rfl rfl rfl rfl rfl (show am_ev _ 31 0 (am_ent [.int u, iv ((i : Int))] 2) [] _ (some (iv 1), _) from (by rw [show ((i : Int)) = ((i : Nat) : Int) by omega]; exact (tk_31 (t := u) (c := i) (by omega)).1 e3)) rfl ?_
            refine fx_z_ne_T (pT := 42) rfl (by omega) rfl (by omega) ?_
            refine am_ev.step (pc' := 43) rfl rfl ?_
            refine am_ev.step (pc' := 44) (ls' := [.ref E, iv ((i : Int)), iv 0, am_ph]) rfl rfl ?_
            refine am_ev.step (pc' := 45) rfl rfl ?_
            refine am_ev.step (pc' := 46) rfl rfl ?_
            refine fx_add (p' := 47) (e := ((i : Int) + 2)) rfl rfl (by omega) ?_
            refine am_ev.step (pc' := 48) rfl rfl ?_
            refine ax_gf (p' := 51) rfl rfl OE x3 ?_
            refine fx_c_ge_F (pF := 54) rfl (by omega) (by omega) rfl (by omega) ?_
            refine am_ev.step (pc' := 55) rfl rfl ?_
            refine ax_gf (p' := 58) rfl rfl OE x5 ?_
            refine am_ev.step (pc' := 59) rfl rfl ?_
            refine am_ev.step (pc' := 60) rfl rfl ?_
            refine fx_add (p' := 61) (e := ((i : Int) + 2)) rfl rfl (by omega) ?_
            refine ax_call (z := 31) (p' := 64) (as := [_, _]) rfl (Or.inl ⟨_, rfl⟩) rfl rfl rfl rfl rfl rfl rfl rfl (show am_ev _ 31 0 (am_ent [.int u, iv ((i : Int) + 2)] 2) [] _ (some (iv 0), _) from (by rw [show ((i : Int) + 2) = (((i + 2) : Nat) : Int) by omega]; exact (tk_31 (t := u) (c := (i + 2)) (by omega)).2 e5)) rfl ?_
            refine fx_z_ne_F (pF := 67) rfl (by omega) rfl (by omega) ?_
            refine am_ev.step (pc' := 68) rfl rfl ?_
            refine am_ev.step (pc' := 72) rfl rfl ?_
            refine am_ev.step (pc' := 73) (ls' := [.ref E, iv ((i : Int)), iv 0, iv 1]) rfl rfl ?_
            refine am_ev.step (pc' := 74) rfl rfl ?_
            refine ax_gf (p' := 77) rfl rfl OE x5 ?_
            refine am_ev.step (pc' := 78) rfl rfl ?_
            refine am_ev.step (pc' := 79) rfl rfl ?_
            refine fx_add (p' := 80) (e := ((i : Int) + 1)) rfl rfl (by omega) ?_
            refine ax_call (z := 31) (p' := 83) (as := [_, _]) rfl (Or.inl ⟨_, rfl⟩) rfl rfl rfl rfl rfl rfl rfl rfl (show am_ev _ 31 0 (am_ent [.int u, iv ((i : Int) + 1)] 2) [] _ (some (iv 0), _) from (by rw [show ((i : Int) + 1) = (((i + 1) : Nat) : Int) by omega]; exact (tk_31 (t := u) (c := (i + 1)) (by omega)).2 e2)) rfl ?_
            refine fx_z_ne_F (pF := 86) rfl (by omega) rfl (by omega) ?_
            refine am_ev.step (pc' := 87) rfl rfl ?_
            refine fx_z_eq_T (pT := 98) rfl (by omega) rfl (by omega) ?_
            refine am_ev.step (pc' := 99) rfl rfl ?_
            exact fx_reti rfl rfl rfl
        · rw [show lyM t u l i = false by unfold lyM; simp [e1, e2, e3, c4]]
          refine am_ev.step (pc' := 1) rfl rfl ?_
          refine fx_z_lt_F (pF := 4) rfl (by omega) rfl (by omega) ?_
          refine am_ev.step (pc' := 5) rfl rfl ?_
          refine am_ev.step (pc' := 6) rfl rfl ?_
          refine fx_add (p' := 7) (e := ((i : Int) + 1)) rfl rfl (by omega) ?_
          refine am_ev.step (pc' := 8) rfl rfl ?_
          refine ax_gf (p' := 11) rfl rfl OE x3 ?_
          refine fx_c_ge_F (pF := 14) rfl (by omega) (by omega) rfl (by omega) ?_
          refine am_ev.step (pc' := 15) rfl rfl ?_
          refine ax_gf (p' := 18) rfl rfl OE x4 ?_
          refine am_ev.step (pc' := 19) rfl rfl ?_
          refine ax_call (z := 31) (p' := 22) (as := [_, _]) rfl (Or.inl ⟨_, rfl⟩) rfl rfl rfl rfl rfl rfl rfl rfl (show am_ev _ 31 0 (am_ent [.int t, iv ((i : Int))] 2) [] _ (some (iv 0), _) from (by rw [show ((i : Int)) = ((i : Nat) : Int) by omega]; exact (tk_31 (t := t) (c := i) (by omega)).2 e1)) rfl ?_
          refine fx_z_eq_T (pT := 27) rfl (by omega) rfl (by omega) ?_
          refine am_ev.step (pc' := 28) rfl rfl ?_
          refine ax_gf (p' := 31) rfl rfl OE x5 ?_
          refine am_ev.step (pc' := 32) rfl rfl ?_
          refine ax_call (z := 31) (p' := 35) (as := [_, _]) rfl (Or.inl ⟨_, rfl⟩) rfl rfl rfl rfl rfl rfl rfl rfl (show am_ev _ 31 0 (am_ent [.int u, iv ((i : Int))] 2) [] _ (some (iv 1), _) from (by rw [show ((i : Int)) = ((i : Nat) : Int) by omega]; exact (tk_31 (t := u) (c := i) (by omega)).1 e3)) rfl ?_
          refine fx_z_ne_T (pT := 42) rfl (by omega) rfl (by omega) ?_
          refine am_ev.step (pc' := 43) rfl rfl ?_
          refine am_ev.step (pc' := 44) (ls' := [.ref E, iv ((i : Int)), iv 0, am_ph]) rfl rfl ?_
          refine am_ev.step (pc' := 45) rfl rfl ?_
          refine am_ev.step (pc' := 46) rfl rfl ?_
          refine fx_add (p' := 47) (e := ((i : Int) + 2)) rfl rfl (by omega) ?_
          refine am_ev.step (pc' := 48) rfl rfl ?_
          refine ax_gf (p' := 51) rfl rfl OE x3 ?_
          refine fx_c_ge_T (pT := 71) rfl (by omega) (by omega) rfl (by omega) ?_
          refine am_ev.step (pc' := 72) rfl rfl ?_
          refine am_ev.step (pc' := 73) (ls' := [.ref E, iv ((i : Int)), iv 0, iv 0]) rfl rfl ?_
          refine am_ev.step (pc' := 74) rfl rfl ?_
          refine ax_gf (p' := 77) rfl rfl OE x5 ?_
          refine am_ev.step (pc' := 78) rfl rfl ?_
          refine am_ev.step (pc' := 79) rfl rfl ?_
          refine fx_add (p' := 80) (e := ((i : Int) + 1)) rfl rfl (by omega) ?_
          refine ax_call (z := 31) (p' := 83) (as := [_, _]) rfl (Or.inl ⟨_, rfl⟩) rfl rfl rfl rfl rfl rfl rfl rfl (show am_ev _ 31 0 (am_ent [.int u, iv ((i : Int) + 1)] 2) [] _ (some (iv 0), _) from (by rw [show ((i : Int) + 1) = (((i + 1) : Nat) : Int) by omega]; exact (tk_31 (t := u) (c := (i + 1)) (by omega)).2 e2)) rfl ?_
          refine fx_z_ne_F (pF := 86) rfl (by omega) rfl (by omega) ?_
          refine am_ev.step (pc' := 87) rfl rfl ?_
          refine fx_z_eq_T (pT := 98) rfl (by omega) rfl (by omega) ?_
          refine am_ev.step (pc' := 99) rfl rfl ?_
          exact fx_reti rfl rfl rfl
      | false =>
        by_cases c4 : i + 2 < l
        · cases e5 : bt u (i + 2) with
          | true =>
            rw [show lyM t u l i = false by unfold lyM; simp [e1, e2, e3, c4, e5]]
            refine am_ev.step (pc' := 1) rfl rfl ?_
            refine fx_z_lt_F (pF := 4) rfl (by omega) rfl (by omega) ?_
            refine am_ev.step (pc' := 5) rfl rfl ?_
            refine am_ev.step (pc' := 6) rfl rfl ?_
            refine fx_add (p' := 7) (e := ((i : Int) + 1)) rfl rfl (by omega) ?_
            refine am_ev.step (pc' := 8) rfl rfl ?_
            refine ax_gf (p' := 11) rfl rfl OE x3 ?_
            refine fx_c_ge_F (pF := 14) rfl (by omega) (by omega) rfl (by omega) ?_
            refine am_ev.step (pc' := 15) rfl rfl ?_
            refine ax_gf (p' := 18) rfl rfl OE x4 ?_
            refine am_ev.step (pc' := 19) rfl rfl ?_
            refine ax_call (z := 31) (p' := 22) (as := [_, _]) rfl (Or.inl ⟨_, rfl⟩) rfl rfl rfl rfl rfl rfl rfl rfl (show am_ev _ 31 0 (am_ent [.int t, iv ((i : Int))] 2) [] _ (some (iv 0), _) from (by rw [show ((i : Int)) = ((i : Nat) : Int) by omega]; exact (tk_31 (t := t) (c := i) (by omega)).2 e1)) rfl ?_
            refine fx_z_eq_T (pT := 27) rfl (by omega) rfl (by omega) ?_
            refine am_ev.step (pc' := 28) rfl rfl ?_
            refine ax_gf (p' := 31) rfl rfl OE x5 ?_
            refine am_ev.step (pc' := 32) rfl rfl ?_
            refine ax_call (z := 31) (p' := 35) (as := [_, _]) rfl (Or.inl ⟨_, rfl⟩) rfl rfl rfl rfl rfl rfl rfl rfl (show am_ev _ 31 0 (am_ent [.int u, iv ((i : Int))] 2) [] _ (some (iv 0), _) from (by rw [show ((i : Int)) = ((i : Nat) : Int) by omega]; exact (tk_31 (t := u) (c := i) (by omega)).2 e3)) rfl ?_
            refine fx_z_ne_F (pF := 38) rfl (by omega) rfl (by omega) ?_
            refine am_ev.step (pc' := 39) rfl rfl ?_
            refine am_ev.step (pc' := 43) rfl rfl ?_
            refine am_ev.step (pc' := 44) (ls' := [.ref E, iv ((i : Int)), iv 1, am_ph]) rfl rfl ?_
            refine am_ev.step (pc' := 45) rfl rfl ?_
            refine am_ev.step (pc' := 46) rfl rfl ?_
            refine fx_add (p' := 47) (e := ((i : Int) + 2)) rfl rfl (by omega) ?_
            refine am_ev.step (pc' := 48) rfl rfl ?_
            refine ax_gf (p' := 51) rfl rfl OE x3 ?_
            refine fx_c_ge_F (pF := 54) rfl (by omega) (by omega) rfl (by omega) ?_
            refine am_ev.step (pc' := 55) rfl rfl ?_
            refine ax_gf (p' := 58) rfl rfl OE x5 ?_
            refine am_ev.step (pc' := 59) rfl rfl ?_
            refine am_ev.step (pc' := 60) rfl rfl ?_
            refine fx_add (p' := 61) (e := ((i : Int) + 2)) rfl rfl (by omega) ?_
            refine ax_call (z := 31) (p' := 64) (as := [_, _]) rfl (Or.inl ⟨_, rfl⟩) rfl rfl rfl rfl rfl rfl rfl rfl (show am_ev _ 31 0 (am_ent [.int u, iv ((i : Int) + 2)] 2) [] _ (some (iv 1), _) from (by rw [show ((i : Int) + 2) = (((i + 2) : Nat) : Int) by omega]; exact (tk_31 (t := u) (c := (i + 2)) (by omega)).1 e5)) rfl ?_
            refine fx_z_ne_T (pT := 71) rfl (by omega) rfl (by omega) ?_
            refine am_ev.step (pc' := 72) rfl rfl ?_
            refine am_ev.step (pc' := 73) (ls' := [.ref E, iv ((i : Int)), iv 1, iv 0]) rfl rfl ?_
            refine am_ev.step (pc' := 74) rfl rfl ?_
            refine ax_gf (p' := 77) rfl rfl OE x5 ?_
            refine am_ev.step (pc' := 78) rfl rfl ?_
            refine am_ev.step (pc' := 79) rfl rfl ?_
            refine fx_add (p' := 80) (e := ((i : Int) + 1)) rfl rfl (by omega) ?_
            refine ax_call (z := 31) (p' := 83) (as := [_, _]) rfl (Or.inl ⟨_, rfl⟩) rfl rfl rfl rfl rfl rfl rfl rfl (show am_ev _ 31 0 (am_ent [.int u, iv ((i : Int) + 1)] 2) [] _ (some (iv 0), _) from (by rw [show ((i : Int) + 1) = (((i + 1) : Nat) : Int) by omega]; exact (tk_31 (t := u) (c := (i + 1)) (by omega)).2 e2)) rfl ?_
            refine fx_z_ne_F (pF := 86) rfl (by omega) rfl (by omega) ?_
            refine am_ev.step (pc' := 87) rfl rfl ?_
            refine fx_z_eq_F (pF := 90) rfl (by omega) rfl (by omega) ?_
            refine am_ev.step (pc' := 91) rfl rfl ?_
            refine fx_z_eq_T (pT := 98) rfl (by omega) rfl (by omega) ?_
            refine am_ev.step (pc' := 99) rfl rfl ?_
            exact fx_reti rfl rfl rfl
          | false =>
            rw [show lyM t u l i = true by unfold lyM; simp [e1, e2, e3, c4, e5]]
            refine am_ev.step (pc' := 1) rfl rfl ?_
            refine fx_z_lt_F (pF := 4) rfl (by omega) rfl (by omega) ?_
            refine am_ev.step (pc' := 5) rfl rfl ?_
            refine am_ev.step (pc' := 6) rfl rfl ?_
            refine fx_add (p' := 7) (e := ((i : Int) + 1)) rfl rfl (by omega) ?_
            refine am_ev.step (pc' := 8) rfl rfl ?_
            refine ax_gf (p' := 11) rfl rfl OE x3 ?_
            refine fx_c_ge_F (pF := 14) rfl (by omega) (by omega) rfl (by omega) ?_
            refine am_ev.step (pc' := 15) rfl rfl ?_
            refine ax_gf (p' := 18) rfl rfl OE x4 ?_
            refine am_ev.step (pc' := 19) rfl rfl ?_
            refine ax_call (z := 31) (p' := 22) (as := [_, _]) rfl (Or.inl ⟨_, rfl⟩) rfl rfl rfl rfl rfl rfl rfl rfl (show am_ev _ 31 0 (am_ent [.int t, iv ((i : Int))] 2) [] _ (some (iv 0), _) from (by rw [show ((i : Int)) = ((i : Nat) : Int) by omega]; exact (tk_31 (t := t) (c := i) (by omega)).2 e1)) rfl ?_
            refine fx_z_eq_T (pT := 27) rfl (by omega) rfl (by omega) ?_
            refine am_ev.step (pc' := 28) rfl rfl ?_
            refine ax_gf (p' := 31) rfl rfl OE x5 ?_
            refine am_ev.step (pc' := 32) rfl rfl ?_
            refine ax_call (z := 31) (p' := 35) (as := [_, _]) rfl (Or.inl ⟨_, rfl⟩) rfl rfl rfl rfl rfl rfl rfl rfl (show am_ev _ 31 0 (am_ent [.int u, iv ((i : Int))] 2) [] _ (some (iv 0), _) from (by rw [show ((i : Int)) = ((i : Nat) : Int) by omega]; exact (tk_31 (t := u) (c := i) (by omega)).2 e3)) rfl ?_
            refine fx_z_ne_F (pF := 38) rfl (by omega) rfl (by omega) ?_
            refine am_ev.step (pc' := 39) rfl rfl ?_
            refine am_ev.step (pc' := 43) rfl rfl ?_
            refine am_ev.step (pc' := 44) (ls' := [.ref E, iv ((i : Int)), iv 1, am_ph]) rfl rfl ?_
            refine am_ev.step (pc' := 45) rfl rfl ?_
            refine am_ev.step (pc' := 46) rfl rfl ?_
            refine fx_add (p' := 47) (e := ((i : Int) + 2)) rfl rfl (by omega) ?_
            refine am_ev.step (pc' := 48) rfl rfl ?_
            refine ax_gf (p' := 51) rfl rfl OE x3 ?_
            refine fx_c_ge_F (pF := 54) rfl (by omega) (by omega) rfl (by omega) ?_
            refine am_ev.step (pc' := 55) rfl rfl ?_
            refine ax_gf (p' := 58) rfl rfl OE x5 ?_
            refine am_ev.step (pc' := 59) rfl rfl ?_
            refine am_ev.step (pc' := 60) rfl rfl ?_
            refine fx_add (p' := 61) (e := ((i : Int) + 2)) rfl rfl (by omega) ?_
            refine ax_call (z := 31) (p' := 64) (as := [_, _]) rfl (Or.inl ⟨_, rfl⟩) rfl rfl rfl rfl rfl rfl rfl rfl (show am_ev _ 31 0 (am_ent [.int u, iv ((i : Int) + 2)] 2) [] _ (some (iv 0), _) from (by rw [show ((i : Int) + 2) = (((i + 2) : Nat) : Int) by omega]; exact (tk_31 (t := u) (c := (i + 2)) (by omega)).2 e5)) rfl ?_
            refine fx_z_ne_F (pF := 67) rfl (by omega) rfl (by omega) ?_
            refine am_ev.step (pc' := 68) rfl rfl ?_
            refine am_ev.step (pc' := 72) rfl rfl ?_
            refine am_ev.step (pc' := 73) (ls' := [.ref E, iv ((i : Int)), iv 1, iv 1]) rfl rfl ?_
            refine am_ev.step (pc' := 74) rfl rfl ?_
            refine ax_gf (p' := 77) rfl rfl OE x5 ?_
            refine am_ev.step (pc' := 78) rfl rfl ?_
            refine am_ev.step (pc' := 79) rfl rfl ?_
            refine fx_add (p' := 80) (e := ((i : Int) + 1)) rfl rfl (by omega) ?_
            refine ax_call (z := 31) (p' := 83) (as := [_, _]) rfl (Or.inl ⟨_, rfl⟩) rfl rfl rfl rfl rfl rfl rfl rfl (show am_ev _ 31 0 (am_ent [.int u, iv ((i : Int) + 1)] 2) [] _ (some (iv 0), _) from (by rw [show ((i : Int) + 1) = (((i + 1) : Nat) : Int) by omega]; exact (tk_31 (t := u) (c := (i + 1)) (by omega)).2 e2)) rfl ?_
            refine fx_z_ne_F (pF := 86) rfl (by omega) rfl (by omega) ?_
            refine am_ev.step (pc' := 87) rfl rfl ?_
            refine fx_z_eq_F (pF := 90) rfl (by omega) rfl (by omega) ?_
            refine am_ev.step (pc' := 91) rfl rfl ?_
            refine fx_z_eq_F (pF := 94) rfl (by omega) rfl (by omega) ?_
            refine am_ev.step (pc' := 95) rfl rfl ?_
            refine am_ev.step (pc' := 99) rfl rfl ?_
            exact fx_reti rfl rfl rfl
        · rw [show lyM t u l i = false by unfold lyM; simp [e1, e2, e3, c4]]
          refine am_ev.step (pc' := 1) rfl rfl ?_
          refine fx_z_lt_F (pF := 4) rfl (by omega) rfl (by omega) ?_
          refine am_ev.step (pc' := 5) rfl rfl ?_
          refine am_ev.step (pc' := 6) rfl rfl ?_
          refine fx_add (p' := 7) (e := ((i : Int) + 1)) rfl rfl (by omega) ?_
          refine am_ev.step (pc' := 8) rfl rfl ?_
          refine ax_gf (p' := 11) rfl rfl OE x3 ?_
          refine fx_c_ge_F (pF := 14) rfl (by omega) (by omega) rfl (by omega) ?_
          refine am_ev.step (pc' := 15) rfl rfl ?_
          refine ax_gf (p' := 18) rfl rfl OE x4 ?_
          refine am_ev.step (pc' := 19) rfl rfl ?_
          refine ax_call (z := 31) (p' := 22) (as := [_, _]) rfl (Or.inl ⟨_, rfl⟩) rfl rfl rfl rfl rfl rfl rfl rfl (show am_ev _ 31 0 (am_ent [.int t, iv ((i : Int))] 2) [] _ (some (iv 0), _) from (by rw [show ((i : Int)) = ((i : Nat) : Int) by omega]; exact (tk_31 (t := t) (c := i) (by omega)).2 e1)) rfl ?_
          refine fx_z_eq_T (pT := 27) rfl (by omega) rfl (by omega) ?_
          refine am_ev.step (pc' := 28) rfl rfl ?_
          refine ax_gf (p' := 31) rfl rfl OE x5 ?_
          refine am_ev.step (pc' := 32) rfl rfl ?_
          refine ax_call (z := 31) (p' := 35) (as := [_, _]) rfl (Or.inl ⟨_, rfl⟩) rfl rfl rfl rfl rfl rfl rfl rfl (show am_ev _ 31 0 (am_ent [.int u, iv ((i : Int))] 2) [] _ (some (iv 0), _) from (by rw [show ((i : Int)) = ((i : Nat) : Int) by omega]; exact (tk_31 (t := u) (c := i) (by omega)).2 e3)) rfl ?_
          refine fx_z_ne_F (pF := 38) rfl (by omega) rfl (by omega) ?_
          refine am_ev.step (pc' := 39) rfl rfl ?_
          refine am_ev.step (pc' := 43) rfl rfl ?_
          refine am_ev.step (pc' := 44) (ls' := [.ref E, iv ((i : Int)), iv 1, am_ph]) rfl rfl ?_
          refine am_ev.step (pc' := 45) rfl rfl ?_
          refine am_ev.step (pc' := 46) rfl rfl ?_
          refine fx_add (p' := 47) (e := ((i : Int) + 2)) rfl rfl (by omega) ?_
          refine am_ev.step (pc' := 48) rfl rfl ?_
          refine ax_gf (p' := 51) rfl rfl OE x3 ?_
          refine fx_c_ge_T (pT := 71) rfl (by omega) (by omega) rfl (by omega) ?_
          refine am_ev.step (pc' := 72) rfl rfl ?_
          refine am_ev.step (pc' := 73) (ls' := [.ref E, iv ((i : Int)), iv 1, iv 0]) rfl rfl ?_
          refine am_ev.step (pc' := 74) rfl rfl ?_
          refine ax_gf (p' := 77) rfl rfl OE x5 ?_
          refine am_ev.step (pc' := 78) rfl rfl ?_
          refine am_ev.step (pc' := 79) rfl rfl ?_
          refine fx_add (p' := 80) (e := ((i : Int) + 1)) rfl rfl (by omega) ?_
          refine ax_call (z := 31) (p' := 83) (as := [_, _]) rfl (Or.inl ⟨_, rfl⟩) rfl rfl rfl rfl rfl rfl rfl rfl (show am_ev _ 31 0 (am_ent [.int u, iv ((i : Int) + 1)] 2) [] _ (some (iv 0), _) from (by rw [show ((i : Int) + 1) = (((i + 1) : Nat) : Int) by omega]; exact (tk_31 (t := u) (c := (i + 1)) (by omega)).2 e2)) rfl ?_
          refine fx_z_ne_F (pF := 86) rfl (by omega) rfl (by omega) ?_
          refine am_ev.step (pc' := 87) rfl rfl ?_
          refine fx_z_eq_F (pF := 90) rfl (by omega) rfl (by omega) ?_
          refine am_ev.step (pc' := 91) rfl rfl ?_
          refine fx_z_eq_T (pT := 98) rfl (by omega) rfl (by omega) ?_
          refine am_ev.step (pc' := 99) rfl rfl ?_
          exact fx_reti rfl rfl rfl
theorem ly_61b (S : fS h) (hi : i ≤ 29) (hj : j ≤ 29) (v1 : h.2.2.2 58 (j + 1) = iv a1) (v2 : h.2.2.2 59 (j + 1) = iv a2) (v3 : h.2.2.2 58 i = iv f0) (v4 : h.2.2.2 59 i = iv s0) (b1 : 0 ≤ a1 ∧ a1 ≤ 100) (b2 : 0 ≤ a2 ∧ a2 ≤ 200000) (b3 : 0 ≤ f0 ∧ f0 ≤ 100) (b4 : 0 ≤ s0 ∧ s0 ≤ 200000) (b5 : 0 ≤ q ∧ q ≤ 3600) (c : f0 = 0 ∨ a1 + 1 < f0 ∨ (a1 + 1 = f0 ∧ a2 + q < s0)) : am_ev d 61 0 (am_ent [.ref 53, iv ((i : Int)), iv ((j : Int)), iv (q)] 6) [] h (none, (am_put (am_put (am_put h 58 i (iv (a1 + 1))) 59 i (iv (a2 + q))) 60 i (iv ((j : Int) + 1)))) := by
  show am_ev d 61 0 [.ref 53, iv ((i : Int)), iv ((j : Int)), iv (q), am_ph, am_ph] [] h _
  refine am_ev.step (pc' := 1) rfl rfl ?_
  refine ax_gf (p' := 4) rfl rfl (S.ob rfl) (S.rf rfl rfl) ?_
  refine am_ev.step (pc' := 5) rfl rfl ?_
  refine am_ev.step (pc' := 6) rfl rfl ?_
  refine fx_add (p' := 7) (e := ((j : Int) + 1)) rfl rfl (by omega) ?_
  refine ax_iaload (p' := 8) rfl rfl (S.rd (k := (j + 1)) rfl rfl rfl rfl (by omega) (by omega) v1) ?_
  refine am_ev.step (pc' := 9) rfl rfl ?_
  refine fx_add (p' := 10) (e := (a1 + 1)) rfl rfl (by omega) ?_
  refine am_ev.step (pc' := 12) (ls' := [.ref 53, iv ((i : Int)), iv ((j : Int)), iv (q), iv (a1 + 1), am_ph]) rfl rfl ?_
  refine am_ev.step (pc' := 13) rfl rfl ?_
  refine ax_gf (p' := 16) rfl rfl (S.ob rfl) (S.rf rfl rfl) ?_
  refine am_ev.step (pc' := 17) rfl rfl ?_
  refine am_ev.step (pc' := 18) rfl rfl ?_
  refine fx_add (p' := 19) (e := ((j : Int) + 1)) rfl rfl (by omega) ?_
  refine ax_iaload (p' := 20) rfl rfl (S.rd (k := (j + 1)) rfl rfl rfl rfl (by omega) (by omega) v2) ?_
  refine am_ev.step (pc' := 21) rfl rfl ?_
  refine fx_add (p' := 22) (e := (a2 + q)) rfl rfl (by omega) ?_
  refine am_ev.step (pc' := 24) (ls' := [.ref 53, iv ((i : Int)), iv ((j : Int)), iv (q), iv (a1 + 1), iv (a2 + q)]) rfl rfl ?_
  refine am_ev.step (pc' := 25) rfl rfl ?_
  refine ax_gf (p' := 28) rfl rfl (S.ob rfl) (S.rf rfl rfl) ?_
  refine am_ev.step (pc' := 29) rfl rfl ?_
  refine ax_iaload (p' := 30) rfl rfl (S.rd (k := i) rfl rfl rfl rfl rfl (by omega) v3) ?_
  refine fx_z_eq (pT := 66) (pF := 33) rfl (by omega) rfl rfl (fun c1 => ?_) (fun c1 => ?_)
  · refine am_ev.step (pc' := 67) rfl rfl ?_
    refine ax_gf (p' := 70) rfl rfl (S.ob rfl) (S.rf rfl rfl) ?_
    refine am_ev.step (pc' := 71) rfl rfl ?_
    refine am_ev.step (pc' := 73) rfl rfl ?_
    refine ax_iastore (p' := 74) rfl rfl (S.wr (k := i) rfl rfl rfl rfl (by omega)) ?_
    refine am_ev.step (pc' := 75) rfl rfl ?_
    refine ax_gf (p' := 78) rfl rfl (fO (S.ob rfl)) (ax_put_o (Or.inl (by decide)) (S.rf rfl rfl)) ?_
    refine am_ev.step (pc' := 79) rfl rfl ?_
    refine am_ev.step (pc' := 81) rfl rfl ?_
    refine ax_iastore (p' := 82) rfl rfl ((S.pa rfl).wr (k := i) rfl rfl rfl rfl (by omega)) ?_
    refine am_ev.step (pc' := 83) rfl rfl ?_
    refine ax_gf (p' := 86) rfl rfl (fO (fO (S.ob rfl))) (ax_put_o (Or.inl (by decide)) (ax_put_o (Or.inl (by decide)) (S.rf rfl rfl))) ?_
    refine am_ev.step (pc' := 87) rfl rfl ?_
    refine am_ev.step (pc' := 88) rfl rfl ?_
    refine am_ev.step (pc' := 89) rfl rfl ?_
    refine fx_add (p' := 90) (e := ((j : Int) + 1)) rfl rfl (by omega) ?_
    refine ax_iastore (p' := 91) rfl rfl (((S.pa rfl).pa rfl).wr (k := i) rfl rfl rfl rfl (by omega)) ?_
    exact am_ev.retv rfl rfl
  · refine am_ev.step (pc' := 35) rfl rfl ?_
    refine am_ev.step (pc' := 36) rfl rfl ?_
    refine ax_gf (p' := 39) rfl rfl (S.ob rfl) (S.rf rfl rfl) ?_
    refine am_ev.step (pc' := 40) rfl rfl ?_
    refine ax_iaload (p' := 41) rfl rfl (S.rd (k := i) rfl rfl rfl rfl rfl (by omega) v3) ?_
    refine fx_c_lt (pT := 66) (pF := 44) rfl (by omega) (by omega) rfl rfl (fun c2 => ?_) (fun c2 => ?_)
    · refine am_ev.step (pc' := 67) rfl rfl ?_
      refine ax_gf (p' := 70) rfl rfl (S.ob rfl) (S.rf rfl rfl) ?_
      refine am_ev.step (pc' := 71) rfl rfl ?_
      refine am_ev.step (pc' := 73) rfl rfl ?_
      refine ax_iastore (p' := 74) rfl rfl (S.wr (k := i) rfl rfl rfl rfl (by omega)) ?_
      refine am_ev.step (pc' := 75) rfl rfl ?_
      refine ax_gf (p' := 78) rfl rfl (fO (S.ob rfl)) (ax_put_o (Or.inl (by decide)) (S.rf rfl rfl)) ?_
      refine am_ev.step (pc' := 79) rfl rfl ?_
      refine am_ev.step (pc' := 81) rfl rfl ?_
      refine ax_iastore (p' := 82) rfl rfl ((S.pa rfl).wr (k := i) rfl rfl rfl rfl (by omega)) ?_
      refine am_ev.step (pc' := 83) rfl rfl ?_
      refine ax_gf (p' := 86) rfl rfl (fO (fO (S.ob rfl))) (ax_put_o (Or.inl (by decide)) (ax_put_o (Or.inl (by decide)) (S.rf rfl rfl))) ?_
      refine am_ev.step (pc' := 87) rfl rfl ?_
      refine am_ev.step (pc' := 88) rfl rfl ?_
      refine am_ev.step (pc' := 89) rfl rfl ?_
      refine fx_add (p' := 90) (e := ((j : Int) + 1)) rfl rfl (by omega) ?_
      refine ax_iastore (p' := 91) rfl rfl (((S.pa rfl).pa rfl).wr (k := i) rfl rfl rfl rfl (by omega)) ?_
      exact am_ev.retv rfl rfl
    · refine am_ev.step (pc' := 46) rfl rfl ?_
      refine am_ev.step (pc' := 47) rfl rfl ?_
      refine ax_gf (p' := 50) rfl rfl (S.ob rfl) (S.rf rfl rfl) ?_
      refine am_ev.step (pc' := 51) rfl rfl ?_
      refine ax_iaload (p' := 52) rfl rfl (S.rd (k := i) rfl rfl rfl rfl rfl (by omega) v3) ?_
      refine fx_c_ne (pT := 91) (pF := 55) rfl (by omega) (by omega) rfl rfl (fun c3 => ?_) (fun c3 => ?_)
      · exfalso
        omega
      · refine am_ev.step (pc' := 57) rfl rfl ?_
        refine am_ev.step (pc' := 58) rfl rfl ?_
        refine ax_gf (p' := 61) rfl rfl (S.ob rfl) (S.rf rfl rfl) ?_
        refine am_ev.step (pc' := 62) rfl rfl ?_
        refine ax_iaload (p' := 63) rfl rfl (S.rd (k := i) rfl rfl rfl rfl rfl (by omega) v4) ?_
        refine fx_c_ge (pT := 91) (pF := 66) rfl (by omega) (by omega) rfl rfl (fun c4 => ?_) (fun c4 => ?_)
        · exfalso
          omega
        · refine am_ev.step (pc' := 67) rfl rfl ?_
          refine ax_gf (p' := 70) rfl rfl (S.ob rfl) (S.rf rfl rfl) ?_
          refine am_ev.step (pc' := 71) rfl rfl ?_
          refine am_ev.step (pc' := 73) rfl rfl ?_
          refine ax_iastore (p' := 74) rfl rfl (S.wr (k := i) rfl rfl rfl rfl (by omega)) ?_
          refine am_ev.step (pc' := 75) rfl rfl ?_
          refine ax_gf (p' := 78) rfl rfl (fO (S.ob rfl)) (ax_put_o (Or.inl (by decide)) (S.rf rfl rfl)) ?_
          refine am_ev.step (pc' := 79) rfl rfl ?_
          refine am_ev.step (pc' := 81) rfl rfl ?_
          refine ax_iastore (p' := 82) rfl rfl ((S.pa rfl).wr (k := i) rfl rfl rfl rfl (by omega)) ?_
          refine am_ev.step (pc' := 83) rfl rfl ?_
          refine ax_gf (p' := 86) rfl rfl (fO (fO (S.ob rfl))) (ax_put_o (Or.inl (by decide)) (ax_put_o (Or.inl (by decide)) (S.rf rfl rfl))) ?_
          refine am_ev.step (pc' := 87) rfl rfl ?_
          refine am_ev.step (pc' := 88) rfl rfl ?_
          refine am_ev.step (pc' := 89) rfl rfl ?_
          refine fx_add (p' := 90) (e := ((j : Int) + 1)) rfl rfl (by omega) ?_
          refine ax_iastore (p' := 91) rfl rfl (((S.pa rfl).pa rfl).wr (k := i) rfl rfl rfl rfl (by omega)) ?_
          exact am_ev.retv rfl rfl
theorem ly_61n (S : fS h) (hi : i ≤ 29) (hj : j ≤ 29) (v1 : h.2.2.2 58 (j + 1) = iv a1) (v2 : h.2.2.2 59 (j + 1) = iv a2) (v3 : h.2.2.2 58 i = iv f0) (v4 : h.2.2.2 59 i = iv s0) (b1 : 0 ≤ a1 ∧ a1 ≤ 100) (b2 : 0 ≤ a2 ∧ a2 ≤ 200000) (b3 : 0 ≤ f0 ∧ f0 ≤ 100) (b4 : 0 ≤ s0 ∧ s0 ≤ 200000) (b5 : 0 ≤ q ∧ q ≤ 3600) (c : ¬ (f0 = 0 ∨ a1 + 1 < f0 ∨ (a1 + 1 = f0 ∧ a2 + q < s0))) : am_ev d 61 0 (am_ent [.ref 53, iv ((i : Int)), iv ((j : Int)), iv (q)] 6) [] h (none, h) := by
  show am_ev d 61 0 [.ref 53, iv ((i : Int)), iv ((j : Int)), iv (q), am_ph, am_ph] [] h _
  refine am_ev.step (pc' := 1) rfl rfl ?_
  refine ax_gf (p' := 4) rfl rfl (S.ob rfl) (S.rf rfl rfl) ?_
  refine am_ev.step (pc' := 5) rfl rfl ?_
  refine am_ev.step (pc' := 6) rfl rfl ?_
  refine fx_add (p' := 7) (e := ((j : Int) + 1)) rfl rfl (by omega) ?_
  refine ax_iaload (p' := 8) rfl rfl (S.rd (k := (j + 1)) rfl rfl rfl rfl (by omega) (by omega) v1) ?_
  refine am_ev.step (pc' := 9) rfl rfl ?_
  refine fx_add (p' := 10) (e := (a1 + 1)) rfl rfl (by omega) ?_
  refine am_ev.step (pc' := 12) (ls' := [.ref 53, iv ((i : Int)), iv ((j : Int)), iv (q), iv (a1 + 1), am_ph]) rfl rfl ?_
  refine am_ev.step (pc' := 13) rfl rfl ?_
  refine ax_gf (p' := 16) rfl rfl (S.ob rfl) (S.rf rfl rfl) ?_
  refine am_ev.step (pc' := 17) rfl rfl ?_
  refine am_ev.step (pc' := 18) rfl rfl ?_
  refine fx_add (p' := 19) (e := ((j : Int) + 1)) rfl rfl (by omega) ?_
  refine ax_iaload (p' := 20) rfl rfl (S.rd (k := (j + 1)) rfl rfl rfl rfl (by omega) (by omega) v2) ?_
  refine am_ev.step (pc' := 21) rfl rfl ?_
  refine fx_add (p' := 22) (e := (a2 + q)) rfl rfl (by omega) ?_
  refine am_ev.step (pc' := 24) (ls' := [.ref 53, iv ((i : Int)), iv ((j : Int)), iv (q), iv (a1 + 1), iv (a2 + q)]) rfl rfl ?_
  refine am_ev.step (pc' := 25) rfl rfl ?_
  refine ax_gf (p' := 28) rfl rfl (S.ob rfl) (S.rf rfl rfl) ?_
  refine am_ev.step (pc' := 29) rfl rfl ?_
  refine ax_iaload (p' := 30) rfl rfl (S.rd (k := i) rfl rfl rfl rfl rfl (by omega) v3) ?_
  refine fx_z_eq (pT := 66) (pF := 33) rfl (by omega) rfl rfl (fun c1 => ?_) (fun c1 => ?_)
  · refine am_ev.step (pc' := 67) rfl rfl ?_
    refine ax_gf (p' := 70) rfl rfl (S.ob rfl) (S.rf rfl rfl) ?_
    refine am_ev.step (pc' := 71) rfl rfl ?_
    refine am_ev.step (pc' := 73) rfl rfl ?_
    refine ax_iastore (p' := 74) rfl rfl (S.wr (k := i) rfl rfl rfl rfl (by omega)) ?_
    refine am_ev.step (pc' := 75) rfl rfl ?_
    refine ax_gf (p' := 78) rfl rfl (fO (S.ob rfl)) (ax_put_o (Or.inl (by decide)) (S.rf rfl rfl)) ?_
    refine am_ev.step (pc' := 79) rfl rfl ?_
    refine am_ev.step (pc' := 81) rfl rfl ?_
    refine ax_iastore (p' := 82) rfl rfl ((S.pa rfl).wr (k := i) rfl rfl rfl rfl (by omega)) ?_
    refine am_ev.step (pc' := 83) rfl rfl ?_
    refine ax_gf (p' := 86) rfl rfl (fO (fO (S.ob rfl))) (ax_put_o (Or.inl (by decide)) (ax_put_o (Or.inl (by decide)) (S.rf rfl rfl))) ?_
    refine am_ev.step (pc' := 87) rfl rfl ?_
    refine am_ev.step (pc' := 88) rfl rfl ?_
    refine am_ev.step (pc' := 89) rfl rfl ?_
    refine fx_add (p' := 90) (e := ((j : Int) + 1)) rfl rfl (by omega) ?_
    refine ax_iastore (p' := 91) rfl rfl (((S.pa rfl).pa rfl).wr (k := i) rfl rfl rfl rfl (by omega)) ?_
    exfalso
    omega
  · refine am_ev.step (pc' := 35) rfl rfl ?_
    refine am_ev.step (pc' := 36) rfl rfl ?_
    refine ax_gf (p' := 39) rfl rfl (S.ob rfl) (S.rf rfl rfl) ?_
    refine am_ev.step (pc' := 40) rfl rfl ?_
    refine ax_iaload (p' := 41) rfl rfl (S.rd (k := i) rfl rfl rfl rfl rfl (by omega) v3) ?_
    refine fx_c_lt (pT := 66) (pF := 44) rfl (by omega) (by omega) rfl rfl (fun c2 => ?_) (fun c2 => ?_)
    · refine am_ev.step (pc' := 67) rfl rfl ?_
      refine ax_gf (p' := 70) rfl rfl (S.ob rfl) (S.rf rfl rfl) ?_
      refine am_ev.step (pc' := 71) rfl rfl ?_
      refine am_ev.step (pc' := 73) rfl rfl ?_
      refine ax_iastore (p' := 74) rfl rfl (S.wr (k := i) rfl rfl rfl rfl (by omega)) ?_
      refine am_ev.step (pc' := 75) rfl rfl ?_
      refine ax_gf (p' := 78) rfl rfl (fO (S.ob rfl)) (ax_put_o (Or.inl (by decide)) (S.rf rfl rfl)) ?_
      refine am_ev.step (pc' := 79) rfl rfl ?_
      refine am_ev.step (pc' := 81) rfl rfl ?_
      refine ax_iastore (p' := 82) rfl rfl ((S.pa rfl).wr (k := i) rfl rfl rfl rfl (by omega)) ?_
      refine am_ev.step (pc' := 83) rfl rfl ?_
      refine ax_gf (p' := 86) rfl rfl (fO (fO (S.ob rfl))) (ax_put_o (Or.inl (by decide)) (ax_put_o (Or.inl (by decide)) (S.rf rfl rfl))) ?_
      refine am_ev.step (pc' := 87) rfl rfl ?_
      refine am_ev.step (pc' := 88) rfl rfl ?_
      refine am_ev.step (pc' := 89) rfl rfl ?_
      refine fx_add (p' := 90) (e := ((j : Int) + 1)) rfl rfl (by omega) ?_
      refine ax_iastore (p' := 91) rfl rfl (((S.pa rfl).pa rfl).wr (k := i) rfl rfl rfl rfl (by omega)) ?_
      exfalso
      omega
    · refine am_ev.step (pc' := 46) rfl rfl ?_
      refine am_ev.step (pc' := 47) rfl rfl ?_
      refine ax_gf (p' := 50) rfl rfl (S.ob rfl) (S.rf rfl rfl) ?_
      refine am_ev.step (pc' := 51) rfl rfl ?_
      refine ax_iaload (p' := 52) rfl rfl (S.rd (k := i) rfl rfl rfl rfl rfl (by omega) v3) ?_
      refine fx_c_ne (pT := 91) (pF := 55) rfl (by omega) (by omega) rfl rfl (fun c3 => ?_) (fun c3 => ?_)
      · exact am_ev.retv rfl rfl
      · refine am_ev.step (pc' := 57) rfl rfl ?_
        refine am_ev.step (pc' := 58) rfl rfl ?_
        refine ax_gf (p' := 61) rfl rfl (S.ob rfl) (S.rf rfl rfl) ?_
        refine am_ev.step (pc' := 62) rfl rfl ?_
        refine ax_iaload (p' := 63) rfl rfl (S.rd (k := i) rfl rfl rfl rfl rfl (by omega) v4) ?_
        refine fx_c_ge (pT := 91) (pF := 66) rfl (by omega) (by omega) rfl rfl (fun c4 => ?_) (fun c4 => ?_)
        · exact am_ev.retv rfl rfl
        · refine am_ev.step (pc' := 67) rfl rfl ?_
          refine ax_gf (p' := 70) rfl rfl (S.ob rfl) (S.rf rfl rfl) ?_
          refine am_ev.step (pc' := 71) rfl rfl ?_
          refine am_ev.step (pc' := 73) rfl rfl ?_
          refine ax_iastore (p' := 74) rfl rfl (S.wr (k := i) rfl rfl rfl rfl (by omega)) ?_
          refine am_ev.step (pc' := 75) rfl rfl ?_
          refine ax_gf (p' := 78) rfl rfl (fO (S.ob rfl)) (ax_put_o (Or.inl (by decide)) (S.rf rfl rfl)) ?_
          refine am_ev.step (pc' := 79) rfl rfl ?_
          refine am_ev.step (pc' := 81) rfl rfl ?_
          refine ax_iastore (p' := 82) rfl rfl ((S.pa rfl).wr (k := i) rfl rfl rfl rfl (by omega)) ?_
          refine am_ev.step (pc' := 83) rfl rfl ?_
          refine ax_gf (p' := 86) rfl rfl (fO (fO (S.ob rfl))) (ax_put_o (Or.inl (by decide)) (ax_put_o (Or.inl (by decide)) (S.rf rfl rfl))) ?_
          refine am_ev.step (pc' := 87) rfl rfl ?_
          refine am_ev.step (pc' := 88) rfl rfl ?_
          refine am_ev.step (pc' := 89) rfl rfl ?_
          refine fx_add (p' := 90) (e := ((j : Int) + 1)) rfl rfl (by omega) ?_
          refine ax_iastore (p' := 91) rfl rfl (((S.pa rfl).pa rfl).wr (k := i) rfl rfl rfl rfl (by omega)) ?_
          exfalso
          omega
/-- what has changed is a number -/
def lyi (h H : am_H) : Prop := ∀ c k, H.2.2.2 c k = h.2.2.2 c k ∨ ∃ x : Int32, H.2.2.2 c k = .int x
theorem lyi.rf : lyi h h := fun _ _ => Or.inl rfl
theorem lyi.tr {H K : am_H} (A : lyi h H) (B : lyi H K) : lyi h K := fun c k => by
  rcases B c k with e | e
  · rw [e]
    exact A c k
  · exact Or.inr e
theorem lyi.po {c k : Nat} {v : Int32} : lyi h (am_put h c k (.int v)) := fun c' k' => by
  by_cases e : c' = c ∧ k' = k
  · rw [e.1, e.2]
    exact Or.inr ⟨v, ax_put_s _ _ _⟩
  · exact Or.inl (ax_put_o (by omega) rfl)
/-- nothing but the row's three places has changed -/
def lyX (h H : am_H) (i : Nat) : Prop := fS H ∧ H.1 = h.1 ∧ H.2.2.1 = h.2.2.1 ∧ (∀ c k, (c ≠ 58 ∧ c ≠ 59 ∧ c ≠ 60 ∨ k ≠ i) → H.2.2.2 c k = h.2.2.2 c k) ∧ lyi h H
theorem lyX.rf (S : fS h) : lyX h h i := ⟨S, rfl, rfl, fun _ _ _ => rfl, lyi.rf⟩
theorem lyX.tr {H K : am_H} (A : lyX h H i) (B : lyX H K i) : lyX h K i := ⟨B.1, B.2.1.trans A.2.1, B.2.2.1.trans A.2.2.1, fun c k n => (B.2.2.2.1 c k n).trans (A.2.2.2.1 c k n), A.2.2.2.2.tr B.2.2.2.2⟩
theorem lyX.po {v : Int32} {c : Nat} (S : fS (am_put h c i (.int v))) (hc : c = 58 ∨ c = 59 ∨ c = 60) : lyX h (am_put h c i (.int v)) i := ⟨S, rfl, rfl, fun c' k n => ax_put_o (by omega) rfl, lyi.po⟩
theorem lyE.x {H : am_H} (TE : lyE h E l t u) (X : lyX h H i) : lyE H E l t u := by
  obtain ⟨x1, x2, x3, x4, x5⟩ := TE
  have n : ∀ k, H.2.2.2 E k = h.2.2.2 E k := fun k => X.2.2.2.1 E k (by omega)
  refine ⟨?_, x2, (n 3).trans x3, (n 4).trans x4, (n 5).trans x5⟩
  unfold am_isO at x1 ⊢
  rw [X.2.1, X.2.2.1]
  exact x1
/-- a row of the table stands -/
def lyW (h : am_H) (i : Nat) (a : lyT) : Prop := h.2.2.2 58 i = iv a.1 ∧ h.2.2.2 59 i = iv a.2.1 ∧ h.2.2.2 60 i = iv a.2.2
theorem lyW.x {H : am_H} {a : lyT} {k : Nat} (A : lyW h k a) (X : lyX h H i) (n : k ≠ i) : lyW H k a := ⟨(X.2.2.2.1 58 k (Or.inr n)).trans A.1, (X.2.2.2.1 59 k (Or.inr n)).trans A.2.1, (X.2.2.2.1 60 k (Or.inr n)).trans A.2.2⟩
end LYC
section LYL
variable {d E l i jj k : Nat} {h : am_H} {t u : Int32} {r q zu V : Int} {D : Nat → lyT}
theorem lo_58a (S : fS h) (TE : lyE h E l t u) (hl : l ≤ 30) (hj : jj = i + k) (hjl : jj < l) (hz : zu = lyU u i k) {x : Option Value × am_H} (q9 : am_ev (d + 2) 58 71 [.ref 53, .ref E, iv i, iv r, iv l, iv (lyU u i (k + 1)), iv jj] [] h x) : am_ev (d + 2) 58 39 [.ref 53, .ref E, iv i, iv r, iv l, iv zu, iv jj] [] h x := by
  obtain ⟨OE, hE, x3, x4, x5⟩ := id TE
  have TE : lyE h E l t u := ⟨OE, hE, x3, x4, x5⟩
  have uu := lyU_b (u := u) (i := i) k
  by_cases k0 : 0 < k
  · cases e5 : bt u jj with
    | true =>
      have hU : lyU u i (k + 1) = zu + 2 := by
        show lyU u i k + (if 0 < k ∧ bt u (i + k) = true then 2 else 1) = _
        rw [← hj, if_pos ⟨k0, e5⟩, hz]
      refine am_ev.step (pc' := 41) rfl rfl ?_
      refine am_ev.step (pc' := 43) rfl rfl ?_
      refine fx_c_ge_F (pF := 46) rfl (by omega) (by omega) rfl (by omega) ?_
      refine am_ev.step (pc' := 48) rfl rfl ?_
      refine am_ev.step (pc' := 50) rfl rfl ?_
      refine am_ev.step (pc' := 51) rfl rfl ?_
      refine fx_c_le_F (pF := 54) rfl (by omega) (by omega) rfl (by omega) ?_
      refine am_ev.step (pc' := 55) rfl rfl ?_
      refine am_ev.step (pc' := 57) rfl rfl ?_
      refine ax_call (z := 59) (p' := 60) (as := [_, _]) rfl (Or.inr (Or.inl ⟨_, rfl⟩)) rfl rfl rfl rfl rfl rfl OE rfl (show am_ev (d + 1) 59 0 (am_ent [.ref E, iv jj] 2) [] h (some (iv 1), h) from (e5 ▸ ly_59 (i := jj) S TE (by omega) : am_ev (d + 1) 59 0 (am_ent [.ref E, iv jj] 2) [] h (some (iv (b2 true)), h))) rfl ?_
      refine fx_z_eq_F (pF := 63) rfl (by omega) rfl (by omega) ?_
      refine am_ev.step (pc' := 64) rfl rfl ?_
      refine am_ev.step (pc' := 68) rfl rfl ?_
      refine fx_add (p' := 69) (e := (zu + 2)) rfl rfl (by omega) ?_
      refine am_ev.step (pc' := 71) (ls' := [.ref 53, .ref E, iv ((i : Int)), iv (r), iv ((l : Int)), iv (zu + 2), iv ((jj : Int))]) rfl rfl ?_
      rw [hU] at q9
      exact q9
    | false =>
      have hU : lyU u i (k + 1) = zu + 1 := by
        show lyU u i k + (if 0 < k ∧ bt u (i + k) = true then 2 else 1) = _
        rw [← hj, if_neg (fun z => by rw [e5] at z; exact absurd z.2 (by decide)), hz]
      refine am_ev.step (pc' := 41) rfl rfl ?_
      refine am_ev.step (pc' := 43) rfl rfl ?_
      refine fx_c_ge_F (pF := 46) rfl (by omega) (by omega) rfl (by omega) ?_
      refine am_ev.step (pc' := 48) rfl rfl ?_
      refine am_ev.step (pc' := 50) rfl rfl ?_
      refine am_ev.step (pc' := 51) rfl rfl ?_
      refine fx_c_le_F (pF := 54) rfl (by omega) (by omega) rfl (by omega) ?_
      refine am_ev.step (pc' := 55) rfl rfl ?_
      refine am_ev.step (pc' := 57) rfl rfl ?_
      refine ax_call (z := 59) (p' := 60) (as := [_, _]) rfl (Or.inr (Or.inl ⟨_, rfl⟩)) rfl rfl rfl rfl rfl rfl OE rfl (show am_ev (d + 1) 59 0 (am_ent [.ref E, iv jj] 2) [] h (some (iv 0), h) from (e5 ▸ ly_59 (i := jj) S TE (by omega) : am_ev (d + 1) 59 0 (am_ent [.ref E, iv jj] 2) [] h (some (iv (b2 false)), h))) rfl ?_
      refine fx_z_eq_T (pT := 67) rfl (by omega) rfl (by omega) ?_
      refine am_ev.step (pc' := 68) rfl rfl ?_
      refine fx_add (p' := 69) (e := (zu + 1)) rfl rfl (by omega) ?_
      refine am_ev.step (pc' := 71) (ls' := [.ref 53, .ref E, iv ((i : Int)), iv (r), iv ((l : Int)), iv (zu + 1), iv ((jj : Int))]) rfl rfl ?_
      rw [hU] at q9
      exact q9
  · have hU : lyU u i (k + 1) = zu + 1 := by
      show lyU u i k + (if 0 < k ∧ bt u (i + k) = true then 2 else 1) = _
      rw [if_neg (fun z => k0 z.1), hz]
    refine am_ev.step (pc' := 41) rfl rfl ?_
    refine am_ev.step (pc' := 43) rfl rfl ?_
    refine fx_c_ge_F (pF := 46) rfl (by omega) (by omega) rfl (by omega) ?_
    refine am_ev.step (pc' := 48) rfl rfl ?_
    refine am_ev.step (pc' := 50) rfl rfl ?_
    refine am_ev.step (pc' := 51) rfl rfl ?_
    refine fx_c_le_T (pT := 67) rfl (by omega) (by omega) rfl (by omega) ?_
    refine am_ev.step (pc' := 68) rfl rfl ?_
    refine fx_add (p' := 69) (e := (zu + 1)) rfl rfl (by omega) ?_
    refine am_ev.step (pc' := 71) (ls' := [.ref 53, .ref E, iv ((i : Int)), iv (r), iv ((l : Int)), iv (zu + 1), iv ((jj : Int))]) rfl rfl ?_
    rw [hU] at q9
    exact q9
theorem lo_58r (S : fS h) (TE : lyE h E l t u) (hl : l ≤ 30) (hi : i ≤ jj) (hjl : jj < l) (hV : 0 ≤ V ∧ V ≤ 60) (hr : r ≤ 60) (hr0 : -10 ≤ r) (c : r < V) : am_ev (d + 2) 58 71 [.ref 53, .ref E, iv ((i : Int)), iv (r), iv ((l : Int)), iv (V), iv ((jj : Int))] [] h (none, h) := by
  obtain ⟨OE, hE, x3, x4, x5⟩ := id TE
  have TE : lyE h E l t u := ⟨OE, hE, x3, x4, x5⟩
  refine am_ev.step (pc' := 73) rfl rfl ?_
  refine am_ev.step (pc' := 74) rfl rfl ?_
  refine fx_c_le_F (pF := 77) rfl (by omega) (by omega) rfl (by omega) ?_
  exact am_ev.retv rfl rfl
theorem lo_58l (S : fS h) (TE : lyE h E l t u) (hl : l ≤ 30) (hi : i ≤ jj) (hjl : jj < l) (hV : 0 ≤ V ∧ V ≤ 60) (hr : r ≤ 60) (hr0 : -10 ≤ r) (c : V ≤ r) (c2 : jj + 1 = l) {x : Option Value × am_H} (q9 : am_ev (d + 2) 58 39 [.ref 53, .ref E, iv i, iv r, iv l, iv V, iv ((jj + 1 : Nat) : Int)] [] (am_put (am_put (am_put h 58 i (iv 1)) 59 i (iv 0)) 60 i (iv ((l : Int)))) x) : am_ev (d + 2) 58 71 [.ref 53, .ref E, iv ((i : Int)), iv (r), iv ((l : Int)), iv (V), iv ((jj : Int))] [] h x := by
  obtain ⟨OE, hE, x3, x4, x5⟩ := id TE
  have TE : lyE h E l t u := ⟨OE, hE, x3, x4, x5⟩
  refine am_ev.step (pc' := 73) rfl rfl ?_
  refine am_ev.step (pc' := 74) rfl rfl ?_
  refine fx_c_le_T (pT := 78) rfl (by omega) (by omega) rfl (by omega) ?_
  refine am_ev.step (pc' := 80) rfl rfl ?_
  refine am_ev.step (pc' := 82) rfl rfl ?_
  refine am_ev.step (pc' := 83) rfl rfl ?_
  refine fx_sub (p' := 84) (e := ((l : Int) - 1)) rfl rfl (by omega) ?_
  refine fx_c_ne_F (pF := 87) rfl (by omega) (by omega) rfl (by omega) ?_
  refine am_ev.step (pc' := 88) rfl rfl ?_
  refine ax_gf (p' := 91) rfl rfl (S.ob rfl) (S.rf rfl rfl) ?_
  refine am_ev.step (pc' := 92) rfl rfl ?_
  refine am_ev.step (pc' := 93) rfl rfl ?_
  refine ax_iastore (p' := 94) rfl rfl (S.wr (k := i) rfl rfl rfl rfl (by omega)) ?_
  refine am_ev.step (pc' := 95) rfl rfl ?_
  refine ax_gf (p' := 98) rfl rfl (fO (S.ob rfl)) (ax_put_o (Or.inl (by decide)) (S.rf rfl rfl)) ?_
  refine am_ev.step (pc' := 99) rfl rfl ?_
  refine am_ev.step (pc' := 100) rfl rfl ?_
  refine ax_iastore (p' := 101) rfl rfl ((S.pa rfl).wr (k := i) rfl rfl rfl rfl (by omega)) ?_
  refine am_ev.step (pc' := 102) rfl rfl ?_
  refine ax_gf (p' := 105) rfl rfl (fO (fO (S.ob rfl))) (ax_put_o (Or.inl (by decide)) (ax_put_o (Or.inl (by decide)) (S.rf rfl rfl))) ?_
  refine am_ev.step (pc' := 106) rfl rfl ?_
  refine am_ev.step (pc' := 108) rfl rfl ?_
  refine ax_iastore (p' := 109) rfl rfl (((S.pa rfl).pa rfl).wr (k := i) rfl rfl rfl rfl (by omega)) ?_
  refine am_ev.step (pc' := 149) rfl rfl ?_
  refine fx_inc (p' := 152) (e := ((jj : Int) + 1)) (ls' := [.ref 53, .ref E, iv ((i : Int)), iv (r), iv ((l : Int)), iv (V), iv ((jj : Int) + 1)]) rfl rfl rfl (by omega) rfl ?_
  refine am_ev.step (pc' := 39) rfl rfl ?_
  exact (rr_n ▸ q9)
theorem lo_58m (S : fS h) (TE : lyE h E l t u) (hl : l ≤ 30) (hi : i ≤ jj) (hjl : jj < l) (hV : 0 ≤ V ∧ V ≤ 60) (hr : r ≤ 60) (hr0 : -10 ≤ r) (c : V ≤ r) (c2 : jj + 1 < l) (e6 : lyM t u l jj = false) {x : Option Value × am_H} (q9 : am_ev (d + 2) 58 39 [.ref 53, .ref E, iv i, iv r, iv l, iv V, iv ((jj + 1 : Nat) : Int)] [] h x) : am_ev (d + 2) 58 71 [.ref 53, .ref E, iv ((i : Int)), iv (r), iv ((l : Int)), iv (V), iv ((jj : Int))] [] h x := by
  obtain ⟨OE, hE, x3, x4, x5⟩ := id TE
  have TE : lyE h E l t u := ⟨OE, hE, x3, x4, x5⟩
  refine am_ev.step (pc' := 73) rfl rfl ?_
  refine am_ev.step (pc' := 74) rfl rfl ?_
  refine fx_c_le_T (pT := 78) rfl (by omega) (by omega) rfl (by omega) ?_
  refine am_ev.step (pc' := 80) rfl rfl ?_
  refine am_ev.step (pc' := 82) rfl rfl ?_
  refine am_ev.step (pc' := 83) rfl rfl ?_
  refine fx_sub (p' := 84) (e := ((l : Int) - 1)) rfl rfl (by omega) ?_
  refine fx_c_ne_T (pT := 112) rfl (by omega) (by omega) rfl (by omega) ?_
  refine am_ev.step (pc' := 113) rfl rfl ?_
  refine am_ev.step (pc' := 115) rfl rfl ?_
  refine ax_call (z := 60) (p' := 118) (as := [_, _]) rfl (Or.inr (Or.inl ⟨_, rfl⟩)) rfl rfl rfl rfl rfl rfl OE rfl (show am_ev (d + 1) 60 0 (am_ent [.ref E, iv jj] 4) [] h (some (iv 0), h) from (e6 ▸ ly_60 (d := d) (i := jj) S TE (by omega) hl : am_ev (d + 1) 60 0 (am_ent [.ref E, iv jj] 4) [] h (some (iv (b2 false)), h))) rfl ?_
  refine fx_z_eq_T (pT := 149) rfl (by omega) rfl (by omega) ?_
  refine fx_inc (p' := 152) (e := ((jj : Int) + 1)) (ls' := [.ref 53, .ref E, iv ((i : Int)), iv (r), iv ((l : Int)), iv (V), iv ((jj : Int) + 1)]) rfl rfl rfl (by omega) rfl ?_
  refine am_ev.step (pc' := 39) rfl rfl ?_
  exact (rr_n ▸ q9)
theorem lo_58d {f1 : Int} (S : fS h) (TE : lyE h E l t u) (hl : l ≤ 30) (hi : i ≤ jj) (hjl : jj < l) (hV : 0 ≤ V ∧ V ≤ 60) (hr : r ≤ 60) (hr0 : -10 ≤ r) (c : V ≤ r) (c2 : jj + 1 < l) (e6 : lyM t u l jj = true) (w1 : h.2.2.2 58 (jj + 1) = iv f1) (fb : -5 ≤ f1 ∧ f1 ≤ 100) (fn : f1 ≤ 0) {x : Option Value × am_H} (q9 : am_ev (d + 2) 58 39 [.ref 53, .ref E, iv i, iv r, iv l, iv V, iv ((jj + 1 : Nat) : Int)] [] h x) : am_ev (d + 2) 58 71 [.ref 53, .ref E, iv ((i : Int)), iv (r), iv ((l : Int)), iv (V), iv ((jj : Int))] [] h x := by
  obtain ⟨OE, hE, x3, x4, x5⟩ := id TE
  have TE : lyE h E l t u := ⟨OE, hE, x3, x4, x5⟩
  refine am_ev.step (pc' := 73) rfl rfl ?_
  refine am_ev.step (pc' := 74) rfl rfl ?_
  refine fx_c_le_T (pT := 78) rfl (by omega) (by omega) rfl (by omega) ?_
  refine am_ev.step (pc' := 80) rfl rfl ?_
  refine am_ev.step (pc' := 82) rfl rfl ?_
  refine am_ev.step (pc' := 83) rfl rfl ?_
  refine fx_sub (p' := 84) (e := ((l : Int) - 1)) rfl rfl (by omega) ?_
  refine fx_c_ne_T (pT := 112) rfl (by omega) (by omega) rfl (by omega) ?_
  refine am_ev.step (pc' := 113) rfl rfl ?_
  refine am_ev.step (pc' := 115) rfl rfl ?_
  refine ax_call (z := 60) (p' := 118) (as := [_, _]) rfl (Or.inr (Or.inl ⟨_, rfl⟩)) rfl rfl rfl rfl rfl rfl OE rfl (show am_ev (d + 1) 60 0 (am_ent [.ref E, iv jj] 4) [] h (some (iv 1), h) from (e6 ▸ ly_60 (d := d) (i := jj) S TE (by omega) hl : am_ev (d + 1) 60 0 (am_ent [.ref E, iv jj] 4) [] h (some (iv (b2 true)), h))) rfl ?_
  refine fx_z_eq_F (pF := 121) rfl (by omega) rfl (by omega) ?_
  refine am_ev.step (pc' := 122) rfl rfl ?_
  refine ax_gf (p' := 125) rfl rfl (S.ob rfl) (S.rf rfl rfl) ?_
  refine am_ev.step (pc' := 127) rfl rfl ?_
  refine am_ev.step (pc' := 128) rfl rfl ?_
  refine fx_add (p' := 129) (e := ((jj : Int) + 1)) rfl rfl (by omega) ?_
  refine ax_iaload (p' := 130) rfl rfl (S.rd (k := (jj + 1)) rfl rfl rfl rfl (by omega) (by omega) w1) ?_
  refine fx_z_le_T (pT := 149) rfl (by omega) rfl (by omega) ?_
  refine fx_inc (p' := 152) (e := ((jj : Int) + 1)) (ls' := [.ref 53, .ref E, iv ((i : Int)), iv (r), iv ((l : Int)), iv (V), iv ((jj : Int) + 1)]) rfl rfl rfl (by omega) rfl ?_
  refine am_ev.step (pc' := 39) rfl rfl ?_
  exact (rr_n ▸ q9)
theorem lo_58b {f1 s1 f0 s0 : Int} (S : fS h) (TE : lyE h E l t u) (hl : l ≤ 30) (hi : i ≤ jj) (hjl : jj < l) (hV : 0 ≤ V ∧ V ≤ 60) (hr : r ≤ 60) (hr0 : -10 ≤ r) (c : V ≤ r) (c2 : jj + 1 < l) (e6 : lyM t u l jj = true) (w1 : h.2.2.2 58 (jj + 1) = iv f1) (w2 : h.2.2.2 59 (jj + 1) = iv s1) (w3 : h.2.2.2 58 i = iv f0) (w4 : h.2.2.2 59 i = iv s0) (fb : 0 < f1 ∧ f1 ≤ 100) (bs1 : 0 ≤ s1 ∧ s1 ≤ 200000) (bf0 : 0 ≤ f0 ∧ f0 ≤ 100) (bs0 : 0 ≤ s0 ∧ s0 ≤ 200000) (hq : (r - V) * (r - V) = q) (bq : 0 ≤ q ∧ q ≤ 3600) (c4 : f0 = 0 ∨ f1 + 1 < f0 ∨ (f1 + 1 = f0 ∧ s1 + q < s0)) {x : Option Value × am_H} (q9 : am_ev (d + 2) 58 39 [.ref 53, .ref E, iv i, iv r, iv l, iv V, iv ((jj + 1 : Nat) : Int)] [] (am_put (am_put (am_put h 58 i (iv ((f1 + 1)))) 59 i (iv ((s1 + q)))) 60 i (iv ((jj : Int) + 1))) x) : am_ev (d + 2) 58 71 [.ref 53, .ref E, iv ((i : Int)), iv (r), iv ((l : Int)), iv (V), iv ((jj : Int))] [] h x := by
  obtain ⟨OE, hE, x3, x4, x5⟩ := id TE
  have TE : lyE h E l t u := ⟨OE, hE, x3, x4, x5⟩
  refine am_ev.step (pc' := 73) rfl rfl ?_
  refine am_ev.step (pc' := 74) rfl rfl ?_
  refine fx_c_le_T (pT := 78) rfl (by omega) (by omega) rfl (by omega) ?_
  refine am_ev.step (pc' := 80) rfl rfl ?_
  refine am_ev.step (pc' := 82) rfl rfl ?_
  refine am_ev.step (pc' := 83) rfl rfl ?_
  refine fx_sub (p' := 84) (e := ((l : Int) - 1)) rfl rfl (by omega) ?_
  refine fx_c_ne_T (pT := 112) rfl (by omega) (by omega) rfl (by omega) ?_
  refine am_ev.step (pc' := 113) rfl rfl ?_
  refine am_ev.step (pc' := 115) rfl rfl ?_
  refine ax_call (z := 60) (p' := 118) (as := [_, _]) rfl (Or.inr (Or.inl ⟨_, rfl⟩)) rfl rfl rfl rfl rfl rfl OE rfl (show am_ev (d + 1) 60 0 (am_ent [.ref E, iv jj] 4) [] h (some (iv 1), h) from (e6 ▸ ly_60 (d := d) (i := jj) S TE (by omega) hl : am_ev (d + 1) 60 0 (am_ent [.ref E, iv jj] 4) [] h (some (iv (b2 true)), h))) rfl ?_
  refine fx_z_eq_F (pF := 121) rfl (by omega) rfl (by omega) ?_
  refine am_ev.step (pc' := 122) rfl rfl ?_
  refine ax_gf (p' := 125) rfl rfl (S.ob rfl) (S.rf rfl rfl) ?_
  refine am_ev.step (pc' := 127) rfl rfl ?_
  refine am_ev.step (pc' := 128) rfl rfl ?_
  refine fx_add (p' := 129) (e := ((jj : Int) + 1)) rfl rfl (by omega) ?_
  refine ax_iaload (p' := 130) rfl rfl (S.rd (k := (jj + 1)) rfl rfl rfl rfl (by omega) (by omega) w1) ?_
  refine fx_z_le_F (pF := 133) rfl (by omega) rfl (by omega) ?_
  refine am_ev.step (pc' := 134) rfl rfl ?_
  refine am_ev.step (pc' := 135) rfl rfl ?_
  refine am_ev.step (pc' := 137) rfl rfl ?_
  refine am_ev.step (pc' := 138) rfl rfl ?_
  refine am_ev.step (pc' := 140) rfl rfl ?_
  refine fx_sub (p' := 141) (e := (r - V)) rfl rfl (by omega) ?_
  refine am_ev.step (pc' := 142) rfl rfl ?_
  refine am_ev.step (pc' := 144) rfl rfl ?_
  refine fx_sub (p' := 145) (e := (r - V)) rfl rfl (by omega) ?_
  refine fx_mul (p' := 146) (e := q) rfl rfl hq ?_
  refine ax_call (z := 61) (p' := 149) (as := [_, _, _, _]) rfl (Or.inr (Or.inl ⟨_, rfl⟩)) rfl rfl rfl rfl rfl rfl (S.ob rfl) rfl (ly_61b (i := i) (j := jj) S (by omega) (by omega) w1 w2 w3 w4 (by omega) bs1 bf0 bs0 bq c4) rfl ?_
  refine fx_inc (p' := 152) (e := ((jj : Int) + 1)) (ls' := [.ref 53, .ref E, iv ((i : Int)), iv (r), iv ((l : Int)), iv (V), iv ((jj : Int) + 1)]) rfl rfl rfl (by omega) rfl ?_
  refine am_ev.step (pc' := 39) rfl rfl ?_
  exact (rr_n ▸ q9)
theorem lo_58n {f1 s1 f0 s0 : Int} (S : fS h) (TE : lyE h E l t u) (hl : l ≤ 30) (hi : i ≤ jj) (hjl : jj < l) (hV : 0 ≤ V ∧ V ≤ 60) (hr : r ≤ 60) (hr0 : -10 ≤ r) (c : V ≤ r) (c2 : jj + 1 < l) (e6 : lyM t u l jj = true) (w1 : h.2.2.2 58 (jj + 1) = iv f1) (w2 : h.2.2.2 59 (jj + 1) = iv s1) (w3 : h.2.2.2 58 i = iv f0) (w4 : h.2.2.2 59 i = iv s0) (fb : 0 < f1 ∧ f1 ≤ 100) (bs1 : 0 ≤ s1 ∧ s1 ≤ 200000) (bf0 : 0 ≤ f0 ∧ f0 ≤ 100) (bs0 : 0 ≤ s0 ∧ s0 ≤ 200000) (hq : (r - V) * (r - V) = q) (bq : 0 ≤ q ∧ q ≤ 3600) (c4 : ¬ (f0 = 0 ∨ f1 + 1 < f0 ∨ (f1 + 1 = f0 ∧ s1 + q < s0))) {x : Option Value × am_H} (q9 : am_ev (d + 2) 58 39 [.ref 53, .ref E, iv i, iv r, iv l, iv V, iv ((jj + 1 : Nat) : Int)] [] h x) : am_ev (d + 2) 58 71 [.ref 53, .ref E, iv ((i : Int)), iv (r), iv ((l : Int)), iv (V), iv ((jj : Int))] [] h x := by
  obtain ⟨OE, hE, x3, x4, x5⟩ := id TE
  have TE : lyE h E l t u := ⟨OE, hE, x3, x4, x5⟩
  refine am_ev.step (pc' := 73) rfl rfl ?_
  refine am_ev.step (pc' := 74) rfl rfl ?_
  refine fx_c_le_T (pT := 78) rfl (by omega) (by omega) rfl (by omega) ?_
  refine am_ev.step (pc' := 80) rfl rfl ?_
  refine am_ev.step (pc' := 82) rfl rfl ?_
  refine am_ev.step (pc' := 83) rfl rfl ?_
  refine fx_sub (p' := 84) (e := ((l : Int) - 1)) rfl rfl (by omega) ?_
  refine fx_c_ne_T (pT := 112) rfl (by omega) (by omega) rfl (by omega) ?_
  refine am_ev.step (pc' := 113) rfl rfl ?_
  refine am_ev.step (pc' := 115) rfl rfl ?_
  refine ax_call (z := 60) (p' := 118) (as := [_, _]) rfl (Or.inr (Or.inl ⟨_, rfl⟩)) rfl rfl rfl rfl rfl rfl OE rfl (show am_ev (d + 1) 60 0 (am_ent [.ref E, iv jj] 4) [] h (some (iv 1), h) from (e6 ▸ ly_60 (d := d) (i := jj) S TE (by omega) hl : am_ev (d + 1) 60 0 (am_ent [.ref E, iv jj] 4) [] h (some (iv (b2 true)), h))) rfl ?_
  refine fx_z_eq_F (pF := 121) rfl (by omega) rfl (by omega) ?_
  refine am_ev.step (pc' := 122) rfl rfl ?_
  refine ax_gf (p' := 125) rfl rfl (S.ob rfl) (S.rf rfl rfl) ?_
  refine am_ev.step (pc' := 127) rfl rfl ?_
  refine am_ev.step (pc' := 128) rfl rfl ?_
  refine fx_add (p' := 129) (e := ((jj : Int) + 1)) rfl rfl (by omega) ?_
  refine ax_iaload (p' := 130) rfl rfl (S.rd (k := (jj + 1)) rfl rfl rfl rfl (by omega) (by omega) w1) ?_
  refine fx_z_le_F (pF := 133) rfl (by omega) rfl (by omega) ?_
  refine am_ev.step (pc' := 134) rfl rfl ?_
  refine am_ev.step (pc' := 135) rfl rfl ?_
  refine am_ev.step (pc' := 137) rfl rfl ?_
  refine am_ev.step (pc' := 138) rfl rfl ?_
  refine am_ev.step (pc' := 140) rfl rfl ?_
  refine fx_sub (p' := 141) (e := (r - V)) rfl rfl (by omega) ?_
  refine am_ev.step (pc' := 142) rfl rfl ?_
  refine am_ev.step (pc' := 144) rfl rfl ?_
  refine fx_sub (p' := 145) (e := (r - V)) rfl rfl (by omega) ?_
  refine fx_mul (p' := 146) (e := q) rfl rfl hq ?_
  refine ax_call (z := 61) (p' := 149) (as := [_, _, _, _]) rfl (Or.inr (Or.inl ⟨_, rfl⟩)) rfl rfl rfl rfl rfl rfl (S.ob rfl) rfl (ly_61n (i := i) (j := jj) S (by omega) (by omega) w1 w2 w3 w4 (by omega) bs1 bf0 bs0 bq c4) rfl ?_
  refine fx_inc (p' := 152) (e := ((jj : Int) + 1)) (ls' := [.ref 53, .ref E, iv ((i : Int)), iv (r), iv ((l : Int)), iv (V), iv ((jj : Int) + 1)]) rfl rfl rfl (by omega) rfl ?_
  refine am_ev.step (pc' := 39) rfl rfl ?_
  exact (rr_n ▸ q9)
theorem lo_58z (S : fS h) (hl : l ≤ 30) (c : jj = l) : am_ev (d + 2) 58 39 [.ref 53, .ref E, iv ((i : Int)), iv (r), iv ((l : Int)), iv (zu), iv ((jj : Int))] [] h (none, h) := by
  refine am_ev.step (pc' := 41) rfl rfl ?_
  refine am_ev.step (pc' := 43) rfl rfl ?_
  refine fx_c_ge_T (pT := 155) rfl (by omega) (by omega) rfl (by omega) ?_
  exact am_ev.retv rfl rfl
theorem lyW.put3 {f s z : Int} (S : fS h) : fS (am_put (am_put (am_put h 58 i (iv f)) 59 i (iv s)) 60 i (iv z)) ∧ lyX h (am_put (am_put (am_put h 58 i (iv f)) 59 i (iv s)) 60 i (iv z)) i := by
  have S1 : fS (am_put h 58 i (iv f)) := S.pa rfl
  have S2 : fS (am_put (am_put h 58 i (iv f)) 59 i (iv s)) := S1.pa rfl
  have S3 : fS (am_put (am_put (am_put h 58 i (iv f)) 59 i (iv s)) 60 i (iv z)) := S2.pa rfl
  exact ⟨S3, ((lyX.po S1 (Or.inl rfl)).tr (lyX.po S2 (Or.inr (Or.inl rfl)))).tr (lyX.po S3 (Or.inr (Or.inr rfl)))⟩
theorem lyW.of3 {f s : Int} {z : Nat} : lyW (am_put (am_put (am_put h 58 i (iv f)) 59 i (iv s)) 60 i (iv (z : Int))) i (f, s, z) := ⟨ax_put_o (Or.inl (by decide)) (ax_put_o (Or.inl (by decide)) (ax_put_s _ _ _)), ax_put_o (Or.inl (by decide)) (ax_put_s _ _ _), ax_put_s _ _ _⟩
theorem lo_58 {n : Nat} (hl : l ≤ 30) (hn : n ≤ 30) (hr : r ≤ 60) (hr0 : -10 ≤ r) (O : lyO D n l) : ∀ (m k jj : Nat) (h : am_H) (zu : Int), jj = i + k → jj + m = l → zu = lyU u i k → fS h → lyE h E l t u → lyW h i (lyR t u l r D i k) → (∀ j, i < j → j < l → lyW h j (D j)) → ∃ H, am_ev (d + 2) 58 39 [.ref 53, .ref E, iv i, iv r, iv l, iv zu, iv jj] [] h (none, H) ∧ lyX h H i ∧ lyW H i (lyR t u l r D i (k + m))
  | 0, k, jj, h, zu, hj, hm, hz, S, TE, A, B => ⟨h, lo_58z S hl (by omega), lyX.rf S, A⟩
  | m + 1, k, jj, h, zu, hj, hm, hz, S, TE, A, B => by
    have hjl : jj < l := by omega
    have uu := lyU_b (u := u) (i := i) (k + 1)
    have rb := lyR_b (t := t) (u := u) (i := i) O hr k (by omega)
    have e1 : lyR t u l r D i (k + 1) = lyC t u l r D i k (lyR t u l r D i k) := rfl
    have km : k + (m + 1) = k + 1 + m := by omega
    obtain ⟨A1, A2, A3⟩ := A
    by_cases c1 : lyU u i (k + 1) ≤ r
    · by_cases c2 : jj + 1 = l
      · have e2 : lyR t u l r D i (k + 1) = (1, 0, l) := by
          rw [e1]
          unfold lyC
          rw [if_pos c1, ← hj, if_pos c2]
        obtain ⟨S3, X3⟩ := lyW.put3 (i := i) (f := 1) (s := 0) (z := (l : Int)) S
        obtain ⟨H, g1, g2, g3⟩ := lo_58 hl hn hr hr0 O m (k + 1) (jj + 1) _ (lyU u i (k + 1)) (by omega) (by omega) rfl S3 (TE.x X3) (e2 ▸ lyW.of3) (fun j j1 j2 => (B j j1 j2).x X3 (by omega))
        exact ⟨H, lo_58a S TE hl hj hjl hz (lo_58l S TE hl (by omega) hjl (by omega) hr hr0 c1 c2 g1), X3.tr g2, km ▸ g3⟩
      · have c2' : jj + 1 < l := by omega
        have o := O (jj + 1)
        obtain ⟨w1, w2, w3⟩ := B (jj + 1) (by omega) c2'
        cases e6 : lyM t u l jj with
        | false =>
          have e2 : lyR t u l r D i (k + 1) = lyR t u l r D i k := by
            rw [e1]
            unfold lyC
            rw [if_pos c1, ← hj, if_neg c2, if_neg (fun z => by rw [e6] at z; exact absurd z.1 (by decide))]
          obtain ⟨H, g1, g2, g3⟩ := lo_58 hl hn hr hr0 O m (k + 1) (jj + 1) h (lyU u i (k + 1)) (by omega) (by omega) rfl S TE (e2 ▸ ⟨A1, A2, A3⟩) B
          exact ⟨H, lo_58a S TE hl hj hjl hz (lo_58m S TE hl (by omega) hjl (by omega) hr hr0 c1 c2' e6 g1), g2, km ▸ g3⟩
        | true =>
          by_cases c3 : 0 < (D (jj + 1)).1
          · obtain ⟨q, hq⟩ : ∃ q : Int, (r - lyU u i (k + 1)) * (r - lyU u i (k + 1)) = q := ⟨_, rfl⟩
            have bq := ly_sq (a := r - lyU u i (k + 1)) (by omega)
            rw [hq] at bq
            have e2 : lyR t u l r D i (k + 1) = lyB (lyR t u l r D i k) ((D (jj + 1)).1 + 1) ((D (jj + 1)).2.1 + q) (jj + 1) := by
              rw [e1]
              unfold lyC lyS
              rw [if_pos c1, ← hj, if_neg c2, if_pos ⟨e6, c3⟩, hq]
            by_cases c4 : (lyR t u l r D i k).1 = 0 ∨ (D (jj + 1)).1 + 1 < (lyR t u l r D i k).1 ∨ ((D (jj + 1)).1 + 1 = (lyR t u l r D i k).1 ∧ (D (jj + 1)).2.1 + q < (lyR t u l r D i k).2.1)
            · have e2 : lyR t u l r D i (k + 1) = ((D (jj + 1)).1 + 1, (D (jj + 1)).2.1 + q, jj + 1) := e2.trans (if_pos c4)
              obtain ⟨S3, X3⟩ := lyW.put3 (i := i) (f := (D (jj + 1)).1 + 1) (s := (D (jj + 1)).2.1 + q) (z := (jj : Int) + 1) S
              obtain ⟨H, g1, g2, g3⟩ := lo_58 hl hn hr hr0 O m (k + 1) (jj + 1) _ (lyU u i (k + 1)) (by omega) (by omega) rfl S3 (TE.x X3) (e2 ▸ (lyW.of3 (z := jj + 1))) (fun j j1 j2 => (B j j1 j2).x X3 (by omega))
              exact ⟨H, lo_58a S TE hl hj hjl hz (lo_58b S TE hl (by omega) hjl (by omega) hr hr0 c1 c2' e6 w1 w2 A1 A2 (by omega) (by omega) (by omega) (by omega) hq (by omega) c4 g1), X3.tr g2, km ▸ g3⟩
            · have e2 : lyR t u l r D i (k + 1) = lyR t u l r D i k := e2.trans (if_neg c4)
              obtain ⟨H, g1, g2, g3⟩ := lo_58 hl hn hr hr0 O m (k + 1) (jj + 1) h (lyU u i (k + 1)) (by omega) (by omega) rfl S TE (e2 ▸ ⟨A1, A2, A3⟩) B
              exact ⟨H, lo_58a S TE hl hj hjl hz (lo_58n S TE hl (by omega) hjl (by omega) hr hr0 c1 c2' e6 w1 w2 A1 A2 (by omega) (by omega) (by omega) (by omega) hq (by omega) c4 g1), g2, km ▸ g3⟩
          · have e2 : lyR t u l r D i (k + 1) = lyR t u l r D i k := by
              rw [e1]
              unfold lyC
              rw [if_pos c1, ← hj, if_neg c2, if_neg (fun z => c3 z.2)]
            obtain ⟨H, g1, g2, g3⟩ := lo_58 hl hn hr hr0 O m (k + 1) (jj + 1) h (lyU u i (k + 1)) (by omega) (by omega) rfl S TE (e2 ▸ ⟨A1, A2, A3⟩) B
            exact ⟨H, lo_58a S TE hl hj hjl hz (lo_58d S TE hl (by omega) hjl (by omega) hr hr0 c1 c2' e6 w1 (by omega) (by omega) g1), g2, km ▸ g3⟩
    · refine ⟨h, lo_58a S TE hl hj hjl hz (lo_58r S TE hl (by omega) hjl (by omega) hr hr0 (by omega)), lyX.rf S, ?_⟩
      rw [lyR_stop (by omega) (m + 1)]
      exact ⟨A1, A2, A3⟩
/-- the best pages from a line on -/
theorem ly_58 {n : Nat} (S : fS h) (TE : lyE h E l t u) (hl : l ≤ 30) (hi : i < l) (hn : n ≤ 30) (hr : r ≤ 60) (hr0 : -10 ≤ r) (O : lyO D n l) (B : ∀ j, i < j → j < l → lyW h j (D j)) : ∃ H, am_ev (d + 2) 58 0 (am_ent [.ref 53, .ref E, iv i, iv r] 7) [] h (none, H) ∧ lyX h H i ∧ lyW H i (lyR t u l r D i (l - i)) := by
  obtain ⟨S3, X3⟩ := lyW.put3 (i := i) (f := 0) (s := 0) (z := (l : Int)) S
  obtain ⟨H, g1, g2, g3⟩ := lo_58 (d := d) (t := t) (u := u) hl hn hr hr0 O (l - i) 0 i _ 0 (by omega) (by omega) rfl S3 (TE.x X3) lyW.of3 (fun j j1 j2 => (B j j1 j2).x X3 (by omega))
  rw [Nat.zero_add] at g3
  refine ⟨H, ?_, X3.tr g2, g3⟩
  obtain ⟨OE, hE, x3, x4, x5⟩ := TE
  show am_ev (d + 2) 58 0 [.ref 53, .ref E, iv i, iv r, am_ph, am_ph, am_ph] [] h _
  refine am_ev.step (pc' := 1) rfl rfl ?_
  refine ax_gf (p' := 4) rfl rfl OE x3 ?_
  refine fx_bip (p' := 6) rfl rfl rfl ?_
  refine fx_mn (p' := 9) (e := (l : Int)) rfl (Or.inl ⟨_, rfl⟩) rfl rfl rfl rfl (by omega) (by omega) (fun _ => by omega) (fun _ => by omega) ?_
  refine am_ev.step (pc' := 11) (ls' := [.ref 53, .ref E, iv ((i : Int)), iv (r), iv ((l : Int)), am_ph, am_ph]) rfl rfl ?_
  refine am_ev.step (pc' := 12) rfl rfl ?_
  refine ax_gf (p' := 15) rfl rfl (S.ob rfl) (S.rf rfl rfl) ?_
  refine am_ev.step (pc' := 16) rfl rfl ?_
  refine am_ev.step (pc' := 17) rfl rfl ?_
  refine ax_iastore (p' := 18) rfl rfl (S.wr (k := i) rfl rfl rfl rfl (by omega)) ?_
  refine am_ev.step (pc' := 19) rfl rfl ?_
  refine ax_gf (p' := 22) rfl rfl (fO (S.ob rfl)) (ax_put_o (Or.inl (by decide)) (S.rf rfl rfl)) ?_
  refine am_ev.step (pc' := 23) rfl rfl ?_
  refine am_ev.step (pc' := 24) rfl rfl ?_
  refine ax_iastore (p' := 25) rfl rfl ((S.pa rfl).wr (k := i) rfl rfl rfl rfl (by omega)) ?_
  refine am_ev.step (pc' := 26) rfl rfl ?_
  refine ax_gf (p' := 29) rfl rfl (fO (fO (S.ob rfl))) (ax_put_o (Or.inl (by decide)) (ax_put_o (Or.inl (by decide)) (S.rf rfl rfl))) ?_
  refine am_ev.step (pc' := 30) rfl rfl ?_
  refine am_ev.step (pc' := 32) rfl rfl ?_
  refine ax_iastore (p' := 33) rfl rfl (((S.pa rfl).pa rfl).wr (k := i) rfl rfl rfl rfl (by omega)) ?_
  refine am_ev.step (pc' := 34) rfl rfl ?_
  refine am_ev.step (pc' := 36) (ls' := [.ref 53, .ref E, iv ((i : Int)), iv (r), iv ((l : Int)), iv 0, am_ph]) rfl rfl ?_
  refine am_ev.step (pc' := 37) rfl rfl ?_
  refine am_ev.step (pc' := 39) (ls' := [.ref 53, .ref E, iv ((i : Int)), iv (r), iv ((l : Int)), iv 0, iv ((i : Int))]) rfl rfl ?_
  exact g1
end LYL
