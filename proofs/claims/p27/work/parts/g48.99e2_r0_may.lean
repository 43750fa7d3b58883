/-! DEATHS AND WHO MAY, both sides -/
theorem fx_mx {d y pc p' : Nat} {ls r : List Value} {h : am_H} {x : Option Value × am_H} {em : am_E} {x1 x2 e : Int} (hc : am_at y pc em) (hi : am_isC em.1) (hz : em.2.2.2.1 = 10) (hb : em.2.2.2.2.1 = 0) (hcs : Nat.ble (am_cs r) 8 = true) (hp : pc + 3 = p') (b1 : -2147483648 ≤ x1 ∧ x1 ≤ 2147483647) (b2 : -2147483648 ≤ x2 ∧ x2 ≤ 2147483647) (e1 : x1 < x2 → e = x2) (e2 : ¬ x1 < x2 → e = x1) (q : am_ev (d + 1) y p' ls (iv e :: r) h x) : am_ev (d + 1) y pc ls (iv x2 :: iv x1 :: r) h x := by
  subst hp
  refine am_ev.max hc hi hz hb (Nat.le_of_ble_eq_true hcs) ?_
  by_cases c : x1 < x2
  · rw [if_pos (Int32.lt_iff_toInt_lt.2 (by rw [fx_ti b1, fx_ti b2]; exact c)), ← e1 c]
    exact q
  · rw [if_neg (fun z => c (by have z := Int32.lt_iff_toInt_lt.1 z; rw [fx_ti b1, fx_ti b2] at z; exact z)), ← e2 c]
    exact q
section DTH
variable {h : am_H} {d s : Nat} {x y dy D P z : Int}
theorem w39_5t (r_x : -2147483648 ≤ x ∧ x ≤ 2147483647) (q : 0 ≤ x ∧ x ≤ 5) : am_ev d 39 0 (am_ent [iv (x), iv 5] 2) [] h (some (iv 1), h) := by
  show am_ev d 39 0 [iv (x), iv 5] [] h _
  refine am_ev.step (pc' := 1) rfl rfl ?_
  refine fx_z_lt (pT := 13) (pF := 4) rfl (by omega) rfl rfl (fun c1 => ?_) (fun c1 => ?_)
  · refine am_ev.step (pc' := 14) rfl rfl ?_
    exfalso
    omega
  · refine am_ev.step (pc' := 5) rfl rfl ?_
    refine am_ev.step (pc' := 6) rfl rfl ?_
    refine fx_c_gt (pT := 13) (pF := 9) rfl (by omega) (by omega) rfl rfl (fun c2 => ?_) (fun c2 => ?_)
    · refine am_ev.step (pc' := 14) rfl rfl ?_
      exfalso
      omega
    · refine am_ev.step (pc' := 10) rfl rfl ?_
      refine am_ev.step (pc' := 14) rfl rfl ?_
      exact fx_reti rfl rfl rfl
theorem w39_5f (r_x : -2147483648 ≤ x ∧ x ≤ 2147483647) (q : ¬ (0 ≤ x ∧ x ≤ 5)) : am_ev d 39 0 (am_ent [iv (x), iv 5] 2) [] h (some (iv 0), h) := by
  show am_ev d 39 0 [iv (x), iv 5] [] h _
  refine am_ev.step (pc' := 1) rfl rfl ?_
  refine fx_z_lt (pT := 13) (pF := 4) rfl (by omega) rfl rfl (fun c1 => ?_) (fun c1 => ?_)
  · refine am_ev.step (pc' := 14) rfl rfl ?_
    exact fx_reti rfl rfl rfl
  · refine am_ev.step (pc' := 5) rfl rfl ?_
    refine am_ev.step (pc' := 6) rfl rfl ?_
    refine fx_c_gt (pT := 13) (pF := 9) rfl (by omega) (by omega) rfl rfl (fun c2 => ?_) (fun c2 => ?_)
    · refine am_ev.step (pc' := 14) rfl rfl ?_
      exact fx_reti rfl rfl rfl
    · refine am_ev.step (pc' := 10) rfl rfl ?_
      refine am_ev.step (pc' := 14) rfl rfl ?_
      exfalso
      omega
theorem w39_19t (r_x : -2147483648 ≤ x ∧ x ≤ 2147483647) (q : 0 ≤ x ∧ x ≤ 19) : am_ev d 39 0 (am_ent [iv (x), iv 19] 2) [] h (some (iv 1), h) := by
  show am_ev d 39 0 [iv (x), iv 19] [] h _
  refine am_ev.step (pc' := 1) rfl rfl ?_
  refine fx_z_lt (pT := 13) (pF := 4) rfl (by omega) rfl rfl (fun c1 => ?_) (fun c1 => ?_)
  · refine am_ev.step (pc' := 14) rfl rfl ?_
    exfalso
    omega
  · refine am_ev.step (pc' := 5) rfl rfl ?_
    refine am_ev.step (pc' := 6) rfl rfl ?_
    refine fx_c_gt (pT := 13) (pF := 9) rfl (by omega) (by omega) rfl rfl (fun c2 => ?_) (fun c2 => ?_)
    · refine am_ev.step (pc' := 14) rfl rfl ?_
      exfalso
      omega
    · refine am_ev.step (pc' := 10) rfl rfl ?_
      refine am_ev.step (pc' := 14) rfl rfl ?_
      exact fx_reti rfl rfl rfl
theorem w39_19f (r_x : -2147483648 ≤ x ∧ x ≤ 2147483647) (q : ¬ (0 ≤ x ∧ x ≤ 19)) : am_ev d 39 0 (am_ent [iv (x), iv 19] 2) [] h (some (iv 0), h) := by
  show am_ev d 39 0 [iv (x), iv 19] [] h _
  refine am_ev.step (pc' := 1) rfl rfl ?_
  refine fx_z_lt (pT := 13) (pF := 4) rfl (by omega) rfl rfl (fun c1 => ?_) (fun c1 => ?_)
  · refine am_ev.step (pc' := 14) rfl rfl ?_
    exact fx_reti rfl rfl rfl
  · refine am_ev.step (pc' := 5) rfl rfl ?_
    refine am_ev.step (pc' := 6) rfl rfl ?_
    refine fx_c_gt (pT := 13) (pF := 9) rfl (by omega) (by omega) rfl rfl (fun c2 => ?_) (fun c2 => ?_)
    · refine am_ev.step (pc' := 14) rfl rfl ?_
      exact fx_reti rfl rfl rfl
    · refine am_ev.step (pc' := 10) rfl rfl ?_
      refine am_ev.step (pc' := 14) rfl rfl ?_
      exfalso
      omega
theorem w39_29999t (r_x : -2147483648 ≤ x ∧ x ≤ 2147483647) (q : 0 ≤ x ∧ x ≤ 29999) : am_ev d 39 0 (am_ent [iv (x), iv 29999] 2) [] h (some (iv 1), h) := by
  show am_ev d 39 0 [iv (x), iv 29999] [] h _
  refine am_ev.step (pc' := 1) rfl rfl ?_
  refine fx_z_lt (pT := 13) (pF := 4) rfl (by omega) rfl rfl (fun c1 => ?_) (fun c1 => ?_)
  · refine am_ev.step (pc' := 14) rfl rfl ?_
    exfalso
    omega
  · refine am_ev.step (pc' := 5) rfl rfl ?_
    refine am_ev.step (pc' := 6) rfl rfl ?_
    refine fx_c_gt (pT := 13) (pF := 9) rfl (by omega) (by omega) rfl rfl (fun c2 => ?_) (fun c2 => ?_)
    · refine am_ev.step (pc' := 14) rfl rfl ?_
      exfalso
      omega
    · refine am_ev.step (pc' := 10) rfl rfl ?_
      refine am_ev.step (pc' := 14) rfl rfl ?_
      exact fx_reti rfl rfl rfl
theorem w39_29999f (r_x : -2147483648 ≤ x ∧ x ≤ 2147483647) (q : ¬ (0 ≤ x ∧ x ≤ 29999)) : am_ev d 39 0 (am_ent [iv (x), iv 29999] 2) [] h (some (iv 0), h) := by
  show am_ev d 39 0 [iv (x), iv 29999] [] h _
  refine am_ev.step (pc' := 1) rfl rfl ?_
  refine fx_z_lt (pT := 13) (pF := 4) rfl (by omega) rfl rfl (fun c1 => ?_) (fun c1 => ?_)
  · refine am_ev.step (pc' := 14) rfl rfl ?_
    exact fx_reti rfl rfl rfl
  · refine am_ev.step (pc' := 5) rfl rfl ?_
    refine am_ev.step (pc' := 6) rfl rfl ?_
    refine fx_c_gt (pT := 13) (pF := 9) rfl (by omega) (by omega) rfl rfl (fun c2 => ?_) (fun c2 => ?_)
    · refine am_ev.step (pc' := 14) rfl rfl ?_
      exact fx_reti rfl rfl rfl
    · refine am_ev.step (pc' := 10) rfl rfl ?_
      refine am_ev.step (pc' := 14) rfl rfl ?_
      exfalso
      omega
theorem w216t (r_x : -2147483648 ≤ x ∧ x ≤ 2147483647) (q : 0 ≤ x ∧ x ≤ 29999) : am_ev (d + 1) 216 0 (am_ent [iv (x)] 1) [] h (some (iv 1), h) := by
  show am_ev (d + 1) 216 0 [iv (x)] [] h _
  refine am_ev.step (pc' := 1) rfl rfl ?_
  refine am_ev.step (pc' := 2) rfl rfl ?_
  refine am_ev.step (pc' := 3) rfl rfl ?_
  refine am_ev.step (pc' := 6) rfl rfl ?_
  refine ax_call (z := 165) (p' := 9) (as := [_, _, _]) rfl (Or.inl ⟨_, rfl⟩) rfl rfl rfl rfl rfl rfl rfl rfl ((md_inN (l := 0) (g := 29999) (by decide) (by decide) r_x).1 q) rfl ?_
  exact fx_reti rfl rfl rfl
theorem w216f (r_x : -2147483648 ≤ x ∧ x ≤ 2147483647) (q : ¬ (0 ≤ x ∧ x ≤ 29999)) : am_ev (d + 1) 216 0 (am_ent [iv (x)] 1) [] h (some (iv 0), h) := by
  show am_ev (d + 1) 216 0 [iv (x)] [] h _
  refine am_ev.step (pc' := 1) rfl rfl ?_
  refine am_ev.step (pc' := 2) rfl rfl ?_
  refine am_ev.step (pc' := 3) rfl rfl ?_
  refine am_ev.step (pc' := 6) rfl rfl ?_
  refine ax_call (z := 165) (p' := 9) (as := [_, _, _]) rfl (Or.inl ⟨_, rfl⟩) rfl rfl rfl rfl rfl rfl rfl rfl ((md_inN (l := 0) (g := 29999) (by decide) (by decide) r_x).2 q) rfl ?_
  exact fx_reti rfl rfl rfl
theorem w219t (r_x : -2147483648 ≤ x ∧ x ≤ 2147483647) (q : 0 ≤ x ∧ x ≤ 5) : am_ev (d + 1) 219 0 (am_ent [iv (x)] 1) [] h (some (iv 1), h) := by
  show am_ev (d + 1) 219 0 [iv (x)] [] h _
  refine am_ev.step (pc' := 1) rfl rfl ?_
  refine am_ev.step (pc' := 2) rfl rfl ?_
  refine am_ev.step (pc' := 3) rfl rfl ?_
  refine am_ev.step (pc' := 6) rfl rfl ?_
  refine ax_call (z := 165) (p' := 9) (as := [_, _, _]) rfl (Or.inl ⟨_, rfl⟩) rfl rfl rfl rfl rfl rfl rfl rfl ((md_inN (l := 0) (g := 5) (by decide) (by decide) r_x).1 q) rfl ?_
  exact fx_reti rfl rfl rfl
theorem w219f (r_x : -2147483648 ≤ x ∧ x ≤ 2147483647) (q : ¬ (0 ≤ x ∧ x ≤ 5)) : am_ev (d + 1) 219 0 (am_ent [iv (x)] 1) [] h (some (iv 0), h) := by
  show am_ev (d + 1) 219 0 [iv (x)] [] h _
  refine am_ev.step (pc' := 1) rfl rfl ?_
  refine am_ev.step (pc' := 2) rfl rfl ?_
  refine am_ev.step (pc' := 3) rfl rfl ?_
  refine am_ev.step (pc' := 6) rfl rfl ?_
  refine ax_call (z := 165) (p' := 9) (as := [_, _, _]) rfl (Or.inl ⟨_, rfl⟩) rfl rfl rfl rfl rfl rfl rfl rfl ((md_inN (l := 0) (g := 5) (by decide) (by decide) r_x).2 q) rfl ?_
  exact fx_reti rfl rfl rfl
theorem w186t (r_x : -2147483648 ≤ x ∧ x ≤ 2147483647) (q : 0 ≤ x ∧ x ≤ 19) : am_ev (d + 1) 186 0 (am_ent [iv (x)] 1) [] h (some (iv 1), h) := by
  show am_ev (d + 1) 186 0 [iv (x)] [] h _
  refine am_ev.step (pc' := 1) rfl rfl ?_
  refine am_ev.step (pc' := 2) rfl rfl ?_
  refine am_ev.step (pc' := 3) rfl rfl ?_
  refine am_ev.step (pc' := 6) rfl rfl ?_
  refine ax_call (z := 165) (p' := 9) (as := [_, _, _]) rfl (Or.inl ⟨_, rfl⟩) rfl rfl rfl rfl rfl rfl rfl rfl ((md_inN (l := 0) (g := 19) (by decide) (by decide) r_x).1 q) rfl ?_
  exact fx_reti rfl rfl rfl
theorem w186f (r_x : -2147483648 ≤ x ∧ x ≤ 2147483647) (q : ¬ (0 ≤ x ∧ x ≤ 19)) : am_ev (d + 1) 186 0 (am_ent [iv (x)] 1) [] h (some (iv 0), h) := by
  show am_ev (d + 1) 186 0 [iv (x)] [] h _
  refine am_ev.step (pc' := 1) rfl rfl ?_
  refine am_ev.step (pc' := 2) rfl rfl ?_
  refine am_ev.step (pc' := 3) rfl rfl ?_
  refine am_ev.step (pc' := 6) rfl rfl ?_
  refine ax_call (z := 165) (p' := 9) (as := [_, _, _]) rfl (Or.inl ⟨_, rfl⟩) rfl rfl rfl rfl rfl rfl rfl rfl ((md_inN (l := 0) (g := 19) (by decide) (by decide) r_x).2 q) rfl ?_
  exact fx_reti rfl rfl rfl
/-- from which day a poet is dead, by the latest of the first k deaths told by a day; -1 if none -/
def dl (X Z Y : Nat → Int) (P D : Int) : Nat → Int
  | 0 => -1
  | k + 1 => if X k = P ∧ Y k ≤ D then Z k else dl X Z Y P D k
/-- the bounds of deaths -/
def dB (X Z Y : Nat → Int) (n : Nat) : Prop := ∀ i, i < n → 0 ≤ X i ∧ X i ≤ 19 ∧ 0 ≤ Z i ∧ Z i ≤ 29999 ∧ 0 ≤ Y i ∧ Y i ≤ 29999
theorem dl_b {X Z Y : Nat → Int} {P D : Int} : ∀ n, dB X Z Y n → -1 ≤ dl X Z Y P D n ∧ dl X Z Y P D n ≤ 29999
  | 0, _ => ⟨Int.le_refl _, by show (-1 : Int) ≤ 29999; decide⟩
  | n + 1, B => by
    have i1 := dl_b (X := X) (Z := Z) (Y := Y) (P := P) (D := D) n (fun i hi => B i (by omega))
    have i2 := B n (by omega)
    show -1 ≤ (if X n = P ∧ Y n ≤ D then Z n else dl X Z Y P D n) ∧ (if X n = P ∧ Y n ≤ D then Z n else dl X Z Y P D n) ≤ 29999
    split <;> omega
variable {X Z Y : Nat → Int} {n m : Nat}
theorem lo_94 (S : fS h) (r_P : -2147483648 ≤ P ∧ P ≤ 2147483647) (r_D : -2147483648 ≤ D ∧ D ≤ 2147483647) : ∀ (k : Nat) (z : Int), k ≤ 60 → z = (k : Int) - 1 → dB X Z Y k → (∀ i, i < k → h.2.2.2 50 i = iv (X i)) → (∀ i, i < k → h.2.2.2 51 i = iv (Z i)) → (∀ i, i < k → h.2.2.2 52 i = iv (Y i)) → am_ev d 94 7 [.ref 48, iv P, iv D, iv z] [] h (some (iv (dl X Z Y P D k)), h)
  | 0, z, hk, hz, B, gX, gZ, gY => by
    refine am_ev.step (pc' := 8) rfl rfl ?_
    refine fx_z_lt_T (pT := 44) rfl (by omega) rfl (by omega) ?_
    refine am_ev.step (pc' := 45) rfl rfl ?_
    exact fx_reti rfl rfl rfl
  | k + 1, z, hk, hz, B, gX, gZ, gY => by
    have b := B k (by omega)
    have hz : z = (k : Int) := by omega
    subst hz
    by_cases q1 : X k = P
    · by_cases q2 : Y k ≤ D
      · rw [show dl X Z Y P D (k + 1) = Z k from if_pos ⟨q1, q2⟩]
        refine am_ev.step (pc' := 8) rfl rfl ?_
        refine fx_z_lt_F (pF := 11) rfl (by omega) rfl (by omega) ?_
        refine am_ev.step (pc' := 12) rfl rfl ?_
        refine ax_gf (p' := 15) rfl rfl (S.ob rfl) (S.rf rfl rfl) ?_
        refine am_ev.step (pc' := 16) rfl rfl ?_
        refine ax_iaload (p' := 17) rfl rfl (S.rd (k := k) rfl rfl rfl rfl rfl (by omega) (gX k (by omega))) ?_
        refine am_ev.step (pc' := 18) rfl rfl ?_
        refine fx_c_ne_F (pF := 21) rfl (by omega) (by omega) rfl (by omega) ?_
        refine am_ev.step (pc' := 22) rfl rfl ?_
        refine ax_gf (p' := 25) rfl rfl (S.ob rfl) (S.rf rfl rfl) ?_
        refine am_ev.step (pc' := 26) rfl rfl ?_
        refine ax_iaload (p' := 27) rfl rfl (S.rd (k := k) rfl rfl rfl rfl rfl (by omega) (gY k (by omega))) ?_
        refine am_ev.step (pc' := 28) rfl rfl ?_
        refine fx_c_gt_F (pF := 31) rfl (by omega) (by omega) rfl (by omega) ?_
        refine am_ev.step (pc' := 32) rfl rfl ?_
        refine ax_gf (p' := 35) rfl rfl (S.ob rfl) (S.rf rfl rfl) ?_
        refine am_ev.step (pc' := 36) rfl rfl ?_
        refine ax_iaload (p' := 37) rfl rfl (S.rd (k := k) rfl rfl rfl rfl rfl (by omega) (gZ k (by omega))) ?_
        exact fx_reti rfl rfl rfl
      · rw [show dl X Z Y P D (k + 1) = dl X Z Y P D k from if_neg fun w => q2 w.2]
        refine am_ev.step (pc' := 8) rfl rfl ?_
        refine fx_z_lt_F (pF := 11) rfl (by omega) rfl (by omega) ?_
        refine am_ev.step (pc' := 12) rfl rfl ?_
        refine ax_gf (p' := 15) rfl rfl (S.ob rfl) (S.rf rfl rfl) ?_
        refine am_ev.step (pc' := 16) rfl rfl ?_
        refine ax_iaload (p' := 17) rfl rfl (S.rd (k := k) rfl rfl rfl rfl rfl (by omega) (gX k (by omega))) ?_
        refine am_ev.step (pc' := 18) rfl rfl ?_
        refine fx_c_ne_F (pF := 21) rfl (by omega) (by omega) rfl (by omega) ?_
        refine am_ev.step (pc' := 22) rfl rfl ?_
        refine ax_gf (p' := 25) rfl rfl (S.ob rfl) (S.rf rfl rfl) ?_
        refine am_ev.step (pc' := 26) rfl rfl ?_
        refine ax_iaload (p' := 27) rfl rfl (S.rd (k := k) rfl rfl rfl rfl rfl (by omega) (gY k (by omega))) ?_
        refine am_ev.step (pc' := 28) rfl rfl ?_
        refine fx_c_gt_T (pT := 38) rfl (by omega) (by omega) rfl (by omega) ?_
        refine fx_inc (p' := 41) (e := ((k : Int) - 1)) (ls' := [.ref 48, iv (P), iv (D), iv ((k : Int) - 1)]) rfl rfl rfl (by omega) rfl ?_
        refine am_ev.step (pc' := 7) rfl rfl ?_
        exact lo_94 S r_P r_D k _ (by omega) (by omega) (fun i hi => B i (by omega)) (fun i hi => gX i (by omega)) (fun i hi => gZ i (by omega)) (fun i hi => gY i (by omega))
    · rw [show dl X Z Y P D (k + 1) = dl X Z Y P D k from if_neg fun w => q1 w.1]
      refine am_ev.step (pc' := 8) rfl rfl ?_
      refine fx_z_lt_F (pF := 11) rfl (by omega) rfl (by omega) ?_
      refine am_ev.step (pc' := 12) rfl rfl ?_
      refine ax_gf (p' := 15) rfl rfl (S.ob rfl) (S.rf rfl rfl) ?_
      refine am_ev.step (pc' := 16) rfl rfl ?_
      refine ax_iaload (p' := 17) rfl rfl (S.rd (k := k) rfl rfl rfl rfl rfl (by omega) (gX k (by omega))) ?_
      refine am_ev.step (pc' := 18) rfl rfl ?_
      refine fx_c_ne_T (pT := 38) rfl (by omega) (by omega) rfl (by omega) ?_
      refine fx_inc (p' := 41) (e := ((k : Int) - 1)) (ls' := [.ref 48, iv (P), iv (D), iv ((k : Int) - 1)]) rfl rfl rfl (by omega) rfl ?_
      refine am_ev.step (pc' := 7) rfl rfl ?_
      exact lo_94 S r_P r_D k _ (by omega) (by omega) (fun i hi => B i (by omega)) (fun i hi => gX i (by omega)) (fun i hi => gZ i (by omega)) (fun i hi => gY i (by omega))
theorem dt_94 (S : fS h) (r_P : -2147483648 ≤ P ∧ P ≤ 2147483647) (r_D : -2147483648 ≤ D ∧ D ≤ 2147483647) (v5 : h.2.2.2 48 5 = iv n) (hn : n ≤ 60) (B : dB X Z Y n) (gX : ∀ i, i < n → h.2.2.2 50 i = iv (X i)) (gZ : ∀ i, i < n → h.2.2.2 51 i = iv (Z i)) (gY : ∀ i, i < n → h.2.2.2 52 i = iv (Y i)) : am_ev d 94 0 (am_ent [.ref 48, iv P, iv D] 4) [] h (some (iv (dl X Z Y P D n)), h) := by
  show am_ev d 94 0 [.ref 48, iv P, iv D, am_ph] [] h _
  refine am_ev.step (pc' := 1) rfl rfl ?_
  refine ax_gf (p' := 4) rfl rfl (S.ob rfl) v5 ?_
  refine am_ev.step (pc' := 5) rfl rfl ?_
  refine fx_sub (p' := 6) (e := ((n : Int) - 1)) rfl rfl (by omega) ?_
  refine am_ev.step (pc' := 7) (ls' := [.ref 48, iv (P), iv (D), iv ((n : Int) - 1)]) rfl rfl ?_
  exact lo_94 S r_P r_D n _ hn (by omega) B gX gZ gY
theorem lo_221 {l : Int} (S : fS h) (r_P : -2147483648 ≤ P ∧ P ≤ 2147483647) (r_D : -2147483648 ≤ D ∧ D ≤ 2147483647) (v36 : h.2.2.2 78 36 = iv m) (hm : m ≤ 60) (B : dB X Z Y m) (gX : ∀ i, i < m → h.2.2.2 114 i = iv (X i)) (gZ : ∀ i, i < m → h.2.2.2 115 i = iv (Z i)) (gY : ∀ i, i < m → h.2.2.2 116 i = iv (Y i)) : ∀ (n i : Nat) (z zi : Int) (x : Option Value × am_H), i + n = m → z = dl X Z Y P D i → zi = (i : Int) → am_ev d 221 53 [.ref 78, iv P, iv l, iv dy, iv D, iv (dl X Z Y P D m), iv m] [] h x → am_ev d 221 6 [.ref 78, iv P, iv l, iv dy, iv D, iv z, iv zi] [] h x
  | 0, i, z, zi, x, hi, hz, hzi, q9 => by
    subst hzi
    have e : i = m := by omega
    subst e
    subst hz
    refine am_ev.step (pc' := 8) rfl rfl ?_
    refine am_ev.step (pc' := 9) rfl rfl ?_
    refine ax_gf (p' := 12) rfl rfl (S.ob rfl) v36 ?_
    refine fx_c_ge_T (pT := 53) rfl (by omega) (by omega) rfl (by omega) ?_
    exact q9
  | n + 1, i, z, zi, x, hi, hz, hzi, q9 => by
    subst hzi
    have b := B i (by omega)
    by_cases q1 : X i = P
    · by_cases q2 : Y i ≤ D
      · have hz : Z i = dl X Z Y P D (i + 1) := (if_pos ⟨q1, q2⟩ : dl X Z Y P D (i + 1) = Z i).symm
        refine am_ev.step (pc' := 8) rfl rfl ?_
        refine am_ev.step (pc' := 9) rfl rfl ?_
        refine ax_gf (p' := 12) rfl rfl (S.ob rfl) v36 ?_
        refine fx_c_ge_F (pF := 15) rfl (by omega) (by omega) rfl (by omega) ?_
        refine am_ev.step (pc' := 16) rfl rfl ?_
        refine ax_gf (p' := 19) rfl rfl (S.ob rfl) (S.rf rfl rfl) ?_
        refine am_ev.step (pc' := 21) rfl rfl ?_
        refine ax_iaload (p' := 22) rfl rfl (S.rd (k := i) rfl rfl rfl rfl rfl (by omega) (gX i (by omega))) ?_
        refine am_ev.step (pc' := 23) rfl rfl ?_
        refine fx_c_ne_F (pF := 26) rfl (by omega) (by omega) rfl (by omega) ?_
        refine am_ev.step (pc' := 27) rfl rfl ?_
        refine ax_gf (p' := 30) rfl rfl (S.ob rfl) (S.rf rfl rfl) ?_
        refine am_ev.step (pc' := 32) rfl rfl ?_
        refine ax_iaload (p' := 33) rfl rfl (S.rd (k := i) rfl rfl rfl rfl rfl (by omega) (gY i (by omega))) ?_
        refine am_ev.step (pc' := 35) rfl rfl ?_
        refine fx_c_gt_F (pF := 38) rfl (by omega) (by omega) rfl (by omega) ?_
        refine am_ev.step (pc' := 39) rfl rfl ?_
        refine ax_gf (p' := 42) rfl rfl (S.ob rfl) (S.rf rfl rfl) ?_
        refine am_ev.step (pc' := 44) rfl rfl ?_
        refine ax_iaload (p' := 45) rfl rfl (S.rd (k := i) rfl rfl rfl rfl rfl (by omega) (gZ i (by omega))) ?_
        refine am_ev.step (pc' := 47) (ls' := [.ref 78, iv (P), iv (l), iv (dy), iv (D), iv ((Z i)), iv ((i : Int))]) rfl rfl ?_
        refine fx_inc (p' := 50) (e := ((i : Int) + 1)) (ls' := [.ref 78, iv (P), iv (l), iv (dy), iv (D), iv ((Z i)), iv ((i : Int) + 1)]) rfl rfl rfl (by omega) rfl ?_
        refine am_ev.step (pc' := 6) rfl rfl ?_
        exact lo_221 S r_P r_D v36 hm B gX gZ gY n (i + 1) _ _ x (by omega) hz (by omega) q9
      · have hz : z = dl X Z Y P D (i + 1) := hz.trans (if_neg fun w => q2 w.2).symm
        refine am_ev.step (pc' := 8) rfl rfl ?_
        refine am_ev.step (pc' := 9) rfl rfl ?_
        refine ax_gf (p' := 12) rfl rfl (S.ob rfl) v36 ?_
        refine fx_c_ge_F (pF := 15) rfl (by omega) (by omega) rfl (by omega) ?_
        refine am_ev.step (pc' := 16) rfl rfl ?_
        refine ax_gf (p' := 19) rfl rfl (S.ob rfl) (S.rf rfl rfl) ?_
        refine am_ev.step (pc' := 21) rfl rfl ?_
        refine ax_iaload (p' := 22) rfl rfl (S.rd (k := i) rfl rfl rfl rfl rfl (by omega) (gX i (by omega))) ?_
        refine am_ev.step (pc' := 23) rfl rfl ?_
        refine fx_c_ne_F (pF := 26) rfl (by omega) (by omega) rfl (by omega) ?_
        refine am_ev.step (pc' := 27) rfl rfl ?_
        refine ax_gf (p' := 30) rfl rfl (S.ob rfl) (S.rf rfl rfl) ?_
        refine am_ev.step (pc' := 32) rfl rfl ?_
        refine ax_iaload (p' := 33) rfl rfl (S.rd (k := i) rfl rfl rfl rfl rfl (by omega) (gY i (by omega))) ?_
        refine am_ev.step (pc' := 35) rfl rfl ?_
        refine fx_c_gt_T (pT := 47) rfl (by omega) (by omega) rfl (by omega) ?_
        refine fx_inc (p' := 50) (e := ((i : Int) + 1)) (ls' := [.ref 78, iv (P), iv (l), iv (dy), iv (D), iv (z), iv ((i : Int) + 1)]) rfl rfl rfl (by omega) rfl ?_
        refine am_ev.step (pc' := 6) rfl rfl ?_
        exact lo_221 S r_P r_D v36 hm B gX gZ gY n (i + 1) _ _ x (by omega) hz (by omega) q9
    · have hz : z = dl X Z Y P D (i + 1) := hz.trans (if_neg fun w => q1 w.1).symm
      refine am_ev.step (pc' := 8) rfl rfl ?_
      refine am_ev.step (pc' := 9) rfl rfl ?_
      refine ax_gf (p' := 12) rfl rfl (S.ob rfl) v36 ?_
      refine fx_c_ge_F (pF := 15) rfl (by omega) (by omega) rfl (by omega) ?_
      refine am_ev.step (pc' := 16) rfl rfl ?_
      refine ax_gf (p' := 19) rfl rfl (S.ob rfl) (S.rf rfl rfl) ?_
      refine am_ev.step (pc' := 21) rfl rfl ?_
      refine ax_iaload (p' := 22) rfl rfl (S.rd (k := i) rfl rfl rfl rfl rfl (by omega) (gX i (by omega))) ?_
      refine am_ev.step (pc' := 23) rfl rfl ?_
      refine fx_c_ne_T (pT := 47) rfl (by omega) (by omega) rfl (by omega) ?_
      refine fx_inc (p' := 50) (e := ((i : Int) + 1)) (ls' := [.ref 78, iv (P), iv (l), iv (dy), iv (D), iv (z), iv ((i : Int) + 1)]) rfl rfl rfl (by omega) rfl ?_
      refine am_ev.step (pc' := 6) rfl rfl ?_
      exact lo_221 S r_P r_D v36 hm B gX gZ gY n (i + 1) _ _ x (by omega) hz (by omega) q9
theorem dt_221t {Yr : Nat → Int} {l : Nat} (S : fS h) (r_P : -2147483648 ≤ P ∧ P ≤ 2147483647) (r_D : -2147483648 ≤ D ∧ D ≤ 2147483647) (r_dy : -2147483648 ≤ dy ∧ dy ≤ 2147483647) (v36 : h.2.2.2 78 36 = iv m) (hm : m ≤ 60) (B : dB X Z Y m) (gX : ∀ i, i < m → h.2.2.2 114 i = iv (X i)) (gZ : ∀ i, i < m → h.2.2.2 115 i = iv (Z i)) (gY : ∀ i, i < m → h.2.2.2 116 i = iv (Y i)) (hl : l < 6) (gr : ∀ j, j < 6 → h.2.2.2 82 j = iv (Yr j)) (br : ∀ j, j < 6 → 0 ≤ Yr j ∧ Yr j ≤ 99) (q : (dl X Z Y P D m ≠ -1 ∧ dl X Z Y P D m + 365 * Yr l ≤ dy)) : am_ev d 221 0 (am_ent [.ref 78, iv P, iv l, iv dy, iv D] 7) [] h (some (iv 1), h) := by
  show am_ev d 221 0 [.ref 78, iv P, iv l, iv dy, iv D, am_ph, am_ph] [] h _
  have bl := br l hl
  have bd := dl_b (P := P) (D := D) m B
  refine am_ev.step (pc' := 1) rfl rfl ?_
  refine am_ev.step (pc' := 3) (ls' := [.ref 78, iv (P), iv ((l : Int)), iv (dy), iv (D), iv (-1), am_ph]) rfl rfl ?_
  refine am_ev.step (pc' := 4) rfl rfl ?_
  refine am_ev.step (pc' := 6) (ls' := [.ref 78, iv (P), iv ((l : Int)), iv (dy), iv (D), iv (-1), iv 0]) rfl rfl ?_
  refine lo_221 S r_P r_D v36 hm B gX gZ gY m 0 _ _ _ (by omega) rfl rfl ?_
  refine am_ev.step (pc' := 55) rfl rfl ?_
  refine am_ev.step (pc' := 56) rfl rfl ?_
  refine fx_c_eq (pT := 80) (pF := 59) rfl (by omega) (by omega) rfl rfl (fun c1 => ?_) (fun c1 => ?_)
  · refine am_ev.step (pc' := 81) rfl rfl ?_
    exfalso
    omega
  · refine am_ev.step (pc' := 60) rfl rfl ?_
    refine am_ev.step (pc' := 62) rfl rfl ?_
    refine fx_sip (p' := 65) rfl rfl rfl ?_
    refine am_ev.step (pc' := 66) rfl rfl ?_
    refine ax_gf (p' := 69) rfl rfl (S.ob rfl) (S.rf rfl rfl) ?_
    refine am_ev.step (pc' := 70) rfl rfl ?_
    refine ax_iaload (p' := 71) rfl rfl (S.rd (k := l) rfl rfl rfl rfl rfl (by omega) (gr l hl)) ?_
    refine fx_mul (p' := 72) (e := (365 * (Yr l))) rfl rfl (by omega) ?_
    refine fx_add (p' := 73) (e := ((dl X Z Y P D m) + 365 * (Yr l))) rfl rfl (by omega) ?_
    refine fx_c_lt (pT := 80) (pF := 76) rfl (by omega) (by omega) rfl rfl (fun c2 => ?_) (fun c2 => ?_)
    · refine am_ev.step (pc' := 81) rfl rfl ?_
      exfalso
      omega
    · refine am_ev.step (pc' := 77) rfl rfl ?_
      refine am_ev.step (pc' := 81) rfl rfl ?_
      exact fx_reti rfl rfl rfl
theorem dt_221f {Yr : Nat → Int} {l : Nat} (S : fS h) (r_P : -2147483648 ≤ P ∧ P ≤ 2147483647) (r_D : -2147483648 ≤ D ∧ D ≤ 2147483647) (r_dy : -2147483648 ≤ dy ∧ dy ≤ 2147483647) (v36 : h.2.2.2 78 36 = iv m) (hm : m ≤ 60) (B : dB X Z Y m) (gX : ∀ i, i < m → h.2.2.2 114 i = iv (X i)) (gZ : ∀ i, i < m → h.2.2.2 115 i = iv (Z i)) (gY : ∀ i, i < m → h.2.2.2 116 i = iv (Y i)) (hl : l < 6) (gr : ∀ j, j < 6 → h.2.2.2 82 j = iv (Yr j)) (br : ∀ j, j < 6 → 0 ≤ Yr j ∧ Yr j ≤ 99) (q : ¬ (dl X Z Y P D m ≠ -1 ∧ dl X Z Y P D m + 365 * Yr l ≤ dy)) : am_ev d 221 0 (am_ent [.ref 78, iv P, iv l, iv dy, iv D] 7) [] h (some (iv 0), h) := by
  show am_ev d 221 0 [.ref 78, iv P, iv l, iv dy, iv D, am_ph, am_ph] [] h _
  have bl := br l hl
  have bd := dl_b (P := P) (D := D) m B
  refine am_ev.step (pc' := 1) rfl rfl ?_
  refine am_ev.step (pc' := 3) (ls' := [.ref 78, iv (P), iv ((l : Int)), iv (dy), iv (D), iv (-1), am_ph]) rfl rfl ?_
  refine am_ev.step (pc' := 4) rfl rfl ?_
  refine am_ev.step (pc' := 6) (ls' := [.ref 78, iv (P), iv ((l : Int)), iv (dy), iv (D), iv (-1), iv 0]) rfl rfl ?_
  refine lo_221 S r_P r_D v36 hm B gX gZ gY m 0 _ _ _ (by omega) rfl rfl ?_
  refine am_ev.step (pc' := 55) rfl rfl ?_
  refine am_ev.step (pc' := 56) rfl rfl ?_
  refine fx_c_eq (pT := 80) (pF := 59) rfl (by omega) (by omega) rfl rfl (fun c1 => ?_) (fun c1 => ?_)
  · refine am_ev.step (pc' := 81) rfl rfl ?_
    exact fx_reti rfl rfl rfl
  · refine am_ev.step (pc' := 60) rfl rfl ?_
    refine am_ev.step (pc' := 62) rfl rfl ?_
    refine fx_sip (p' := 65) rfl rfl rfl ?_
    refine am_ev.step (pc' := 66) rfl rfl ?_
    refine ax_gf (p' := 69) rfl rfl (S.ob rfl) (S.rf rfl rfl) ?_
    refine am_ev.step (pc' := 70) rfl rfl ?_
    refine ax_iaload (p' := 71) rfl rfl (S.rd (k := l) rfl rfl rfl rfl rfl (by omega) (gr l hl)) ?_
    refine fx_mul (p' := 72) (e := (365 * (Yr l))) rfl rfl (by omega) ?_
    refine fx_add (p' := 73) (e := ((dl X Z Y P D m) + 365 * (Yr l))) rfl rfl (by omega) ?_
    refine fx_c_lt (pT := 80) (pF := 76) rfl (by omega) (by omega) rfl rfl (fun c2 => ?_) (fun c2 => ?_)
    · refine am_ev.step (pc' := 81) rfl rfl ?_
      exact fx_reti rfl rfl rfl
    · refine am_ev.step (pc' := 77) rfl rfl ?_
      refine am_ev.step (pc' := 81) rfl rfl ?_
      exfalso
      omega
/-- the lands in which a day is behind a death by the years of each: the first l lands -/
def fl (z dy : Int) (Yr : Nat → Int) : Nat → Int32
  | 0 => Int32.ofInt 0
  | l + 1 => if z + 365 * Yr l ≤ dy then fl z dy Yr l ||| (Int32.ofInt 1 <<< (Int32.ofInt (l : Int) &&& 31)) else fl z dy Yr l
theorem bt_z (i : Nat) : bt (Int32.ofInt 0) i = false := by
  rw [show Int32.ofInt 0 = 0 by decide]
  exact b_0 i
theorem fl_bt {z dy : Int} {Yr : Nat → Int} : ∀ (n i : Nat), n ≤ 6 → i < 31 → bt (fl z dy Yr n) i = (decide (i < n) && decide (z + 365 * Yr i ≤ dy))
  | 0, i, _, _ => by
    rw [show fl z dy Yr 0 = Int32.ofInt 0 from rfl, bt_z]
    simp
  | n + 1, i, hn, hi => by
    have ih := fl_bt (z := z) (dy := dy) (Yr := Yr) n i (by omega) hi
    by_cases c : z + 365 * Yr n ≤ dy
    · rw [show fl z dy Yr (n + 1) = _ from if_pos c, b_set (by omega) hi, ih]
      by_cases e : i = n
      · subst e
        simp [c]
      · have : (i < n + 1) ↔ i < n := by omega
        simp [e, this]
    · rw [show fl z dy Yr (n + 1) = _ from if_neg c, ih]
      by_cases e : i = n
      · subst e
        simp [c]
      · have : (i < n + 1) ↔ i < n := by omega
        simp [this]
/-- the day from which all who wrote it are dead; -1 if not all are -/
def dt (f g w : Int) : Int := if w ≠ -1 ∧ f ≠ -1 then (if g = -1 then -1 else if f < g then g else f) else f
/-- what the lands are in which a poem is free -/
def fls (z dy : Int) (Yr : Nat → Int) : Int32 := if z = -1 then Int32.ofInt 0 else fl z dy Yr 6
section FRL
variable {Yr : Nat → Int} {w t : Int}
theorem lo_93 (S : fS h) (hz : z ≠ -1) (bz : -1 ≤ z ∧ z ≤ 29999) (r_dy : -2147483648 ≤ dy ∧ dy ≤ 2147483647) (gr : ∀ j, j < 6 → h.2.2.2 45 j = iv (Yr j)) (br : ∀ j, j < 6 → 0 ≤ Yr j ∧ Yr j ≤ 99) : ∀ (n l : Nat) (zi : Int) (u : Int32), l + n = 6 → zi = (l : Int) → u = fl z dy Yr l → am_ev (d + 1) 93 63 [.ref 48, .ref s, .ref 43, iv dy, iv D, iv z, .int u, iv zi] [] h (some (.int (fl z dy Yr 6)), h)
  | 0, l, zi, u, hl, hzi, ht => by
    subst hzi
    have e : l = 6 := by omega
    subst e
    rw [← ht]
    refine am_ev.step (pc' := 65) rfl rfl ?_
    refine fx_bip (p' := 67) rfl rfl rfl ?_
    refine fx_c_ge_T (pT := 108) rfl (by omega) (by omega) rfl (by omega) ?_
    refine am_ev.step (pc' := 110) rfl rfl ?_
    exact fx_reti rfl rfl rfl
  | n + 1, l, zi, u, hl, hzi, ht0 => by
    subst hzi
    have bl := br l (by omega)
    by_cases q : z + 365 * Yr l ≤ dy
    · have ht : u ||| (Int32.ofInt 1 <<< (Int32.ofInt (l : Int) &&& 31)) = fl z dy Yr (l + 1) := by
        rw [ht0]
        exact (if_pos q).symm
      refine am_ev.step (pc' := 65) rfl rfl ?_
      refine fx_bip (p' := 67) rfl rfl rfl ?_
      refine fx_c_ge_F (pF := 70) rfl (by omega) (by omega) rfl (by omega) ?_
      refine am_ev.step (pc' := 72) rfl rfl ?_
      refine am_ev.step (pc' := 73) rfl rfl ?_
      refine fx_c_eq_F (pF := 76) rfl (by omega) (by omega) rfl (by omega) ?_
      refine am_ev.step (pc' := 77) rfl rfl ?_
      refine am_ev.step (pc' := 79) rfl rfl ?_
      refine fx_sip (p' := 82) rfl rfl rfl ?_
      refine am_ev.step (pc' := 83) rfl rfl ?_
      refine am_ev.step (pc' := 85) rfl rfl ?_
      refine ax_call (z := 36) (p' := 88) (as := [_, _]) rfl (Or.inr (Or.inl ⟨_, rfl⟩)) rfl rfl rfl rfl rfl rfl (S.ob rfl) rfl (ru_36 (i := l) S (by omega) (gr l (by omega))) rfl ?_
      refine fx_mul (p' := 89) (e := (365 * (Yr l))) rfl rfl (by omega) ?_
      refine fx_add (p' := 90) (e := (z + 365 * (Yr l))) rfl rfl (by omega) ?_
      refine fx_c_lt_F (pF := 93) rfl (by omega) (by omega) rfl (by omega) ?_
      refine am_ev.step (pc' := 95) rfl rfl ?_
      refine am_ev.step (pc' := 96) rfl rfl ?_
      refine am_ev.step (pc' := 98) rfl rfl ?_
      refine am_ev.step (pc' := 99) rfl rfl ?_
      refine am_ev.step (pc' := 100) rfl rfl ?_
      refine am_ev.step (pc' := 102) (ls' := [.ref 48, .ref s, .ref 43, iv (dy), iv (D), iv (z), .int (u ||| ((Int32.ofInt 1) <<< ((Int32.ofInt ((l : Int))) &&& 31))), iv ((l : Int))]) rfl rfl ?_
      refine fx_inc (p' := 105) (e := ((l : Int) + 1)) (ls' := [.ref 48, .ref s, .ref 43, iv (dy), iv (D), iv (z), .int (u ||| ((Int32.ofInt 1) <<< ((Int32.ofInt ((l : Int))) &&& 31))), iv ((l : Int) + 1)]) rfl rfl rfl (by omega) rfl ?_
      refine am_ev.step (pc' := 63) rfl rfl ?_
      exact lo_93 S hz bz r_dy gr br n (l + 1) _ _ (by omega) (by omega) ht
    · have ht : u = fl z dy Yr (l + 1) := by
        rw [ht0]
        exact (if_neg q).symm
      refine am_ev.step (pc' := 65) rfl rfl ?_
      refine fx_bip (p' := 67) rfl rfl rfl ?_
      refine fx_c_ge_F (pF := 70) rfl (by omega) (by omega) rfl (by omega) ?_
      refine am_ev.step (pc' := 72) rfl rfl ?_
      refine am_ev.step (pc' := 73) rfl rfl ?_
      refine fx_c_eq_F (pF := 76) rfl (by omega) (by omega) rfl (by omega) ?_
      refine am_ev.step (pc' := 77) rfl rfl ?_
      refine am_ev.step (pc' := 79) rfl rfl ?_
      refine fx_sip (p' := 82) rfl rfl rfl ?_
      refine am_ev.step (pc' := 83) rfl rfl ?_
      refine am_ev.step (pc' := 85) rfl rfl ?_
      refine ax_call (z := 36) (p' := 88) (as := [_, _]) rfl (Or.inr (Or.inl ⟨_, rfl⟩)) rfl rfl rfl rfl rfl rfl (S.ob rfl) rfl (ru_36 (i := l) S (by omega) (gr l (by omega))) rfl ?_
      refine fx_mul (p' := 89) (e := (365 * (Yr l))) rfl rfl (by omega) ?_
      refine fx_add (p' := 90) (e := (z + 365 * (Yr l))) rfl rfl (by omega) ?_
      refine fx_c_lt_T (pT := 102) rfl (by omega) (by omega) rfl (by omega) ?_
      refine fx_inc (p' := 105) (e := ((l : Int) + 1)) (ls' := [.ref 48, .ref s, .ref 43, iv (dy), iv (D), iv (z), .int u, iv ((l : Int) + 1)]) rfl rfl rfl (by omega) rfl ?_
      refine am_ev.step (pc' := 63) rfl rfl ?_
      exact lo_93 S hz bz r_dy gr br n (l + 1) _ _ (by omega) (by omega) ht
theorem dt_93 {f g : Int} (S : fS h) (Os : am_isO h s 6 = true) (r_t : -2147483648 ≤ t ∧ t ≤ 2147483647) (r_w : -2147483648 ≤ w ∧ w ≤ 2147483647) (r_dy : -2147483648 ≤ dy ∧ dy ≤ 2147483647) (gr : ∀ j, j < 6 → h.2.2.2 45 j = iv (Yr j)) (br : ∀ j, j < 6 → 0 ≤ Yr j ∧ Yr j ≤ 99) (v0 : h.2.2.2 s 0 = iv t) (v4 : h.2.2.2 s 4 = iv w) (bf : -1 ≤ f ∧ f ≤ 29999) (bg : -1 ≤ g ∧ g ≤ 29999) (e1 : am_ev d 94 0 (am_ent [.ref 48, iv t, iv D] 4) [] h (some (iv f), h)) (e2 : am_ev d 94 0 (am_ent [.ref 48, iv w, iv D] 4) [] h (some (iv g), h)) : am_ev (d + 1) 93 0 (am_ent [.ref 48, .ref s, .ref 43, iv dy, iv D] 8) [] h (some (.int (fls (dt f g w) dy Yr)), h) := by
  show am_ev (d + 1) 93 0 [.ref 48, .ref s, .ref 43, iv dy, iv D, am_ph, am_ph, am_ph] [] h _
  have Q : ∀ z : Int, z = dt f g w → (-1 ≤ z ∧ z ≤ 29999) → am_ev (d + 1) 93 63 [.ref 48, .ref s, .ref 43, iv dy, iv D, iv z, iv 0, iv 0] [] h (some (.int (fls (dt f g w) dy Yr)), h) := fun z ez bz => by
    rw [← ez]
    by_cases hz : z = -1
    · rw [show fls z dy Yr = Int32.ofInt 0 from if_pos hz]
      subst hz
      refine am_ev.step (pc' := 65) rfl rfl ?_
      refine fx_bip (p' := 67) rfl rfl rfl ?_
      refine fx_c_ge_F (pF := 70) rfl (by omega) (by omega) rfl (by omega) ?_
      refine am_ev.step (pc' := 72) rfl rfl ?_
      refine am_ev.step (pc' := 73) rfl rfl ?_
      refine fx_c_eq_T (pT := 108) rfl (by omega) (by omega) rfl (by omega) ?_
      refine am_ev.step (pc' := 110) rfl rfl ?_
      exact fx_reti rfl rfl rfl
    · rw [show fls z dy Yr = fl z dy Yr 6 from if_neg hz]
      exact lo_93 S hz bz r_dy gr br 6 0 _ _ rfl rfl rfl
  by_cases qw : w = -1
  · have q9 := Q f (if_neg fun z => z.1 qw).symm bf
    refine am_ev.step (pc' := 1) rfl rfl ?_
    refine am_ev.step (pc' := 2) rfl rfl ?_
    refine ax_gf (p' := 5) rfl rfl Os v0 ?_
    refine am_ev.step (pc' := 7) rfl rfl ?_
    refine ax_call (z := 94) (p' := 10) (as := [_, _, _]) rfl (Or.inr (Or.inl ⟨_, rfl⟩)) rfl rfl rfl rfl rfl rfl (S.ob rfl) rfl e1 rfl ?_
    refine am_ev.step (pc' := 12) (ls' := [.ref 48, .ref s, .ref 43, iv (dy), iv (D), iv (f), am_ph, am_ph]) rfl rfl ?_
    refine am_ev.step (pc' := 13) rfl rfl ?_
    refine ax_gf (p' := 16) rfl rfl Os v4 ?_
    refine am_ev.step (pc' := 17) rfl rfl ?_
    refine fx_c_eq_T (pT := 57) rfl (by omega) (by omega) rfl (by omega) ?_
    refine am_ev.step (pc' := 58) rfl rfl ?_
    refine am_ev.step (pc' := 60) (ls' := [.ref 48, .ref s, .ref 43, iv (dy), iv (D), iv (f), iv 0, am_ph]) rfl rfl ?_
    refine am_ev.step (pc' := 61) rfl rfl ?_
    refine am_ev.step (pc' := 63) (ls' := [.ref 48, .ref s, .ref 43, iv (dy), iv (D), iv (f), iv 0, iv 0]) rfl rfl ?_
    exact q9
  · by_cases qf : f = -1
    · have q9 := Q f (if_neg fun z => z.2 qf).symm bf
      refine am_ev.step (pc' := 1) rfl rfl ?_
      refine am_ev.step (pc' := 2) rfl rfl ?_
      refine ax_gf (p' := 5) rfl rfl Os v0 ?_
      refine am_ev.step (pc' := 7) rfl rfl ?_
      refine ax_call (z := 94) (p' := 10) (as := [_, _, _]) rfl (Or.inr (Or.inl ⟨_, rfl⟩)) rfl rfl rfl rfl rfl rfl (S.ob rfl) rfl e1 rfl ?_
      refine am_ev.step (pc' := 12) (ls' := [.ref 48, .ref s, .ref 43, iv (dy), iv (D), iv (f), am_ph, am_ph]) rfl rfl ?_
      refine am_ev.step (pc' := 13) rfl rfl ?_
      refine ax_gf (p' := 16) rfl rfl Os v4 ?_
      refine am_ev.step (pc' := 17) rfl rfl ?_
      refine fx_c_eq_F (pF := 20) rfl (by omega) (by omega) rfl (by omega) ?_
      refine am_ev.step (pc' := 22) rfl rfl ?_
      refine am_ev.step (pc' := 23) rfl rfl ?_
      refine fx_c_eq_T (pT := 57) rfl (by omega) (by omega) rfl (by omega) ?_
      refine am_ev.step (pc' := 58) rfl rfl ?_
      refine am_ev.step (pc' := 60) (ls' := [.ref 48, .ref s, .ref 43, iv (dy), iv (D), iv (f), iv 0, am_ph]) rfl rfl ?_
      refine am_ev.step (pc' := 61) rfl rfl ?_
      refine am_ev.step (pc' := 63) (ls' := [.ref 48, .ref s, .ref 43, iv (dy), iv (D), iv (f), iv 0, iv 0]) rfl rfl ?_
      exact q9
    · by_cases qg : g = -1
      · have q9 := Q (-1) ((if_pos ⟨qw, qf⟩ : dt f g w = _).trans (if_pos qg)).symm (by omega)
        refine am_ev.step (pc' := 1) rfl rfl ?_
        refine am_ev.step (pc' := 2) rfl rfl ?_
        refine ax_gf (p' := 5) rfl rfl Os v0 ?_
        refine am_ev.step (pc' := 7) rfl rfl ?_
        refine ax_call (z := 94) (p' := 10) (as := [_, _, _]) rfl (Or.inr (Or.inl ⟨_, rfl⟩)) rfl rfl rfl rfl rfl rfl (S.ob rfl) rfl e1 rfl ?_
        refine am_ev.step (pc' := 12) (ls' := [.ref 48, .ref s, .ref 43, iv (dy), iv (D), iv (f), am_ph, am_ph]) rfl rfl ?_
        refine am_ev.step (pc' := 13) rfl rfl ?_
        refine ax_gf (p' := 16) rfl rfl Os v4 ?_
        refine am_ev.step (pc' := 17) rfl rfl ?_
        refine fx_c_eq_F (pF := 20) rfl (by omega) (by omega) rfl (by omega) ?_
        refine am_ev.step (pc' := 22) rfl rfl ?_
        refine am_ev.step (pc' := 23) rfl rfl ?_
        refine fx_c_eq_F (pF := 26) rfl (by omega) (by omega) rfl (by omega) ?_
        refine am_ev.step (pc' := 27) rfl rfl ?_
        refine am_ev.step (pc' := 28) rfl rfl ?_
        refine ax_gf (p' := 31) rfl rfl Os v4 ?_
        refine am_ev.step (pc' := 33) rfl rfl ?_
        refine ax_call (z := 94) (p' := 36) (as := [_, _, _]) rfl (Or.inr (Or.inl ⟨_, rfl⟩)) rfl rfl rfl rfl rfl rfl (S.ob rfl) rfl e2 rfl ?_
        refine am_ev.step (pc' := 38) (ls' := [.ref 48, .ref s, .ref 43, iv (dy), iv (D), iv (f), iv (g), am_ph]) rfl rfl ?_
        refine am_ev.step (pc' := 40) rfl rfl ?_
        refine am_ev.step (pc' := 41) rfl rfl ?_
        refine fx_c_ne_F (pF := 44) rfl (by omega) (by omega) rfl (by omega) ?_
        refine am_ev.step (pc' := 45) rfl rfl ?_
        refine am_ev.step (pc' := 55) rfl rfl ?_
        refine am_ev.step (pc' := 57) (ls' := [.ref 48, .ref s, .ref 43, iv (dy), iv (D), iv (-1), iv (g), am_ph]) rfl rfl ?_
        refine am_ev.step (pc' := 58) rfl rfl ?_
        refine am_ev.step (pc' := 60) (ls' := [.ref 48, .ref s, .ref 43, iv (dy), iv (D), iv (-1), iv 0, am_ph]) rfl rfl ?_
        refine am_ev.step (pc' := 61) rfl rfl ?_
        refine am_ev.step (pc' := 63) (ls' := [.ref 48, .ref s, .ref 43, iv (dy), iv (D), iv (-1), iv 0, iv 0]) rfl rfl ?_
        exact q9
      · by_cases qm : f < g
        · have q9 := Q g ((if_pos ⟨qw, qf⟩ : dt f g w = _).trans ((if_neg qg).trans (if_pos qm))).symm bg
          refine am_ev.step (pc' := 1) rfl rfl ?_
          refine am_ev.step (pc' := 2) rfl rfl ?_
          refine ax_gf (p' := 5) rfl rfl Os v0 ?_
          refine am_ev.step (pc' := 7) rfl rfl ?_
          refine ax_call (z := 94) (p' := 10) (as := [_, _, _]) rfl (Or.inr (Or.inl ⟨_, rfl⟩)) rfl rfl rfl rfl rfl rfl (S.ob rfl) rfl e1 rfl ?_
          refine am_ev.step (pc' := 12) (ls' := [.ref 48, .ref s, .ref 43, iv (dy), iv (D), iv (f), am_ph, am_ph]) rfl rfl ?_
          refine am_ev.step (pc' := 13) rfl rfl ?_
          refine ax_gf (p' := 16) rfl rfl Os v4 ?_
          refine am_ev.step (pc' := 17) rfl rfl ?_
          refine fx_c_eq_F (pF := 20) rfl (by omega) (by omega) rfl (by omega) ?_
          refine am_ev.step (pc' := 22) rfl rfl ?_
          refine am_ev.step (pc' := 23) rfl rfl ?_
          refine fx_c_eq_F (pF := 26) rfl (by omega) (by omega) rfl (by omega) ?_
          refine am_ev.step (pc' := 27) rfl rfl ?_
          refine am_ev.step (pc' := 28) rfl rfl ?_
          refine ax_gf (p' := 31) rfl rfl Os v4 ?_
          refine am_ev.step (pc' := 33) rfl rfl ?_
          refine ax_call (z := 94) (p' := 36) (as := [_, _, _]) rfl (Or.inr (Or.inl ⟨_, rfl⟩)) rfl rfl rfl rfl rfl rfl (S.ob rfl) rfl e2 rfl ?_
          refine am_ev.step (pc' := 38) (ls' := [.ref 48, .ref s, .ref 43, iv (dy), iv (D), iv (f), iv (g), am_ph]) rfl rfl ?_
          refine am_ev.step (pc' := 40) rfl rfl ?_
          refine am_ev.step (pc' := 41) rfl rfl ?_
          refine fx_c_ne_T (pT := 48) rfl (by omega) (by omega) rfl (by omega) ?_
          refine am_ev.step (pc' := 50) rfl rfl ?_
          refine am_ev.step (pc' := 52) rfl rfl ?_
          refine fx_mx (p' := 55) (e := g) rfl (Or.inl ⟨_, rfl⟩) rfl rfl rfl rfl (by omega) (by omega) (fun _ => by omega) (fun _ => by omega) ?_
          refine am_ev.step (pc' := 57) (ls' := [.ref 48, .ref s, .ref 43, iv (dy), iv (D), iv (g), iv (g), am_ph]) rfl rfl ?_
          refine am_ev.step (pc' := 58) rfl rfl ?_
          refine am_ev.step (pc' := 60) (ls' := [.ref 48, .ref s, .ref 43, iv (dy), iv (D), iv (g), iv 0, am_ph]) rfl rfl ?_
          refine am_ev.step (pc' := 61) rfl rfl ?_
          refine am_ev.step (pc' := 63) (ls' := [.ref 48, .ref s, .ref 43, iv (dy), iv (D), iv (g), iv 0, iv 0]) rfl rfl ?_
          exact q9
        · have q9 := Q f ((if_pos ⟨qw, qf⟩ : dt f g w = _).trans ((if_neg qg).trans (if_neg qm))).symm bf
          refine am_ev.step (pc' := 1) rfl rfl ?_
          refine am_ev.step (pc' := 2) rfl rfl ?_
          refine ax_gf (p' := 5) rfl rfl Os v0 ?_
          refine am_ev.step (pc' := 7) rfl rfl ?_
          refine ax_call (z := 94) (p' := 10) (as := [_, _, _]) rfl (Or.inr (Or.inl ⟨_, rfl⟩)) rfl rfl rfl rfl rfl rfl (S.ob rfl) rfl e1 rfl ?_
          refine am_ev.step (pc' := 12) (ls' := [.ref 48, .ref s, .ref 43, iv (dy), iv (D), iv (f), am_ph, am_ph]) rfl rfl ?_
          refine am_ev.step (pc' := 13) rfl rfl ?_
          refine ax_gf (p' := 16) rfl rfl Os v4 ?_
          refine am_ev.step (pc' := 17) rfl rfl ?_
          refine fx_c_eq_F (pF := 20) rfl (by omega) (by omega) rfl (by omega) ?_
          refine am_ev.step (pc' := 22) rfl rfl ?_
          refine am_ev.step (pc' := 23) rfl rfl ?_
          refine fx_c_eq_F (pF := 26) rfl (by omega) (by omega) rfl (by omega) ?_
          refine am_ev.step (pc' := 27) rfl rfl ?_
          refine am_ev.step (pc' := 28) rfl rfl ?_
          refine ax_gf (p' := 31) rfl rfl Os v4 ?_
          refine am_ev.step (pc' := 33) rfl rfl ?_
          refine ax_call (z := 94) (p' := 36) (as := [_, _, _]) rfl (Or.inr (Or.inl ⟨_, rfl⟩)) rfl rfl rfl rfl rfl rfl (S.ob rfl) rfl e2 rfl ?_
          refine am_ev.step (pc' := 38) (ls' := [.ref 48, .ref s, .ref 43, iv (dy), iv (D), iv (f), iv (g), am_ph]) rfl rfl ?_
          refine am_ev.step (pc' := 40) rfl rfl ?_
          refine am_ev.step (pc' := 41) rfl rfl ?_
          refine fx_c_ne_T (pT := 48) rfl (by omega) (by omega) rfl (by omega) ?_
          refine am_ev.step (pc' := 50) rfl rfl ?_
          refine am_ev.step (pc' := 52) rfl rfl ?_
          refine fx_mx (p' := 55) (e := f) rfl (Or.inl ⟨_, rfl⟩) rfl rfl rfl rfl (by omega) (by omega) (fun _ => by omega) (fun _ => by omega) ?_
          refine am_ev.step (pc' := 57) (ls' := [.ref 48, .ref s, .ref 43, iv (dy), iv (D), iv (f), iv (g), am_ph]) rfl rfl ?_
          refine am_ev.step (pc' := 58) rfl rfl ?_
          refine am_ev.step (pc' := 60) (ls' := [.ref 48, .ref s, .ref 43, iv (dy), iv (D), iv (f), iv 0, am_ph]) rfl rfl ?_
          refine am_ev.step (pc' := 61) rfl rfl ?_
          refine am_ev.step (pc' := 63) (ls' := [.ref 48, .ref s, .ref 43, iv (dy), iv (D), iv (f), iv 0, iv 0]) rfl rfl ?_
          exact q9
/-- in which lands it is free -/
theorem fls_bt {f g : Int} {l : Nat} (bf : -1 ≤ f ∧ f ≤ 29999) (bg : -1 ≤ g ∧ g ≤ 29999) (hl : l < 6) : bt (fls (dt f g w) dy Yr) l = true ↔ ((f ≠ -1 ∧ f + 365 * Yr l ≤ dy) ∧ (w = -1 ∨ (g ≠ -1 ∧ g + 365 * Yr l ≤ dy))) := by
  have K : bt (fls (dt f g w) dy Yr) l = true ↔ (dt f g w ≠ -1 ∧ dt f g w + 365 * Yr l ≤ dy) := by
    by_cases hz : dt f g w = -1
    · rw [show fls (dt f g w) dy Yr = Int32.ofInt 0 from if_pos hz, bt_z]
      simp [hz]
    · rw [show fls (dt f g w) dy Yr = fl (dt f g w) dy Yr 6 from if_neg hz, fl_bt 6 l (by omega) (by omega)]
      simp [hz, hl]
  rw [K]
  unfold dt
  by_cases q1 : w ≠ -1 ∧ f ≠ -1
  · rw [if_pos q1]
    by_cases q2 : g = -1
    · rw [if_pos q2]
      omega
    · rw [if_neg q2]
      by_cases q3 : f < g
      · rw [if_pos q3]
        omega
      · rw [if_neg q3]
        omega
  · rw [if_neg q1]
    omega
end FRL
/-- the lands that a leave grants: g from when it is gone, k when that was told (g = -1: it isn't) -/
def gls (g k u dy D : Int) (l : Int32) : Int32 := if (g ≠ -1 ∧ k ≤ D ∧ g ≤ dy) ∨ u < dy then Int32.ofInt 0 else l
section GRL
variable {g k u K : Int} {l : Int32}
theorem dt_97 (S : fS h) (Os : am_isO h s 4 = true) (r_g : -2147483648 ≤ g ∧ g ≤ 2147483647) (r_k : -2147483648 ≤ k ∧ k ≤ 2147483647) (r_u : -2147483648 ≤ u ∧ u ≤ 2147483647) (r_dy : -2147483648 ≤ dy ∧ dy ≤ 2147483647) (r_D : -2147483648 ≤ D ∧ D ≤ 2147483647) (v9 : h.2.2.2 s 9 = iv g) (v10 : h.2.2.2 s 10 = iv k) (v3 : h.2.2.2 s 3 = iv u) (v2 : h.2.2.2 s 2 = .int l) : am_ev d 97 0 (am_ent [.ref s, iv dy, iv D] 4) [] h (some (.int (gls g k u dy D l)), h) := by
  show am_ev d 97 0 [.ref s, iv dy, iv D, am_ph] [] h _
  refine am_ev.step (pc' := 1) rfl rfl ?_
  refine ax_gf (p' := 4) rfl rfl Os v9 ?_
  refine am_ev.step (pc' := 5) rfl rfl ?_
  refine fx_c_eq (pT := 28) (pF := 8) rfl (by omega) (by omega) rfl rfl (fun c1 => ?_) (fun c1 => ?_)
  · refine am_ev.step (pc' := 29) rfl rfl ?_
    refine am_ev.step (pc' := 30) (ls' := [.ref s, iv (dy), iv (D), iv 0]) rfl rfl ?_
    refine am_ev.step (pc' := 31) rfl rfl ?_
    refine fx_z_ne_F (pF := 34) rfl (by omega) rfl (by omega) ?_
    refine am_ev.step (pc' := 35) rfl rfl ?_
    refine ax_gf (p' := 38) rfl rfl Os v3 ?_
    refine am_ev.step (pc' := 39) rfl rfl ?_
    refine fx_c_ge (pT := 46) (pF := 42) rfl (by omega) (by omega) rfl rfl (fun c2 => ?_) (fun c2 => ?_)
    · refine am_ev.step (pc' := 47) rfl rfl ?_
      refine ax_gf (p' := 50) rfl rfl Os v2 ?_
      rw [show gls g k u dy D l = l from if_neg (by omega)]
      exact fx_reti rfl rfl rfl
    · refine am_ev.step (pc' := 43) rfl rfl ?_
      refine am_ev.step (pc' := 50) rfl rfl ?_
      rw [show gls g k u dy D l = Int32.ofInt 0 from if_pos (by omega)]
      exact fx_reti rfl rfl rfl
  · refine am_ev.step (pc' := 9) rfl rfl ?_
    refine ax_gf (p' := 12) rfl rfl Os v10 ?_
    refine am_ev.step (pc' := 13) rfl rfl ?_
    refine fx_c_gt (pT := 28) (pF := 16) rfl (by omega) (by omega) rfl rfl (fun c3 => ?_) (fun c3 => ?_)
    · refine am_ev.step (pc' := 29) rfl rfl ?_
      refine am_ev.step (pc' := 30) (ls' := [.ref s, iv (dy), iv (D), iv 0]) rfl rfl ?_
      refine am_ev.step (pc' := 31) rfl rfl ?_
      refine fx_z_ne_F (pF := 34) rfl (by omega) rfl (by omega) ?_
      refine am_ev.step (pc' := 35) rfl rfl ?_
      refine ax_gf (p' := 38) rfl rfl Os v3 ?_
      refine am_ev.step (pc' := 39) rfl rfl ?_
      refine fx_c_ge (pT := 46) (pF := 42) rfl (by omega) (by omega) rfl rfl (fun c4 => ?_) (fun c4 => ?_)
      · refine am_ev.step (pc' := 47) rfl rfl ?_
        refine ax_gf (p' := 50) rfl rfl Os v2 ?_
        rw [show gls g k u dy D l = l from if_neg (by omega)]
        exact fx_reti rfl rfl rfl
      · refine am_ev.step (pc' := 43) rfl rfl ?_
        refine am_ev.step (pc' := 50) rfl rfl ?_
        rw [show gls g k u dy D l = Int32.ofInt 0 from if_pos (by omega)]
        exact fx_reti rfl rfl rfl
    · refine am_ev.step (pc' := 17) rfl rfl ?_
      refine ax_gf (p' := 20) rfl rfl Os v9 ?_
      refine am_ev.step (pc' := 21) rfl rfl ?_
      refine fx_c_gt (pT := 28) (pF := 24) rfl (by omega) (by omega) rfl rfl (fun c5 => ?_) (fun c5 => ?_)
      · refine am_ev.step (pc' := 29) rfl rfl ?_
        refine am_ev.step (pc' := 30) (ls' := [.ref s, iv (dy), iv (D), iv 0]) rfl rfl ?_
        refine am_ev.step (pc' := 31) rfl rfl ?_
        refine fx_z_ne_F (pF := 34) rfl (by omega) rfl (by omega) ?_
        refine am_ev.step (pc' := 35) rfl rfl ?_
        refine ax_gf (p' := 38) rfl rfl Os v3 ?_
        refine am_ev.step (pc' := 39) rfl rfl ?_
        refine fx_c_ge (pT := 46) (pF := 42) rfl (by omega) (by omega) rfl rfl (fun c6 => ?_) (fun c6 => ?_)
        · refine am_ev.step (pc' := 47) rfl rfl ?_
          refine ax_gf (p' := 50) rfl rfl Os v2 ?_
          rw [show gls g k u dy D l = l from if_neg (by omega)]
          exact fx_reti rfl rfl rfl
        · refine am_ev.step (pc' := 43) rfl rfl ?_
          refine am_ev.step (pc' := 50) rfl rfl ?_
          rw [show gls g k u dy D l = Int32.ofInt 0 from if_pos (by omega)]
          exact fx_reti rfl rfl rfl
      · refine am_ev.step (pc' := 25) rfl rfl ?_
        refine am_ev.step (pc' := 29) rfl rfl ?_
        refine am_ev.step (pc' := 30) (ls' := [.ref s, iv (dy), iv (D), iv 1]) rfl rfl ?_
        refine am_ev.step (pc' := 31) rfl rfl ?_
        refine fx_z_ne_T (pT := 42) rfl (by omega) rfl (by omega) ?_
        refine am_ev.step (pc' := 43) rfl rfl ?_
        refine am_ev.step (pc' := 50) rfl rfl ?_
        rw [show gls g k u dy D l = Int32.ofInt 0 from if_pos (by omega)]
        exact fx_reti rfl rfl rfl
theorem dt_95n (S : fS h) (e96 : am_ev d 96 0 (am_ent [.ref 48, iv P, iv D] 4) [] h (some (iv K), h)) (e87 : am_ev d 87 0 (am_ent [.ref 48, iv K] 2) [] h (some .null, h)) : am_ev (d + 1) 95 0 (am_ent [.ref 48, iv P, iv dy, iv D] 5) [] h (some (.int (Int32.ofInt 0)), h) := by
  show am_ev (d + 1) 95 0 [.ref 48, iv (P), iv (dy), iv (D), am_ph] [] h _
  refine am_ev.step (pc' := 1) rfl rfl ?_
  refine am_ev.step (pc' := 2) rfl rfl ?_
  refine am_ev.step (pc' := 3) rfl rfl ?_
  refine am_ev.step (pc' := 4) rfl rfl ?_
  refine ax_call (z := 96) (p' := 7) (as := [_, _, _]) rfl (Or.inr (Or.inl ⟨_, rfl⟩)) rfl rfl rfl rfl rfl rfl (S.ob rfl) rfl e96 rfl ?_
  refine ax_call (z := 87) (p' := 10) (as := [_, _]) rfl (Or.inr (Or.inl ⟨_, rfl⟩)) rfl rfl rfl rfl rfl rfl (S.ob rfl) rfl e87 rfl ?_
  refine am_ev.step (pc' := 12) (ls' := [.ref 48, iv (P), iv (dy), iv (D), .null]) rfl rfl ?_
  refine am_ev.step (pc' := 14) rfl rfl ?_
  refine am_ev.step (pc' := 17) rfl rfl ?_
  refine am_ev.step (pc' := 18) rfl rfl ?_
  refine am_ev.step (pc' := 28) rfl rfl ?_
  exact fx_reti rfl rfl rfl
theorem dt_95t (S : fS h) (Os : am_isO h s 4 = true) (e96 : am_ev d 96 0 (am_ent [.ref 48, iv P, iv D] 4) [] h (some (iv K), h)) (e87 : am_ev d 87 0 (am_ent [.ref 48, iv K] 2) [] h (some (.ref s), h)) (e97 : am_ev d 97 0 (am_ent [.ref s, iv dy, iv D] 4) [] h (some (.int l), h)) : am_ev (d + 1) 95 0 (am_ent [.ref 48, iv P, iv dy, iv D] 5) [] h (some (.int l), h) := by
  show am_ev (d + 1) 95 0 [.ref 48, iv (P), iv (dy), iv (D), am_ph] [] h _
  refine am_ev.step (pc' := 1) rfl rfl ?_
  refine am_ev.step (pc' := 2) rfl rfl ?_
  refine am_ev.step (pc' := 3) rfl rfl ?_
  refine am_ev.step (pc' := 4) rfl rfl ?_
  refine ax_call (z := 96) (p' := 7) (as := [_, _, _]) rfl (Or.inr (Or.inl ⟨_, rfl⟩)) rfl rfl rfl rfl rfl rfl (S.ob rfl) rfl e96 rfl ?_
  refine ax_call (z := 87) (p' := 10) (as := [_, _]) rfl (Or.inr (Or.inl ⟨_, rfl⟩)) rfl rfl rfl rfl rfl rfl (S.ob rfl) rfl e87 rfl ?_
  refine am_ev.step (pc' := 12) (ls' := [.ref 48, iv (P), iv (dy), iv (D), .ref s]) rfl rfl ?_
  refine am_ev.step (pc' := 14) rfl rfl ?_
  refine am_ev.step (pc' := 21) rfl rfl ?_
  refine am_ev.step (pc' := 23) rfl rfl ?_
  refine am_ev.step (pc' := 24) rfl rfl ?_
  refine am_ev.step (pc' := 25) rfl rfl ?_
  refine ax_call (z := 97) (p' := 28) (as := [_, _, _]) rfl (Or.inr (Or.inl ⟨_, rfl⟩)) rfl rfl rfl rfl rfl rfl Os rfl e97 rfl ?_
  exact fx_reti rfl rfl rfl
end GRL
section MAY
variable {p : Int32} {l : Nat} {FL GL : Int32} {K t w g u k : Int}
theorem cm_92_2 (S : fS h) (Os : am_isO h s 6 = true) (hl : l < 6) (bdy : 0 ≤ dy ∧ dy ≤ 29999) (bD : 0 ≤ D ∧ D ≤ 29999) (e42 : am_ev (d + 2) 42 0 (am_ent [.ref 40, .int p] 2) [] h (some (.ref s), h)) (e93 : am_ev (d + 2) 93 0 (am_ent [.ref 48, .ref s, .ref 43, iv dy, iv D] 8) [] h (some (.int FL), h)) (qF : bt FL l = true) : am_ev (d + 3) 92 0 (am_ent [.ref 40, .int p, iv l, iv dy, iv D] 6) [] h (some (iv 2), h) := by
  show am_ev (d + 3) 92 0 [.ref 40, .int p, iv ((l : Int)), iv (dy), iv (D), am_ph] [] h _
  refine am_ev.step (pc' := 1) rfl rfl ?_
  refine am_ev.step (pc' := 2) rfl rfl ?_
  refine ax_call (z := 42) (p' := 5) (as := [_, _]) rfl (Or.inr (Or.inl ⟨_, rfl⟩)) rfl rfl rfl rfl rfl rfl (S.ob rfl) rfl e42 rfl ?_
  refine am_ev.step (pc' := 7) (ls' := [.ref 40, .int p, iv ((l : Int)), iv (dy), iv (D), .ref s]) rfl rfl ?_
  refine am_ev.step (pc' := 9) rfl rfl ?_
  refine am_ev.step (pc' := 12) rfl rfl ?_
  refine am_ev.step (pc' := 13) rfl rfl ?_
  refine am_ev.step (pc' := 14) rfl rfl ?_
  refine ax_call (z := 39) (p' := 17) (as := [_, _]) rfl (Or.inl ⟨_, rfl⟩) rfl rfl rfl rfl rfl rfl rfl rfl (w39_5t (by omega) (by omega)) rfl ?_
  refine fx_z_eq_F (pF := 20) rfl (by omega) rfl (by omega) ?_
  refine am_ev.step (pc' := 21) rfl rfl ?_
  refine fx_sip (p' := 24) rfl rfl rfl ?_
  refine ax_call (z := 39) (p' := 27) (as := [_, _]) rfl (Or.inl ⟨_, rfl⟩) rfl rfl rfl rfl rfl rfl rfl rfl (w39_29999t (by omega) (by omega)) rfl ?_
  refine fx_z_eq_F (pF := 30) rfl (by omega) rfl (by omega) ?_
  refine am_ev.step (pc' := 32) rfl rfl ?_
  refine fx_sip (p' := 35) rfl rfl rfl ?_
  refine ax_call (z := 39) (p' := 38) (as := [_, _]) rfl (Or.inl ⟨_, rfl⟩) rfl rfl rfl rfl rfl rfl rfl rfl (w39_29999t (by omega) (by omega)) rfl ?_
  refine fx_z_ne_T (pT := 44) rfl (by omega) rfl (by omega) ?_
  refine am_ev.step (pc' := 45) rfl rfl ?_
  refine ax_gf (p' := 48) rfl rfl (S.ob rfl) (S.rf rfl rfl) ?_
  refine am_ev.step (pc' := 50) rfl rfl ?_
  refine am_ev.step (pc' := 51) rfl rfl ?_
  refine ax_gf (p' := 54) rfl rfl (S.ob rfl) (S.rf rfl rfl) ?_
  refine am_ev.step (pc' := 55) rfl rfl ?_
  refine am_ev.step (pc' := 57) rfl rfl ?_
  refine ax_call (z := 93) (p' := 60) (as := [_, _, _, _, _]) rfl (Or.inr (Or.inl ⟨_, rfl⟩)) rfl rfl rfl rfl rfl rfl (S.ob rfl) rfl e93 rfl ?_
  refine am_ev.step (pc' := 61) rfl rfl ?_
  refine ax_call (z := 31) (p' := 64) (as := [_, _]) rfl (Or.inl ⟨_, rfl⟩) rfl rfl rfl rfl rfl rfl rfl rfl ((tk_31 (t := FL) (c := l) (by omega)).1 qF) rfl ?_
  refine fx_z_eq_F (pF := 67) rfl (by omega) rfl (by omega) ?_
  refine am_ev.step (pc' := 68) rfl rfl ?_
  exact fx_reti rfl rfl rfl
theorem cm_92_1 (S : fS h) (Os : am_isO h s 6 = true) (hl : l < 6) (bdy : 0 ≤ dy ∧ dy ≤ 29999) (bD : 0 ≤ D ∧ D ≤ 29999) (e42 : am_ev (d + 2) 42 0 (am_ent [.ref 40, .int p] 2) [] h (some (.ref s), h)) (e93 : am_ev (d + 2) 93 0 (am_ent [.ref 48, .ref s, .ref 43, iv dy, iv D] 8) [] h (some (.int FL), h)) (e95 : am_ev (d + 2) 95 0 (am_ent [.ref 48, .int p, iv dy, iv D] 5) [] h (some (.int GL), h)) (qF : bt FL l = false) (qG : bt GL l = true) : am_ev (d + 3) 92 0 (am_ent [.ref 40, .int p, iv l, iv dy, iv D] 6) [] h (some (iv 1), h) := by
  show am_ev (d + 3) 92 0 [.ref 40, .int p, iv ((l : Int)), iv (dy), iv (D), am_ph] [] h _
  refine am_ev.step (pc' := 1) rfl rfl ?_
  refine am_ev.step (pc' := 2) rfl rfl ?_
  refine ax_call (z := 42) (p' := 5) (as := [_, _]) rfl (Or.inr (Or.inl ⟨_, rfl⟩)) rfl rfl rfl rfl rfl rfl (S.ob rfl) rfl e42 rfl ?_
  refine am_ev.step (pc' := 7) (ls' := [.ref 40, .int p, iv ((l : Int)), iv (dy), iv (D), .ref s]) rfl rfl ?_
  refine am_ev.step (pc' := 9) rfl rfl ?_
  refine am_ev.step (pc' := 12) rfl rfl ?_
  refine am_ev.step (pc' := 13) rfl rfl ?_
  refine am_ev.step (pc' := 14) rfl rfl ?_
  refine ax_call (z := 39) (p' := 17) (as := [_, _]) rfl (Or.inl ⟨_, rfl⟩) rfl rfl rfl rfl rfl rfl rfl rfl (w39_5t (by omega) (by omega)) rfl ?_
  refine fx_z_eq_F (pF := 20) rfl (by omega) rfl (by omega) ?_
  refine am_ev.step (pc' := 21) rfl rfl ?_
  refine fx_sip (p' := 24) rfl rfl rfl ?_
  refine ax_call (z := 39) (p' := 27) (as := [_, _]) rfl (Or.inl ⟨_, rfl⟩) rfl rfl rfl rfl rfl rfl rfl rfl (w39_29999t (by omega) (by omega)) rfl ?_
  refine fx_z_eq_F (pF := 30) rfl (by omega) rfl (by omega) ?_
  refine am_ev.step (pc' := 32) rfl rfl ?_
  refine fx_sip (p' := 35) rfl rfl rfl ?_
  refine ax_call (z := 39) (p' := 38) (as := [_, _]) rfl (Or.inl ⟨_, rfl⟩) rfl rfl rfl rfl rfl rfl rfl rfl (w39_29999t (by omega) (by omega)) rfl ?_
  refine fx_z_ne_T (pT := 44) rfl (by omega) rfl (by omega) ?_
  refine am_ev.step (pc' := 45) rfl rfl ?_
  refine ax_gf (p' := 48) rfl rfl (S.ob rfl) (S.rf rfl rfl) ?_
  refine am_ev.step (pc' := 50) rfl rfl ?_
  refine am_ev.step (pc' := 51) rfl rfl ?_
  refine ax_gf (p' := 54) rfl rfl (S.ob rfl) (S.rf rfl rfl) ?_
  refine am_ev.step (pc' := 55) rfl rfl ?_
  refine am_ev.step (pc' := 57) rfl rfl ?_
  refine ax_call (z := 93) (p' := 60) (as := [_, _, _, _, _]) rfl (Or.inr (Or.inl ⟨_, rfl⟩)) rfl rfl rfl rfl rfl rfl (S.ob rfl) rfl e93 rfl ?_
  refine am_ev.step (pc' := 61) rfl rfl ?_
  refine ax_call (z := 31) (p' := 64) (as := [_, _]) rfl (Or.inl ⟨_, rfl⟩) rfl rfl rfl rfl rfl rfl rfl rfl ((tk_31 (t := FL) (c := l) (by omega)).2 qF) rfl ?_
  refine fx_z_eq_T (pT := 69) rfl (by omega) rfl (by omega) ?_
  refine am_ev.step (pc' := 70) rfl rfl ?_
  refine ax_gf (p' := 73) rfl rfl (S.ob rfl) (S.rf rfl rfl) ?_
  refine am_ev.step (pc' := 74) rfl rfl ?_
  refine am_ev.step (pc' := 75) rfl rfl ?_
  refine am_ev.step (pc' := 77) rfl rfl ?_
  refine ax_call (z := 95) (p' := 80) (as := [_, _, _, _]) rfl (Or.inr (Or.inl ⟨_, rfl⟩)) rfl rfl rfl rfl rfl rfl (S.ob rfl) rfl e95 rfl ?_
  refine am_ev.step (pc' := 81) rfl rfl ?_
  refine ax_call (z := 31) (p' := 84) (as := [_, _]) rfl (Or.inl ⟨_, rfl⟩) rfl rfl rfl rfl rfl rfl rfl rfl ((tk_31 (t := GL) (c := l) (by omega)).1 qG) rfl ?_
  refine fx_z_eq_F (pF := 87) rfl (by omega) rfl (by omega) ?_
  refine am_ev.step (pc' := 88) rfl rfl ?_
  refine am_ev.step (pc' := 92) rfl rfl ?_
  exact fx_reti rfl rfl rfl
theorem cm_92_0 (S : fS h) (Os : am_isO h s 6 = true) (hl : l < 6) (bdy : 0 ≤ dy ∧ dy ≤ 29999) (bD : 0 ≤ D ∧ D ≤ 29999) (e42 : am_ev (d + 2) 42 0 (am_ent [.ref 40, .int p] 2) [] h (some (.ref s), h)) (e93 : am_ev (d + 2) 93 0 (am_ent [.ref 48, .ref s, .ref 43, iv dy, iv D] 8) [] h (some (.int FL), h)) (e95 : am_ev (d + 2) 95 0 (am_ent [.ref 48, .int p, iv dy, iv D] 5) [] h (some (.int GL), h)) (qF : bt FL l = false) (qG : bt GL l = false) : am_ev (d + 3) 92 0 (am_ent [.ref 40, .int p, iv l, iv dy, iv D] 6) [] h (some (iv 0), h) := by
  show am_ev (d + 3) 92 0 [.ref 40, .int p, iv ((l : Int)), iv (dy), iv (D), am_ph] [] h _
  refine am_ev.step (pc' := 1) rfl rfl ?_
  refine am_ev.step (pc' := 2) rfl rfl ?_
  refine ax_call (z := 42) (p' := 5) (as := [_, _]) rfl (Or.inr (Or.inl ⟨_, rfl⟩)) rfl rfl rfl rfl rfl rfl (S.ob rfl) rfl e42 rfl ?_
  refine am_ev.step (pc' := 7) (ls' := [.ref 40, .int p, iv ((l : Int)), iv (dy), iv (D), .ref s]) rfl rfl ?_
  refine am_ev.step (pc' := 9) rfl rfl ?_
  refine am_ev.step (pc' := 12) rfl rfl ?_
  refine am_ev.step (pc' := 13) rfl rfl ?_
  refine am_ev.step (pc' := 14) rfl rfl ?_
  refine ax_call (z := 39) (p' := 17) (as := [_, _]) rfl (Or.inl ⟨_, rfl⟩) rfl rfl rfl rfl rfl rfl rfl rfl (w39_5t (by omega) (by omega)) rfl ?_
  refine fx_z_eq_F (pF := 20) rfl (by omega) rfl (by omega) ?_
  refine am_ev.step (pc' := 21) rfl rfl ?_
  refine fx_sip (p' := 24) rfl rfl rfl ?_
  refine ax_call (z := 39) (p' := 27) (as := [_, _]) rfl (Or.inl ⟨_, rfl⟩) rfl rfl rfl rfl rfl rfl rfl rfl (w39_29999t (by omega) (by omega)) rfl ?_
  refine fx_z_eq_F (pF := 30) rfl (by omega) rfl (by omega) ?_
  refine am_ev.step (pc' := 32) rfl rfl ?_
  refine fx_sip (p' := 35) rfl rfl rfl ?_
  refine ax_call (z := 39) (p' := 38) (as := [_, _]) rfl (Or.inl ⟨_, rfl⟩) rfl rfl rfl rfl rfl rfl rfl rfl (w39_29999t (by omega) (by omega)) rfl ?_
  refine fx_z_ne_T (pT := 44) rfl (by omega) rfl (by omega) ?_
  refine am_ev.step (pc' := 45) rfl rfl ?_
  refine ax_gf (p' := 48) rfl rfl (S.ob rfl) (S.rf rfl rfl) ?_
  refine am_ev.step (pc' := 50) rfl rfl ?_
  refine am_ev.step (pc' := 51) rfl rfl ?_
  refine ax_gf (p' := 54) rfl rfl (S.ob rfl) (S.rf rfl rfl) ?_
  refine am_ev.step (pc' := 55) rfl rfl ?_
  refine am_ev.step (pc' := 57) rfl rfl ?_
  refine ax_call (z := 93) (p' := 60) (as := [_, _, _, _, _]) rfl (Or.inr (Or.inl ⟨_, rfl⟩)) rfl rfl rfl rfl rfl rfl (S.ob rfl) rfl e93 rfl ?_
  refine am_ev.step (pc' := 61) rfl rfl ?_
  refine ax_call (z := 31) (p' := 64) (as := [_, _]) rfl (Or.inl ⟨_, rfl⟩) rfl rfl rfl rfl rfl rfl rfl rfl ((tk_31 (t := FL) (c := l) (by omega)).2 qF) rfl ?_
  refine fx_z_eq_T (pT := 69) rfl (by omega) rfl (by omega) ?_
  refine am_ev.step (pc' := 70) rfl rfl ?_
  refine ax_gf (p' := 73) rfl rfl (S.ob rfl) (S.rf rfl rfl) ?_
  refine am_ev.step (pc' := 74) rfl rfl ?_
  refine am_ev.step (pc' := 75) rfl rfl ?_
  refine am_ev.step (pc' := 77) rfl rfl ?_
  refine ax_call (z := 95) (p' := 80) (as := [_, _, _, _]) rfl (Or.inr (Or.inl ⟨_, rfl⟩)) rfl rfl rfl rfl rfl rfl (S.ob rfl) rfl e95 rfl ?_
  refine am_ev.step (pc' := 81) rfl rfl ?_
  refine ax_call (z := 31) (p' := 84) (as := [_, _]) rfl (Or.inl ⟨_, rfl⟩) rfl rfl rfl rfl rfl rfl rfl rfl ((tk_31 (t := GL) (c := l) (by omega)).2 qG) rfl ?_
  refine fx_z_eq_T (pT := 91) rfl (by omega) rfl (by omega) ?_
  refine am_ev.step (pc' := 92) rfl rfl ?_
  exact fx_reti rfl rfl rfl
theorem cm_92n (S : fS h) (e42 : am_ev (d + 2) 42 0 (am_ent [.ref 40, .int p] 2) [] h (some .null, h)) : am_ev (d + 3) 92 0 (am_ent [.ref 40, .int p, iv x, iv dy, iv D] 6) [] h (some (iv (-2)), h) := by
  show am_ev (d + 3) 92 0 [.ref 40, .int p, iv (x), iv (dy), iv (D), am_ph] [] h _
  refine am_ev.step (pc' := 1) rfl rfl ?_
  refine am_ev.step (pc' := 2) rfl rfl ?_
  refine ax_call (z := 42) (p' := 5) (as := [_, _]) rfl (Or.inr (Or.inl ⟨_, rfl⟩)) rfl rfl rfl rfl rfl rfl (S.ob rfl) rfl e42 rfl ?_
  refine am_ev.step (pc' := 7) (ls' := [.ref 40, .int p, iv (x), iv (dy), iv (D), .null]) rfl rfl ?_
  refine am_ev.step (pc' := 9) rfl rfl ?_
  refine am_ev.step (pc' := 41) rfl rfl ?_
  refine fx_bip (p' := 43) rfl rfl rfl ?_
  exact fx_reti rfl rfl rfl
theorem cm_92a (S : fS h) (r_x : -2147483648 ≤ x ∧ x ≤ 2147483647) (r_dy : -2147483648 ≤ dy ∧ dy ≤ 2147483647) (r_D : -2147483648 ≤ D ∧ D ≤ 2147483647) (e42 : am_ev (d + 2) 42 0 (am_ent [.ref 40, .int p] 2) [] h (some (.ref s), h)) (q : ¬ (0 ≤ x ∧ x ≤ 5)) : am_ev (d + 3) 92 0 (am_ent [.ref 40, .int p, iv x, iv dy, iv D] 6) [] h (some (iv (-2)), h) := by
  show am_ev (d + 3) 92 0 [.ref 40, .int p, iv (x), iv (dy), iv (D), am_ph] [] h _
  refine am_ev.step (pc' := 1) rfl rfl ?_
  refine am_ev.step (pc' := 2) rfl rfl ?_
  refine ax_call (z := 42) (p' := 5) (as := [_, _]) rfl (Or.inr (Or.inl ⟨_, rfl⟩)) rfl rfl rfl rfl rfl rfl (S.ob rfl) rfl e42 rfl ?_
  refine am_ev.step (pc' := 7) (ls' := [.ref 40, .int p, iv (x), iv (dy), iv (D), .ref s]) rfl rfl ?_
  refine am_ev.step (pc' := 9) rfl rfl ?_
  refine am_ev.step (pc' := 12) rfl rfl ?_
  refine am_ev.step (pc' := 13) rfl rfl ?_
  refine am_ev.step (pc' := 14) rfl rfl ?_
  refine ax_call (z := 39) (p' := 17) (as := [_, _]) rfl (Or.inl ⟨_, rfl⟩) rfl rfl rfl rfl rfl rfl rfl rfl (w39_5f r_x q) rfl ?_
  refine fx_z_eq_T (pT := 41) rfl (by omega) rfl (by omega) ?_
  refine fx_bip (p' := 43) rfl rfl rfl ?_
  exact fx_reti rfl rfl rfl
theorem cm_92b (S : fS h) (r_x : -2147483648 ≤ x ∧ x ≤ 2147483647) (r_dy : -2147483648 ≤ dy ∧ dy ≤ 2147483647) (r_D : -2147483648 ≤ D ∧ D ≤ 2147483647) (e42 : am_ev (d + 2) 42 0 (am_ent [.ref 40, .int p] 2) [] h (some (.ref s), h)) (q0 : 0 ≤ x ∧ x ≤ 5) (q : ¬ (0 ≤ dy ∧ dy ≤ 29999)) : am_ev (d + 3) 92 0 (am_ent [.ref 40, .int p, iv x, iv dy, iv D] 6) [] h (some (iv (-2)), h) := by
  show am_ev (d + 3) 92 0 [.ref 40, .int p, iv (x), iv (dy), iv (D), am_ph] [] h _
  refine am_ev.step (pc' := 1) rfl rfl ?_
  refine am_ev.step (pc' := 2) rfl rfl ?_
  refine ax_call (z := 42) (p' := 5) (as := [_, _]) rfl (Or.inr (Or.inl ⟨_, rfl⟩)) rfl rfl rfl rfl rfl rfl (S.ob rfl) rfl e42 rfl ?_
  refine am_ev.step (pc' := 7) (ls' := [.ref 40, .int p, iv (x), iv (dy), iv (D), .ref s]) rfl rfl ?_
  refine am_ev.step (pc' := 9) rfl rfl ?_
  refine am_ev.step (pc' := 12) rfl rfl ?_
  refine am_ev.step (pc' := 13) rfl rfl ?_
  refine am_ev.step (pc' := 14) rfl rfl ?_
  refine ax_call (z := 39) (p' := 17) (as := [_, _]) rfl (Or.inl ⟨_, rfl⟩) rfl rfl rfl rfl rfl rfl rfl rfl (w39_5t r_x q0) rfl ?_
  refine fx_z_eq_F (pF := 20) rfl (by omega) rfl (by omega) ?_
  refine am_ev.step (pc' := 21) rfl rfl ?_
  refine fx_sip (p' := 24) rfl rfl rfl ?_
  refine ax_call (z := 39) (p' := 27) (as := [_, _]) rfl (Or.inl ⟨_, rfl⟩) rfl rfl rfl rfl rfl rfl rfl rfl (w39_29999f r_dy q) rfl ?_
  refine fx_z_eq_T (pT := 41) rfl (by omega) rfl (by omega) ?_
  refine fx_bip (p' := 43) rfl rfl rfl ?_
  exact fx_reti rfl rfl rfl
theorem cm_92c (S : fS h) (r_x : -2147483648 ≤ x ∧ x ≤ 2147483647) (r_dy : -2147483648 ≤ dy ∧ dy ≤ 2147483647) (r_D : -2147483648 ≤ D ∧ D ≤ 2147483647) (e42 : am_ev (d + 2) 42 0 (am_ent [.ref 40, .int p] 2) [] h (some (.ref s), h)) (q0 : 0 ≤ x ∧ x ≤ 5) (q1 : 0 ≤ dy ∧ dy ≤ 29999) (q : ¬ (0 ≤ D ∧ D ≤ 29999)) : am_ev (d + 3) 92 0 (am_ent [.ref 40, .int p, iv x, iv dy, iv D] 6) [] h (some (iv (-2)), h) := by
  show am_ev (d + 3) 92 0 [.ref 40, .int p, iv (x), iv (dy), iv (D), am_ph] [] h _
  refine am_ev.step (pc' := 1) rfl rfl ?_
  refine am_ev.step (pc' := 2) rfl rfl ?_
  refine ax_call (z := 42) (p' := 5) (as := [_, _]) rfl (Or.inr (Or.inl ⟨_, rfl⟩)) rfl rfl rfl rfl rfl rfl (S.ob rfl) rfl e42 rfl ?_
  refine am_ev.step (pc' := 7) (ls' := [.ref 40, .int p, iv (x), iv (dy), iv (D), .ref s]) rfl rfl ?_
  refine am_ev.step (pc' := 9) rfl rfl ?_
  refine am_ev.step (pc' := 12) rfl rfl ?_
  refine am_ev.step (pc' := 13) rfl rfl ?_
  refine am_ev.step (pc' := 14) rfl rfl ?_
  refine ax_call (z := 39) (p' := 17) (as := [_, _]) rfl (Or.inl ⟨_, rfl⟩) rfl rfl rfl rfl rfl rfl rfl rfl (w39_5t r_x q0) rfl ?_
  refine fx_z_eq_F (pF := 20) rfl (by omega) rfl (by omega) ?_
  refine am_ev.step (pc' := 21) rfl rfl ?_
  refine fx_sip (p' := 24) rfl rfl rfl ?_
  refine ax_call (z := 39) (p' := 27) (as := [_, _]) rfl (Or.inl ⟨_, rfl⟩) rfl rfl rfl rfl rfl rfl rfl rfl (w39_29999t r_dy q1) rfl ?_
  refine fx_z_eq_F (pF := 30) rfl (by omega) rfl (by omega) ?_
  refine am_ev.step (pc' := 32) rfl rfl ?_
  refine fx_sip (p' := 35) rfl rfl rfl ?_
  refine ax_call (z := 39) (p' := 38) (as := [_, _]) rfl (Or.inl ⟨_, rfl⟩) rfl rfl rfl rfl rfl rfl rfl rfl (w39_29999f r_D q) rfl ?_
  refine fx_z_ne_F (pF := 41) rfl (by omega) rfl (by omega) ?_
  refine fx_bip (p' := 43) rfl rfl rfl ?_
  exact fx_reti rfl rfl rfl
theorem mm_218n (S : fS h) (e188 : am_ev (d + 2) 188 0 (am_ent [.ref 78, .int p] 2) [] h (some (iv 0), h)) : am_ev (d + 3) 218 0 (am_ent [.ref 78, .int p, iv x, iv dy, iv D] 5) [] h (some (iv (-2)), h) := by
  show am_ev (d + 3) 218 0 [.ref 78, .int p, iv (x), iv (dy), iv (D)] [] h _
  refine am_ev.step (pc' := 1) rfl rfl ?_
  refine am_ev.step (pc' := 2) rfl rfl ?_
  refine ax_call (z := 188) (p' := 5) (as := [_, _]) rfl (Or.inr (Or.inl ⟨_, rfl⟩)) rfl rfl rfl rfl rfl rfl (S.ob rfl) rfl e188 rfl ?_
  refine fx_z_eq_T (pT := 42) rfl (by omega) rfl (by omega) ?_
  refine fx_bip (p' := 44) rfl rfl rfl ?_
  exact fx_reti rfl rfl rfl
theorem mm_218a (S : fS h) (r_x : -2147483648 ≤ x ∧ x ≤ 2147483647) (r_dy : -2147483648 ≤ dy ∧ dy ≤ 2147483647) (r_D : -2147483648 ≤ D ∧ D ≤ 2147483647) (e188 : am_ev (d + 2) 188 0 (am_ent [.ref 78, .int p] 2) [] h (some (iv 1), h)) (q : ¬ (0 ≤ x ∧ x ≤ 5)) : am_ev (d + 3) 218 0 (am_ent [.ref 78, .int p, iv x, iv dy, iv D] 5) [] h (some (iv (-2)), h) := by
  show am_ev (d + 3) 218 0 [.ref 78, .int p, iv (x), iv (dy), iv (D)] [] h _
  refine am_ev.step (pc' := 1) rfl rfl ?_
  refine am_ev.step (pc' := 2) rfl rfl ?_
  refine ax_call (z := 188) (p' := 5) (as := [_, _]) rfl (Or.inr (Or.inl ⟨_, rfl⟩)) rfl rfl rfl rfl rfl rfl (S.ob rfl) rfl e188 rfl ?_
  refine fx_z_eq_F (pF := 8) rfl (by omega) rfl (by omega) ?_
  refine am_ev.step (pc' := 9) rfl rfl ?_
  refine ax_call (z := 219) (p' := 12) (as := [_]) rfl (Or.inl ⟨_, rfl⟩) rfl rfl rfl rfl rfl rfl rfl rfl (w219f r_x q) rfl ?_
  refine fx_z_eq_T (pT := 42) rfl (by omega) rfl (by omega) ?_
  refine fx_bip (p' := 44) rfl rfl rfl ?_
  exact fx_reti rfl rfl rfl
theorem mm_218b (S : fS h) (r_x : -2147483648 ≤ x ∧ x ≤ 2147483647) (r_dy : -2147483648 ≤ dy ∧ dy ≤ 2147483647) (r_D : -2147483648 ≤ D ∧ D ≤ 2147483647) (e188 : am_ev (d + 2) 188 0 (am_ent [.ref 78, .int p] 2) [] h (some (iv 1), h)) (q0 : 0 ≤ x ∧ x ≤ 5) (q : ¬ (0 ≤ dy ∧ dy ≤ 29999)) : am_ev (d + 3) 218 0 (am_ent [.ref 78, .int p, iv x, iv dy, iv D] 5) [] h (some (iv (-2)), h) := by
  show am_ev (d + 3) 218 0 [.ref 78, .int p, iv (x), iv (dy), iv (D)] [] h _
  refine am_ev.step (pc' := 1) rfl rfl ?_
  refine am_ev.step (pc' := 2) rfl rfl ?_
  refine ax_call (z := 188) (p' := 5) (as := [_, _]) rfl (Or.inr (Or.inl ⟨_, rfl⟩)) rfl rfl rfl rfl rfl rfl (S.ob rfl) rfl e188 rfl ?_
  refine fx_z_eq_F (pF := 8) rfl (by omega) rfl (by omega) ?_
  refine am_ev.step (pc' := 9) rfl rfl ?_
  refine ax_call (z := 219) (p' := 12) (as := [_]) rfl (Or.inl ⟨_, rfl⟩) rfl rfl rfl rfl rfl rfl rfl rfl (w219t r_x q0) rfl ?_
  refine fx_z_eq_F (pF := 15) rfl (by omega) rfl (by omega) ?_
  refine am_ev.step (pc' := 16) rfl rfl ?_
  refine ax_call (z := 216) (p' := 19) (as := [_]) rfl (Or.inl ⟨_, rfl⟩) rfl rfl rfl rfl rfl rfl rfl rfl (w216f r_dy q) rfl ?_
  refine fx_z_eq_T (pT := 42) rfl (by omega) rfl (by omega) ?_
  refine fx_bip (p' := 44) rfl rfl rfl ?_
  exact fx_reti rfl rfl rfl
theorem mm_218c (S : fS h) (r_x : -2147483648 ≤ x ∧ x ≤ 2147483647) (r_dy : -2147483648 ≤ dy ∧ dy ≤ 2147483647) (r_D : -2147483648 ≤ D ∧ D ≤ 2147483647) (e188 : am_ev (d + 2) 188 0 (am_ent [.ref 78, .int p] 2) [] h (some (iv 1), h)) (q0 : 0 ≤ x ∧ x ≤ 5) (q1 : 0 ≤ dy ∧ dy ≤ 29999) (q : ¬ (0 ≤ D ∧ D ≤ 29999)) : am_ev (d + 3) 218 0 (am_ent [.ref 78, .int p, iv x, iv dy, iv D] 5) [] h (some (iv (-2)), h) := by
  show am_ev (d + 3) 218 0 [.ref 78, .int p, iv (x), iv (dy), iv (D)] [] h _
  refine am_ev.step (pc' := 1) rfl rfl ?_
  refine am_ev.step (pc' := 2) rfl rfl ?_
  refine ax_call (z := 188) (p' := 5) (as := [_, _]) rfl (Or.inr (Or.inl ⟨_, rfl⟩)) rfl rfl rfl rfl rfl rfl (S.ob rfl) rfl e188 rfl ?_
  refine fx_z_eq_F (pF := 8) rfl (by omega) rfl (by omega) ?_
  refine am_ev.step (pc' := 9) rfl rfl ?_
  refine ax_call (z := 219) (p' := 12) (as := [_]) rfl (Or.inl ⟨_, rfl⟩) rfl rfl rfl rfl rfl rfl rfl rfl (w219t r_x q0) rfl ?_
  refine fx_z_eq_F (pF := 15) rfl (by omega) rfl (by omega) ?_
  refine am_ev.step (pc' := 16) rfl rfl ?_
  refine ax_call (z := 216) (p' := 19) (as := [_]) rfl (Or.inl ⟨_, rfl⟩) rfl rfl rfl rfl rfl rfl rfl rfl (w216t r_dy q1) rfl ?_
  refine fx_z_eq_F (pF := 22) rfl (by omega) rfl (by omega) ?_
  refine am_ev.step (pc' := 24) rfl rfl ?_
  refine ax_call (z := 216) (p' := 27) (as := [_]) rfl (Or.inl ⟨_, rfl⟩) rfl rfl rfl rfl rfl rfl rfl rfl (w216f r_D q) rfl ?_
  refine fx_z_eq_T (pT := 42) rfl (by omega) rfl (by omega) ?_
  refine fx_bip (p' := 44) rfl rfl rfl ?_
  exact fx_reti rfl rfl rfl
theorem mm_218t {r : Int} (S : fS h) (hl : l < 6) (bdy : 0 ≤ dy ∧ dy ≤ 29999) (bD : 0 ≤ D ∧ D ≤ 29999) (e188 : am_ev (d + 2) 188 0 (am_ent [.ref 78, .int p] 2) [] h (some (iv 1), h)) (e220 : am_ev (d + 2) 220 0 (am_ent [.ref 78, .int p, iv l, iv dy, iv D] 6) [] h (some (iv r), h)) : am_ev (d + 3) 218 0 (am_ent [.ref 78, .int p, iv l, iv dy, iv D] 5) [] h (some (iv r), h) := by
  show am_ev (d + 3) 218 0 [.ref 78, .int p, iv ((l : Int)), iv (dy), iv (D)] [] h _
  refine am_ev.step (pc' := 1) rfl rfl ?_
  refine am_ev.step (pc' := 2) rfl rfl ?_
  refine ax_call (z := 188) (p' := 5) (as := [_, _]) rfl (Or.inr (Or.inl ⟨_, rfl⟩)) rfl rfl rfl rfl rfl rfl (S.ob rfl) rfl e188 rfl ?_
  refine fx_z_eq_F (pF := 8) rfl (by omega) rfl (by omega) ?_
  refine am_ev.step (pc' := 9) rfl rfl ?_
  refine ax_call (z := 219) (p' := 12) (as := [_]) rfl (Or.inl ⟨_, rfl⟩) rfl rfl rfl rfl rfl rfl rfl rfl (w219t (by omega) (by omega)) rfl ?_
  refine fx_z_eq_F (pF := 15) rfl (by omega) rfl (by omega) ?_
  refine am_ev.step (pc' := 16) rfl rfl ?_
  refine ax_call (z := 216) (p' := 19) (as := [_]) rfl (Or.inl ⟨_, rfl⟩) rfl rfl rfl rfl rfl rfl rfl rfl (w216t (by omega) (by omega)) rfl ?_
  refine fx_z_eq_F (pF := 22) rfl (by omega) rfl (by omega) ?_
  refine am_ev.step (pc' := 24) rfl rfl ?_
  refine ax_call (z := 216) (p' := 27) (as := [_]) rfl (Or.inl ⟨_, rfl⟩) rfl rfl rfl rfl rfl rfl rfl rfl (w216t (by omega) (by omega)) rfl ?_
  refine fx_z_eq_F (pF := 30) rfl (by omega) rfl (by omega) ?_
  refine am_ev.step (pc' := 31) rfl rfl ?_
  refine am_ev.step (pc' := 32) rfl rfl ?_
  refine am_ev.step (pc' := 33) rfl rfl ?_
  refine am_ev.step (pc' := 34) rfl rfl ?_
  refine am_ev.step (pc' := 36) rfl rfl ?_
  refine ax_call (z := 220) (p' := 39) (as := [_, _, _, _, _]) rfl (Or.inr (Or.inl ⟨_, rfl⟩)) rfl rfl rfl rfl rfl rfl (S.ob rfl) rfl e220 rfl ?_
  refine am_ev.step (pc' := 44) rfl rfl ?_
  exact fx_reti rfl rfl rfl
theorem mm_220a {q : Nat} (S : fS h) (hq : q < 40) (g86 : h.2.2.2 86 q = iv t) (g90 : h.2.2.2 90 q = iv w) (r_w : -2147483648 ≤ w ∧ w ≤ 2147483647) (e1 : am_ev d 221 0 (am_ent [.ref 78, iv t, iv l, iv dy, iv D] 7) [] h (some (iv 1), h)) (qw : w = -1) : am_ev (d + 1) 220 0 (am_ent [.ref 78, iv q, iv l, iv dy, iv D] 6) [] h (some (iv 2), h) := by
  show am_ev (d + 1) 220 0 [.ref 78, iv ((q : Int)), iv ((l : Int)), iv (dy), iv (D), am_ph] [] h _
  refine am_ev.step (pc' := 1) rfl rfl ?_
  refine am_ev.step (pc' := 2) rfl rfl ?_
  refine ax_gf (p' := 5) rfl rfl (S.ob rfl) (S.rf rfl rfl) ?_
  refine am_ev.step (pc' := 6) rfl rfl ?_
  refine ax_iaload (p' := 7) rfl rfl (S.rd (k := q) rfl rfl rfl rfl rfl (by omega) g86) ?_
  refine am_ev.step (pc' := 8) rfl rfl ?_
  refine am_ev.step (pc' := 9) rfl rfl ?_
  refine am_ev.step (pc' := 11) rfl rfl ?_
  refine ax_call (z := 221) (p' := 14) (as := [_, _, _, _, _]) rfl (Or.inr (Or.inl ⟨_, rfl⟩)) rfl rfl rfl rfl rfl rfl (S.ob rfl) rfl e1 rfl ?_
  refine fx_z_eq_F (pF := 17) rfl (by omega) rfl (by omega) ?_
  refine am_ev.step (pc' := 18) rfl rfl ?_
  refine ax_gf (p' := 21) rfl rfl (S.ob rfl) (S.rf rfl rfl) ?_
  refine am_ev.step (pc' := 22) rfl rfl ?_
  refine ax_iaload (p' := 23) rfl rfl (S.rd (k := q) rfl rfl rfl rfl rfl (by omega) g90) ?_
  refine am_ev.step (pc' := 24) rfl rfl ?_
  refine fx_c_eq_T (pT := 44) rfl (by omega) (by omega) rfl (by omega) ?_
  refine am_ev.step (pc' := 45) rfl rfl ?_
  exact fx_reti rfl rfl rfl
theorem mm_220b {q : Nat} (S : fS h) (hq : q < 40) (g86 : h.2.2.2 86 q = iv t) (g90 : h.2.2.2 90 q = iv w) (r_w : -2147483648 ≤ w ∧ w ≤ 2147483647) (e1 : am_ev d 221 0 (am_ent [.ref 78, iv t, iv l, iv dy, iv D] 7) [] h (some (iv 1), h)) (e2 : am_ev d 221 0 (am_ent [.ref 78, iv w, iv l, iv dy, iv D] 7) [] h (some (iv 1), h)) (qw : w ≠ -1) : am_ev (d + 1) 220 0 (am_ent [.ref 78, iv q, iv l, iv dy, iv D] 6) [] h (some (iv 2), h) := by
  show am_ev (d + 1) 220 0 [.ref 78, iv ((q : Int)), iv ((l : Int)), iv (dy), iv (D), am_ph] [] h _
  refine am_ev.step (pc' := 1) rfl rfl ?_
  refine am_ev.step (pc' := 2) rfl rfl ?_
  refine ax_gf (p' := 5) rfl rfl (S.ob rfl) (S.rf rfl rfl) ?_
  refine am_ev.step (pc' := 6) rfl rfl ?_
  refine ax_iaload (p' := 7) rfl rfl (S.rd (k := q) rfl rfl rfl rfl rfl (by omega) g86) ?_
  refine am_ev.step (pc' := 8) rfl rfl ?_
  refine am_ev.step (pc' := 9) rfl rfl ?_
  refine am_ev.step (pc' := 11) rfl rfl ?_
  refine ax_call (z := 221) (p' := 14) (as := [_, _, _, _, _]) rfl (Or.inr (Or.inl ⟨_, rfl⟩)) rfl rfl rfl rfl rfl rfl (S.ob rfl) rfl e1 rfl ?_
  refine fx_z_eq_F (pF := 17) rfl (by omega) rfl (by omega) ?_
  refine am_ev.step (pc' := 18) rfl rfl ?_
  refine ax_gf (p' := 21) rfl rfl (S.ob rfl) (S.rf rfl rfl) ?_
  refine am_ev.step (pc' := 22) rfl rfl ?_
  refine ax_iaload (p' := 23) rfl rfl (S.rd (k := q) rfl rfl rfl rfl rfl (by omega) g90) ?_
  refine am_ev.step (pc' := 24) rfl rfl ?_
  refine fx_c_eq_F (pF := 27) rfl (by omega) (by omega) rfl (by omega) ?_
  refine am_ev.step (pc' := 28) rfl rfl ?_
  refine am_ev.step (pc' := 29) rfl rfl ?_
  refine ax_gf (p' := 32) rfl rfl (S.ob rfl) (S.rf rfl rfl) ?_
  refine am_ev.step (pc' := 33) rfl rfl ?_
  refine ax_iaload (p' := 34) rfl rfl (S.rd (k := q) rfl rfl rfl rfl rfl (by omega) g90) ?_
  refine am_ev.step (pc' := 35) rfl rfl ?_
  refine am_ev.step (pc' := 36) rfl rfl ?_
  refine am_ev.step (pc' := 38) rfl rfl ?_
  refine ax_call (z := 221) (p' := 41) (as := [_, _, _, _, _]) rfl (Or.inr (Or.inl ⟨_, rfl⟩)) rfl rfl rfl rfl rfl rfl (S.ob rfl) rfl e2 rfl ?_
  refine fx_z_eq_F (pF := 44) rfl (by omega) rfl (by omega) ?_
  refine am_ev.step (pc' := 45) rfl rfl ?_
  exact fx_reti rfl rfl rfl
theorem mm_220x0 {q : Nat} (S : fS h) (hq : q < 40) (g86 : h.2.2.2 86 q = iv t) (g90 : h.2.2.2 90 q = iv w) (r_w : -2147483648 ≤ w ∧ w ≤ 2147483647) (e1 : am_ev d 221 0 (am_ent [.ref 78, iv t, iv l, iv dy, iv D] 7) [] h (some (iv 0), h)) (e222 : am_ev d 222 0 (am_ent [.ref 78, iv q, iv D] 5) [] h (some (iv (-1)), h)) : am_ev (d + 1) 220 0 (am_ent [.ref 78, iv q, iv l, iv dy, iv D] 6) [] h (some (iv 0), h) := by
  show am_ev (d + 1) 220 0 [.ref 78, iv ((q : Int)), iv ((l : Int)), iv (dy), iv (D), am_ph] [] h _
  refine am_ev.step (pc' := 1) rfl rfl ?_
  refine am_ev.step (pc' := 2) rfl rfl ?_
  refine ax_gf (p' := 5) rfl rfl (S.ob rfl) (S.rf rfl rfl) ?_
  refine am_ev.step (pc' := 6) rfl rfl ?_
  refine ax_iaload (p' := 7) rfl rfl (S.rd (k := q) rfl rfl rfl rfl rfl (by omega) g86) ?_
  refine am_ev.step (pc' := 8) rfl rfl ?_
  refine am_ev.step (pc' := 9) rfl rfl ?_
  refine am_ev.step (pc' := 11) rfl rfl ?_
  refine ax_call (z := 221) (p' := 14) (as := [_, _, _, _, _]) rfl (Or.inr (Or.inl ⟨_, rfl⟩)) rfl rfl rfl rfl rfl rfl (S.ob rfl) rfl e1 rfl ?_
  refine fx_z_eq_T (pT := 46) rfl (by omega) rfl (by omega) ?_
  refine am_ev.step (pc' := 47) rfl rfl ?_
  refine am_ev.step (pc' := 48) rfl rfl ?_
  refine am_ev.step (pc' := 50) rfl rfl ?_
  refine ax_call (z := 222) (p' := 53) (as := [_, _, _]) rfl (Or.inr (Or.inl ⟨_, rfl⟩)) rfl rfl rfl rfl rfl rfl (S.ob rfl) rfl e222 rfl ?_
  refine am_ev.step (pc' := 55) (ls' := [.ref 78, iv ((q : Int)), iv ((l : Int)), iv (dy), iv (D), iv (-1)]) rfl rfl ?_
  refine am_ev.step (pc' := 57) rfl rfl ?_
  refine am_ev.step (pc' := 58) rfl rfl ?_
  refine fx_c_eq_T (pT := 86) rfl (by omega) (by omega) rfl (by omega) ?_
  refine am_ev.step (pc' := 87) rfl rfl ?_
  exact fx_reti rfl rfl rfl
theorem mm_220x1 {q : Nat} (S : fS h) (hq : q < 40) (g86 : h.2.2.2 86 q = iv t) (g90 : h.2.2.2 90 q = iv w) (r_w : -2147483648 ≤ w ∧ w ≤ 2147483647) (e1 : am_ev d 221 0 (am_ent [.ref 78, iv t, iv l, iv dy, iv D] 7) [] h (some (iv 0), h)) {κ : Nat} (hκ : κ < 80) (e222 : am_ev d 222 0 (am_ent [.ref 78, iv q, iv D] 5) [] h (some (iv κ), h)) (gL : h.2.2.2 104 κ = .int GL) (gu : h.2.2.2 105 κ = iv u) (gk : h.2.2.2 113 κ = iv k) (gg : h.2.2.2 112 κ = iv g) (r_u : -2147483648 ≤ u ∧ u ≤ 2147483647) (r_k : -2147483648 ≤ k ∧ k ≤ 2147483647) (r_g : -2147483648 ≤ g ∧ g ≤ 2147483647) (r_dy : -2147483648 ≤ dy ∧ dy ≤ 2147483647) (r_D : -2147483648 ≤ D ∧ D ≤ 2147483647) (hl : l < 31) (qb : bt GL l = false) : am_ev (d + 1) 220 0 (am_ent [.ref 78, iv q, iv l, iv dy, iv D] 6) [] h (some (iv 0), h) := by
  show am_ev (d + 1) 220 0 [.ref 78, iv ((q : Int)), iv ((l : Int)), iv (dy), iv (D), am_ph] [] h _
  refine am_ev.step (pc' := 1) rfl rfl ?_
  refine am_ev.step (pc' := 2) rfl rfl ?_
  refine ax_gf (p' := 5) rfl rfl (S.ob rfl) (S.rf rfl rfl) ?_
  refine am_ev.step (pc' := 6) rfl rfl ?_
  refine ax_iaload (p' := 7) rfl rfl (S.rd (k := q) rfl rfl rfl rfl rfl (by omega) g86) ?_
  refine am_ev.step (pc' := 8) rfl rfl ?_
  refine am_ev.step (pc' := 9) rfl rfl ?_
  refine am_ev.step (pc' := 11) rfl rfl ?_
  refine ax_call (z := 221) (p' := 14) (as := [_, _, _, _, _]) rfl (Or.inr (Or.inl ⟨_, rfl⟩)) rfl rfl rfl rfl rfl rfl (S.ob rfl) rfl e1 rfl ?_
  refine fx_z_eq_T (pT := 46) rfl (by omega) rfl (by omega) ?_
  refine am_ev.step (pc' := 47) rfl rfl ?_
  refine am_ev.step (pc' := 48) rfl rfl ?_
  refine am_ev.step (pc' := 50) rfl rfl ?_
  refine ax_call (z := 222) (p' := 53) (as := [_, _, _]) rfl (Or.inr (Or.inl ⟨_, rfl⟩)) rfl rfl rfl rfl rfl rfl (S.ob rfl) rfl e222 rfl ?_
  refine am_ev.step (pc' := 55) (ls' := [.ref 78, iv ((q : Int)), iv ((l : Int)), iv (dy), iv (D), iv ((κ : Int))]) rfl rfl ?_
  refine am_ev.step (pc' := 57) rfl rfl ?_
  refine am_ev.step (pc' := 58) rfl rfl ?_
  refine fx_c_eq_F (pF := 61) rfl (by omega) (by omega) rfl (by omega) ?_
  refine am_ev.step (pc' := 62) rfl rfl ?_
  refine ax_gf (p' := 65) rfl rfl (S.ob rfl) (S.rf rfl rfl) ?_
  refine am_ev.step (pc' := 67) rfl rfl ?_
  refine ax_iaload (p' := 68) rfl rfl (S.rd (k := κ) rfl rfl rfl rfl rfl (by omega) gL) ?_
  refine am_ev.step (pc' := 69) rfl rfl ?_
  refine am_ev.step (pc' := 70) rfl rfl ?_
  refine am_ev.step (pc' := 71) rfl rfl ?_
  refine am_ev.step (pc' := 72) rfl rfl ?_
  refine ax_z_eq_T (p' := 86) rfl rfl ((b_sand hl).2 qb) ?_
  refine am_ev.step (pc' := 87) rfl rfl ?_
  exact fx_reti rfl rfl rfl
theorem mm_220x2 {q : Nat} (S : fS h) (hq : q < 40) (g86 : h.2.2.2 86 q = iv t) (g90 : h.2.2.2 90 q = iv w) (r_w : -2147483648 ≤ w ∧ w ≤ 2147483647) (e1 : am_ev d 221 0 (am_ent [.ref 78, iv t, iv l, iv dy, iv D] 7) [] h (some (iv 0), h)) {κ : Nat} (hκ : κ < 80) (e222 : am_ev d 222 0 (am_ent [.ref 78, iv q, iv D] 5) [] h (some (iv κ), h)) (gL : h.2.2.2 104 κ = .int GL) (gu : h.2.2.2 105 κ = iv u) (gk : h.2.2.2 113 κ = iv k) (gg : h.2.2.2 112 κ = iv g) (r_u : -2147483648 ≤ u ∧ u ≤ 2147483647) (r_k : -2147483648 ≤ k ∧ k ≤ 2147483647) (r_g : -2147483648 ≤ g ∧ g ≤ 2147483647) (r_dy : -2147483648 ≤ dy ∧ dy ≤ 2147483647) (r_D : -2147483648 ≤ D ∧ D ≤ 2147483647) (hl : l < 31) (qb : bt GL l = true) (qu : u < dy) : am_ev (d + 1) 220 0 (am_ent [.ref 78, iv q, iv l, iv dy, iv D] 6) [] h (some (iv 0), h) := by
  show am_ev (d + 1) 220 0 [.ref 78, iv ((q : Int)), iv ((l : Int)), iv (dy), iv (D), am_ph] [] h _
  refine am_ev.step (pc' := 1) rfl rfl ?_
  refine am_ev.step (pc' := 2) rfl rfl ?_
  refine ax_gf (p' := 5) rfl rfl (S.ob rfl) (S.rf rfl rfl) ?_
  refine am_ev.step (pc' := 6) rfl rfl ?_
  refine ax_iaload (p' := 7) rfl rfl (S.rd (k := q) rfl rfl rfl rfl rfl (by omega) g86) ?_
  refine am_ev.step (pc' := 8) rfl rfl ?_
  refine am_ev.step (pc' := 9) rfl rfl ?_
  refine am_ev.step (pc' := 11) rfl rfl ?_
  refine ax_call (z := 221) (p' := 14) (as := [_, _, _, _, _]) rfl (Or.inr (Or.inl ⟨_, rfl⟩)) rfl rfl rfl rfl rfl rfl (S.ob rfl) rfl e1 rfl ?_
  refine fx_z_eq_T (pT := 46) rfl (by omega) rfl (by omega) ?_
  refine am_ev.step (pc' := 47) rfl rfl ?_
  refine am_ev.step (pc' := 48) rfl rfl ?_
  refine am_ev.step (pc' := 50) rfl rfl ?_
  refine ax_call (z := 222) (p' := 53) (as := [_, _, _]) rfl (Or.inr (Or.inl ⟨_, rfl⟩)) rfl rfl rfl rfl rfl rfl (S.ob rfl) rfl e222 rfl ?_
  refine am_ev.step (pc' := 55) (ls' := [.ref 78, iv ((q : Int)), iv ((l : Int)), iv (dy), iv (D), iv ((κ : Int))]) rfl rfl ?_
  refine am_ev.step (pc' := 57) rfl rfl ?_
  refine am_ev.step (pc' := 58) rfl rfl ?_
  refine fx_c_eq_F (pF := 61) rfl (by omega) (by omega) rfl (by omega) ?_
  refine am_ev.step (pc' := 62) rfl rfl ?_
  refine ax_gf (p' := 65) rfl rfl (S.ob rfl) (S.rf rfl rfl) ?_
  refine am_ev.step (pc' := 67) rfl rfl ?_
  refine ax_iaload (p' := 68) rfl rfl (S.rd (k := κ) rfl rfl rfl rfl rfl (by omega) gL) ?_
  refine am_ev.step (pc' := 69) rfl rfl ?_
  refine am_ev.step (pc' := 70) rfl rfl ?_
  refine am_ev.step (pc' := 71) rfl rfl ?_
  refine am_ev.step (pc' := 72) rfl rfl ?_
  refine ax_z_eq_N (p' := 75) rfl rfl (fun z => by rw [(b_sand hl).1 z] at qb; cases qb) ?_
  refine am_ev.step (pc' := 76) rfl rfl ?_
  refine ax_gf (p' := 79) rfl rfl (S.ob rfl) (S.rf rfl rfl) ?_
  refine am_ev.step (pc' := 81) rfl rfl ?_
  refine ax_iaload (p' := 82) rfl rfl (S.rd (k := κ) rfl rfl rfl rfl rfl (by omega) gu) ?_
  refine am_ev.step (pc' := 83) rfl rfl ?_
  refine fx_c_ge_F (pF := 86) rfl (by omega) (by omega) rfl (by omega) ?_
  refine am_ev.step (pc' := 87) rfl rfl ?_
  exact fx_reti rfl rfl rfl
theorem mm_220x3 {q : Nat} (S : fS h) (hq : q < 40) (g86 : h.2.2.2 86 q = iv t) (g90 : h.2.2.2 90 q = iv w) (r_w : -2147483648 ≤ w ∧ w ≤ 2147483647) (e1 : am_ev d 221 0 (am_ent [.ref 78, iv t, iv l, iv dy, iv D] 7) [] h (some (iv 0), h)) {κ : Nat} (hκ : κ < 80) (e222 : am_ev d 222 0 (am_ent [.ref 78, iv q, iv D] 5) [] h (some (iv κ), h)) (gL : h.2.2.2 104 κ = .int GL) (gu : h.2.2.2 105 κ = iv u) (gk : h.2.2.2 113 κ = iv k) (gg : h.2.2.2 112 κ = iv g) (r_u : -2147483648 ≤ u ∧ u ≤ 2147483647) (r_k : -2147483648 ≤ k ∧ k ≤ 2147483647) (r_g : -2147483648 ≤ g ∧ g ≤ 2147483647) (r_dy : -2147483648 ≤ dy ∧ dy ≤ 2147483647) (r_D : -2147483648 ≤ D ∧ D ≤ 2147483647) (hl : l < 31) (qb : bt GL l = true) (qu : dy ≤ u) (qg : k ≠ -1 ∧ k ≤ D ∧ g ≤ dy) : am_ev (d + 1) 220 0 (am_ent [.ref 78, iv q, iv l, iv dy, iv D] 6) [] h (some (iv 0), h) := by
  show am_ev (d + 1) 220 0 [.ref 78, iv ((q : Int)), iv ((l : Int)), iv (dy), iv (D), am_ph] [] h _
  refine am_ev.step (pc' := 1) rfl rfl ?_
  refine am_ev.step (pc' := 2) rfl rfl ?_
  refine ax_gf (p' := 5) rfl rfl (S.ob rfl) (S.rf rfl rfl) ?_
  refine am_ev.step (pc' := 6) rfl rfl ?_
  refine ax_iaload (p' := 7) rfl rfl (S.rd (k := q) rfl rfl rfl rfl rfl (by omega) g86) ?_
  refine am_ev.step (pc' := 8) rfl rfl ?_
  refine am_ev.step (pc' := 9) rfl rfl ?_
  refine am_ev.step (pc' := 11) rfl rfl ?_
  refine ax_call (z := 221) (p' := 14) (as := [_, _, _, _, _]) rfl (Or.inr (Or.inl ⟨_, rfl⟩)) rfl rfl rfl rfl rfl rfl (S.ob rfl) rfl e1 rfl ?_
  refine fx_z_eq_T (pT := 46) rfl (by omega) rfl (by omega) ?_
  refine am_ev.step (pc' := 47) rfl rfl ?_
  refine am_ev.step (pc' := 48) rfl rfl ?_
  refine am_ev.step (pc' := 50) rfl rfl ?_
  refine ax_call (z := 222) (p' := 53) (as := [_, _, _]) rfl (Or.inr (Or.inl ⟨_, rfl⟩)) rfl rfl rfl rfl rfl rfl (S.ob rfl) rfl e222 rfl ?_
  refine am_ev.step (pc' := 55) (ls' := [.ref 78, iv ((q : Int)), iv ((l : Int)), iv (dy), iv (D), iv ((κ : Int))]) rfl rfl ?_
  refine am_ev.step (pc' := 57) rfl rfl ?_
  refine am_ev.step (pc' := 58) rfl rfl ?_
  refine fx_c_eq_F (pF := 61) rfl (by omega) (by omega) rfl (by omega) ?_
  refine am_ev.step (pc' := 62) rfl rfl ?_
  refine ax_gf (p' := 65) rfl rfl (S.ob rfl) (S.rf rfl rfl) ?_
  refine am_ev.step (pc' := 67) rfl rfl ?_
  refine ax_iaload (p' := 68) rfl rfl (S.rd (k := κ) rfl rfl rfl rfl rfl (by omega) gL) ?_
  refine am_ev.step (pc' := 69) rfl rfl ?_
  refine am_ev.step (pc' := 70) rfl rfl ?_
  refine am_ev.step (pc' := 71) rfl rfl ?_
  refine am_ev.step (pc' := 72) rfl rfl ?_
  refine ax_z_eq_N (p' := 75) rfl rfl (fun z => by rw [(b_sand hl).1 z] at qb; cases qb) ?_
  refine am_ev.step (pc' := 76) rfl rfl ?_
  refine ax_gf (p' := 79) rfl rfl (S.ob rfl) (S.rf rfl rfl) ?_
  refine am_ev.step (pc' := 81) rfl rfl ?_
  refine ax_iaload (p' := 82) rfl rfl (S.rd (k := κ) rfl rfl rfl rfl rfl (by omega) gu) ?_
  refine am_ev.step (pc' := 83) rfl rfl ?_
  refine fx_c_ge_T (pT := 88) rfl (by omega) (by omega) rfl (by omega) ?_
  refine am_ev.step (pc' := 89) rfl rfl ?_
  refine ax_gf (p' := 92) rfl rfl (S.ob rfl) (S.rf rfl rfl) ?_
  refine am_ev.step (pc' := 94) rfl rfl ?_
  refine ax_iaload (p' := 95) rfl rfl (S.rd (k := κ) rfl rfl rfl rfl rfl (by omega) gk) ?_
  refine am_ev.step (pc' := 96) rfl rfl ?_
  refine fx_c_eq_F (pF := 99) rfl (by omega) (by omega) rfl (by omega) ?_
  refine am_ev.step (pc' := 100) rfl rfl ?_
  refine ax_gf (p' := 103) rfl rfl (S.ob rfl) (S.rf rfl rfl) ?_
  refine am_ev.step (pc' := 105) rfl rfl ?_
  refine ax_iaload (p' := 106) rfl rfl (S.rd (k := κ) rfl rfl rfl rfl rfl (by omega) gk) ?_
  refine am_ev.step (pc' := 108) rfl rfl ?_
  refine fx_c_gt_F (pF := 111) rfl (by omega) (by omega) rfl (by omega) ?_
  refine am_ev.step (pc' := 112) rfl rfl ?_
  refine ax_gf (p' := 115) rfl rfl (S.ob rfl) (S.rf rfl rfl) ?_
  refine am_ev.step (pc' := 117) rfl rfl ?_
  refine ax_iaload (p' := 118) rfl rfl (S.rd (k := κ) rfl rfl rfl rfl rfl (by omega) gg) ?_
  refine am_ev.step (pc' := 119) rfl rfl ?_
  refine fx_c_gt_F (pF := 122) rfl (by omega) (by omega) rfl (by omega) ?_
  refine am_ev.step (pc' := 123) rfl rfl ?_
  refine am_ev.step (pc' := 127) rfl rfl ?_
  exact fx_reti rfl rfl rfl
theorem mm_220x4 {q : Nat} (S : fS h) (hq : q < 40) (g86 : h.2.2.2 86 q = iv t) (g90 : h.2.2.2 90 q = iv w) (r_w : -2147483648 ≤ w ∧ w ≤ 2147483647) (e1 : am_ev d 221 0 (am_ent [.ref 78, iv t, iv l, iv dy, iv D] 7) [] h (some (iv 0), h)) {κ : Nat} (hκ : κ < 80) (e222 : am_ev d 222 0 (am_ent [.ref 78, iv q, iv D] 5) [] h (some (iv κ), h)) (gL : h.2.2.2 104 κ = .int GL) (gu : h.2.2.2 105 κ = iv u) (gk : h.2.2.2 113 κ = iv k) (gg : h.2.2.2 112 κ = iv g) (r_u : -2147483648 ≤ u ∧ u ≤ 2147483647) (r_k : -2147483648 ≤ k ∧ k ≤ 2147483647) (r_g : -2147483648 ≤ g ∧ g ≤ 2147483647) (r_dy : -2147483648 ≤ dy ∧ dy ≤ 2147483647) (r_D : -2147483648 ≤ D ∧ D ≤ 2147483647) (hl : l < 31) (qb : bt GL l = true) (qu : dy ≤ u) (qg : k = -1) : am_ev (d + 1) 220 0 (am_ent [.ref 78, iv q, iv l, iv dy, iv D] 6) [] h (some (iv 1), h) := by
  show am_ev (d + 1) 220 0 [.ref 78, iv ((q : Int)), iv ((l : Int)), iv (dy), iv (D), am_ph] [] h _
  refine am_ev.step (pc' := 1) rfl rfl ?_
  refine am_ev.step (pc' := 2) rfl rfl ?_
  refine ax_gf (p' := 5) rfl rfl (S.ob rfl) (S.rf rfl rfl) ?_
  refine am_ev.step (pc' := 6) rfl rfl ?_
  refine ax_iaload (p' := 7) rfl rfl (S.rd (k := q) rfl rfl rfl rfl rfl (by omega) g86) ?_
  refine am_ev.step (pc' := 8) rfl rfl ?_
  refine am_ev.step (pc' := 9) rfl rfl ?_
  refine am_ev.step (pc' := 11) rfl rfl ?_
  refine ax_call (z := 221) (p' := 14) (as := [_, _, _, _, _]) rfl (Or.inr (Or.inl ⟨_, rfl⟩)) rfl rfl rfl rfl rfl rfl (S.ob rfl) rfl e1 rfl ?_
  refine fx_z_eq_T (pT := 46) rfl (by omega) rfl (by omega) ?_
  refine am_ev.step (pc' := 47) rfl rfl ?_
  refine am_ev.step (pc' := 48) rfl rfl ?_
  refine am_ev.step (pc' := 50) rfl rfl ?_
  refine ax_call (z := 222) (p' := 53) (as := [_, _, _]) rfl (Or.inr (Or.inl ⟨_, rfl⟩)) rfl rfl rfl rfl rfl rfl (S.ob rfl) rfl e222 rfl ?_
  refine am_ev.step (pc' := 55) (ls' := [.ref 78, iv ((q : Int)), iv ((l : Int)), iv (dy), iv (D), iv ((κ : Int))]) rfl rfl ?_
  refine am_ev.step (pc' := 57) rfl rfl ?_
  refine am_ev.step (pc' := 58) rfl rfl ?_
  refine fx_c_eq_F (pF := 61) rfl (by omega) (by omega) rfl (by omega) ?_
  refine am_ev.step (pc' := 62) rfl rfl ?_
  refine ax_gf (p' := 65) rfl rfl (S.ob rfl) (S.rf rfl rfl) ?_
  refine am_ev.step (pc' := 67) rfl rfl ?_
  refine ax_iaload (p' := 68) rfl rfl (S.rd (k := κ) rfl rfl rfl rfl rfl (by omega) gL) ?_
  refine am_ev.step (pc' := 69) rfl rfl ?_
  refine am_ev.step (pc' := 70) rfl rfl ?_
  refine am_ev.step (pc' := 71) rfl rfl ?_
  refine am_ev.step (pc' := 72) rfl rfl ?_
  refine ax_z_eq_N (p' := 75) rfl rfl (fun z => by rw [(b_sand hl).1 z] at qb; cases qb) ?_
  refine am_ev.step (pc' := 76) rfl rfl ?_
  refine ax_gf (p' := 79) rfl rfl (S.ob rfl) (S.rf rfl rfl) ?_
  refine am_ev.step (pc' := 81) rfl rfl ?_
  refine ax_iaload (p' := 82) rfl rfl (S.rd (k := κ) rfl rfl rfl rfl rfl (by omega) gu) ?_
  refine am_ev.step (pc' := 83) rfl rfl ?_
  refine fx_c_ge_T (pT := 88) rfl (by omega) (by omega) rfl (by omega) ?_
  refine am_ev.step (pc' := 89) rfl rfl ?_
  refine ax_gf (p' := 92) rfl rfl (S.ob rfl) (S.rf rfl rfl) ?_
  refine am_ev.step (pc' := 94) rfl rfl ?_
  refine ax_iaload (p' := 95) rfl rfl (S.rd (k := κ) rfl rfl rfl rfl rfl (by omega) gk) ?_
  refine am_ev.step (pc' := 96) rfl rfl ?_
  refine fx_c_eq_T (pT := 126) rfl (by omega) (by omega) rfl (by omega) ?_
  refine am_ev.step (pc' := 127) rfl rfl ?_
  exact fx_reti rfl rfl rfl
theorem mm_220x5 {q : Nat} (S : fS h) (hq : q < 40) (g86 : h.2.2.2 86 q = iv t) (g90 : h.2.2.2 90 q = iv w) (r_w : -2147483648 ≤ w ∧ w ≤ 2147483647) (e1 : am_ev d 221 0 (am_ent [.ref 78, iv t, iv l, iv dy, iv D] 7) [] h (some (iv 0), h)) {κ : Nat} (hκ : κ < 80) (e222 : am_ev d 222 0 (am_ent [.ref 78, iv q, iv D] 5) [] h (some (iv κ), h)) (gL : h.2.2.2 104 κ = .int GL) (gu : h.2.2.2 105 κ = iv u) (gk : h.2.2.2 113 κ = iv k) (gg : h.2.2.2 112 κ = iv g) (r_u : -2147483648 ≤ u ∧ u ≤ 2147483647) (r_k : -2147483648 ≤ k ∧ k ≤ 2147483647) (r_g : -2147483648 ≤ g ∧ g ≤ 2147483647) (r_dy : -2147483648 ≤ dy ∧ dy ≤ 2147483647) (r_D : -2147483648 ≤ D ∧ D ≤ 2147483647) (hl : l < 31) (qb : bt GL l = true) (qu : dy ≤ u) (qg : k ≠ -1 ∧ D < k) : am_ev (d + 1) 220 0 (am_ent [.ref 78, iv q, iv l, iv dy, iv D] 6) [] h (some (iv 1), h) := by
  show am_ev (d + 1) 220 0 [.ref 78, iv ((q : Int)), iv ((l : Int)), iv (dy), iv (D), am_ph] [] h _
  refine am_ev.step (pc' := 1) rfl rfl ?_
  refine am_ev.step (pc' := 2) rfl rfl ?_
  refine ax_gf (p' := 5) rfl rfl (S.ob rfl) (S.rf rfl rfl) ?_
  refine am_ev.step (pc' := 6) rfl rfl ?_
  refine ax_iaload (p' := 7) rfl rfl (S.rd (k := q) rfl rfl rfl rfl rfl (by omega) g86) ?_
  refine am_ev.step (pc' := 8) rfl rfl ?_
  refine am_ev.step (pc' := 9) rfl rfl ?_
  refine am_ev.step (pc' := 11) rfl rfl ?_
  refine ax_call (z := 221) (p' := 14) (as := [_, _, _, _, _]) rfl (Or.inr (Or.inl ⟨_, rfl⟩)) rfl rfl rfl rfl rfl rfl (S.ob rfl) rfl e1 rfl ?_
  refine fx_z_eq_T (pT := 46) rfl (by omega) rfl (by omega) ?_
  refine am_ev.step (pc' := 47) rfl rfl ?_
  refine am_ev.step (pc' := 48) rfl rfl ?_
  refine am_ev.step (pc' := 50) rfl rfl ?_
  refine ax_call (z := 222) (p' := 53) (as := [_, _, _]) rfl (Or.inr (Or.inl ⟨_, rfl⟩)) rfl rfl rfl rfl rfl rfl (S.ob rfl) rfl e222 rfl ?_
  refine am_ev.step (pc' := 55) (ls' := [.ref 78, iv ((q : Int)), iv ((l : Int)), iv (dy), iv (D), iv ((κ : Int))]) rfl rfl ?_
  refine am_ev.step (pc' := 57) rfl rfl ?_
  refine am_ev.step (pc' := 58) rfl rfl ?_
  refine fx_c_eq_F (pF := 61) rfl (by omega) (by omega) rfl (by omega) ?_
  refine am_ev.step (pc' := 62) rfl rfl ?_
  refine ax_gf (p' := 65) rfl rfl (S.ob rfl) (S.rf rfl rfl) ?_
  refine am_ev.step (pc' := 67) rfl rfl ?_
  refine ax_iaload (p' := 68) rfl rfl (S.rd (k := κ) rfl rfl rfl rfl rfl (by omega) gL) ?_
  refine am_ev.step (pc' := 69) rfl rfl ?_
  refine am_ev.step (pc' := 70) rfl rfl ?_
  refine am_ev.step (pc' := 71) rfl rfl ?_
  refine am_ev.step (pc' := 72) rfl rfl ?_
  refine ax_z_eq_N (p' := 75) rfl rfl (fun z => by rw [(b_sand hl).1 z] at qb; cases qb) ?_
  refine am_ev.step (pc' := 76) rfl rfl ?_
  refine ax_gf (p' := 79) rfl rfl (S.ob rfl) (S.rf rfl rfl) ?_
  refine am_ev.step (pc' := 81) rfl rfl ?_
  refine ax_iaload (p' := 82) rfl rfl (S.rd (k := κ) rfl rfl rfl rfl rfl (by omega) gu) ?_
  refine am_ev.step (pc' := 83) rfl rfl ?_
  refine fx_c_ge_T (pT := 88) rfl (by omega) (by omega) rfl (by omega) ?_
  refine am_ev.step (pc' := 89) rfl rfl ?_
  refine ax_gf (p' := 92) rfl rfl (S.ob rfl) (S.rf rfl rfl) ?_
  refine am_ev.step (pc' := 94) rfl rfl ?_
  refine ax_iaload (p' := 95) rfl rfl (S.rd (k := κ) rfl rfl rfl rfl rfl (by omega) gk) ?_
  refine am_ev.step (pc' := 96) rfl rfl ?_
  refine fx_c_eq_F (pF := 99) rfl (by omega) (by omega) rfl (by omega) ?_
  refine am_ev.step (pc' := 100) rfl rfl ?_
  refine ax_gf (p' := 103) rfl rfl (S.ob rfl) (S.rf rfl rfl) ?_
  refine am_ev.step (pc' := 105) rfl rfl ?_
  refine ax_iaload (p' := 106) rfl rfl (S.rd (k := κ) rfl rfl rfl rfl rfl (by omega) gk) ?_
  refine am_ev.step (pc' := 108) rfl rfl ?_
  refine fx_c_gt_T (pT := 126) rfl (by omega) (by omega) rfl (by omega) ?_
  refine am_ev.step (pc' := 127) rfl rfl ?_
  exact fx_reti rfl rfl rfl
theorem mm_220x6 {q : Nat} (S : fS h) (hq : q < 40) (g86 : h.2.2.2 86 q = iv t) (g90 : h.2.2.2 90 q = iv w) (r_w : -2147483648 ≤ w ∧ w ≤ 2147483647) (e1 : am_ev d 221 0 (am_ent [.ref 78, iv t, iv l, iv dy, iv D] 7) [] h (some (iv 0), h)) {κ : Nat} (hκ : κ < 80) (e222 : am_ev d 222 0 (am_ent [.ref 78, iv q, iv D] 5) [] h (some (iv κ), h)) (gL : h.2.2.2 104 κ = .int GL) (gu : h.2.2.2 105 κ = iv u) (gk : h.2.2.2 113 κ = iv k) (gg : h.2.2.2 112 κ = iv g) (r_u : -2147483648 ≤ u ∧ u ≤ 2147483647) (r_k : -2147483648 ≤ k ∧ k ≤ 2147483647) (r_g : -2147483648 ≤ g ∧ g ≤ 2147483647) (r_dy : -2147483648 ≤ dy ∧ dy ≤ 2147483647) (r_D : -2147483648 ≤ D ∧ D ≤ 2147483647) (hl : l < 31) (qb : bt GL l = true) (qu : dy ≤ u) (qg : k ≠ -1 ∧ k ≤ D ∧ dy < g) : am_ev (d + 1) 220 0 (am_ent [.ref 78, iv q, iv l, iv dy, iv D] 6) [] h (some (iv 1), h) := by
  show am_ev (d + 1) 220 0 [.ref 78, iv ((q : Int)), iv ((l : Int)), iv (dy), iv (D), am_ph] [] h _
  refine am_ev.step (pc' := 1) rfl rfl ?_
  refine am_ev.step (pc' := 2) rfl rfl ?_
  refine ax_gf (p' := 5) rfl rfl (S.ob rfl) (S.rf rfl rfl) ?_
  refine am_ev.step (pc' := 6) rfl rfl ?_
  refine ax_iaload (p' := 7) rfl rfl (S.rd (k := q) rfl rfl rfl rfl rfl (by omega) g86) ?_
  refine am_ev.step (pc' := 8) rfl rfl ?_
  refine am_ev.step (pc' := 9) rfl rfl ?_
  refine am_ev.step (pc' := 11) rfl rfl ?_
  refine ax_call (z := 221) (p' := 14) (as := [_, _, _, _, _]) rfl (Or.inr (Or.inl ⟨_, rfl⟩)) rfl rfl rfl rfl rfl rfl (S.ob rfl) rfl e1 rfl ?_
  refine fx_z_eq_T (pT := 46) rfl (by omega) rfl (by omega) ?_
  refine am_ev.step (pc' := 47) rfl rfl ?_
  refine am_ev.step (pc' := 48) rfl rfl ?_
  refine am_ev.step (pc' := 50) rfl rfl ?_
  refine ax_call (z := 222) (p' := 53) (as := [_, _, _]) rfl (Or.inr (Or.inl ⟨_, rfl⟩)) rfl rfl rfl rfl rfl rfl (S.ob rfl) rfl e222 rfl ?_
  refine am_ev.step (pc' := 55) (ls' := [.ref 78, iv ((q : Int)), iv ((l : Int)), iv (dy), iv (D), iv ((κ : Int))]) rfl rfl ?_
  refine am_ev.step (pc' := 57) rfl rfl ?_
  refine am_ev.step (pc' := 58) rfl rfl ?_
  refine fx_c_eq_F (pF := 61) rfl (by omega) (by omega) rfl (by omega) ?_
  refine am_ev.step (pc' := 62) rfl rfl ?_
  refine ax_gf (p' := 65) rfl rfl (S.ob rfl) (S.rf rfl rfl) ?_
  refine am_ev.step (pc' := 67) rfl rfl ?_
  refine ax_iaload (p' := 68) rfl rfl (S.rd (k := κ) rfl rfl rfl rfl rfl (by omega) gL) ?_
  refine am_ev.step (pc' := 69) rfl rfl ?_
  refine am_ev.step (pc' := 70) rfl rfl ?_
  refine am_ev.step (pc' := 71) rfl rfl ?_
  refine am_ev.step (pc' := 72) rfl rfl ?_
  refine ax_z_eq_N (p' := 75) rfl rfl (fun z => by rw [(b_sand hl).1 z] at qb; cases qb) ?_
  refine am_ev.step (pc' := 76) rfl rfl ?_
  refine ax_gf (p' := 79) rfl rfl (S.ob rfl) (S.rf rfl rfl) ?_
  refine am_ev.step (pc' := 81) rfl rfl ?_
  refine ax_iaload (p' := 82) rfl rfl (S.rd (k := κ) rfl rfl rfl rfl rfl (by omega) gu) ?_
  refine am_ev.step (pc' := 83) rfl rfl ?_
  refine fx_c_ge_T (pT := 88) rfl (by omega) (by omega) rfl (by omega) ?_
  refine am_ev.step (pc' := 89) rfl rfl ?_
  refine ax_gf (p' := 92) rfl rfl (S.ob rfl) (S.rf rfl rfl) ?_
  refine am_ev.step (pc' := 94) rfl rfl ?_
  refine ax_iaload (p' := 95) rfl rfl (S.rd (k := κ) rfl rfl rfl rfl rfl (by omega) gk) ?_
  refine am_ev.step (pc' := 96) rfl rfl ?_
  refine fx_c_eq_F (pF := 99) rfl (by omega) (by omega) rfl (by omega) ?_
  refine am_ev.step (pc' := 100) rfl rfl ?_
  refine ax_gf (p' := 103) rfl rfl (S.ob rfl) (S.rf rfl rfl) ?_
  refine am_ev.step (pc' := 105) rfl rfl ?_
  refine ax_iaload (p' := 106) rfl rfl (S.rd (k := κ) rfl rfl rfl rfl rfl (by omega) gk) ?_
  refine am_ev.step (pc' := 108) rfl rfl ?_
  refine fx_c_gt_F (pF := 111) rfl (by omega) (by omega) rfl (by omega) ?_
  refine am_ev.step (pc' := 112) rfl rfl ?_
  refine ax_gf (p' := 115) rfl rfl (S.ob rfl) (S.rf rfl rfl) ?_
  refine am_ev.step (pc' := 117) rfl rfl ?_
  refine ax_iaload (p' := 118) rfl rfl (S.rd (k := κ) rfl rfl rfl rfl rfl (by omega) gg) ?_
  refine am_ev.step (pc' := 119) rfl rfl ?_
  refine fx_c_gt_T (pT := 126) rfl (by omega) (by omega) rfl (by omega) ?_
  refine am_ev.step (pc' := 127) rfl rfl ?_
  exact fx_reti rfl rfl rfl
theorem mm_220y0 {q : Nat} (S : fS h) (hq : q < 40) (g86 : h.2.2.2 86 q = iv t) (g90 : h.2.2.2 90 q = iv w) (r_w : -2147483648 ≤ w ∧ w ≤ 2147483647) (e1 : am_ev d 221 0 (am_ent [.ref 78, iv t, iv l, iv dy, iv D] 7) [] h (some (iv 1), h)) (e2 : am_ev d 221 0 (am_ent [.ref 78, iv w, iv l, iv dy, iv D] 7) [] h (some (iv 0), h)) (qw : w ≠ -1) (e222 : am_ev d 222 0 (am_ent [.ref 78, iv q, iv D] 5) [] h (some (iv (-1)), h)) : am_ev (d + 1) 220 0 (am_ent [.ref 78, iv q, iv l, iv dy, iv D] 6) [] h (some (iv 0), h) := by
  show am_ev (d + 1) 220 0 [.ref 78, iv ((q : Int)), iv ((l : Int)), iv (dy), iv (D), am_ph] [] h _
  refine am_ev.step (pc' := 1) rfl rfl ?_
  refine am_ev.step (pc' := 2) rfl rfl ?_
  refine ax_gf (p' := 5) rfl rfl (S.ob rfl) (S.rf rfl rfl) ?_
  refine am_ev.step (pc' := 6) rfl rfl ?_
  refine ax_iaload (p' := 7) rfl rfl (S.rd (k := q) rfl rfl rfl rfl rfl (by omega) g86) ?_
  refine am_ev.step (pc' := 8) rfl rfl ?_
  refine am_ev.step (pc' := 9) rfl rfl ?_
  refine am_ev.step (pc' := 11) rfl rfl ?_
  refine ax_call (z := 221) (p' := 14) (as := [_, _, _, _, _]) rfl (Or.inr (Or.inl ⟨_, rfl⟩)) rfl rfl rfl rfl rfl rfl (S.ob rfl) rfl e1 rfl ?_
  refine fx_z_eq_F (pF := 17) rfl (by omega) rfl (by omega) ?_
  refine am_ev.step (pc' := 18) rfl rfl ?_
  refine ax_gf (p' := 21) rfl rfl (S.ob rfl) (S.rf rfl rfl) ?_
  refine am_ev.step (pc' := 22) rfl rfl ?_
  refine ax_iaload (p' := 23) rfl rfl (S.rd (k := q) rfl rfl rfl rfl rfl (by omega) g90) ?_
  refine am_ev.step (pc' := 24) rfl rfl ?_
  refine fx_c_eq_F (pF := 27) rfl (by omega) (by omega) rfl (by omega) ?_
  refine am_ev.step (pc' := 28) rfl rfl ?_
  refine am_ev.step (pc' := 29) rfl rfl ?_
  refine ax_gf (p' := 32) rfl rfl (S.ob rfl) (S.rf rfl rfl) ?_
  refine am_ev.step (pc' := 33) rfl rfl ?_
  refine ax_iaload (p' := 34) rfl rfl (S.rd (k := q) rfl rfl rfl rfl rfl (by omega) g90) ?_
  refine am_ev.step (pc' := 35) rfl rfl ?_
  refine am_ev.step (pc' := 36) rfl rfl ?_
  refine am_ev.step (pc' := 38) rfl rfl ?_
  refine ax_call (z := 221) (p' := 41) (as := [_, _, _, _, _]) rfl (Or.inr (Or.inl ⟨_, rfl⟩)) rfl rfl rfl rfl rfl rfl (S.ob rfl) rfl e2 rfl ?_
  refine fx_z_eq_T (pT := 46) rfl (by omega) rfl (by omega) ?_
  refine am_ev.step (pc' := 47) rfl rfl ?_
  refine am_ev.step (pc' := 48) rfl rfl ?_
  refine am_ev.step (pc' := 50) rfl rfl ?_
  refine ax_call (z := 222) (p' := 53) (as := [_, _, _]) rfl (Or.inr (Or.inl ⟨_, rfl⟩)) rfl rfl rfl rfl rfl rfl (S.ob rfl) rfl e222 rfl ?_
  refine am_ev.step (pc' := 55) (ls' := [.ref 78, iv ((q : Int)), iv ((l : Int)), iv (dy), iv (D), iv (-1)]) rfl rfl ?_
  refine am_ev.step (pc' := 57) rfl rfl ?_
  refine am_ev.step (pc' := 58) rfl rfl ?_
  refine fx_c_eq_T (pT := 86) rfl (by omega) (by omega) rfl (by omega) ?_
  refine am_ev.step (pc' := 87) rfl rfl ?_
  exact fx_reti rfl rfl rfl
theorem mm_220y1 {q : Nat} (S : fS h) (hq : q < 40) (g86 : h.2.2.2 86 q = iv t) (g90 : h.2.2.2 90 q = iv w) (r_w : -2147483648 ≤ w ∧ w ≤ 2147483647) (e1 : am_ev d 221 0 (am_ent [.ref 78, iv t, iv l, iv dy, iv D] 7) [] h (some (iv 1), h)) (e2 : am_ev d 221 0 (am_ent [.ref 78, iv w, iv l, iv dy, iv D] 7) [] h (some (iv 0), h)) (qw : w ≠ -1) {κ : Nat} (hκ : κ < 80) (e222 : am_ev d 222 0 (am_ent [.ref 78, iv q, iv D] 5) [] h (some (iv κ), h)) (gL : h.2.2.2 104 κ = .int GL) (gu : h.2.2.2 105 κ = iv u) (gk : h.2.2.2 113 κ = iv k) (gg : h.2.2.2 112 κ = iv g) (r_u : -2147483648 ≤ u ∧ u ≤ 2147483647) (r_k : -2147483648 ≤ k ∧ k ≤ 2147483647) (r_g : -2147483648 ≤ g ∧ g ≤ 2147483647) (r_dy : -2147483648 ≤ dy ∧ dy ≤ 2147483647) (r_D : -2147483648 ≤ D ∧ D ≤ 2147483647) (hl : l < 31) (qb : bt GL l = false) : am_ev (d + 1) 220 0 (am_ent [.ref 78, iv q, iv l, iv dy, iv D] 6) [] h (some (iv 0), h) := by
  show am_ev (d + 1) 220 0 [.ref 78, iv ((q : Int)), iv ((l : Int)), iv (dy), iv (D), am_ph] [] h _
  refine am_ev.step (pc' := 1) rfl rfl ?_
  refine am_ev.step (pc' := 2) rfl rfl ?_
  refine ax_gf (p' := 5) rfl rfl (S.ob rfl) (S.rf rfl rfl) ?_
  refine am_ev.step (pc' := 6) rfl rfl ?_
  refine ax_iaload (p' := 7) rfl rfl (S.rd (k := q) rfl rfl rfl rfl rfl (by omega) g86) ?_
  refine am_ev.step (pc' := 8) rfl rfl ?_
  refine am_ev.step (pc' := 9) rfl rfl ?_
  refine am_ev.step (pc' := 11) rfl rfl ?_
  refine ax_call (z := 221) (p' := 14) (as := [_, _, _, _, _]) rfl (Or.inr (Or.inl ⟨_, rfl⟩)) rfl rfl rfl rfl rfl rfl (S.ob rfl) rfl e1 rfl ?_
  refine fx_z_eq_F (pF := 17) rfl (by omega) rfl (by omega) ?_
  refine am_ev.step (pc' := 18) rfl rfl ?_
  refine ax_gf (p' := 21) rfl rfl (S.ob rfl) (S.rf rfl rfl) ?_
  refine am_ev.step (pc' := 22) rfl rfl ?_
  refine ax_iaload (p' := 23) rfl rfl (S.rd (k := q) rfl rfl rfl rfl rfl (by omega) g90) ?_
  refine am_ev.step (pc' := 24) rfl rfl ?_
  refine fx_c_eq_F (pF := 27) rfl (by omega) (by omega) rfl (by omega) ?_
  refine am_ev.step (pc' := 28) rfl rfl ?_
  refine am_ev.step (pc' := 29) rfl rfl ?_
  refine ax_gf (p' := 32) rfl rfl (S.ob rfl) (S.rf rfl rfl) ?_
  refine am_ev.step (pc' := 33) rfl rfl ?_
  refine ax_iaload (p' := 34) rfl rfl (S.rd (k := q) rfl rfl rfl rfl rfl (by omega) g90) ?_
  refine am_ev.step (pc' := 35) rfl rfl ?_
  refine am_ev.step (pc' := 36) rfl rfl ?_
  refine am_ev.step (pc' := 38) rfl rfl ?_
  refine ax_call (z := 221) (p' := 41) (as := [_, _, _, _, _]) rfl (Or.inr (Or.inl ⟨_, rfl⟩)) rfl rfl rfl rfl rfl rfl (S.ob rfl) rfl e2 rfl ?_
  refine fx_z_eq_T (pT := 46) rfl (by omega) rfl (by omega) ?_
  refine am_ev.step (pc' := 47) rfl rfl ?_
  refine am_ev.step (pc' := 48) rfl rfl ?_
  refine am_ev.step (pc' := 50) rfl rfl ?_
  refine ax_call (z := 222) (p' := 53) (as := [_, _, _]) rfl (Or.inr (Or.inl ⟨_, rfl⟩)) rfl rfl rfl rfl rfl rfl (S.ob rfl) rfl e222 rfl ?_
  refine am_ev.step (pc' := 55) (ls' := [.ref 78, iv ((q : Int)), iv ((l : Int)), iv (dy), iv (D), iv ((κ : Int))]) rfl rfl ?_
  refine am_ev.step (pc' := 57) rfl rfl ?_
  refine am_ev.step (pc' := 58) rfl rfl ?_
  refine fx_c_eq_F (pF := 61) rfl (by omega) (by omega) rfl (by omega) ?_
  refine am_ev.step (pc' := 62) rfl rfl ?_
  refine ax_gf (p' := 65) rfl rfl (S.ob rfl) (S.rf rfl rfl) ?_
  refine am_ev.step (pc' := 67) rfl rfl ?_
  refine ax_iaload (p' := 68) rfl rfl (S.rd (k := κ) rfl rfl rfl rfl rfl (by omega) gL) ?_
  refine am_ev.step (pc' := 69) rfl rfl ?_
  refine am_ev.step (pc' := 70) rfl rfl ?_
  refine am_ev.step (pc' := 71) rfl rfl ?_
  refine am_ev.step (pc' := 72) rfl rfl ?_
  refine ax_z_eq_T (p' := 86) rfl rfl ((b_sand hl).2 qb) ?_
  refine am_ev.step (pc' := 87) rfl rfl ?_
  exact fx_reti rfl rfl rfl
theorem mm_220y2 {q : Nat} (S : fS h) (hq : q < 40) (g86 : h.2.2.2 86 q = iv t) (g90 : h.2.2.2 90 q = iv w) (r_w : -2147483648 ≤ w ∧ w ≤ 2147483647) (e1 : am_ev d 221 0 (am_ent [.ref 78, iv t, iv l, iv dy, iv D] 7) [] h (some (iv 1), h)) (e2 : am_ev d 221 0 (am_ent [.ref 78, iv w, iv l, iv dy, iv D] 7) [] h (some (iv 0), h)) (qw : w ≠ -1) {κ : Nat} (hκ : κ < 80) (e222 : am_ev d 222 0 (am_ent [.ref 78, iv q, iv D] 5) [] h (some (iv κ), h)) (gL : h.2.2.2 104 κ = .int GL) (gu : h.2.2.2 105 κ = iv u) (gk : h.2.2.2 113 κ = iv k) (gg : h.2.2.2 112 κ = iv g) (r_u : -2147483648 ≤ u ∧ u ≤ 2147483647) (r_k : -2147483648 ≤ k ∧ k ≤ 2147483647) (r_g : -2147483648 ≤ g ∧ g ≤ 2147483647) (r_dy : -2147483648 ≤ dy ∧ dy ≤ 2147483647) (r_D : -2147483648 ≤ D ∧ D ≤ 2147483647) (hl : l < 31) (qb : bt GL l = true) (qu : u < dy) : am_ev (d + 1) 220 0 (am_ent [.ref 78, iv q, iv l, iv dy, iv D] 6) [] h (some (iv 0), h) := by
  show am_ev (d + 1) 220 0 [.ref 78, iv ((q : Int)), iv ((l : Int)), iv (dy), iv (D), am_ph] [] h _
  refine am_ev.step (pc' := 1) rfl rfl ?_
  refine am_ev.step (pc' := 2) rfl rfl ?_
  refine ax_gf (p' := 5) rfl rfl (S.ob rfl) (S.rf rfl rfl) ?_
  refine am_ev.step (pc' := 6) rfl rfl ?_
  refine ax_iaload (p' := 7) rfl rfl (S.rd (k := q) rfl rfl rfl rfl rfl (by omega) g86) ?_
  refine am_ev.step (pc' := 8) rfl rfl ?_
  refine am_ev.step (pc' := 9) rfl rfl ?_
  refine am_ev.step (pc' := 11) rfl rfl ?_
  refine ax_call (z := 221) (p' := 14) (as := [_, _, _, _, _]) rfl (Or.inr (Or.inl ⟨_, rfl⟩)) rfl rfl rfl rfl rfl rfl (S.ob rfl) rfl e1 rfl ?_
  refine fx_z_eq_F (pF := 17) rfl (by omega) rfl (by omega) ?_
  refine am_ev.step (pc' := 18) rfl rfl ?_
  refine ax_gf (p' := 21) rfl rfl (S.ob rfl) (S.rf rfl rfl) ?_
  refine am_ev.step (pc' := 22) rfl rfl ?_
  refine ax_iaload (p' := 23) rfl rfl (S.rd (k := q) rfl rfl rfl rfl rfl (by omega) g90) ?_
  refine am_ev.step (pc' := 24) rfl rfl ?_
  refine fx_c_eq_F (pF := 27) rfl (by omega) (by omega) rfl (by omega) ?_
  refine am_ev.step (pc' := 28) rfl rfl ?_
  refine am_ev.step (pc' := 29) rfl rfl ?_
  refine ax_gf (p' := 32) rfl rfl (S.ob rfl) (S.rf rfl rfl) ?_
  refine am_ev.step (pc' := 33) rfl rfl ?_
  refine ax_iaload (p' := 34) rfl rfl (S.rd (k := q) rfl rfl rfl rfl rfl (by omega) g90) ?_
  refine am_ev.step (pc' := 35) rfl rfl ?_
  refine am_ev.step (pc' := 36) rfl rfl ?_
  refine am_ev.step (pc' := 38) rfl rfl ?_
  refine ax_call (z := 221) (p' := 41) (as := [_, _, _, _, _]) rfl (Or.inr (Or.inl ⟨_, rfl⟩)) rfl rfl rfl rfl rfl rfl (S.ob rfl) rfl e2 rfl ?_
  refine fx_z_eq_T (pT := 46) rfl (by omega) rfl (by omega) ?_
  refine am_ev.step (pc' := 47) rfl rfl ?_
  refine am_ev.step (pc' := 48) rfl rfl ?_
  refine am_ev.step (pc' := 50) rfl rfl ?_
  refine ax_call (z := 222) (p' := 53) (as := [_, _, _]) rfl (Or.inr (Or.inl ⟨_, rfl⟩)) rfl rfl rfl rfl rfl rfl (S.ob rfl) rfl e222 rfl ?_
  refine am_ev.step (pc' := 55) (ls' := [.ref 78, iv ((q : Int)), iv ((l : Int)), iv (dy), iv (D), iv ((κ : Int))]) rfl rfl ?_
  refine am_ev.step (pc' := 57) rfl rfl ?_
  refine am_ev.step (pc' := 58) rfl rfl ?_
  refine fx_c_eq_F (pF := 61) rfl (by omega) (by omega) rfl (by omega) ?_
  refine am_ev.step (pc' := 62) rfl rfl ?_
  refine ax_gf (p' := 65) rfl rfl (S.ob rfl) (S.rf rfl rfl) ?_
  refine am_ev.step (pc' := 67) rfl rfl ?_
  refine ax_iaload (p' := 68) rfl rfl (S.rd (k := κ) rfl rfl rfl rfl rfl (by omega) gL) ?_
  refine am_ev.step (pc' := 69) rfl rfl ?_
  refine am_ev.step (pc' := 70) rfl rfl ?_
  refine am_ev.step (pc' := 71) rfl rfl ?_
  refine am_ev.step (pc' := 72) rfl rfl ?_
  refine ax_z_eq_N (p' := 75) rfl rfl (fun z => by rw [(b_sand hl).1 z] at qb; cases qb) ?_
  refine am_ev.step (pc' := 76) rfl rfl ?_
  refine ax_gf (p' := 79) rfl rfl (S.ob rfl) (S.rf rfl rfl) ?_
  refine am_ev.step (pc' := 81) rfl rfl ?_
  refine ax_iaload (p' := 82) rfl rfl (S.rd (k := κ) rfl rfl rfl rfl rfl (by omega) gu) ?_
  refine am_ev.step (pc' := 83) rfl rfl ?_
  refine fx_c_ge_F (pF := 86) rfl (by omega) (by omega) rfl (by omega) ?_
  refine am_ev.step (pc' := 87) rfl rfl ?_
  exact fx_reti rfl rfl rfl
theorem mm_220y3 {q : Nat} (S : fS h) (hq : q < 40) (g86 : h.2.2.2 86 q = iv t) (g90 : h.2.2.2 90 q = iv w) (r_w : -2147483648 ≤ w ∧ w ≤ 2147483647) (e1 : am_ev d 221 0 (am_ent [.ref 78, iv t, iv l, iv dy, iv D] 7) [] h (some (iv 1), h)) (e2 : am_ev d 221 0 (am_ent [.ref 78, iv w, iv l, iv dy, iv D] 7) [] h (some (iv 0), h)) (qw : w ≠ -1) {κ : Nat} (hκ : κ < 80) (e222 : am_ev d 222 0 (am_ent [.ref 78, iv q, iv D] 5) [] h (some (iv κ), h)) (gL : h.2.2.2 104 κ = .int GL) (gu : h.2.2.2 105 κ = iv u) (gk : h.2.2.2 113 κ = iv k) (gg : h.2.2.2 112 κ = iv g) (r_u : -2147483648 ≤ u ∧ u ≤ 2147483647) (r_k : -2147483648 ≤ k ∧ k ≤ 2147483647) (r_g : -2147483648 ≤ g ∧ g ≤ 2147483647) (r_dy : -2147483648 ≤ dy ∧ dy ≤ 2147483647) (r_D : -2147483648 ≤ D ∧ D ≤ 2147483647) (hl : l < 31) (qb : bt GL l = true) (qu : dy ≤ u) (qg : k ≠ -1 ∧ k ≤ D ∧ g ≤ dy) : am_ev (d + 1) 220 0 (am_ent [.ref 78, iv q, iv l, iv dy, iv D] 6) [] h (some (iv 0), h) := by
  show am_ev (d + 1) 220 0 [.ref 78, iv ((q : Int)), iv ((l : Int)), iv (dy), iv (D), am_ph] [] h _
  refine am_ev.step (pc' := 1) rfl rfl ?_
  refine am_ev.step (pc' := 2) rfl rfl ?_
  refine ax_gf (p' := 5) rfl rfl (S.ob rfl) (S.rf rfl rfl) ?_
  refine am_ev.step (pc' := 6) rfl rfl ?_
  refine ax_iaload (p' := 7) rfl rfl (S.rd (k := q) rfl rfl rfl rfl rfl (by omega) g86) ?_
  refine am_ev.step (pc' := 8) rfl rfl ?_
  refine am_ev.step (pc' := 9) rfl rfl ?_
  refine am_ev.step (pc' := 11) rfl rfl ?_
  refine ax_call (z := 221) (p' := 14) (as := [_, _, _, _, _]) rfl (Or.inr (Or.inl ⟨_, rfl⟩)) rfl rfl rfl rfl rfl rfl (S.ob rfl) rfl e1 rfl ?_
  refine fx_z_eq_F (pF := 17) rfl (by omega) rfl (by omega) ?_
  refine am_ev.step (pc' := 18) rfl rfl ?_
  refine ax_gf (p' := 21) rfl rfl (S.ob rfl) (S.rf rfl rfl) ?_
  refine am_ev.step (pc' := 22) rfl rfl ?_
  refine ax_iaload (p' := 23) rfl rfl (S.rd (k := q) rfl rfl rfl rfl rfl (by omega) g90) ?_
  refine am_ev.step (pc' := 24) rfl rfl ?_
  refine fx_c_eq_F (pF := 27) rfl (by omega) (by omega) rfl (by omega) ?_
  refine am_ev.step (pc' := 28) rfl rfl ?_
  refine am_ev.step (pc' := 29) rfl rfl ?_
  refine ax_gf (p' := 32) rfl rfl (S.ob rfl) (S.rf rfl rfl) ?_
  refine am_ev.step (pc' := 33) rfl rfl ?_
  refine ax_iaload (p' := 34) rfl rfl (S.rd (k := q) rfl rfl rfl rfl rfl (by omega) g90) ?_
  refine am_ev.step (pc' := 35) rfl rfl ?_
  refine am_ev.step (pc' := 36) rfl rfl ?_
  refine am_ev.step (pc' := 38) rfl rfl ?_
  refine ax_call (z := 221) (p' := 41) (as := [_, _, _, _, _]) rfl (Or.inr (Or.inl ⟨_, rfl⟩)) rfl rfl rfl rfl rfl rfl (S.ob rfl) rfl e2 rfl ?_
  refine fx_z_eq_T (pT := 46) rfl (by omega) rfl (by omega) ?_
  refine am_ev.step (pc' := 47) rfl rfl ?_
  refine am_ev.step (pc' := 48) rfl rfl ?_
  refine am_ev.step (pc' := 50) rfl rfl ?_
  refine ax_call (z := 222) (p' := 53) (as := [_, _, _]) rfl (Or.inr (Or.inl ⟨_, rfl⟩)) rfl rfl rfl rfl rfl rfl (S.ob rfl) rfl e222 rfl ?_
  refine am_ev.step (pc' := 55) (ls' := [.ref 78, iv ((q : Int)), iv ((l : Int)), iv (dy), iv (D), iv ((κ : Int))]) rfl rfl ?_
  refine am_ev.step (pc' := 57) rfl rfl ?_
  refine am_ev.step (pc' := 58) rfl rfl ?_
  refine fx_c_eq_F (pF := 61) rfl (by omega) (by omega) rfl (by omega) ?_
  refine am_ev.step (pc' := 62) rfl rfl ?_
  refine ax_gf (p' := 65) rfl rfl (S.ob rfl) (S.rf rfl rfl) ?_
  refine am_ev.step (pc' := 67) rfl rfl ?_
  refine ax_iaload (p' := 68) rfl rfl (S.rd (k := κ) rfl rfl rfl rfl rfl (by omega) gL) ?_
  refine am_ev.step (pc' := 69) rfl rfl ?_
  refine am_ev.step (pc' := 70) rfl rfl ?_
  refine am_ev.step (pc' := 71) rfl rfl ?_
  refine am_ev.step (pc' := 72) rfl rfl ?_
  refine ax_z_eq_N (p' := 75) rfl rfl (fun z => by rw [(b_sand hl).1 z] at qb; cases qb) ?_
  refine am_ev.step (pc' := 76) rfl rfl ?_
  refine ax_gf (p' := 79) rfl rfl (S.ob rfl) (S.rf rfl rfl) ?_
  refine am_ev.step (pc' := 81) rfl rfl ?_
  refine ax_iaload (p' := 82) rfl rfl (S.rd (k := κ) rfl rfl rfl rfl rfl (by omega) gu) ?_
  refine am_ev.step (pc' := 83) rfl rfl ?_
  refine fx_c_ge_T (pT := 88) rfl (by omega) (by omega) rfl (by omega) ?_
  refine am_ev.step (pc' := 89) rfl rfl ?_
  refine ax_gf (p' := 92) rfl rfl (S.ob rfl) (S.rf rfl rfl) ?_
  refine am_ev.step (pc' := 94) rfl rfl ?_
  refine ax_iaload (p' := 95) rfl rfl (S.rd (k := κ) rfl rfl rfl rfl rfl (by omega) gk) ?_
  refine am_ev.step (pc' := 96) rfl rfl ?_
  refine fx_c_eq_F (pF := 99) rfl (by omega) (by omega) rfl (by omega) ?_
  refine am_ev.step (pc' := 100) rfl rfl ?_
  refine ax_gf (p' := 103) rfl rfl (S.ob rfl) (S.rf rfl rfl) ?_
  refine am_ev.step (pc' := 105) rfl rfl ?_
  refine ax_iaload (p' := 106) rfl rfl (S.rd (k := κ) rfl rfl rfl rfl rfl (by omega) gk) ?_
  refine am_ev.step (pc' := 108) rfl rfl ?_
  refine fx_c_gt_F (pF := 111) rfl (by omega) (by omega) rfl (by omega) ?_
  refine am_ev.step (pc' := 112) rfl rfl ?_
  refine ax_gf (p' := 115) rfl rfl (S.ob rfl) (S.rf rfl rfl) ?_
  refine am_ev.step (pc' := 117) rfl rfl ?_
  refine ax_iaload (p' := 118) rfl rfl (S.rd (k := κ) rfl rfl rfl rfl rfl (by omega) gg) ?_
  refine am_ev.step (pc' := 119) rfl rfl ?_
  refine fx_c_gt_F (pF := 122) rfl (by omega) (by omega) rfl (by omega) ?_
  refine am_ev.step (pc' := 123) rfl rfl ?_
  refine am_ev.step (pc' := 127) rfl rfl ?_
  exact fx_reti rfl rfl rfl
theorem mm_220y4 {q : Nat} (S : fS h) (hq : q < 40) (g86 : h.2.2.2 86 q = iv t) (g90 : h.2.2.2 90 q = iv w) (r_w : -2147483648 ≤ w ∧ w ≤ 2147483647) (e1 : am_ev d 221 0 (am_ent [.ref 78, iv t, iv l, iv dy, iv D] 7) [] h (some (iv 1), h)) (e2 : am_ev d 221 0 (am_ent [.ref 78, iv w, iv l, iv dy, iv D] 7) [] h (some (iv 0), h)) (qw : w ≠ -1) {κ : Nat} (hκ : κ < 80) (e222 : am_ev d 222 0 (am_ent [.ref 78, iv q, iv D] 5) [] h (some (iv κ), h)) (gL : h.2.2.2 104 κ = .int GL) (gu : h.2.2.2 105 κ = iv u) (gk : h.2.2.2 113 κ = iv k) (gg : h.2.2.2 112 κ = iv g) (r_u : -2147483648 ≤ u ∧ u ≤ 2147483647) (r_k : -2147483648 ≤ k ∧ k ≤ 2147483647) (r_g : -2147483648 ≤ g ∧ g ≤ 2147483647) (r_dy : -2147483648 ≤ dy ∧ dy ≤ 2147483647) (r_D : -2147483648 ≤ D ∧ D ≤ 2147483647) (hl : l < 31) (qb : bt GL l = true) (qu : dy ≤ u) (qg : k = -1) : am_ev (d + 1) 220 0 (am_ent [.ref 78, iv q, iv l, iv dy, iv D] 6) [] h (some (iv 1), h) := by
  show am_ev (d + 1) 220 0 [.ref 78, iv ((q : Int)), iv ((l : Int)), iv (dy), iv (D), am_ph] [] h _
  refine am_ev.step (pc' := 1) rfl rfl ?_
  refine am_ev.step (pc' := 2) rfl rfl ?_
  refine ax_gf (p' := 5) rfl rfl (S.ob rfl) (S.rf rfl rfl) ?_
  refine am_ev.step (pc' := 6) rfl rfl ?_
  refine ax_iaload (p' := 7) rfl rfl (S.rd (k := q) rfl rfl rfl rfl rfl (by omega) g86) ?_
  refine am_ev.step (pc' := 8) rfl rfl ?_
  refine am_ev.step (pc' := 9) rfl rfl ?_
  refine am_ev.step (pc' := 11) rfl rfl ?_
  refine ax_call (z := 221) (p' := 14) (as := [_, _, _, _, _]) rfl (Or.inr (Or.inl ⟨_, rfl⟩)) rfl rfl rfl rfl rfl rfl (S.ob rfl) rfl e1 rfl ?_
  refine fx_z_eq_F (pF := 17) rfl (by omega) rfl (by omega) ?_
  refine am_ev.step (pc' := 18) rfl rfl ?_
  refine ax_gf (p' := 21) rfl rfl (S.ob rfl) (S.rf rfl rfl) ?_
  refine am_ev.step (pc' := 22) rfl rfl ?_
  refine ax_iaload (p' := 23) rfl rfl (S.rd (k := q) rfl rfl rfl rfl rfl (by omega) g90) ?_
  refine am_ev.step (pc' := 24) rfl rfl ?_
  refine fx_c_eq_F (pF := 27) rfl (by omega) (by omega) rfl (by omega) ?_
  refine am_ev.step (pc' := 28) rfl rfl ?_
  refine am_ev.step (pc' := 29) rfl rfl ?_
  refine ax_gf (p' := 32) rfl rfl (S.ob rfl) (S.rf rfl rfl) ?_
  refine am_ev.step (pc' := 33) rfl rfl ?_
  refine ax_iaload (p' := 34) rfl rfl (S.rd (k := q) rfl rfl rfl rfl rfl (by omega) g90) ?_
  refine am_ev.step (pc' := 35) rfl rfl ?_
  refine am_ev.step (pc' := 36) rfl rfl ?_
  refine am_ev.step (pc' := 38) rfl rfl ?_
  refine ax_call (z := 221) (p' := 41) (as := [_, _, _, _, _]) rfl (Or.inr (Or.inl ⟨_, rfl⟩)) rfl rfl rfl rfl rfl rfl (S.ob rfl) rfl e2 rfl ?_
  refine fx_z_eq_T (pT := 46) rfl (by omega) rfl (by omega) ?_
  refine am_ev.step (pc' := 47) rfl rfl ?_
  refine am_ev.step (pc' := 48) rfl rfl ?_
  refine am_ev.step (pc' := 50) rfl rfl ?_
  refine ax_call (z := 222) (p' := 53) (as := [_, _, _]) rfl (Or.inr (Or.inl ⟨_, rfl⟩)) rfl rfl rfl rfl rfl rfl (S.ob rfl) rfl e222 rfl ?_
  refine am_ev.step (pc' := 55) (ls' := [.ref 78, iv ((q : Int)), iv ((l : Int)), iv (dy), iv (D), iv ((κ : Int))]) rfl rfl ?_
  refine am_ev.step (pc' := 57) rfl rfl ?_
  refine am_ev.step (pc' := 58) rfl rfl ?_
  refine fx_c_eq_F (pF := 61) rfl (by omega) (by omega) rfl (by omega) ?_
  refine am_ev.step (pc' := 62) rfl rfl ?_
  refine ax_gf (p' := 65) rfl rfl (S.ob rfl) (S.rf rfl rfl) ?_
  refine am_ev.step (pc' := 67) rfl rfl ?_
  refine ax_iaload (p' := 68) rfl rfl (S.rd (k := κ) rfl rfl rfl rfl rfl (by omega) gL) ?_
  refine am_ev.step (pc' := 69) rfl rfl ?_
  refine am_ev.step (pc' := 70) rfl rfl ?_
  refine am_ev.step (pc' := 71) rfl rfl ?_
  refine am_ev.step (pc' := 72) rfl rfl ?_
  refine ax_z_eq_N (p' := 75) rfl rfl (fun z => by rw [(b_sand hl).1 z] at qb; cases qb) ?_
  refine am_ev.step (pc' := 76) rfl rfl ?_
  refine ax_gf (p' := 79) rfl rfl (S.ob rfl) (S.rf rfl rfl) ?_
  refine am_ev.step (pc' := 81) rfl rfl ?_
  refine ax_iaload (p' := 82) rfl rfl (S.rd (k := κ) rfl rfl rfl rfl rfl (by omega) gu) ?_
  refine am_ev.step (pc' := 83) rfl rfl ?_
  refine fx_c_ge_T (pT := 88) rfl (by omega) (by omega) rfl (by omega) ?_
  refine am_ev.step (pc' := 89) rfl rfl ?_
  refine ax_gf (p' := 92) rfl rfl (S.ob rfl) (S.rf rfl rfl) ?_
  refine am_ev.step (pc' := 94) rfl rfl ?_
  refine ax_iaload (p' := 95) rfl rfl (S.rd (k := κ) rfl rfl rfl rfl rfl (by omega) gk) ?_
  refine am_ev.step (pc' := 96) rfl rfl ?_
  refine fx_c_eq_T (pT := 126) rfl (by omega) (by omega) rfl (by omega) ?_
  refine am_ev.step (pc' := 127) rfl rfl ?_
  exact fx_reti rfl rfl rfl
theorem mm_220y5 {q : Nat} (S : fS h) (hq : q < 40) (g86 : h.2.2.2 86 q = iv t) (g90 : h.2.2.2 90 q = iv w) (r_w : -2147483648 ≤ w ∧ w ≤ 2147483647) (e1 : am_ev d 221 0 (am_ent [.ref 78, iv t, iv l, iv dy, iv D] 7) [] h (some (iv 1), h)) (e2 : am_ev d 221 0 (am_ent [.ref 78, iv w, iv l, iv dy, iv D] 7) [] h (some (iv 0), h)) (qw : w ≠ -1) {κ : Nat} (hκ : κ < 80) (e222 : am_ev d 222 0 (am_ent [.ref 78, iv q, iv D] 5) [] h (some (iv κ), h)) (gL : h.2.2.2 104 κ = .int GL) (gu : h.2.2.2 105 κ = iv u) (gk : h.2.2.2 113 κ = iv k) (gg : h.2.2.2 112 κ = iv g) (r_u : -2147483648 ≤ u ∧ u ≤ 2147483647) (r_k : -2147483648 ≤ k ∧ k ≤ 2147483647) (r_g : -2147483648 ≤ g ∧ g ≤ 2147483647) (r_dy : -2147483648 ≤ dy ∧ dy ≤ 2147483647) (r_D : -2147483648 ≤ D ∧ D ≤ 2147483647) (hl : l < 31) (qb : bt GL l = true) (qu : dy ≤ u) (qg : k ≠ -1 ∧ D < k) : am_ev (d + 1) 220 0 (am_ent [.ref 78, iv q, iv l, iv dy, iv D] 6) [] h (some (iv 1), h) := by
  show am_ev (d + 1) 220 0 [.ref 78, iv ((q : Int)), iv ((l : Int)), iv (dy), iv (D), am_ph] [] h _
  refine am_ev.step (pc' := 1) rfl rfl ?_
  refine am_ev.step (pc' := 2) rfl rfl ?_
  refine ax_gf (p' := 5) rfl rfl (S.ob rfl) (S.rf rfl rfl) ?_
  refine am_ev.step (pc' := 6) rfl rfl ?_
  refine ax_iaload (p' := 7) rfl rfl (S.rd (k := q) rfl rfl rfl rfl rfl (by omega) g86) ?_
  refine am_ev.step (pc' := 8) rfl rfl ?_
  refine am_ev.step (pc' := 9) rfl rfl ?_
  refine am_ev.step (pc' := 11) rfl rfl ?_
  refine ax_call (z := 221) (p' := 14) (as := [_, _, _, _, _]) rfl (Or.inr (Or.inl ⟨_, rfl⟩)) rfl rfl rfl rfl rfl rfl (S.ob rfl) rfl e1 rfl ?_
  refine fx_z_eq_F (pF := 17) rfl (by omega) rfl (by omega) ?_
  refine am_ev.step (pc' := 18) rfl rfl ?_
  refine ax_gf (p' := 21) rfl rfl (S.ob rfl) (S.rf rfl rfl) ?_
  refine am_ev.step (pc' := 22) rfl rfl ?_
  refine ax_iaload (p' := 23) rfl rfl (S.rd (k := q) rfl rfl rfl rfl rfl (by omega) g90) ?_
  refine am_ev.step (pc' := 24) rfl rfl ?_
  refine fx_c_eq_F (pF := 27) rfl (by omega) (by omega) rfl (by omega) ?_
  refine am_ev.step (pc' := 28) rfl rfl ?_
  refine am_ev.step (pc' := 29) rfl rfl ?_
  refine ax_gf (p' := 32) rfl rfl (S.ob rfl) (S.rf rfl rfl) ?_
  refine am_ev.step (pc' := 33) rfl rfl ?_
  refine ax_iaload (p' := 34) rfl rfl (S.rd (k := q) rfl rfl rfl rfl rfl (by omega) g90) ?_
  refine am_ev.step (pc' := 35) rfl rfl ?_
  refine am_ev.step (pc' := 36) rfl rfl ?_
  refine am_ev.step (pc' := 38) rfl rfl ?_
  refine ax_call (z := 221) (p' := 41) (as := [_, _, _, _, _]) rfl (Or.inr (Or.inl ⟨_, rfl⟩)) rfl rfl rfl rfl rfl rfl (S.ob rfl) rfl e2 rfl ?_
  refine fx_z_eq_T (pT := 46) rfl (by omega) rfl (by omega) ?_
  refine am_ev.step (pc' := 47) rfl rfl ?_
  refine am_ev.step (pc' := 48) rfl rfl ?_
  refine am_ev.step (pc' := 50) rfl rfl ?_
  refine ax_call (z := 222) (p' := 53) (as := [_, _, _]) rfl (Or.inr (Or.inl ⟨_, rfl⟩)) rfl rfl rfl rfl rfl rfl (S.ob rfl) rfl e222 rfl ?_
  refine am_ev.step (pc' := 55) (ls' := [.ref 78, iv ((q : Int)), iv ((l : Int)), iv (dy), iv (D), iv ((κ : Int))]) rfl rfl ?_
  refine am_ev.step (pc' := 57) rfl rfl ?_
  refine am_ev.step (pc' := 58) rfl rfl ?_
  refine fx_c_eq_F (pF := 61) rfl (by omega) (by omega) rfl (by omega) ?_
  refine am_ev.step (pc' := 62) rfl rfl ?_
  refine ax_gf (p' := 65) rfl rfl (S.ob rfl) (S.rf rfl rfl) ?_
  refine am_ev.step (pc' := 67) rfl rfl ?_
  refine ax_iaload (p' := 68) rfl rfl (S.rd (k := κ) rfl rfl rfl rfl rfl (by omega) gL) ?_
  refine am_ev.step (pc' := 69) rfl rfl ?_
  refine am_ev.step (pc' := 70) rfl rfl ?_
  refine am_ev.step (pc' := 71) rfl rfl ?_
  refine am_ev.step (pc' := 72) rfl rfl ?_
  refine ax_z_eq_N (p' := 75) rfl rfl (fun z => by rw [(b_sand hl).1 z] at qb; cases qb) ?_
  refine am_ev.step (pc' := 76) rfl rfl ?_
  refine ax_gf (p' := 79) rfl rfl (S.ob rfl) (S.rf rfl rfl) ?_
  refine am_ev.step (pc' := 81) rfl rfl ?_
  refine ax_iaload (p' := 82) rfl rfl (S.rd (k := κ) rfl rfl rfl rfl rfl (by omega) gu) ?_
  refine am_ev.step (pc' := 83) rfl rfl ?_
  refine fx_c_ge_T (pT := 88) rfl (by omega) (by omega) rfl (by omega) ?_
  refine am_ev.step (pc' := 89) rfl rfl ?_
  refine ax_gf (p' := 92) rfl rfl (S.ob rfl) (S.rf rfl rfl) ?_
  refine am_ev.step (pc' := 94) rfl rfl ?_
  refine ax_iaload (p' := 95) rfl rfl (S.rd (k := κ) rfl rfl rfl rfl rfl (by omega) gk) ?_
  refine am_ev.step (pc' := 96) rfl rfl ?_
  refine fx_c_eq_F (pF := 99) rfl (by omega) (by omega) rfl (by omega) ?_
  refine am_ev.step (pc' := 100) rfl rfl ?_
  refine ax_gf (p' := 103) rfl rfl (S.ob rfl) (S.rf rfl rfl) ?_
  refine am_ev.step (pc' := 105) rfl rfl ?_
  refine ax_iaload (p' := 106) rfl rfl (S.rd (k := κ) rfl rfl rfl rfl rfl (by omega) gk) ?_
  refine am_ev.step (pc' := 108) rfl rfl ?_
  refine fx_c_gt_T (pT := 126) rfl (by omega) (by omega) rfl (by omega) ?_
  refine am_ev.step (pc' := 127) rfl rfl ?_
  exact fx_reti rfl rfl rfl
theorem mm_220y6 {q : Nat} (S : fS h) (hq : q < 40) (g86 : h.2.2.2 86 q = iv t) (g90 : h.2.2.2 90 q = iv w) (r_w : -2147483648 ≤ w ∧ w ≤ 2147483647) (e1 : am_ev d 221 0 (am_ent [.ref 78, iv t, iv l, iv dy, iv D] 7) [] h (some (iv 1), h)) (e2 : am_ev d 221 0 (am_ent [.ref 78, iv w, iv l, iv dy, iv D] 7) [] h (some (iv 0), h)) (qw : w ≠ -1) {κ : Nat} (hκ : κ < 80) (e222 : am_ev d 222 0 (am_ent [.ref 78, iv q, iv D] 5) [] h (some (iv κ), h)) (gL : h.2.2.2 104 κ = .int GL) (gu : h.2.2.2 105 κ = iv u) (gk : h.2.2.2 113 κ = iv k) (gg : h.2.2.2 112 κ = iv g) (r_u : -2147483648 ≤ u ∧ u ≤ 2147483647) (r_k : -2147483648 ≤ k ∧ k ≤ 2147483647) (r_g : -2147483648 ≤ g ∧ g ≤ 2147483647) (r_dy : -2147483648 ≤ dy ∧ dy ≤ 2147483647) (r_D : -2147483648 ≤ D ∧ D ≤ 2147483647) (hl : l < 31) (qb : bt GL l = true) (qu : dy ≤ u) (qg : k ≠ -1 ∧ k ≤ D ∧ dy < g) : am_ev (d + 1) 220 0 (am_ent [.ref 78, iv q, iv l, iv dy, iv D] 6) [] h (some (iv 1), h) := by
  show am_ev (d + 1) 220 0 [.ref 78, iv ((q : Int)), iv ((l : Int)), iv (dy), iv (D), am_ph] [] h _
  refine am_ev.step (pc' := 1) rfl rfl ?_
  refine am_ev.step (pc' := 2) rfl rfl ?_
  refine ax_gf (p' := 5) rfl rfl (S.ob rfl) (S.rf rfl rfl) ?_
  refine am_ev.step (pc' := 6) rfl rfl ?_
  refine ax_iaload (p' := 7) rfl rfl (S.rd (k := q) rfl rfl rfl rfl rfl (by omega) g86) ?_
  refine am_ev.step (pc' := 8) rfl rfl ?_
  refine am_ev.step (pc' := 9) rfl rfl ?_
  refine am_ev.step (pc' := 11) rfl rfl ?_
  refine ax_call (z := 221) (p' := 14) (as := [_, _, _, _, _]) rfl (Or.inr (Or.inl ⟨_, rfl⟩)) rfl rfl rfl rfl rfl rfl (S.ob rfl) rfl e1 rfl ?_
  refine fx_z_eq_F (pF := 17) rfl (by omega) rfl (by omega) ?_
  refine am_ev.step (pc' := 18) rfl rfl ?_
  refine ax_gf (p' := 21) rfl rfl (S.ob rfl) (S.rf rfl rfl) ?_
  refine am_ev.step (pc' := 22) rfl rfl ?_
  refine ax_iaload (p' := 23) rfl rfl (S.rd (k := q) rfl rfl rfl rfl rfl (by omega) g90) ?_
  refine am_ev.step (pc' := 24) rfl rfl ?_
  refine fx_c_eq_F (pF := 27) rfl (by omega) (by omega) rfl (by omega) ?_
  refine am_ev.step (pc' := 28) rfl rfl ?_
  refine am_ev.step (pc' := 29) rfl rfl ?_
  refine ax_gf (p' := 32) rfl rfl (S.ob rfl) (S.rf rfl rfl) ?_
  refine am_ev.step (pc' := 33) rfl rfl ?_
  refine ax_iaload (p' := 34) rfl rfl (S.rd (k := q) rfl rfl rfl rfl rfl (by omega) g90) ?_
  refine am_ev.step (pc' := 35) rfl rfl ?_
  refine am_ev.step (pc' := 36) rfl rfl ?_
  refine am_ev.step (pc' := 38) rfl rfl ?_
  refine ax_call (z := 221) (p' := 41) (as := [_, _, _, _, _]) rfl (Or.inr (Or.inl ⟨_, rfl⟩)) rfl rfl rfl rfl rfl rfl (S.ob rfl) rfl e2 rfl ?_
  refine fx_z_eq_T (pT := 46) rfl (by omega) rfl (by omega) ?_
  refine am_ev.step (pc' := 47) rfl rfl ?_
  refine am_ev.step (pc' := 48) rfl rfl ?_
  refine am_ev.step (pc' := 50) rfl rfl ?_
  refine ax_call (z := 222) (p' := 53) (as := [_, _, _]) rfl (Or.inr (Or.inl ⟨_, rfl⟩)) rfl rfl rfl rfl rfl rfl (S.ob rfl) rfl e222 rfl ?_
  refine am_ev.step (pc' := 55) (ls' := [.ref 78, iv ((q : Int)), iv ((l : Int)), iv (dy), iv (D), iv ((κ : Int))]) rfl rfl ?_
  refine am_ev.step (pc' := 57) rfl rfl ?_
  refine am_ev.step (pc' := 58) rfl rfl ?_
  refine fx_c_eq_F (pF := 61) rfl (by omega) (by omega) rfl (by omega) ?_
  refine am_ev.step (pc' := 62) rfl rfl ?_
  refine ax_gf (p' := 65) rfl rfl (S.ob rfl) (S.rf rfl rfl) ?_
  refine am_ev.step (pc' := 67) rfl rfl ?_
  refine ax_iaload (p' := 68) rfl rfl (S.rd (k := κ) rfl rfl rfl rfl rfl (by omega) gL) ?_
  refine am_ev.step (pc' := 69) rfl rfl ?_
  refine am_ev.step (pc' := 70) rfl rfl ?_
  refine am_ev.step (pc' := 71) rfl rfl ?_
  refine am_ev.step (pc' := 72) rfl rfl ?_
  refine ax_z_eq_N (p' := 75) rfl rfl (fun z => by rw [(b_sand hl).1 z] at qb; cases qb) ?_
  refine am_ev.step (pc' := 76) rfl rfl ?_
  refine ax_gf (p' := 79) rfl rfl (S.ob rfl) (S.rf rfl rfl) ?_
  refine am_ev.step (pc' := 81) rfl rfl ?_
  refine ax_iaload (p' := 82) rfl rfl (S.rd (k := κ) rfl rfl rfl rfl rfl (by omega) gu) ?_
  refine am_ev.step (pc' := 83) rfl rfl ?_
  refine fx_c_ge_T (pT := 88) rfl (by omega) (by omega) rfl (by omega) ?_
  refine am_ev.step (pc' := 89) rfl rfl ?_
  refine ax_gf (p' := 92) rfl rfl (S.ob rfl) (S.rf rfl rfl) ?_
  refine am_ev.step (pc' := 94) rfl rfl ?_
  refine ax_iaload (p' := 95) rfl rfl (S.rd (k := κ) rfl rfl rfl rfl rfl (by omega) gk) ?_
  refine am_ev.step (pc' := 96) rfl rfl ?_
  refine fx_c_eq_F (pF := 99) rfl (by omega) (by omega) rfl (by omega) ?_
  refine am_ev.step (pc' := 100) rfl rfl ?_
  refine ax_gf (p' := 103) rfl rfl (S.ob rfl) (S.rf rfl rfl) ?_
  refine am_ev.step (pc' := 105) rfl rfl ?_
  refine ax_iaload (p' := 106) rfl rfl (S.rd (k := κ) rfl rfl rfl rfl rfl (by omega) gk) ?_
  refine am_ev.step (pc' := 108) rfl rfl ?_
  refine fx_c_gt_F (pF := 111) rfl (by omega) (by omega) rfl (by omega) ?_
  refine am_ev.step (pc' := 112) rfl rfl ?_
  refine ax_gf (p' := 115) rfl rfl (S.ob rfl) (S.rf rfl rfl) ?_
  refine am_ev.step (pc' := 117) rfl rfl ?_
  refine ax_iaload (p' := 118) rfl rfl (S.rd (k := κ) rfl rfl rfl rfl rfl (by omega) gg) ?_
  refine am_ev.step (pc' := 119) rfl rfl ?_
  refine fx_c_gt_T (pT := 126) rfl (by omega) (by omega) rfl (by omega) ?_
  refine am_ev.step (pc' := 127) rfl rfl ?_
  exact fx_reti rfl rfl rfl
end MAY
end DTH
