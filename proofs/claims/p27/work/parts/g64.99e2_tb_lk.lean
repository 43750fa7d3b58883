/-! CANDIDATES, the model's methods -/
def aL (f : Nat → Bool) : Nat → Nat → Bool
  | _, 0 => true
  | l, n + 1 => f l && aL f (l + 1) n
theorem aL_iff {f : Nat → Bool} : ∀ n l : Nat, aL f l n = true ↔ ∀ i, l ≤ i → i < l + n → f i = true
  | 0, l => ⟨fun _ i a b => by omega, fun _ => rfl⟩
  | n + 1, l => by
    have ih := aL_iff (f := f) n (l + 1)
    show (f l && aL f (l + 1) n) = true ↔ _
    rw [Bool.and_eq_true, ih]
    refine ⟨fun h i a b => ?_, fun h => ⟨h l (Nat.le_refl _) (by omega), fun i a b => h i (by omega) (by omega)⟩⟩
    by_cases e : i = l
    · rw [e]
      exact h.1
    · exact h.2 i (by omega) (by omega)
theorem and_1 (x : Int32) : (bt x 0 = true → x &&& Int32.ofInt 1 = Int32.ofInt 1) ∧ (bt x 0 = false → x &&& Int32.ofInt 1 = Int32.ofInt 0) := by
  refine ⟨fun h => b_ext fun i hi => ?_, fun h => b_ext fun i hi => ?_⟩
  · rw [b_and, b_1 i hi]
    by_cases e : i = 0
    · subst e
      rw [h]
      rfl
    · rw [decide_eq_false e, Bool.and_false]
  · rw [b_and, b_1 i hi, bt_z]
    by_cases e : i = 0
    · subst e
      rw [h]
      rfl
    · rw [decide_eq_false e, Bool.and_false]
theorem b_sand1 {t : Int32} {l : Nat} (hl : l < 31) : (t >>> (Int32.ofInt (l : Int) &&& 31)) &&& Int32.ofInt 1 = Int32.ofInt 1 ↔ bt t l = true := by
  have k := b_sand (t := t) hl
  have a := and_1 (t >>> (Int32.ofInt (l : Int) &&& 31))
  cases z : bt (t >>> (Int32.ofInt (l : Int) &&& 31)) 0 with
  | true =>
    have e := a.1 z
    refine ⟨fun _ => ?_, fun _ => e⟩
    cases y : bt t l with
    | true => rfl
    | false =>
      have w := k.2 y
      rw [e] at w
      exact absurd w (by decide)
  | false =>
    have e := a.2 z
    refine ⟨fun w => ?_, fun w => ?_⟩
    · rw [e] at w
      exact absurd w (by decide)
    · have y := k.1 e
      rw [w] at y
      cases y
section LKM
variable {d q l z κ c n : Nat} {g G : am_H} {b e m p r pp : Int} {bl ap : Int32}
theorem mi_231a (S : fS g) (v51 : g.2.2.2 78 51 = .int bl) (v52 : g.2.2.2 78 52 = iv b) (v15 : g.2.2.2 78 15 = iv e) (hl : l < 6) (qb : bt bl l = false) {x : Option Value × am_H} (q9 : am_ev (d + 1) 231 2 [.ref 78, iv q, iv ((l + 1 : Nat) : Int)] [] g x) : am_ev (d + 1) 231 2 [.ref 78, iv ((q : Int)), iv ((l : Int))] [] g x := by
  refine am_ev.step (pc' := 3) rfl rfl ?_
  refine fx_bip (p' := 5) rfl rfl rfl ?_
  refine fx_c_ge_F (pF := 8) rfl (by omega) (by omega) rfl (by omega) ?_
  refine am_ev.step (pc' := 9) rfl rfl ?_
  refine ax_gf (p' := 12) rfl rfl (S.ob rfl) v51 ?_
  refine am_ev.step (pc' := 13) rfl rfl ?_
  refine am_ev.step (pc' := 14) rfl rfl ?_
  refine am_ev.step (pc' := 15) rfl rfl ?_
  refine am_ev.step (pc' := 16) rfl rfl ?_
  refine am_ev.step (pc' := 17) rfl rfl ?_
  refine ax_c_ne_T (p' := 40) rfl rfl (fun z => by rw [(b_sand1 (by omega)).1 z] at qb; cases qb) ?_
  refine fx_inc (p' := 43) (e := ((l : Int) + 1)) (ls' := [.ref 78, iv ((q : Int)), iv ((l : Int) + 1)]) rfl rfl rfl (by omega) rfl ?_
  refine am_ev.step (pc' := 2) rfl rfl ?_
  exact (rr_n ▸ q9)
theorem mi_231b (S : fS g) (v51 : g.2.2.2 78 51 = .int bl) (v52 : g.2.2.2 78 52 = iv b) (v15 : g.2.2.2 78 15 = iv e) (hl : l < 6) (qb : bt bl l = true) (H220 : am_ev d 220 0 (am_ent [.ref 78, iv q, iv l, iv b, iv e] 6) [] g (some (iv m), g)) (bm : 0 ≤ m ∧ m ≤ 2) (hm : m = 2) {x : Option Value × am_H} (q9 : am_ev (d + 1) 231 2 [.ref 78, iv q, iv ((l + 1 : Nat) : Int)] [] g x) : am_ev (d + 1) 231 2 [.ref 78, iv ((q : Int)), iv ((l : Int))] [] g x := by
  refine am_ev.step (pc' := 3) rfl rfl ?_
  refine fx_bip (p' := 5) rfl rfl rfl ?_
  refine fx_c_ge_F (pF := 8) rfl (by omega) (by omega) rfl (by omega) ?_
  refine am_ev.step (pc' := 9) rfl rfl ?_
  refine ax_gf (p' := 12) rfl rfl (S.ob rfl) v51 ?_
  refine am_ev.step (pc' := 13) rfl rfl ?_
  refine am_ev.step (pc' := 14) rfl rfl ?_
  refine am_ev.step (pc' := 15) rfl rfl ?_
  refine am_ev.step (pc' := 16) rfl rfl ?_
  refine am_ev.step (pc' := 17) rfl rfl ?_
  refine ax_c_ne_N (p' := 20) rfl rfl ((b_sand1 (by omega)).2 qb) ?_
  refine am_ev.step (pc' := 21) rfl rfl ?_
  refine am_ev.step (pc' := 22) rfl rfl ?_
  refine am_ev.step (pc' := 23) rfl rfl ?_
  refine am_ev.step (pc' := 24) rfl rfl ?_
  refine ax_gf (p' := 27) rfl rfl (S.ob rfl) v52 ?_
  refine am_ev.step (pc' := 28) rfl rfl ?_
  refine ax_gf (p' := 31) rfl rfl (S.ob rfl) v15 ?_
  refine ax_call (z := 220) (p' := 34) (as := [_, _, _, _, _]) rfl (Or.inr (Or.inl ⟨_, rfl⟩)) rfl rfl rfl rfl rfl rfl (S.ob rfl) rfl H220 rfl ?_
  refine am_ev.step (pc' := 35) rfl rfl ?_
  refine fx_c_eq_T (pT := 40) rfl (by omega) (by omega) rfl (by omega) ?_
  refine fx_inc (p' := 43) (e := ((l : Int) + 1)) (ls' := [.ref 78, iv ((q : Int)), iv ((l : Int) + 1)]) rfl rfl rfl (by omega) rfl ?_
  refine am_ev.step (pc' := 2) rfl rfl ?_
  exact (rr_n ▸ q9)
theorem mi_231c (S : fS g) (v51 : g.2.2.2 78 51 = .int bl) (v52 : g.2.2.2 78 52 = iv b) (v15 : g.2.2.2 78 15 = iv e) (hl : l < 6) (qb : bt bl l = true) (H220 : am_ev d 220 0 (am_ent [.ref 78, iv q, iv l, iv b, iv e] 6) [] g (some (iv m), g)) (bm : 0 ≤ m ∧ m ≤ 2) (hm : m ≠ 2) : am_ev (d + 1) 231 2 [.ref 78, iv ((q : Int)), iv ((l : Int))] [] g (some (iv 0), g) := by
  refine am_ev.step (pc' := 3) rfl rfl ?_
  refine fx_bip (p' := 5) rfl rfl rfl ?_
  refine fx_c_ge_F (pF := 8) rfl (by omega) (by omega) rfl (by omega) ?_
  refine am_ev.step (pc' := 9) rfl rfl ?_
  refine ax_gf (p' := 12) rfl rfl (S.ob rfl) v51 ?_
  refine am_ev.step (pc' := 13) rfl rfl ?_
  refine am_ev.step (pc' := 14) rfl rfl ?_
  refine am_ev.step (pc' := 15) rfl rfl ?_
  refine am_ev.step (pc' := 16) rfl rfl ?_
  refine am_ev.step (pc' := 17) rfl rfl ?_
  refine ax_c_ne_N (p' := 20) rfl rfl ((b_sand1 (by omega)).2 qb) ?_
  refine am_ev.step (pc' := 21) rfl rfl ?_
  refine am_ev.step (pc' := 22) rfl rfl ?_
  refine am_ev.step (pc' := 23) rfl rfl ?_
  refine am_ev.step (pc' := 24) rfl rfl ?_
  refine ax_gf (p' := 27) rfl rfl (S.ob rfl) v52 ?_
  refine am_ev.step (pc' := 28) rfl rfl ?_
  refine ax_gf (p' := 31) rfl rfl (S.ob rfl) v15 ?_
  refine ax_call (z := 220) (p' := 34) (as := [_, _, _, _, _]) rfl (Or.inr (Or.inl ⟨_, rfl⟩)) rfl rfl rfl rfl rfl rfl (S.ob rfl) rfl H220 rfl ?_
  refine am_ev.step (pc' := 35) rfl rfl ?_
  refine fx_c_eq_F (pF := 38) rfl (by omega) (by omega) rfl (by omega) ?_
  refine am_ev.step (pc' := 39) rfl rfl ?_
  exact fx_reti rfl rfl rfl
theorem mi_228a (S : fS g) (v51 : g.2.2.2 78 51 = .int bl) (v52 : g.2.2.2 78 52 = iv b) (v15 : g.2.2.2 78 15 = iv e) (hl : l < 6) (qb : bt bl l = false) {x : Option Value × am_H} (q9 : am_ev (d + 1) 228 2 [.ref 78, iv q, iv ((l + 1 : Nat) : Int)] [] g x) : am_ev (d + 1) 228 2 [.ref 78, iv ((q : Int)), iv ((l : Int))] [] g x := by
  refine am_ev.step (pc' := 3) rfl rfl ?_
  refine fx_bip (p' := 5) rfl rfl rfl ?_
  refine fx_c_ge_F (pF := 8) rfl (by omega) (by omega) rfl (by omega) ?_
  refine am_ev.step (pc' := 9) rfl rfl ?_
  refine ax_gf (p' := 12) rfl rfl (S.ob rfl) v51 ?_
  refine am_ev.step (pc' := 13) rfl rfl ?_
  refine am_ev.step (pc' := 14) rfl rfl ?_
  refine am_ev.step (pc' := 15) rfl rfl ?_
  refine am_ev.step (pc' := 16) rfl rfl ?_
  refine am_ev.step (pc' := 17) rfl rfl ?_
  refine ax_c_ne_T (p' := 39) rfl rfl (fun z => by rw [(b_sand1 (by omega)).1 z] at qb; cases qb) ?_
  refine fx_inc (p' := 42) (e := ((l : Int) + 1)) (ls' := [.ref 78, iv ((q : Int)), iv ((l : Int) + 1)]) rfl rfl rfl (by omega) rfl ?_
  refine am_ev.step (pc' := 2) rfl rfl ?_
  exact (rr_n ▸ q9)
theorem mi_228b (S : fS g) (v51 : g.2.2.2 78 51 = .int bl) (v52 : g.2.2.2 78 52 = iv b) (v15 : g.2.2.2 78 15 = iv e) (hl : l < 6) (qb : bt bl l = true) (H220 : am_ev d 220 0 (am_ent [.ref 78, iv q, iv l, iv b, iv e] 6) [] g (some (iv m), g)) (bm : 0 ≤ m ∧ m ≤ 2) (hm : m ≠ 0) {x : Option Value × am_H} (q9 : am_ev (d + 1) 228 2 [.ref 78, iv q, iv ((l + 1 : Nat) : Int)] [] g x) : am_ev (d + 1) 228 2 [.ref 78, iv ((q : Int)), iv ((l : Int))] [] g x := by
  refine am_ev.step (pc' := 3) rfl rfl ?_
  refine fx_bip (p' := 5) rfl rfl rfl ?_
  refine fx_c_ge_F (pF := 8) rfl (by omega) (by omega) rfl (by omega) ?_
  refine am_ev.step (pc' := 9) rfl rfl ?_
  refine ax_gf (p' := 12) rfl rfl (S.ob rfl) v51 ?_
  refine am_ev.step (pc' := 13) rfl rfl ?_
  refine am_ev.step (pc' := 14) rfl rfl ?_
  refine am_ev.step (pc' := 15) rfl rfl ?_
  refine am_ev.step (pc' := 16) rfl rfl ?_
  refine am_ev.step (pc' := 17) rfl rfl ?_
  refine ax_c_ne_N (p' := 20) rfl rfl ((b_sand1 (by omega)).2 qb) ?_
  refine am_ev.step (pc' := 21) rfl rfl ?_
  refine am_ev.step (pc' := 22) rfl rfl ?_
  refine am_ev.step (pc' := 23) rfl rfl ?_
  refine am_ev.step (pc' := 24) rfl rfl ?_
  refine ax_gf (p' := 27) rfl rfl (S.ob rfl) v52 ?_
  refine am_ev.step (pc' := 28) rfl rfl ?_
  refine ax_gf (p' := 31) rfl rfl (S.ob rfl) v15 ?_
  refine ax_call (z := 220) (p' := 34) (as := [_, _, _, _, _]) rfl (Or.inr (Or.inl ⟨_, rfl⟩)) rfl rfl rfl rfl rfl rfl (S.ob rfl) rfl H220 rfl ?_
  refine fx_z_ne_T (pT := 39) rfl (by omega) rfl (by omega) ?_
  refine fx_inc (p' := 42) (e := ((l : Int) + 1)) (ls' := [.ref 78, iv ((q : Int)), iv ((l : Int) + 1)]) rfl rfl rfl (by omega) rfl ?_
  refine am_ev.step (pc' := 2) rfl rfl ?_
  exact (rr_n ▸ q9)
theorem mi_228c (S : fS g) (v51 : g.2.2.2 78 51 = .int bl) (v52 : g.2.2.2 78 52 = iv b) (v15 : g.2.2.2 78 15 = iv e) (hl : l < 6) (qb : bt bl l = true) (H220 : am_ev d 220 0 (am_ent [.ref 78, iv q, iv l, iv b, iv e] 6) [] g (some (iv m), g)) (bm : 0 ≤ m ∧ m ≤ 2) (hm : m = 0) : am_ev (d + 1) 228 2 [.ref 78, iv ((q : Int)), iv ((l : Int))] [] g (some (iv 0), g) := by
  refine am_ev.step (pc' := 3) rfl rfl ?_
  refine fx_bip (p' := 5) rfl rfl rfl ?_
  refine fx_c_ge_F (pF := 8) rfl (by omega) (by omega) rfl (by omega) ?_
  refine am_ev.step (pc' := 9) rfl rfl ?_
  refine ax_gf (p' := 12) rfl rfl (S.ob rfl) v51 ?_
  refine am_ev.step (pc' := 13) rfl rfl ?_
  refine am_ev.step (pc' := 14) rfl rfl ?_
  refine am_ev.step (pc' := 15) rfl rfl ?_
  refine am_ev.step (pc' := 16) rfl rfl ?_
  refine am_ev.step (pc' := 17) rfl rfl ?_
  refine ax_c_ne_N (p' := 20) rfl rfl ((b_sand1 (by omega)).2 qb) ?_
  refine am_ev.step (pc' := 21) rfl rfl ?_
  refine am_ev.step (pc' := 22) rfl rfl ?_
  refine am_ev.step (pc' := 23) rfl rfl ?_
  refine am_ev.step (pc' := 24) rfl rfl ?_
  refine ax_gf (p' := 27) rfl rfl (S.ob rfl) v52 ?_
  refine am_ev.step (pc' := 28) rfl rfl ?_
  refine ax_gf (p' := 31) rfl rfl (S.ob rfl) v15 ?_
  refine ax_call (z := 220) (p' := 34) (as := [_, _, _, _, _]) rfl (Or.inr (Or.inl ⟨_, rfl⟩)) rfl rfl rfl rfl rfl rfl (S.ob rfl) rfl H220 rfl ?_
  refine fx_z_ne_F (pF := 37) rfl (by omega) rfl (by omega) ?_
  refine am_ev.step (pc' := 38) rfl rfl ?_
  exact fx_reti rfl rfl rfl
theorem mi_231z (hl : l = 6) : am_ev (d + 1) 231 2 [.ref 78, iv ((q : Int)), iv ((l : Int))] [] g (some (iv 1), g) := by
  refine am_ev.step (pc' := 3) rfl rfl ?_
  refine fx_bip (p' := 5) rfl rfl rfl ?_
  refine fx_c_ge_T (pT := 46) rfl (by omega) (by omega) rfl (by omega) ?_
  refine am_ev.step (pc' := 47) rfl rfl ?_
  exact fx_reti rfl rfl rfl
theorem mi_228n (hl : l = 6) (SG : fS G) (S : fS g) (H229 : am_ev d 229 0 (am_ent [.ref 78, iv q] 3) [] g (some (iv p), G)) (bp : -1 ≤ p ∧ p ≤ 100) (hp : p = -1) : am_ev (d + 1) 228 2 [.ref 78, iv ((q : Int)), iv ((l : Int))] [] g (some (iv 0), G) := by
  refine am_ev.step (pc' := 3) rfl rfl ?_
  refine fx_bip (p' := 5) rfl rfl rfl ?_
  refine fx_c_ge_T (pT := 45) rfl (by omega) (by omega) rfl (by omega) ?_
  refine am_ev.step (pc' := 46) rfl rfl ?_
  refine am_ev.step (pc' := 47) rfl rfl ?_
  refine ax_call (z := 229) (p' := 50) (as := [_, _]) rfl (Or.inr (Or.inl ⟨_, rfl⟩)) rfl rfl rfl rfl rfl rfl (S.ob rfl) rfl H229 rfl ?_
  refine am_ev.step (pc' := 51) rfl rfl ?_
  refine fx_c_eq_T (pT := 58) rfl (by omega) (by omega) rfl (by omega) ?_
  refine am_ev.step (pc' := 59) rfl rfl ?_
  exact fx_reti rfl rfl rfl
theorem mi_228y (hl : l = 6) (SG : fS G) (S : fS g) (H229 : am_ev d 229 0 (am_ent [.ref 78, iv q] 3) [] g (some (iv p), G)) (bp : -1 ≤ p ∧ p ≤ 100) (hp : p ≠ -1) : am_ev (d + 1) 228 2 [.ref 78, iv ((q : Int)), iv ((l : Int))] [] g (some (iv 1), G) := by
  refine am_ev.step (pc' := 3) rfl rfl ?_
  refine fx_bip (p' := 5) rfl rfl rfl ?_
  refine fx_c_ge_T (pT := 45) rfl (by omega) (by omega) rfl (by omega) ?_
  refine am_ev.step (pc' := 46) rfl rfl ?_
  refine am_ev.step (pc' := 47) rfl rfl ?_
  refine ax_call (z := 229) (p' := 50) (as := [_, _]) rfl (Or.inr (Or.inl ⟨_, rfl⟩)) rfl rfl rfl rfl rfl rfl (S.ob rfl) rfl H229 rfl ?_
  refine am_ev.step (pc' := 51) rfl rfl ?_
  refine fx_c_eq_F (pF := 54) rfl (by omega) (by omega) rfl (by omega) ?_
  refine am_ev.step (pc' := 55) rfl rfl ?_
  refine am_ev.step (pc' := 59) rfl rfl ?_
  exact fx_reti rfl rfl rfl
theorem mi_231s {x : Option Value × am_H} (q9 : am_ev (d + 1) 231 2 [.ref 78, iv q, iv 0] [] g x) : am_ev (d + 1) 231 0 (am_ent [.ref 78, iv q] 3) [] g x := by
  show am_ev (d + 1) 231 0 [.ref 78, iv q, am_ph] [] g _
  refine am_ev.step (pc' := 1) rfl rfl ?_
  refine am_ev.step (pc' := 2) (ls' := [.ref 78, iv ((q : Int)), iv 0]) rfl rfl ?_
  exact q9
theorem mi_228s {x : Option Value × am_H} (q9 : am_ev (d + 1) 228 2 [.ref 78, iv q, iv 0] [] g x) : am_ev (d + 1) 228 0 (am_ent [.ref 78, iv q] 3) [] g x := by
  show am_ev (d + 1) 228 0 [.ref 78, iv q, am_ph] [] g _
  refine am_ev.step (pc' := 1) rfl rfl ?_
  refine am_ev.step (pc' := 2) (ls' := [.ref 78, iv ((q : Int)), iv 0]) rfl rfl ?_
  exact q9
theorem ml_231 {M : Nat → Int} (S : fS g) (v51 : g.2.2.2 78 51 = .int bl) (v52 : g.2.2.2 78 52 = iv b) (v15 : g.2.2.2 78 15 = iv e) (H : ∀ l : Nat, l < 6 → am_ev d 220 0 (am_ent [.ref 78, iv q, iv l, iv b, iv e] 6) [] g (some (iv (M l)), g)) (bM : ∀ l : Nat, 0 ≤ M l ∧ M l ≤ 2) : am_ev (d + 1) 231 0 (am_ent [.ref 78, iv q] 3) [] g (some (iv (b2 (aL (fun l => !bt bl l || decide (M l = 2)) 0 6))), g) := by
  have go : ∀ n l : Nat, l + n = 6 → am_ev (d + 1) 231 2 [.ref 78, iv q, iv (l : Int)] [] g (some (iv (b2 (aL (fun l => !bt bl l || decide (M l = 2)) l n))), g) := fun n => by
    induction n with
    | zero => exact fun l hl => mi_231z hl
    | succ n ih =>
      intro l hl
      have IH := ih (l + 1) (by omega)
      show am_ev (d + 1) 231 2 [.ref 78, iv q, iv (l : Int)] [] g (some (iv (b2 ((!bt bl l || decide (M l = 2)) && aL (fun l => !bt bl l || decide (M l = 2)) (l + 1) n))), g)
      cases w : bt bl l with
      | false => exact mi_231a S v51 v52 v15 (by omega) w IH
      | true =>
        by_cases k : M l = 2
        · rw [decide_eq_true k]
          exact mi_231b S v51 v52 v15 (by omega) w (H l (by omega)) (bM l) k IH
        · rw [decide_eq_false k]
          exact mi_231c S v51 v52 v15 (by omega) w (H l (by omega)) (bM l) k
  exact mi_231s (go 6 0 rfl)
theorem ml_228f {M : Nat → Int} (S : fS g) (v51 : g.2.2.2 78 51 = .int bl) (v52 : g.2.2.2 78 52 = iv b) (v15 : g.2.2.2 78 15 = iv e) (H : ∀ l : Nat, l < 6 → am_ev d 220 0 (am_ent [.ref 78, iv q, iv l, iv b, iv e] 6) [] g (some (iv (M l)), g)) (bM : ∀ l : Nat, 0 ≤ M l ∧ M l ≤ 2) (hA : aL (fun l => !bt bl l || decide (M l ≠ 0)) 0 6 = false) : am_ev (d + 1) 228 0 (am_ent [.ref 78, iv q] 3) [] g (some (iv 0), g) := by
  have go : ∀ n l : Nat, l + n = 6 → aL (fun l => !bt bl l || decide (M l ≠ 0)) l n = false → am_ev (d + 1) 228 2 [.ref 78, iv q, iv (l : Int)] [] g (some (iv 0), g) := fun n => by
    induction n with
    | zero => exact fun l hl k => (by cases k)
    | succ n ih =>
      intro l hl k
      have k : ((!bt bl l || decide (M l ≠ 0)) && aL (fun l => !bt bl l || decide (M l ≠ 0)) (l + 1) n) = false := k
      cases w : bt bl l with
      | false =>
        rw [w] at k
        exact mi_228a S v51 v52 v15 (by omega) w (ih (l + 1) (by omega) k)
      | true =>
        by_cases j : M l = 0
        · exact mi_228c S v51 v52 v15 (by omega) w (H l (by omega)) (bM l) j
        · rw [w, decide_eq_true (show M l ≠ 0 from j)] at k
          exact mi_228b S v51 v52 v15 (by omega) w (H l (by omega)) (bM l) j (ih (l + 1) (by omega) k)
  exact mi_228s (go 6 0 rfl hA)
theorem ml_228t {M : Nat → Int} (S : fS g) (v51 : g.2.2.2 78 51 = .int bl) (v52 : g.2.2.2 78 52 = iv b) (v15 : g.2.2.2 78 15 = iv e) (H : ∀ l : Nat, l < 6 → am_ev d 220 0 (am_ent [.ref 78, iv q, iv l, iv b, iv e] 6) [] g (some (iv (M l)), g)) (bM : ∀ l : Nat, 0 ≤ M l ∧ M l ≤ 2) (hA : aL (fun l => !bt bl l || decide (M l ≠ 0)) 0 6 = true) (SG : fS G) (H229 : am_ev d 229 0 (am_ent [.ref 78, iv q] 3) [] g (some (iv p), G)) (bp : -1 ≤ p ∧ p ≤ 100) : am_ev (d + 1) 228 0 (am_ent [.ref 78, iv q] 3) [] g (some (iv (b2 (decide (p ≠ -1)))), G) := by
  have go : ∀ n l : Nat, l + n = 6 → aL (fun l => !bt bl l || decide (M l ≠ 0)) l n = true → am_ev (d + 1) 228 2 [.ref 78, iv q, iv (l : Int)] [] g (some (iv (b2 (decide (p ≠ -1)))), G) := fun n => by
    induction n with
    | zero =>
      intro l hl _
      by_cases j : p = -1
      · rw [decide_eq_false (by omega : ¬ p ≠ -1)]
        exact mi_228n hl SG S H229 bp j
      · rw [decide_eq_true j]
        exact mi_228y hl SG S H229 bp j
    | succ n ih =>
      intro l hl k
      have k : ((!bt bl l || decide (M l ≠ 0)) && aL (fun l => !bt bl l || decide (M l ≠ 0)) (l + 1) n) = true := k
      cases w : bt bl l with
      | false =>
        rw [w] at k
        exact mi_228a S v51 v52 v15 (by omega) w (ih (l + 1) (by omega) k)
      | true =>
        by_cases j : M l = 0
        · rw [w, decide_eq_false (by omega : ¬ M l ≠ 0)] at k
          cases k
        · rw [w, decide_eq_true (show M l ≠ 0 from j)] at k
          exact mi_228b S v51 v52 v15 (by omega) w (H l (by omega)) (bM l) j (ih (l + 1) (by omega) k)
  exact mi_228s (go 6 0 rfl hA)
theorem mp_230_1 (S : fS g) (hq : q < 40) (v15 : g.2.2.2 78 15 = iv e) (g92 : g.2.2.2 92 q = iv c) (hc : c ≤ 3) (H231 : am_ev d 231 0 (am_ent [.ref 78, iv q] 3) [] g (some (iv 1), g)) : am_ev (d + 1) 230 0 (am_ent [.ref 78, iv q] 4) [] g (some (iv ((c : Int) - 1)), g) := by
  show am_ev (d + 1) 230 0 [.ref 78, iv ((q : Int)), am_ph, am_ph] [] g _
  refine am_ev.step (pc' := 1) rfl rfl ?_
  refine am_ev.step (pc' := 2) rfl rfl ?_
  refine ax_call (z := 231) (p' := 5) (as := [_, _]) rfl (Or.inr (Or.inl ⟨_, rfl⟩)) rfl rfl rfl rfl rfl rfl (S.ob rfl) rfl H231 rfl ?_
  refine fx_z_eq_F (pF := 8) rfl (by omega) rfl (by omega) ?_
  refine am_ev.step (pc' := 9) rfl rfl ?_
  refine am_ev.step (pc' := 21) rfl rfl ?_
  refine am_ev.step (pc' := 22) (ls' := [.ref 78, iv ((q : Int)), iv (-1), am_ph]) rfl rfl ?_
  refine am_ev.step (pc' := 23) rfl rfl ?_
  refine am_ev.step (pc' := 24) rfl rfl ?_
  refine fx_c_eq_T (pT := 46) rfl (by omega) (by omega) rfl (by omega) ?_
  refine am_ev.step (pc' := 47) rfl rfl ?_
  refine ax_gf (p' := 50) rfl rfl (S.ob rfl) (S.rf rfl rfl) ?_
  refine am_ev.step (pc' := 51) rfl rfl ?_
  refine ax_iaload (p' := 52) rfl rfl (S.rd (k := q) rfl rfl rfl rfl rfl (by omega) g92) ?_
  refine am_ev.step (pc' := 53) rfl rfl ?_
  refine fx_sub (p' := 54) (e := ((c : Int) - 1)) rfl rfl (by omega) ?_
  refine am_ev.step (pc' := 55) (ls' := [.ref 78, iv ((q : Int)), iv (-1), iv ((c : Int) - 1)]) rfl rfl ?_
  refine am_ev.step (pc' := 56) rfl rfl ?_
  refine am_ev.step (pc' := 57) rfl rfl ?_
  refine ax_gf (p' := 60) rfl rfl (S.ob rfl) (S.rf rfl rfl) ?_
  refine am_ev.step (pc' := 61) rfl rfl ?_
  refine ax_iaload (p' := 62) rfl rfl (S.rd (k := q) rfl rfl rfl rfl rfl (by omega) g92) ?_
  refine fx_c_ge_F (pF := 65) rfl (by omega) (by omega) rfl (by omega) ?_
  refine am_ev.step (pc' := 66) rfl rfl ?_
  refine am_ev.step (pc' := 70) rfl rfl ?_
  exact fx_reti rfl rfl rfl
theorem mp_230_2 (S : fS g) (hq : q < 40) (v15 : g.2.2.2 78 15 = iv e) (g92 : g.2.2.2 92 q = iv c) (hc : c ≤ 3) (H231 : am_ev d 231 0 (am_ent [.ref 78, iv q] 3) [] g (some (iv 0), g)) (H222 : am_ev d 222 0 (am_ent [.ref 78, iv q, iv e] 5) [] g (some (iv (-1)), g)) : am_ev (d + 1) 230 0 (am_ent [.ref 78, iv q] 4) [] g (some (iv ((c : Int) - 1)), g) := by
  show am_ev (d + 1) 230 0 [.ref 78, iv ((q : Int)), am_ph, am_ph] [] g _
  refine am_ev.step (pc' := 1) rfl rfl ?_
  refine am_ev.step (pc' := 2) rfl rfl ?_
  refine ax_call (z := 231) (p' := 5) (as := [_, _]) rfl (Or.inr (Or.inl ⟨_, rfl⟩)) rfl rfl rfl rfl rfl rfl (S.ob rfl) rfl H231 rfl ?_
  refine fx_z_eq_T (pT := 12) rfl (by omega) rfl (by omega) ?_
  refine am_ev.step (pc' := 13) rfl rfl ?_
  refine am_ev.step (pc' := 14) rfl rfl ?_
  refine am_ev.step (pc' := 15) rfl rfl ?_
  refine ax_gf (p' := 18) rfl rfl (S.ob rfl) v15 ?_
  refine ax_call (z := 222) (p' := 21) (as := [_, _, _]) rfl (Or.inr (Or.inl ⟨_, rfl⟩)) rfl rfl rfl rfl rfl rfl (S.ob rfl) rfl H222 rfl ?_
  refine am_ev.step (pc' := 22) (ls' := [.ref 78, iv ((q : Int)), iv (-1), am_ph]) rfl rfl ?_
  refine am_ev.step (pc' := 23) rfl rfl ?_
  refine am_ev.step (pc' := 24) rfl rfl ?_
  refine fx_c_eq_T (pT := 46) rfl (by omega) (by omega) rfl (by omega) ?_
  refine am_ev.step (pc' := 47) rfl rfl ?_
  refine ax_gf (p' := 50) rfl rfl (S.ob rfl) (S.rf rfl rfl) ?_
  refine am_ev.step (pc' := 51) rfl rfl ?_
  refine ax_iaload (p' := 52) rfl rfl (S.rd (k := q) rfl rfl rfl rfl rfl (by omega) g92) ?_
  refine am_ev.step (pc' := 53) rfl rfl ?_
  refine fx_sub (p' := 54) (e := ((c : Int) - 1)) rfl rfl (by omega) ?_
  refine am_ev.step (pc' := 55) (ls' := [.ref 78, iv ((q : Int)), iv (-1), iv ((c : Int) - 1)]) rfl rfl ?_
  refine am_ev.step (pc' := 56) rfl rfl ?_
  refine am_ev.step (pc' := 57) rfl rfl ?_
  refine ax_gf (p' := 60) rfl rfl (S.ob rfl) (S.rf rfl rfl) ?_
  refine am_ev.step (pc' := 61) rfl rfl ?_
  refine ax_iaload (p' := 62) rfl rfl (S.rd (k := q) rfl rfl rfl rfl rfl (by omega) g92) ?_
  refine fx_c_ge_F (pF := 65) rfl (by omega) (by omega) rfl (by omega) ?_
  refine am_ev.step (pc' := 66) rfl rfl ?_
  refine am_ev.step (pc' := 70) rfl rfl ?_
  exact fx_reti rfl rfl rfl
theorem mp_230_3 (S : fS g) (hq : q < 40) (v15 : g.2.2.2 78 15 = iv e) (g92 : g.2.2.2 92 q = iv c) (hc : c ≤ 3) (H231 : am_ev d 231 0 (am_ent [.ref 78, iv q] 3) [] g (some (iv 0), g)) (H222 : am_ev d 222 0 (am_ent [.ref 78, iv q, iv e] 5) [] g (some (iv (κ : Int)), g)) (hκ : κ < 81) (w9 : g.2.2.2 109 κ = iv r) (br : -1 ≤ r ∧ r ≤ 2) (hr : r = -1) : am_ev (d + 1) 230 0 (am_ent [.ref 78, iv q] 4) [] g (some (iv ((c : Int) - 1)), g) := by
  show am_ev (d + 1) 230 0 [.ref 78, iv ((q : Int)), am_ph, am_ph] [] g _
  refine am_ev.step (pc' := 1) rfl rfl ?_
  refine am_ev.step (pc' := 2) rfl rfl ?_
  refine ax_call (z := 231) (p' := 5) (as := [_, _]) rfl (Or.inr (Or.inl ⟨_, rfl⟩)) rfl rfl rfl rfl rfl rfl (S.ob rfl) rfl H231 rfl ?_
  refine fx_z_eq_T (pT := 12) rfl (by omega) rfl (by omega) ?_
  refine am_ev.step (pc' := 13) rfl rfl ?_
  refine am_ev.step (pc' := 14) rfl rfl ?_
  refine am_ev.step (pc' := 15) rfl rfl ?_
  refine ax_gf (p' := 18) rfl rfl (S.ob rfl) v15 ?_
  refine ax_call (z := 222) (p' := 21) (as := [_, _, _]) rfl (Or.inr (Or.inl ⟨_, rfl⟩)) rfl rfl rfl rfl rfl rfl (S.ob rfl) rfl H222 rfl ?_
  refine am_ev.step (pc' := 22) (ls' := [.ref 78, iv ((q : Int)), iv ((κ : Int)), am_ph]) rfl rfl ?_
  refine am_ev.step (pc' := 23) rfl rfl ?_
  refine am_ev.step (pc' := 24) rfl rfl ?_
  refine fx_c_eq_F (pF := 27) rfl (by omega) (by omega) rfl (by omega) ?_
  refine am_ev.step (pc' := 28) rfl rfl ?_
  refine ax_gf (p' := 31) rfl rfl (S.ob rfl) (S.rf rfl rfl) ?_
  refine am_ev.step (pc' := 32) rfl rfl ?_
  refine ax_iaload (p' := 33) rfl rfl (S.rd (k := κ) rfl rfl rfl rfl rfl (by omega) w9) ?_
  refine am_ev.step (pc' := 34) rfl rfl ?_
  refine fx_c_eq_T (pT := 46) rfl (by omega) (by omega) rfl (by omega) ?_
  refine am_ev.step (pc' := 47) rfl rfl ?_
  refine ax_gf (p' := 50) rfl rfl (S.ob rfl) (S.rf rfl rfl) ?_
  refine am_ev.step (pc' := 51) rfl rfl ?_
  refine ax_iaload (p' := 52) rfl rfl (S.rd (k := q) rfl rfl rfl rfl rfl (by omega) g92) ?_
  refine am_ev.step (pc' := 53) rfl rfl ?_
  refine fx_sub (p' := 54) (e := ((c : Int) - 1)) rfl rfl (by omega) ?_
  refine am_ev.step (pc' := 55) (ls' := [.ref 78, iv ((q : Int)), iv ((κ : Int)), iv ((c : Int) - 1)]) rfl rfl ?_
  refine am_ev.step (pc' := 56) rfl rfl ?_
  refine am_ev.step (pc' := 57) rfl rfl ?_
  refine ax_gf (p' := 60) rfl rfl (S.ob rfl) (S.rf rfl rfl) ?_
  refine am_ev.step (pc' := 61) rfl rfl ?_
  refine ax_iaload (p' := 62) rfl rfl (S.rd (k := q) rfl rfl rfl rfl rfl (by omega) g92) ?_
  refine fx_c_ge_F (pF := 65) rfl (by omega) (by omega) rfl (by omega) ?_
  refine am_ev.step (pc' := 66) rfl rfl ?_
  refine am_ev.step (pc' := 70) rfl rfl ?_
  exact fx_reti rfl rfl rfl
theorem mp_230_4 (S : fS g) (hq : q < 40) (v15 : g.2.2.2 78 15 = iv e) (g92 : g.2.2.2 92 q = iv c) (hc : c ≤ 3) (H231 : am_ev d 231 0 (am_ent [.ref 78, iv q] 3) [] g (some (iv 0), g)) (H222 : am_ev d 222 0 (am_ent [.ref 78, iv q, iv e] 5) [] g (some (iv (κ : Int)), g)) (hκ : κ < 81) (w9 : g.2.2.2 109 κ = iv r) (br : -1 ≤ r ∧ r ≤ 2) (hr : r ≠ -1) (hrc : r < c) : am_ev (d + 1) 230 0 (am_ent [.ref 78, iv q] 4) [] g (some (iv (r)), g) := by
  show am_ev (d + 1) 230 0 [.ref 78, iv ((q : Int)), am_ph, am_ph] [] g _
  refine am_ev.step (pc' := 1) rfl rfl ?_
  refine am_ev.step (pc' := 2) rfl rfl ?_
  refine ax_call (z := 231) (p' := 5) (as := [_, _]) rfl (Or.inr (Or.inl ⟨_, rfl⟩)) rfl rfl rfl rfl rfl rfl (S.ob rfl) rfl H231 rfl ?_
  refine fx_z_eq_T (pT := 12) rfl (by omega) rfl (by omega) ?_
  refine am_ev.step (pc' := 13) rfl rfl ?_
  refine am_ev.step (pc' := 14) rfl rfl ?_
  refine am_ev.step (pc' := 15) rfl rfl ?_
  refine ax_gf (p' := 18) rfl rfl (S.ob rfl) v15 ?_
  refine ax_call (z := 222) (p' := 21) (as := [_, _, _]) rfl (Or.inr (Or.inl ⟨_, rfl⟩)) rfl rfl rfl rfl rfl rfl (S.ob rfl) rfl H222 rfl ?_
  refine am_ev.step (pc' := 22) (ls' := [.ref 78, iv ((q : Int)), iv ((κ : Int)), am_ph]) rfl rfl ?_
  refine am_ev.step (pc' := 23) rfl rfl ?_
  refine am_ev.step (pc' := 24) rfl rfl ?_
  refine fx_c_eq_F (pF := 27) rfl (by omega) (by omega) rfl (by omega) ?_
  refine am_ev.step (pc' := 28) rfl rfl ?_
  refine ax_gf (p' := 31) rfl rfl (S.ob rfl) (S.rf rfl rfl) ?_
  refine am_ev.step (pc' := 32) rfl rfl ?_
  refine ax_iaload (p' := 33) rfl rfl (S.rd (k := κ) rfl rfl rfl rfl rfl (by omega) w9) ?_
  refine am_ev.step (pc' := 34) rfl rfl ?_
  refine fx_c_eq_F (pF := 37) rfl (by omega) (by omega) rfl (by omega) ?_
  refine am_ev.step (pc' := 38) rfl rfl ?_
  refine ax_gf (p' := 41) rfl rfl (S.ob rfl) (S.rf rfl rfl) ?_
  refine am_ev.step (pc' := 42) rfl rfl ?_
  refine ax_iaload (p' := 43) rfl rfl (S.rd (k := κ) rfl rfl rfl rfl rfl (by omega) w9) ?_
  refine am_ev.step (pc' := 54) rfl rfl ?_
  refine am_ev.step (pc' := 55) (ls' := [.ref 78, iv ((q : Int)), iv ((κ : Int)), iv (r)]) rfl rfl ?_
  refine am_ev.step (pc' := 56) rfl rfl ?_
  refine am_ev.step (pc' := 57) rfl rfl ?_
  refine ax_gf (p' := 60) rfl rfl (S.ob rfl) (S.rf rfl rfl) ?_
  refine am_ev.step (pc' := 61) rfl rfl ?_
  refine ax_iaload (p' := 62) rfl rfl (S.rd (k := q) rfl rfl rfl rfl rfl (by omega) g92) ?_
  refine fx_c_ge_F (pF := 65) rfl (by omega) (by omega) rfl (by omega) ?_
  refine am_ev.step (pc' := 66) rfl rfl ?_
  refine am_ev.step (pc' := 70) rfl rfl ?_
  exact fx_reti rfl rfl rfl
theorem mp_230_5 (S : fS g) (hq : q < 40) (v15 : g.2.2.2 78 15 = iv e) (g92 : g.2.2.2 92 q = iv c) (hc : c ≤ 3) (H231 : am_ev d 231 0 (am_ent [.ref 78, iv q] 3) [] g (some (iv 0), g)) (H222 : am_ev d 222 0 (am_ent [.ref 78, iv q, iv e] 5) [] g (some (iv (κ : Int)), g)) (hκ : κ < 81) (w9 : g.2.2.2 109 κ = iv r) (br : -1 ≤ r ∧ r ≤ 2) (hr : r ≠ -1) (hrc : ¬ r < c) : am_ev (d + 1) 230 0 (am_ent [.ref 78, iv q] 4) [] g (some (iv (-1)), g) := by
  show am_ev (d + 1) 230 0 [.ref 78, iv ((q : Int)), am_ph, am_ph] [] g _
  refine am_ev.step (pc' := 1) rfl rfl ?_
  refine am_ev.step (pc' := 2) rfl rfl ?_
  refine ax_call (z := 231) (p' := 5) (as := [_, _]) rfl (Or.inr (Or.inl ⟨_, rfl⟩)) rfl rfl rfl rfl rfl rfl (S.ob rfl) rfl H231 rfl ?_
  refine fx_z_eq_T (pT := 12) rfl (by omega) rfl (by omega) ?_
  refine am_ev.step (pc' := 13) rfl rfl ?_
  refine am_ev.step (pc' := 14) rfl rfl ?_
  refine am_ev.step (pc' := 15) rfl rfl ?_
  refine ax_gf (p' := 18) rfl rfl (S.ob rfl) v15 ?_
  refine ax_call (z := 222) (p' := 21) (as := [_, _, _]) rfl (Or.inr (Or.inl ⟨_, rfl⟩)) rfl rfl rfl rfl rfl rfl (S.ob rfl) rfl H222 rfl ?_
  refine am_ev.step (pc' := 22) (ls' := [.ref 78, iv ((q : Int)), iv ((κ : Int)), am_ph]) rfl rfl ?_
  refine am_ev.step (pc' := 23) rfl rfl ?_
  refine am_ev.step (pc' := 24) rfl rfl ?_
  refine fx_c_eq_F (pF := 27) rfl (by omega) (by omega) rfl (by omega) ?_
  refine am_ev.step (pc' := 28) rfl rfl ?_
  refine ax_gf (p' := 31) rfl rfl (S.ob rfl) (S.rf rfl rfl) ?_
  refine am_ev.step (pc' := 32) rfl rfl ?_
  refine ax_iaload (p' := 33) rfl rfl (S.rd (k := κ) rfl rfl rfl rfl rfl (by omega) w9) ?_
  refine am_ev.step (pc' := 34) rfl rfl ?_
  refine fx_c_eq_F (pF := 37) rfl (by omega) (by omega) rfl (by omega) ?_
  refine am_ev.step (pc' := 38) rfl rfl ?_
  refine ax_gf (p' := 41) rfl rfl (S.ob rfl) (S.rf rfl rfl) ?_
  refine am_ev.step (pc' := 42) rfl rfl ?_
  refine ax_iaload (p' := 43) rfl rfl (S.rd (k := κ) rfl rfl rfl rfl rfl (by omega) w9) ?_
  refine am_ev.step (pc' := 54) rfl rfl ?_
  refine am_ev.step (pc' := 55) (ls' := [.ref 78, iv ((q : Int)), iv ((κ : Int)), iv (r)]) rfl rfl ?_
  refine am_ev.step (pc' := 56) rfl rfl ?_
  refine am_ev.step (pc' := 57) rfl rfl ?_
  refine ax_gf (p' := 60) rfl rfl (S.ob rfl) (S.rf rfl rfl) ?_
  refine am_ev.step (pc' := 61) rfl rfl ?_
  refine ax_iaload (p' := 62) rfl rfl (S.rd (k := q) rfl rfl rfl rfl rfl (by omega) g92) ?_
  refine fx_c_ge_T (pT := 69) rfl (by omega) (by omega) rfl (by omega) ?_
  refine am_ev.step (pc' := 70) rfl rfl ?_
  exact fx_reti rfl rfl rfl
theorem mp_229n (S : fS g) (hq : q < 40) (H230 : am_ev (d + 5) 230 0 (am_ent [.ref 78, iv q] 4) [] g (some (iv (-1)), g)) : am_ev (d + 6) 229 0 (am_ent [.ref 78, iv q] 3) [] g (some (iv (-1)), g) := by
  show am_ev (d + 6) 229 0 [.ref 78, iv ((q : Int)), am_ph] [] g _
  refine am_ev.step (pc' := 1) rfl rfl ?_
  refine am_ev.step (pc' := 2) rfl rfl ?_
  refine ax_call (z := 230) (p' := 5) (as := [_, _]) rfl (Or.inr (Or.inl ⟨_, rfl⟩)) rfl rfl rfl rfl rfl rfl (S.ob rfl) rfl H230 rfl ?_
  refine am_ev.step (pc' := 6) (ls' := [.ref 78, iv ((q : Int)), iv (-1)]) rfl rfl ?_
  refine am_ev.step (pc' := 7) rfl rfl ?_
  refine am_ev.step (pc' := 8) rfl rfl ?_
  refine fx_c_ne_F (pF := 11) rfl (by omega) (by omega) rfl (by omega) ?_
  refine am_ev.step (pc' := 12) rfl rfl ?_
  refine am_ev.step (pc' := 24) rfl rfl ?_
  exact fx_reti rfl rfl rfl
theorem mp_229 (S : fS g) (hq : q < 40) (H230 : am_ev (d + 5) 230 0 (am_ent [.ref 78, iv q] 4) [] g (some (iv (c : Int)), g)) (hc : c ≤ 2) (H194 : am_ev (d + 5) 194 0 (am_ent [iv q, iv c] 2) [] g (some (iv z), g)) (H197 : am_ev (d + 5) 197 0 (am_ent [.ref 78, iv z] 3) [] g (some (iv p), G)) (SG : fS G) : am_ev (d + 6) 229 0 (am_ent [.ref 78, iv q] 3) [] g (some (iv p), G) := by
  show am_ev (d + 6) 229 0 [.ref 78, iv ((q : Int)), am_ph] [] g _
  refine am_ev.step (pc' := 1) rfl rfl ?_
  refine am_ev.step (pc' := 2) rfl rfl ?_
  refine ax_call (z := 230) (p' := 5) (as := [_, _]) rfl (Or.inr (Or.inl ⟨_, rfl⟩)) rfl rfl rfl rfl rfl rfl (S.ob rfl) rfl H230 rfl ?_
  refine am_ev.step (pc' := 6) (ls' := [.ref 78, iv ((q : Int)), iv ((c : Int))]) rfl rfl ?_
  refine am_ev.step (pc' := 7) rfl rfl ?_
  refine am_ev.step (pc' := 8) rfl rfl ?_
  refine fx_c_ne_T (pT := 15) rfl (by omega) (by omega) rfl (by omega) ?_
  refine am_ev.step (pc' := 16) rfl rfl ?_
  refine am_ev.step (pc' := 17) rfl rfl ?_
  refine am_ev.step (pc' := 18) rfl rfl ?_
  refine ax_call (z := 194) (p' := 21) (as := [_, _]) rfl (Or.inl ⟨_, rfl⟩) rfl rfl rfl rfl rfl rfl rfl rfl H194 rfl ?_
  refine ax_call (z := 197) (p' := 24) (as := [_, _]) rfl (Or.inr (Or.inl ⟨_, rfl⟩)) rfl rfl rfl rfl rfl rfl (S.ob rfl) rfl H197 rfl ?_
  exact fx_reti rfl rfl rfl
theorem mp_233 (S : fS g) (hq : q < 40) (H230 : am_ev (d + 5) 230 0 (am_ent [.ref 78, iv q] 4) [] g (some (iv (c : Int)), g)) (hc : c ≤ 2) (H194 : am_ev (d + 5) 194 0 (am_ent [iv q, iv c] 2) [] g (some (iv z), g)) (hz : z ≤ 119) (g93 : g.2.2.2 93 z = iv l) : am_ev (d + 6) 233 0 (am_ent [.ref 78, iv q] 2) [] g (some (iv l), g) := by
  show am_ev (d + 6) 233 0 [.ref 78, iv q] [] g _
  refine am_ev.step (pc' := 1) rfl rfl ?_
  refine ax_gf (p' := 4) rfl rfl (S.ob rfl) (S.rf rfl rfl) ?_
  refine am_ev.step (pc' := 5) rfl rfl ?_
  refine am_ev.step (pc' := 6) rfl rfl ?_
  refine am_ev.step (pc' := 7) rfl rfl ?_
  refine ax_call (z := 230) (p' := 10) (as := [_, _]) rfl (Or.inr (Or.inl ⟨_, rfl⟩)) rfl rfl rfl rfl rfl rfl (S.ob rfl) rfl H230 rfl ?_
  refine ax_call (z := 194) (p' := 13) (as := [_, _]) rfl (Or.inl ⟨_, rfl⟩) rfl rfl rfl rfl rfl rfl rfl rfl H194 rfl ?_
  refine ax_iaload (p' := 14) rfl rfl (S.rd (k := z) rfl rfl rfl rfl rfl (by omega) g93) ?_
  exact fx_reti rfl rfl rfl
theorem mp_232f (S : fS g) (hq : q < 40) (v15 : g.2.2.2 78 15 = iv e) (H231 : am_ev (d + 6) 231 0 (am_ent [.ref 78, iv q] 3) [] g (some (iv 1), g)) : am_ev (d + 7) 232 0 (am_ent [.ref 78, iv q] 3) [] g (some (iv 0), g) := by
  show am_ev (d + 7) 232 0 [.ref 78, iv ((q : Int)), am_ph] [] g _
  refine am_ev.step (pc' := 1) rfl rfl ?_
  refine am_ev.step (pc' := 2) rfl rfl ?_
  refine ax_call (z := 231) (p' := 5) (as := [_, _]) rfl (Or.inr (Or.inl ⟨_, rfl⟩)) rfl rfl rfl rfl rfl rfl (S.ob rfl) rfl H231 rfl ?_
  refine fx_z_eq_F (pF := 8) rfl (by omega) rfl (by omega) ?_
  refine am_ev.step (pc' := 9) rfl rfl ?_
  exact fx_reti rfl rfl rfl
theorem mp_232l (S : fS g) (hq : q < 40) (v15 : g.2.2.2 78 15 = iv e) (H231 : am_ev (d + 6) 231 0 (am_ent [.ref 78, iv q] 3) [] g (some (iv 0), g)) (H222 : am_ev (d + 6) 222 0 (am_ent [.ref 78, iv q, iv e] 5) [] g (some (iv κ), g)) (hκ : κ < 81) (w6 : g.2.2.2 106 κ = iv pp) (w7 : g.2.2.2 107 κ = iv r) (br : 0 ≤ r ∧ r ≤ 2) (hr : r = 0) (H233 : am_ev (d + 6) 233 0 (am_ent [.ref 78, iv q] 2) [] g (some (iv l), g)) (hm : pp * (l : Int) = m) : am_ev (d + 7) 232 0 (am_ent [.ref 78, iv q] 3) [] g (some (iv m), g) := by
  show am_ev (d + 7) 232 0 [.ref 78, iv ((q : Int)), am_ph] [] g _
  refine am_ev.step (pc' := 1) rfl rfl ?_
  refine am_ev.step (pc' := 2) rfl rfl ?_
  refine ax_call (z := 231) (p' := 5) (as := [_, _]) rfl (Or.inr (Or.inl ⟨_, rfl⟩)) rfl rfl rfl rfl rfl rfl (S.ob rfl) rfl H231 rfl ?_
  refine fx_z_eq_T (pT := 10) rfl (by omega) rfl (by omega) ?_
  refine am_ev.step (pc' := 11) rfl rfl ?_
  refine am_ev.step (pc' := 12) rfl rfl ?_
  refine am_ev.step (pc' := 13) rfl rfl ?_
  refine ax_gf (p' := 16) rfl rfl (S.ob rfl) v15 ?_
  refine ax_call (z := 222) (p' := 19) (as := [_, _, _]) rfl (Or.inr (Or.inl ⟨_, rfl⟩)) rfl rfl rfl rfl rfl rfl (S.ob rfl) rfl H222 rfl ?_
  refine am_ev.step (pc' := 20) (ls' := [.ref 78, iv ((q : Int)), iv ((κ : Int))]) rfl rfl ?_
  refine am_ev.step (pc' := 21) rfl rfl ?_
  refine ax_gf (p' := 24) rfl rfl (S.ob rfl) (S.rf rfl rfl) ?_
  refine am_ev.step (pc' := 25) rfl rfl ?_
  refine ax_iaload (p' := 26) rfl rfl (S.rd (k := κ) rfl rfl rfl rfl rfl (by omega) w6) ?_
  refine am_ev.step (pc' := 27) rfl rfl ?_
  refine ax_gf (p' := 30) rfl rfl (S.ob rfl) (S.rf rfl rfl) ?_
  refine am_ev.step (pc' := 31) rfl rfl ?_
  refine ax_iaload (p' := 32) rfl rfl (S.rd (k := κ) rfl rfl rfl rfl rfl (by omega) w7) ?_
  refine fx_z_ne_F (pF := 35) rfl (by omega) rfl (by omega) ?_
  refine am_ev.step (pc' := 36) rfl rfl ?_
  refine am_ev.step (pc' := 37) rfl rfl ?_
  refine ax_call (z := 233) (p' := 40) (as := [_, _]) rfl (Or.inr (Or.inl ⟨_, rfl⟩)) rfl rfl rfl rfl rfl rfl (S.ob rfl) rfl H233 rfl ?_
  refine am_ev.step (pc' := 62) rfl rfl ?_
  refine fx_mul (p' := 63) (e := m) rfl rfl hm ?_
  exact fx_reti rfl rfl rfl
theorem mp_232p (S : fS g) (hq : q < 40) (v15 : g.2.2.2 78 15 = iv e) (H231 : am_ev (d + 6) 231 0 (am_ent [.ref 78, iv q] 3) [] g (some (iv 0), g)) (H222 : am_ev (d + 6) 222 0 (am_ent [.ref 78, iv q, iv e] 5) [] g (some (iv κ), g)) (hκ : κ < 81) (w6 : g.2.2.2 106 κ = iv pp) (w7 : g.2.2.2 107 κ = iv r) (br : 0 ≤ r ∧ r ≤ 2) (hr : r = 1) (H229 : am_ev (d + 6) 229 0 (am_ent [.ref 78, iv q] 3) [] g (some (iv p), G)) (SG : fS G) (hm : pp * p = m) : am_ev (d + 7) 232 0 (am_ent [.ref 78, iv q] 3) [] g (some (iv m), G) := by
  show am_ev (d + 7) 232 0 [.ref 78, iv ((q : Int)), am_ph] [] g _
  refine am_ev.step (pc' := 1) rfl rfl ?_
  refine am_ev.step (pc' := 2) rfl rfl ?_
  refine ax_call (z := 231) (p' := 5) (as := [_, _]) rfl (Or.inr (Or.inl ⟨_, rfl⟩)) rfl rfl rfl rfl rfl rfl (S.ob rfl) rfl H231 rfl ?_
  refine fx_z_eq_T (pT := 10) rfl (by omega) rfl (by omega) ?_
  refine am_ev.step (pc' := 11) rfl rfl ?_
  refine am_ev.step (pc' := 12) rfl rfl ?_
  refine am_ev.step (pc' := 13) rfl rfl ?_
  refine ax_gf (p' := 16) rfl rfl (S.ob rfl) v15 ?_
  refine ax_call (z := 222) (p' := 19) (as := [_, _, _]) rfl (Or.inr (Or.inl ⟨_, rfl⟩)) rfl rfl rfl rfl rfl rfl (S.ob rfl) rfl H222 rfl ?_
  refine am_ev.step (pc' := 20) (ls' := [.ref 78, iv ((q : Int)), iv ((κ : Int))]) rfl rfl ?_
  refine am_ev.step (pc' := 21) rfl rfl ?_
  refine ax_gf (p' := 24) rfl rfl (S.ob rfl) (S.rf rfl rfl) ?_
  refine am_ev.step (pc' := 25) rfl rfl ?_
  refine ax_iaload (p' := 26) rfl rfl (S.rd (k := κ) rfl rfl rfl rfl rfl (by omega) w6) ?_
  refine am_ev.step (pc' := 27) rfl rfl ?_
  refine ax_gf (p' := 30) rfl rfl (S.ob rfl) (S.rf rfl rfl) ?_
  refine am_ev.step (pc' := 31) rfl rfl ?_
  refine ax_iaload (p' := 32) rfl rfl (S.rd (k := κ) rfl rfl rfl rfl rfl (by omega) w7) ?_
  refine fx_z_ne_T (pT := 43) rfl (by omega) rfl (by omega) ?_
  refine am_ev.step (pc' := 44) rfl rfl ?_
  refine ax_gf (p' := 47) rfl rfl (S.ob rfl) (S.rf rfl rfl) ?_
  refine am_ev.step (pc' := 48) rfl rfl ?_
  refine ax_iaload (p' := 49) rfl rfl (S.rd (k := κ) rfl rfl rfl rfl rfl (by omega) w7) ?_
  refine am_ev.step (pc' := 50) rfl rfl ?_
  refine fx_c_ne_F (pF := 53) rfl (by omega) (by omega) rfl (by omega) ?_
  refine am_ev.step (pc' := 54) rfl rfl ?_
  refine am_ev.step (pc' := 55) rfl rfl ?_
  refine ax_call (z := 229) (p' := 58) (as := [_, _]) rfl (Or.inr (Or.inl ⟨_, rfl⟩)) rfl rfl rfl rfl rfl rfl (S.ob rfl) rfl H229 rfl ?_
  refine am_ev.step (pc' := 62) rfl rfl ?_
  refine fx_mul (p' := 63) (e := m) rfl rfl hm ?_
  exact fx_reti rfl rfl rfl
theorem mp_232a (S : fS g) (hq : q < 40) (v15 : g.2.2.2 78 15 = iv e) (H231 : am_ev (d + 6) 231 0 (am_ent [.ref 78, iv q] 3) [] g (some (iv 0), g)) (H222 : am_ev (d + 6) 222 0 (am_ent [.ref 78, iv q, iv e] 5) [] g (some (iv κ), g)) (hκ : κ < 81) (w6 : g.2.2.2 106 κ = iv pp) (w7 : g.2.2.2 107 κ = iv r) (br : 0 ≤ r ∧ r ≤ 2) (hr : r = 2) (hm : pp * 1 = m) : am_ev (d + 7) 232 0 (am_ent [.ref 78, iv q] 3) [] g (some (iv m), g) := by
  show am_ev (d + 7) 232 0 [.ref 78, iv ((q : Int)), am_ph] [] g _
  refine am_ev.step (pc' := 1) rfl rfl ?_
  refine am_ev.step (pc' := 2) rfl rfl ?_
  refine ax_call (z := 231) (p' := 5) (as := [_, _]) rfl (Or.inr (Or.inl ⟨_, rfl⟩)) rfl rfl rfl rfl rfl rfl (S.ob rfl) rfl H231 rfl ?_
  refine fx_z_eq_T (pT := 10) rfl (by omega) rfl (by omega) ?_
  refine am_ev.step (pc' := 11) rfl rfl ?_
  refine am_ev.step (pc' := 12) rfl rfl ?_
  refine am_ev.step (pc' := 13) rfl rfl ?_
  refine ax_gf (p' := 16) rfl rfl (S.ob rfl) v15 ?_
  refine ax_call (z := 222) (p' := 19) (as := [_, _, _]) rfl (Or.inr (Or.inl ⟨_, rfl⟩)) rfl rfl rfl rfl rfl rfl (S.ob rfl) rfl H222 rfl ?_
  refine am_ev.step (pc' := 20) (ls' := [.ref 78, iv ((q : Int)), iv ((κ : Int))]) rfl rfl ?_
  refine am_ev.step (pc' := 21) rfl rfl ?_
  refine ax_gf (p' := 24) rfl rfl (S.ob rfl) (S.rf rfl rfl) ?_
  refine am_ev.step (pc' := 25) rfl rfl ?_
  refine ax_iaload (p' := 26) rfl rfl (S.rd (k := κ) rfl rfl rfl rfl rfl (by omega) w6) ?_
  refine am_ev.step (pc' := 27) rfl rfl ?_
  refine ax_gf (p' := 30) rfl rfl (S.ob rfl) (S.rf rfl rfl) ?_
  refine am_ev.step (pc' := 31) rfl rfl ?_
  refine ax_iaload (p' := 32) rfl rfl (S.rd (k := κ) rfl rfl rfl rfl rfl (by omega) w7) ?_
  refine fx_z_ne_T (pT := 43) rfl (by omega) rfl (by omega) ?_
  refine am_ev.step (pc' := 44) rfl rfl ?_
  refine ax_gf (p' := 47) rfl rfl (S.ob rfl) (S.rf rfl rfl) ?_
  refine am_ev.step (pc' := 48) rfl rfl ?_
  refine ax_iaload (p' := 49) rfl rfl (S.rd (k := κ) rfl rfl rfl rfl rfl (by omega) w7) ?_
  refine am_ev.step (pc' := 50) rfl rfl ?_
  refine fx_c_ne_T (pT := 61) rfl (by omega) (by omega) rfl (by omega) ?_
  refine am_ev.step (pc' := 62) rfl rfl ?_
  refine fx_mul (p' := 63) (e := m) rfl rfl hm ?_
  exact fx_reti rfl rfl rfl
variable {po : Nat}
theorem mp_242f (S : fS g) (hq : q < 40) (v15 : g.2.2.2 78 15 = iv e) (H231 : am_ev (d + 6) 231 0 (am_ent [.ref 78, iv q] 3) [] g (some (iv 1), g)) : am_ev (d + 7) 242 0 (am_ent [.ref 78, iv q, iv po] 4) [] g (some (iv 0), g) := by
  show am_ev (d + 7) 242 0 [.ref 78, iv ((q : Int)), iv ((po : Int)), am_ph] [] g _
  refine am_ev.step (pc' := 1) rfl rfl ?_
  refine am_ev.step (pc' := 2) rfl rfl ?_
  refine ax_call (z := 231) (p' := 5) (as := [_, _]) rfl (Or.inr (Or.inl ⟨_, rfl⟩)) rfl rfl rfl rfl rfl rfl (S.ob rfl) rfl H231 rfl ?_
  refine fx_z_eq_F (pF := 8) rfl (by omega) rfl (by omega) ?_
  refine am_ev.step (pc' := 9) rfl rfl ?_
  exact fx_reti rfl rfl rfl
theorem mp_242n (S : fS g) (hq : q < 40) (v15 : g.2.2.2 78 15 = iv e) (H231 : am_ev (d + 6) 231 0 (am_ent [.ref 78, iv q] 3) [] g (some (iv 0), g)) (H222 : am_ev (d + 6) 222 0 (am_ent [.ref 78, iv q, iv e] 5) [] g (some (iv (-1)), g)) : am_ev (d + 7) 242 0 (am_ent [.ref 78, iv q, iv po] 4) [] g (some (iv 0), g) := by
  show am_ev (d + 7) 242 0 [.ref 78, iv ((q : Int)), iv ((po : Int)), am_ph] [] g _
  refine am_ev.step (pc' := 1) rfl rfl ?_
  refine am_ev.step (pc' := 2) rfl rfl ?_
  refine ax_call (z := 231) (p' := 5) (as := [_, _]) rfl (Or.inr (Or.inl ⟨_, rfl⟩)) rfl rfl rfl rfl rfl rfl (S.ob rfl) rfl H231 rfl ?_
  refine fx_z_eq_T (pT := 10) rfl (by omega) rfl (by omega) ?_
  refine am_ev.step (pc' := 11) rfl rfl ?_
  refine am_ev.step (pc' := 12) rfl rfl ?_
  refine am_ev.step (pc' := 13) rfl rfl ?_
  refine ax_gf (p' := 16) rfl rfl (S.ob rfl) v15 ?_
  refine ax_call (z := 222) (p' := 19) (as := [_, _, _]) rfl (Or.inr (Or.inl ⟨_, rfl⟩)) rfl rfl rfl rfl rfl rfl (S.ob rfl) rfl H222 rfl ?_
  refine am_ev.step (pc' := 20) (ls' := [.ref 78, iv ((q : Int)), iv ((po : Int)), iv (-1)]) rfl rfl ?_
  refine am_ev.step (pc' := 21) rfl rfl ?_
  refine am_ev.step (pc' := 22) rfl rfl ?_
  refine fx_c_eq_T (pT := 43) rfl (by omega) (by omega) rfl (by omega) ?_
  refine am_ev.step (pc' := 44) rfl rfl ?_
  exact fx_reti rfl rfl rfl
theorem mp_242t (S : fS g) (hq : q < 40) (v15 : g.2.2.2 78 15 = iv e) (H231 : am_ev (d + 6) 231 0 (am_ent [.ref 78, iv q] 3) [] g (some (iv 0), g)) (H222 : am_ev (d + 6) 222 0 (am_ent [.ref 78, iv q, iv e] 5) [] g (some (iv κ), g)) (hκ : κ < 81) (hpo : po < 31) (w8 : g.2.2.2 108 κ = .int ap) (qb : bt ap po = true) : am_ev (d + 7) 242 0 (am_ent [.ref 78, iv q, iv po] 4) [] g (some (iv 1), g) := by
  show am_ev (d + 7) 242 0 [.ref 78, iv ((q : Int)), iv ((po : Int)), am_ph] [] g _
  refine am_ev.step (pc' := 1) rfl rfl ?_
  refine am_ev.step (pc' := 2) rfl rfl ?_
  refine ax_call (z := 231) (p' := 5) (as := [_, _]) rfl (Or.inr (Or.inl ⟨_, rfl⟩)) rfl rfl rfl rfl rfl rfl (S.ob rfl) rfl H231 rfl ?_
  refine fx_z_eq_T (pT := 10) rfl (by omega) rfl (by omega) ?_
  refine am_ev.step (pc' := 11) rfl rfl ?_
  refine am_ev.step (pc' := 12) rfl rfl ?_
  refine am_ev.step (pc' := 13) rfl rfl ?_
  refine ax_gf (p' := 16) rfl rfl (S.ob rfl) v15 ?_
  refine ax_call (z := 222) (p' := 19) (as := [_, _, _]) rfl (Or.inr (Or.inl ⟨_, rfl⟩)) rfl rfl rfl rfl rfl rfl (S.ob rfl) rfl H222 rfl ?_
  refine am_ev.step (pc' := 20) (ls' := [.ref 78, iv ((q : Int)), iv ((po : Int)), iv ((κ : Int))]) rfl rfl ?_
  refine am_ev.step (pc' := 21) rfl rfl ?_
  refine am_ev.step (pc' := 22) rfl rfl ?_
  refine fx_c_eq_F (pF := 25) rfl (by omega) (by omega) rfl (by omega) ?_
  refine am_ev.step (pc' := 26) rfl rfl ?_
  refine ax_gf (p' := 29) rfl rfl (S.ob rfl) (S.rf rfl rfl) ?_
  refine am_ev.step (pc' := 30) rfl rfl ?_
  refine ax_iaload (p' := 31) rfl rfl (S.rd (k := κ) rfl rfl rfl rfl rfl (by omega) w8) ?_
  refine am_ev.step (pc' := 32) rfl rfl ?_
  refine am_ev.step (pc' := 33) rfl rfl ?_
  refine am_ev.step (pc' := 34) rfl rfl ?_
  refine am_ev.step (pc' := 35) rfl rfl ?_
  refine am_ev.step (pc' := 36) rfl rfl ?_
  refine ax_c_ne_N (p' := 39) rfl rfl ((b_sand1 (by omega)).2 qb) ?_
  refine am_ev.step (pc' := 40) rfl rfl ?_
  refine am_ev.step (pc' := 44) rfl rfl ?_
  exact fx_reti rfl rfl rfl
theorem mp_242u (S : fS g) (hq : q < 40) (v15 : g.2.2.2 78 15 = iv e) (H231 : am_ev (d + 6) 231 0 (am_ent [.ref 78, iv q] 3) [] g (some (iv 0), g)) (H222 : am_ev (d + 6) 222 0 (am_ent [.ref 78, iv q, iv e] 5) [] g (some (iv κ), g)) (hκ : κ < 81) (hpo : po < 31) (w8 : g.2.2.2 108 κ = .int ap) (qb : bt ap po = false) : am_ev (d + 7) 242 0 (am_ent [.ref 78, iv q, iv po] 4) [] g (some (iv 0), g) := by
  show am_ev (d + 7) 242 0 [.ref 78, iv ((q : Int)), iv ((po : Int)), am_ph] [] g _
  refine am_ev.step (pc' := 1) rfl rfl ?_
  refine am_ev.step (pc' := 2) rfl rfl ?_
  refine ax_call (z := 231) (p' := 5) (as := [_, _]) rfl (Or.inr (Or.inl ⟨_, rfl⟩)) rfl rfl rfl rfl rfl rfl (S.ob rfl) rfl H231 rfl ?_
  refine fx_z_eq_T (pT := 10) rfl (by omega) rfl (by omega) ?_
  refine am_ev.step (pc' := 11) rfl rfl ?_
  refine am_ev.step (pc' := 12) rfl rfl ?_
  refine am_ev.step (pc' := 13) rfl rfl ?_
  refine ax_gf (p' := 16) rfl rfl (S.ob rfl) v15 ?_
  refine ax_call (z := 222) (p' := 19) (as := [_, _, _]) rfl (Or.inr (Or.inl ⟨_, rfl⟩)) rfl rfl rfl rfl rfl rfl (S.ob rfl) rfl H222 rfl ?_
  refine am_ev.step (pc' := 20) (ls' := [.ref 78, iv ((q : Int)), iv ((po : Int)), iv ((κ : Int))]) rfl rfl ?_
  refine am_ev.step (pc' := 21) rfl rfl ?_
  refine am_ev.step (pc' := 22) rfl rfl ?_
  refine fx_c_eq_F (pF := 25) rfl (by omega) (by omega) rfl (by omega) ?_
  refine am_ev.step (pc' := 26) rfl rfl ?_
  refine ax_gf (p' := 29) rfl rfl (S.ob rfl) (S.rf rfl rfl) ?_
  refine am_ev.step (pc' := 30) rfl rfl ?_
  refine ax_iaload (p' := 31) rfl rfl (S.rd (k := κ) rfl rfl rfl rfl rfl (by omega) w8) ?_
  refine am_ev.step (pc' := 32) rfl rfl ?_
  refine am_ev.step (pc' := 33) rfl rfl ?_
  refine am_ev.step (pc' := 34) rfl rfl ?_
  refine am_ev.step (pc' := 35) rfl rfl ?_
  refine am_ev.step (pc' := 36) rfl rfl ?_
  refine ax_c_ne_T (p' := 43) rfl rfl (fun z => by rw [(b_sand1 (by omega)).1 z] at qb; cases qb) ?_
  refine am_ev.step (pc' := 44) rfl rfl ?_
  exact fx_reti rfl rfl rfl
variable {i j q2 t t2 : Nat} {y1 y2 : Int}
theorem mp_241e (S : fS g) (hi : i < 14) (hj : j < 14) (gi : g.2.2.2 117 i = iv q) (gj : g.2.2.2 117 j = iv q2) (hq : q < 40) (hq2 : q2 < 40) (gt : g.2.2.2 86 q = iv t) (gt2 : g.2.2.2 86 q2 = iv t2) (ht : t ≤ 19) (ht2 : t2 ≤ 19) (ht3 : t = t2) : am_ev (d + 8) 241 0 (am_ent [.ref 78, iv i, iv j] 5) [] g (some (iv 0), g) := by
  show am_ev (d + 8) 241 0 [.ref 78, iv ((i : Int)), iv ((j : Int)), am_ph, am_ph] [] g _
  refine am_ev.step (pc' := 1) rfl rfl ?_
  refine ax_gf (p' := 4) rfl rfl (S.ob rfl) (S.rf rfl rfl) ?_
  refine am_ev.step (pc' := 5) rfl rfl ?_
  refine ax_iaload (p' := 6) rfl rfl (S.rd (k := i) rfl rfl rfl rfl rfl (by omega) gi) ?_
  refine am_ev.step (pc' := 7) (ls' := [.ref 78, iv ((i : Int)), iv ((j : Int)), iv ((q : Int)), am_ph]) rfl rfl ?_
  refine am_ev.step (pc' := 8) rfl rfl ?_
  refine ax_gf (p' := 11) rfl rfl (S.ob rfl) (S.rf rfl rfl) ?_
  refine am_ev.step (pc' := 12) rfl rfl ?_
  refine ax_iaload (p' := 13) rfl rfl (S.rd (k := j) rfl rfl rfl rfl rfl (by omega) gj) ?_
  refine am_ev.step (pc' := 15) (ls' := [.ref 78, iv ((i : Int)), iv ((j : Int)), iv ((q : Int)), iv ((q2 : Int))]) rfl rfl ?_
  refine am_ev.step (pc' := 16) rfl rfl ?_
  refine ax_gf (p' := 19) rfl rfl (S.ob rfl) (S.rf rfl rfl) ?_
  refine am_ev.step (pc' := 20) rfl rfl ?_
  refine ax_iaload (p' := 21) rfl rfl (S.rd (k := q) rfl rfl rfl rfl rfl (by omega) gt) ?_
  refine am_ev.step (pc' := 22) rfl rfl ?_
  refine ax_gf (p' := 25) rfl rfl (S.ob rfl) (S.rf rfl rfl) ?_
  refine am_ev.step (pc' := 27) rfl rfl ?_
  refine ax_iaload (p' := 28) rfl rfl (S.rd (k := q2) rfl rfl rfl rfl rfl (by omega) gt2) ?_
  refine fx_c_eq_T (pT := 65) rfl (by omega) (by omega) rfl (by omega) ?_
  refine am_ev.step (pc' := 66) rfl rfl ?_
  exact fx_reti rfl rfl rfl
theorem mp_241a (S : fS g) (hi : i < 14) (hj : j < 14) (gi : g.2.2.2 117 i = iv q) (gj : g.2.2.2 117 j = iv q2) (hq : q < 40) (hq2 : q2 < 40) (gt : g.2.2.2 86 q = iv t) (gt2 : g.2.2.2 86 q2 = iv t2) (ht : t ≤ 19) (ht2 : t2 ≤ 19) (ht3 : t ≠ t2) (H242_1 : am_ev (d + 7) 242 0 (am_ent [.ref 78, iv q, iv t2] 4) [] g (some (iv 1), g)) : am_ev (d + 8) 241 0 (am_ent [.ref 78, iv i, iv j] 5) [] g (some (iv 0), g) := by
  show am_ev (d + 8) 241 0 [.ref 78, iv ((i : Int)), iv ((j : Int)), am_ph, am_ph] [] g _
  refine am_ev.step (pc' := 1) rfl rfl ?_
  refine ax_gf (p' := 4) rfl rfl (S.ob rfl) (S.rf rfl rfl) ?_
  refine am_ev.step (pc' := 5) rfl rfl ?_
  refine ax_iaload (p' := 6) rfl rfl (S.rd (k := i) rfl rfl rfl rfl rfl (by omega) gi) ?_
  refine am_ev.step (pc' := 7) (ls' := [.ref 78, iv ((i : Int)), iv ((j : Int)), iv ((q : Int)), am_ph]) rfl rfl ?_
  refine am_ev.step (pc' := 8) rfl rfl ?_
  refine ax_gf (p' := 11) rfl rfl (S.ob rfl) (S.rf rfl rfl) ?_
  refine am_ev.step (pc' := 12) rfl rfl ?_
  refine ax_iaload (p' := 13) rfl rfl (S.rd (k := j) rfl rfl rfl rfl rfl (by omega) gj) ?_
  refine am_ev.step (pc' := 15) (ls' := [.ref 78, iv ((i : Int)), iv ((j : Int)), iv ((q : Int)), iv ((q2 : Int))]) rfl rfl ?_
  refine am_ev.step (pc' := 16) rfl rfl ?_
  refine ax_gf (p' := 19) rfl rfl (S.ob rfl) (S.rf rfl rfl) ?_
  refine am_ev.step (pc' := 20) rfl rfl ?_
  refine ax_iaload (p' := 21) rfl rfl (S.rd (k := q) rfl rfl rfl rfl rfl (by omega) gt) ?_
  refine am_ev.step (pc' := 22) rfl rfl ?_
  refine ax_gf (p' := 25) rfl rfl (S.ob rfl) (S.rf rfl rfl) ?_
  refine am_ev.step (pc' := 27) rfl rfl ?_
  refine ax_iaload (p' := 28) rfl rfl (S.rd (k := q2) rfl rfl rfl rfl rfl (by omega) gt2) ?_
  refine fx_c_eq_F (pF := 31) rfl (by omega) (by omega) rfl (by omega) ?_
  refine am_ev.step (pc' := 32) rfl rfl ?_
  refine am_ev.step (pc' := 33) rfl rfl ?_
  refine am_ev.step (pc' := 34) rfl rfl ?_
  refine ax_gf (p' := 37) rfl rfl (S.ob rfl) (S.rf rfl rfl) ?_
  refine am_ev.step (pc' := 39) rfl rfl ?_
  refine ax_iaload (p' := 40) rfl rfl (S.rd (k := q2) rfl rfl rfl rfl rfl (by omega) gt2) ?_
  refine ax_call (z := 242) (p' := 43) (as := [_, _, _]) rfl (Or.inr (Or.inl ⟨_, rfl⟩)) rfl rfl rfl rfl rfl rfl (S.ob rfl) rfl H242_1 rfl ?_
  refine fx_z_ne_T (pT := 65) rfl (by omega) rfl (by omega) ?_
  refine am_ev.step (pc' := 66) rfl rfl ?_
  exact fx_reti rfl rfl rfl
theorem mp_241b (S : fS g) (hi : i < 14) (hj : j < 14) (gi : g.2.2.2 117 i = iv q) (gj : g.2.2.2 117 j = iv q2) (hq : q < 40) (hq2 : q2 < 40) (gt : g.2.2.2 86 q = iv t) (gt2 : g.2.2.2 86 q2 = iv t2) (ht : t ≤ 19) (ht2 : t2 ≤ 19) (ht3 : t ≠ t2) (H242_1 : am_ev (d + 7) 242 0 (am_ent [.ref 78, iv q, iv t2] 4) [] g (some (iv 0), g)) (H242_2 : am_ev (d + 7) 242 0 (am_ent [.ref 78, iv q2, iv t] 4) [] g (some (iv 1), g)) : am_ev (d + 8) 241 0 (am_ent [.ref 78, iv i, iv j] 5) [] g (some (iv 0), g) := by
  show am_ev (d + 8) 241 0 [.ref 78, iv ((i : Int)), iv ((j : Int)), am_ph, am_ph] [] g _
  refine am_ev.step (pc' := 1) rfl rfl ?_
  refine ax_gf (p' := 4) rfl rfl (S.ob rfl) (S.rf rfl rfl) ?_
  refine am_ev.step (pc' := 5) rfl rfl ?_
  refine ax_iaload (p' := 6) rfl rfl (S.rd (k := i) rfl rfl rfl rfl rfl (by omega) gi) ?_
  refine am_ev.step (pc' := 7) (ls' := [.ref 78, iv ((i : Int)), iv ((j : Int)), iv ((q : Int)), am_ph]) rfl rfl ?_
  refine am_ev.step (pc' := 8) rfl rfl ?_
  refine ax_gf (p' := 11) rfl rfl (S.ob rfl) (S.rf rfl rfl) ?_
  refine am_ev.step (pc' := 12) rfl rfl ?_
  refine ax_iaload (p' := 13) rfl rfl (S.rd (k := j) rfl rfl rfl rfl rfl (by omega) gj) ?_
  refine am_ev.step (pc' := 15) (ls' := [.ref 78, iv ((i : Int)), iv ((j : Int)), iv ((q : Int)), iv ((q2 : Int))]) rfl rfl ?_
  refine am_ev.step (pc' := 16) rfl rfl ?_
  refine ax_gf (p' := 19) rfl rfl (S.ob rfl) (S.rf rfl rfl) ?_
  refine am_ev.step (pc' := 20) rfl rfl ?_
  refine ax_iaload (p' := 21) rfl rfl (S.rd (k := q) rfl rfl rfl rfl rfl (by omega) gt) ?_
  refine am_ev.step (pc' := 22) rfl rfl ?_
  refine ax_gf (p' := 25) rfl rfl (S.ob rfl) (S.rf rfl rfl) ?_
  refine am_ev.step (pc' := 27) rfl rfl ?_
  refine ax_iaload (p' := 28) rfl rfl (S.rd (k := q2) rfl rfl rfl rfl rfl (by omega) gt2) ?_
  refine fx_c_eq_F (pF := 31) rfl (by omega) (by omega) rfl (by omega) ?_
  refine am_ev.step (pc' := 32) rfl rfl ?_
  refine am_ev.step (pc' := 33) rfl rfl ?_
  refine am_ev.step (pc' := 34) rfl rfl ?_
  refine ax_gf (p' := 37) rfl rfl (S.ob rfl) (S.rf rfl rfl) ?_
  refine am_ev.step (pc' := 39) rfl rfl ?_
  refine ax_iaload (p' := 40) rfl rfl (S.rd (k := q2) rfl rfl rfl rfl rfl (by omega) gt2) ?_
  refine ax_call (z := 242) (p' := 43) (as := [_, _, _]) rfl (Or.inr (Or.inl ⟨_, rfl⟩)) rfl rfl rfl rfl rfl rfl (S.ob rfl) rfl H242_1 rfl ?_
  refine fx_z_ne_F (pF := 46) rfl (by omega) rfl (by omega) ?_
  refine am_ev.step (pc' := 47) rfl rfl ?_
  refine am_ev.step (pc' := 49) rfl rfl ?_
  refine am_ev.step (pc' := 50) rfl rfl ?_
  refine ax_gf (p' := 53) rfl rfl (S.ob rfl) (S.rf rfl rfl) ?_
  refine am_ev.step (pc' := 54) rfl rfl ?_
  refine ax_iaload (p' := 55) rfl rfl (S.rd (k := q) rfl rfl rfl rfl rfl (by omega) gt) ?_
  refine ax_call (z := 242) (p' := 58) (as := [_, _, _]) rfl (Or.inr (Or.inl ⟨_, rfl⟩)) rfl rfl rfl rfl rfl rfl (S.ob rfl) rfl H242_2 rfl ?_
  refine fx_z_ne_T (pT := 65) rfl (by omega) rfl (by omega) ?_
  refine am_ev.step (pc' := 66) rfl rfl ?_
  exact fx_reti rfl rfl rfl
theorem mp_241y (S : fS g) (hi : i < 14) (hj : j < 14) (gi : g.2.2.2 117 i = iv q) (gj : g.2.2.2 117 j = iv q2) (hq : q < 40) (hq2 : q2 < 40) (gt : g.2.2.2 86 q = iv t) (gt2 : g.2.2.2 86 q2 = iv t2) (ht : t ≤ 19) (ht2 : t2 ≤ 19) (ht3 : t ≠ t2) (H242_1 : am_ev (d + 7) 242 0 (am_ent [.ref 78, iv q, iv t2] 4) [] g (some (iv 0), g)) (H242_2 : am_ev (d + 7) 242 0 (am_ent [.ref 78, iv q2, iv t] 4) [] g (some (iv 0), g)) : am_ev (d + 8) 241 0 (am_ent [.ref 78, iv i, iv j] 5) [] g (some (iv 1), g) := by
  show am_ev (d + 8) 241 0 [.ref 78, iv ((i : Int)), iv ((j : Int)), am_ph, am_ph] [] g _
  refine am_ev.step (pc' := 1) rfl rfl ?_
  refine ax_gf (p' := 4) rfl rfl (S.ob rfl) (S.rf rfl rfl) ?_
  refine am_ev.step (pc' := 5) rfl rfl ?_
  refine ax_iaload (p' := 6) rfl rfl (S.rd (k := i) rfl rfl rfl rfl rfl (by omega) gi) ?_
  refine am_ev.step (pc' := 7) (ls' := [.ref 78, iv ((i : Int)), iv ((j : Int)), iv ((q : Int)), am_ph]) rfl rfl ?_
  refine am_ev.step (pc' := 8) rfl rfl ?_
  refine ax_gf (p' := 11) rfl rfl (S.ob rfl) (S.rf rfl rfl) ?_
  refine am_ev.step (pc' := 12) rfl rfl ?_
  refine ax_iaload (p' := 13) rfl rfl (S.rd (k := j) rfl rfl rfl rfl rfl (by omega) gj) ?_
  refine am_ev.step (pc' := 15) (ls' := [.ref 78, iv ((i : Int)), iv ((j : Int)), iv ((q : Int)), iv ((q2 : Int))]) rfl rfl ?_
  refine am_ev.step (pc' := 16) rfl rfl ?_
  refine ax_gf (p' := 19) rfl rfl (S.ob rfl) (S.rf rfl rfl) ?_
  refine am_ev.step (pc' := 20) rfl rfl ?_
  refine ax_iaload (p' := 21) rfl rfl (S.rd (k := q) rfl rfl rfl rfl rfl (by omega) gt) ?_
  refine am_ev.step (pc' := 22) rfl rfl ?_
  refine ax_gf (p' := 25) rfl rfl (S.ob rfl) (S.rf rfl rfl) ?_
  refine am_ev.step (pc' := 27) rfl rfl ?_
  refine ax_iaload (p' := 28) rfl rfl (S.rd (k := q2) rfl rfl rfl rfl rfl (by omega) gt2) ?_
  refine fx_c_eq_F (pF := 31) rfl (by omega) (by omega) rfl (by omega) ?_
  refine am_ev.step (pc' := 32) rfl rfl ?_
  refine am_ev.step (pc' := 33) rfl rfl ?_
  refine am_ev.step (pc' := 34) rfl rfl ?_
  refine ax_gf (p' := 37) rfl rfl (S.ob rfl) (S.rf rfl rfl) ?_
  refine am_ev.step (pc' := 39) rfl rfl ?_
  refine ax_iaload (p' := 40) rfl rfl (S.rd (k := q2) rfl rfl rfl rfl rfl (by omega) gt2) ?_
  refine ax_call (z := 242) (p' := 43) (as := [_, _, _]) rfl (Or.inr (Or.inl ⟨_, rfl⟩)) rfl rfl rfl rfl rfl rfl (S.ob rfl) rfl H242_1 rfl ?_
  refine fx_z_ne_F (pF := 46) rfl (by omega) rfl (by omega) ?_
  refine am_ev.step (pc' := 47) rfl rfl ?_
  refine am_ev.step (pc' := 49) rfl rfl ?_
  refine am_ev.step (pc' := 50) rfl rfl ?_
  refine ax_gf (p' := 53) rfl rfl (S.ob rfl) (S.rf rfl rfl) ?_
  refine am_ev.step (pc' := 54) rfl rfl ?_
  refine ax_iaload (p' := 55) rfl rfl (S.rd (k := q) rfl rfl rfl rfl rfl (by omega) gt) ?_
  refine ax_call (z := 242) (p' := 58) (as := [_, _, _]) rfl (Or.inr (Or.inl ⟨_, rfl⟩)) rfl rfl rfl rfl rfl rfl (S.ob rfl) rfl H242_2 rfl ?_
  refine fx_z_ne_F (pF := 61) rfl (by omega) rfl (by omega) ?_
  refine am_ev.step (pc' := 62) rfl rfl ?_
  refine am_ev.step (pc' := 66) rfl rfl ?_
  exact fx_reti rfl rfl rfl
theorem mp_244 (S : fS g) (hi : i < 14) (hj : j < 14) (gi : g.2.2.2 117 i = iv q) (gj : g.2.2.2 117 j = iv q2) (hq : q < 40) (hq2 : q2 < 40) (gy : g.2.2.2 87 q = iv y1) (gy2 : g.2.2.2 87 q2 = iv y2) (by1 : 0 ≤ y1 ∧ y1 ≤ 2100) (by2 : 0 ≤ y2 ∧ y2 ≤ 2100) (hm : 0 < y1 - y2 ∧ m = y1 - y2 ∨ y1 - y2 ≤ 0 ∧ m = 0) : am_ev (d + 1) 244 0 (am_ent [.ref 78, iv i, iv j] 3) [] g (some (iv m), g) := by
  show am_ev (d + 1) 244 0 [.ref 78, iv ((i : Int)), iv ((j : Int))] [] g _
  refine am_ev.step (pc' := 1) rfl rfl ?_
  refine am_ev.step (pc' := 2) rfl rfl ?_
  refine ax_gf (p' := 5) rfl rfl (S.ob rfl) (S.rf rfl rfl) ?_
  refine am_ev.step (pc' := 6) rfl rfl ?_
  refine ax_gf (p' := 9) rfl rfl (S.ob rfl) (S.rf rfl rfl) ?_
  refine am_ev.step (pc' := 10) rfl rfl ?_
  refine ax_iaload (p' := 11) rfl rfl (S.rd (k := i) rfl rfl rfl rfl rfl (by omega) gi) ?_
  refine ax_iaload (p' := 12) rfl rfl (S.rd (k := q) rfl rfl rfl rfl rfl (by omega) gy) ?_
  refine am_ev.step (pc' := 13) rfl rfl ?_
  refine ax_gf (p' := 16) rfl rfl (S.ob rfl) (S.rf rfl rfl) ?_
  refine am_ev.step (pc' := 17) rfl rfl ?_
  refine ax_gf (p' := 20) rfl rfl (S.ob rfl) (S.rf rfl rfl) ?_
  refine am_ev.step (pc' := 21) rfl rfl ?_
  refine ax_iaload (p' := 22) rfl rfl (S.rd (k := j) rfl rfl rfl rfl rfl (by omega) gj) ?_
  refine ax_iaload (p' := 23) rfl rfl (S.rd (k := q2) rfl rfl rfl rfl rfl (by omega) gy2) ?_
  refine fx_sub (p' := 24) (e := (y1 - y2)) rfl rfl (by omega) ?_
  refine fx_mx (p' := 27) (x1 := 0) (x2 := y1 - y2) (e := m) rfl (Or.inl ⟨_, rfl⟩) rfl rfl rfl rfl (by omega) (by omega) (by omega) (by omega) ?_
  exact fx_reti rfl rfl rfl
end LKM
