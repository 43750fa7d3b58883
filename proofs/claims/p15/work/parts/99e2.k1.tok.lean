/-! TOKENS: where they begin and end, of what kind they are -/
def tz_bl (x : Int) : Bool := decide (x = 32 ∨ x = 10)
def tz_le (x : Int) : Bool := decide (97 ≤ x ∧ x ≤ 122)
def tz_di (x : Int) : Bool := decide (48 ≤ x ∧ x ≤ 57)
def tz_sp (c : Int → Bool) (b : Nat → Int) : Nat → Nat → Nat
  | 0, p => p
  | n + 1, p => if c (b p) = true then tz_sp c b n (p + 1) else p
theorem tz_sp_s {c : Int → Bool} {b : Nat → Int} {n p : Nat} (h : c (b p) = true) : tz_sp c b (n + 1) p = tz_sp c b n (p + 1) := if_pos h
theorem tz_sp_e {c : Int → Bool} {b : Nat → Int} {n p : Nat} (h : ¬ c (b p) = true) : tz_sp c b (n + 1) p = p := if_neg h
theorem tz_sp_le {c : Int → Bool} {b : Nat → Int} : ∀ n p, p ≤ tz_sp c b n p ∧ tz_sp c b n p ≤ p + n
  | 0, p => ⟨Nat.le_refl _, Nat.le_refl _⟩
  | n + 1, p => by
    by_cases h : c (b p) = true
    · rw [tz_sp_s h]
      have := tz_sp_le (c := c) (b := b) n (p + 1)
      omega
    · rw [tz_sp_e h]
      omega
theorem tz_sp_in {c : Int → Bool} {b : Nat → Int} : ∀ n p i, p ≤ i → i < tz_sp c b n p → c (b i) = true
  | 0, p, i, h1, h2 => by
    have h2 : i < p := h2
    omega
  | n + 1, p, i, h1, h2 => by
    by_cases h : c (b p) = true
    · rw [tz_sp_s h] at h2
      by_cases e : i = p
      · rw [e]
        exact h
      · exact tz_sp_in n (p + 1) i (by omega) h2
    · rw [tz_sp_e h] at h2
      omega
def tS (b : Nat → Int) (L p : Nat) : Nat := tz_sp tz_bl b (L - p) p
def tE (b : Nat → Int) (L s : Nat) : Nat := if L ≤ s then s else if tz_le (b s) = true then tz_sp tz_le b (L - s) s else if tz_di (b s) = true then tz_sp tz_di b (L - s) s else s + 1
def tK (b : Nat → Int) (L s : Nat) : Int := if L ≤ s then 0 else if tz_le (b s) = true then (if tz_sp tz_le b (L - s) s ≤ s + 12 then 1 else 3) else if tz_di (b s) = true then (if tz_sp tz_di b (L - s) s ≤ s + 5 then 2 else 3) else if b s = 59 ∨ b s = 47 ∨ b s = 43 then b s else 3
theorem tS_le (b : Nat → Int) {L p : Nat} (h : p ≤ L) : p ≤ tS b L p ∧ tS b L p ≤ L := by
  have := tz_sp_le (c := tz_bl) (b := b) (L - p) p
  unfold tS
  omega
theorem tE_le (b : Nat → Int) {L s : Nat} (h : s ≤ L) : s ≤ tE b L s ∧ tE b L s ≤ L := by
  have a1 := tz_sp_le (c := tz_le) (b := b) (L - s) s
  have a2 := tz_sp_le (c := tz_di) (b := b) (L - s) s
  unfold tE
  repeat' split
  all_goals omega
/-- the bytes of a tape -/
def tb (h : am_H) (c : Nat) (b : Nat → Int) (L : Nat) : Prop := ∀ i, i < L → h.2.2.2 c i = iv (b i)
theorem tb.put {h : am_H} {c : Nat} {b : Nat → Int} {L : Nat} (B : tb h c b L) {k j : Nat} {v : Value} (n : c ≠ k) : tb (am_put h k j v) c b L := fun i hi => ax_put_o (Or.inl n) (B i hi)
def tz_r (b : Nat → Int) : Prop := ∀ i, -128 ≤ b i ∧ b i ≤ 127
theorem fx_hc {d y pc : Nat} {ls st : List Value} {h g : am_H} {x : Option Value × am_H} (e : h = g) (q : am_ev d y pc ls st g x) : am_ev d y pc ls st h x := by
  rw [e]
  exact q
theorem tz_nc (p : Nat) : (p : Int) + 1 = ((p + 1 : Nat) : Int) := by omega
section TKA
variable {d : Nat} {h : am_H} {x : Int}
theorem tk_22t (r : -128 ≤ x ∧ x ≤ 255) (q : x = 32 ∨ x = 10) : am_ev d 22 0 (am_ent [iv x] 1) [] h (some (iv 1), h) := by
  show am_ev d 22 0 [iv x] [] h _
  refine am_ev.step (pc' := 1) rfl rfl ?_
  refine fx_bip (p' := 3) rfl rfl rfl ?_
  refine fx_c_eq (pT := 12) (pF := 6) rfl (by omega) (by omega) rfl rfl (fun c1 => ?_) (fun c1 => ?_)
  · refine am_ev.step (pc' := 13) rfl rfl ?_
    refine am_ev.step (pc' := 17) rfl rfl ?_
    exact fx_reti rfl rfl rfl
  · refine am_ev.step (pc' := 7) rfl rfl ?_
    refine fx_bip (p' := 9) rfl rfl rfl ?_
    refine fx_c_ne (pT := 16) (pF := 12) rfl (by omega) (by omega) rfl rfl (fun c2 => ?_) (fun c2 => ?_)
    · refine am_ev.step (pc' := 17) rfl rfl ?_
      exfalso
      omega
    · refine am_ev.step (pc' := 13) rfl rfl ?_
      refine am_ev.step (pc' := 17) rfl rfl ?_
      exact fx_reti rfl rfl rfl
theorem tk_22f (r : -128 ≤ x ∧ x ≤ 255) (q : ¬ (x = 32 ∨ x = 10)) : am_ev d 22 0 (am_ent [iv x] 1) [] h (some (iv 0), h) := by
  show am_ev d 22 0 [iv x] [] h _
  refine am_ev.step (pc' := 1) rfl rfl ?_
  refine fx_bip (p' := 3) rfl rfl rfl ?_
  refine fx_c_eq (pT := 12) (pF := 6) rfl (by omega) (by omega) rfl rfl (fun c1 => ?_) (fun c1 => ?_)
  · refine am_ev.step (pc' := 13) rfl rfl ?_
    refine am_ev.step (pc' := 17) rfl rfl ?_
    exfalso
    omega
  · refine am_ev.step (pc' := 7) rfl rfl ?_
    refine fx_bip (p' := 9) rfl rfl rfl ?_
    refine fx_c_ne (pT := 16) (pF := 12) rfl (by omega) (by omega) rfl rfl (fun c2 => ?_) (fun c2 => ?_)
    · refine am_ev.step (pc' := 17) rfl rfl ?_
      exact fx_reti rfl rfl rfl
    · refine am_ev.step (pc' := 13) rfl rfl ?_
      refine am_ev.step (pc' := 17) rfl rfl ?_
      exfalso
      omega
theorem tk_23t (r : -128 ≤ x ∧ x ≤ 255) (q : 97 ≤ x ∧ x ≤ 122) : am_ev d 23 0 (am_ent [iv x] 1) [] h (some (iv 1), h) := by
  show am_ev d 23 0 [iv x] [] h _
  refine am_ev.step (pc' := 1) rfl rfl ?_
  refine fx_bip (p' := 3) rfl rfl rfl ?_
  refine fx_c_lt (pT := 16) (pF := 6) rfl (by omega) (by omega) rfl rfl (fun c1 => ?_) (fun c1 => ?_)
  · refine am_ev.step (pc' := 17) rfl rfl ?_
    exfalso
    omega
  · refine am_ev.step (pc' := 7) rfl rfl ?_
    refine fx_bip (p' := 9) rfl rfl rfl ?_
    refine fx_c_gt (pT := 16) (pF := 12) rfl (by omega) (by omega) rfl rfl (fun c2 => ?_) (fun c2 => ?_)
    · refine am_ev.step (pc' := 17) rfl rfl ?_
      exfalso
      omega
    · refine am_ev.step (pc' := 13) rfl rfl ?_
      refine am_ev.step (pc' := 17) rfl rfl ?_
      exact fx_reti rfl rfl rfl
theorem tk_23f (r : -128 ≤ x ∧ x ≤ 255) (q : ¬ (97 ≤ x ∧ x ≤ 122)) : am_ev d 23 0 (am_ent [iv x] 1) [] h (some (iv 0), h) := by
  show am_ev d 23 0 [iv x] [] h _
  refine am_ev.step (pc' := 1) rfl rfl ?_
  refine fx_bip (p' := 3) rfl rfl rfl ?_
  refine fx_c_lt (pT := 16) (pF := 6) rfl (by omega) (by omega) rfl rfl (fun c1 => ?_) (fun c1 => ?_)
  · refine am_ev.step (pc' := 17) rfl rfl ?_
    exact fx_reti rfl rfl rfl
  · refine am_ev.step (pc' := 7) rfl rfl ?_
    refine fx_bip (p' := 9) rfl rfl rfl ?_
    refine fx_c_gt (pT := 16) (pF := 12) rfl (by omega) (by omega) rfl rfl (fun c2 => ?_) (fun c2 => ?_)
    · refine am_ev.step (pc' := 17) rfl rfl ?_
      exact fx_reti rfl rfl rfl
    · refine am_ev.step (pc' := 13) rfl rfl ?_
      refine am_ev.step (pc' := 17) rfl rfl ?_
      exfalso
      omega
theorem tk_24t (r : -128 ≤ x ∧ x ≤ 255) (q : 48 ≤ x ∧ x ≤ 57) : am_ev d 24 0 (am_ent [iv x] 1) [] h (some (iv 1), h) := by
  show am_ev d 24 0 [iv x] [] h _
  refine am_ev.step (pc' := 1) rfl rfl ?_
  refine fx_bip (p' := 3) rfl rfl rfl ?_
  refine fx_c_lt (pT := 16) (pF := 6) rfl (by omega) (by omega) rfl rfl (fun c1 => ?_) (fun c1 => ?_)
  · refine am_ev.step (pc' := 17) rfl rfl ?_
    exfalso
    omega
  · refine am_ev.step (pc' := 7) rfl rfl ?_
    refine fx_bip (p' := 9) rfl rfl rfl ?_
    refine fx_c_gt (pT := 16) (pF := 12) rfl (by omega) (by omega) rfl rfl (fun c2 => ?_) (fun c2 => ?_)
    · refine am_ev.step (pc' := 17) rfl rfl ?_
      exfalso
      omega
    · refine am_ev.step (pc' := 13) rfl rfl ?_
      refine am_ev.step (pc' := 17) rfl rfl ?_
      exact fx_reti rfl rfl rfl
theorem tk_24f (r : -128 ≤ x ∧ x ≤ 255) (q : ¬ (48 ≤ x ∧ x ≤ 57)) : am_ev d 24 0 (am_ent [iv x] 1) [] h (some (iv 0), h) := by
  show am_ev d 24 0 [iv x] [] h _
  refine am_ev.step (pc' := 1) rfl rfl ?_
  refine fx_bip (p' := 3) rfl rfl rfl ?_
  refine fx_c_lt (pT := 16) (pF := 6) rfl (by omega) (by omega) rfl rfl (fun c1 => ?_) (fun c1 => ?_)
  · refine am_ev.step (pc' := 17) rfl rfl ?_
    exact fx_reti rfl rfl rfl
  · refine am_ev.step (pc' := 7) rfl rfl ?_
    refine fx_bip (p' := 9) rfl rfl rfl ?_
    refine fx_c_gt (pT := 16) (pF := 12) rfl (by omega) (by omega) rfl rfl (fun c2 => ?_) (fun c2 => ?_)
    · refine am_ev.step (pc' := 17) rfl rfl ?_
      exact fx_reti rfl rfl rfl
    · refine am_ev.step (pc' := 13) rfl rfl ?_
      refine am_ev.step (pc' := 17) rfl rfl ?_
      exfalso
      omega
theorem tk_172t (r : -128 ≤ x ∧ x ≤ 255) (q : 97 ≤ x ∧ x ≤ 122) : am_ev d 172 0 (am_ent [iv x] 1) [] h (some (iv 1), h) := by
  show am_ev d 172 0 [iv x] [] h _
  refine am_ev.step (pc' := 1) rfl rfl ?_
  refine fx_bip (p' := 3) rfl rfl rfl ?_
  refine fx_c_lt (pT := 16) (pF := 6) rfl (by omega) (by omega) rfl rfl (fun c1 => ?_) (fun c1 => ?_)
  · refine am_ev.step (pc' := 17) rfl rfl ?_
    exfalso
    omega
  · refine am_ev.step (pc' := 7) rfl rfl ?_
    refine fx_bip (p' := 9) rfl rfl rfl ?_
    refine fx_c_gt (pT := 16) (pF := 12) rfl (by omega) (by omega) rfl rfl (fun c2 => ?_) (fun c2 => ?_)
    · refine am_ev.step (pc' := 17) rfl rfl ?_
      exfalso
      omega
    · refine am_ev.step (pc' := 13) rfl rfl ?_
      refine am_ev.step (pc' := 17) rfl rfl ?_
      exact fx_reti rfl rfl rfl
theorem tk_172f (r : -128 ≤ x ∧ x ≤ 255) (q : ¬ (97 ≤ x ∧ x ≤ 122)) : am_ev d 172 0 (am_ent [iv x] 1) [] h (some (iv 0), h) := by
  show am_ev d 172 0 [iv x] [] h _
  refine am_ev.step (pc' := 1) rfl rfl ?_
  refine fx_bip (p' := 3) rfl rfl rfl ?_
  refine fx_c_lt (pT := 16) (pF := 6) rfl (by omega) (by omega) rfl rfl (fun c1 => ?_) (fun c1 => ?_)
  · refine am_ev.step (pc' := 17) rfl rfl ?_
    exact fx_reti rfl rfl rfl
  · refine am_ev.step (pc' := 7) rfl rfl ?_
    refine fx_bip (p' := 9) rfl rfl rfl ?_
    refine fx_c_gt (pT := 16) (pF := 12) rfl (by omega) (by omega) rfl rfl (fun c2 => ?_) (fun c2 => ?_)
    · refine am_ev.step (pc' := 17) rfl rfl ?_
      exact fx_reti rfl rfl rfl
    · refine am_ev.step (pc' := 13) rfl rfl ?_
      refine am_ev.step (pc' := 17) rfl rfl ?_
      exfalso
      omega
theorem tk_173t (r : -128 ≤ x ∧ x ≤ 255) (q : 48 ≤ x ∧ x ≤ 57) : am_ev d 173 0 (am_ent [iv x] 1) [] h (some (iv 1), h) := by
  show am_ev d 173 0 [iv x] [] h _
  refine am_ev.step (pc' := 1) rfl rfl ?_
  refine fx_bip (p' := 3) rfl rfl rfl ?_
  refine fx_c_lt (pT := 16) (pF := 6) rfl (by omega) (by omega) rfl rfl (fun c1 => ?_) (fun c1 => ?_)
  · refine am_ev.step (pc' := 17) rfl rfl ?_
    exfalso
    omega
  · refine am_ev.step (pc' := 7) rfl rfl ?_
    refine fx_bip (p' := 9) rfl rfl rfl ?_
    refine fx_c_gt (pT := 16) (pF := 12) rfl (by omega) (by omega) rfl rfl (fun c2 => ?_) (fun c2 => ?_)
    · refine am_ev.step (pc' := 17) rfl rfl ?_
      exfalso
      omega
    · refine am_ev.step (pc' := 13) rfl rfl ?_
      refine am_ev.step (pc' := 17) rfl rfl ?_
      exact fx_reti rfl rfl rfl
theorem tk_173f (r : -128 ≤ x ∧ x ≤ 255) (q : ¬ (48 ≤ x ∧ x ≤ 57)) : am_ev d 173 0 (am_ent [iv x] 1) [] h (some (iv 0), h) := by
  show am_ev d 173 0 [iv x] [] h _
  refine am_ev.step (pc' := 1) rfl rfl ?_
  refine fx_bip (p' := 3) rfl rfl rfl ?_
  refine fx_c_lt (pT := 16) (pF := 6) rfl (by omega) (by omega) rfl rfl (fun c1 => ?_) (fun c1 => ?_)
  · refine am_ev.step (pc' := 17) rfl rfl ?_
    exact fx_reti rfl rfl rfl
  · refine am_ev.step (pc' := 7) rfl rfl ?_
    refine fx_bip (p' := 9) rfl rfl rfl ?_
    refine fx_c_gt (pT := 16) (pF := 12) rfl (by omega) (by omega) rfl rfl (fun c2 => ?_) (fun c2 => ?_)
    · refine am_ev.step (pc' := 17) rfl rfl ?_
      exact fx_reti rfl rfl rfl
    · refine am_ev.step (pc' := 13) rfl rfl ?_
      refine am_ev.step (pc' := 17) rfl rfl ?_
      exfalso
      omega
end TKA
def T1 (h : am_H) (s e : Nat) (k : Int) : am_H := am_put (am_put (am_put h 41 5 (iv s)) 41 6 (iv e)) 41 2 (iv k)
section TKB
variable {d : Nat} {h : am_H} {b : Nat → Int} {L : Nat} {x : Option Value × am_H}
theorem tk_21a (S : fS h) (B : tb h 42 b L) (hb : tz_r b) (hL : L ≤ 1600) (v1 : h.2.2.2 41 1 = iv L) : ∀ (n p : Nat), L - p = n → p ≤ L → am_ev (d + 1) 21 39 [.ref 41, am_ph] [] (am_put h 41 6 (iv (tz_sp tz_bl b n p))) x → am_ev (d + 1) 21 0 [.ref 41, am_ph] [] (am_put h 41 6 (iv p)) x
  | 0, p, e, hp, q => by
    have e : p = L := by omega
    refine am_ev.step (pc' := 1) rfl rfl ?_
    refine ax_gf (p' := 4) rfl rfl (fO (S.ob rfl)) (ax_put_s _ _ _) ?_
    refine am_ev.step (pc' := 5) rfl rfl ?_
    refine ax_gf (p' := 8) rfl rfl (fO (S.ob rfl)) (ax_put_o (Or.inr (by decide)) v1) ?_
    refine fx_c_ge_T (pT := 39) rfl (by omega) (by omega) rfl (by omega) ?_
    exact q
  | n + 1, p, e, hp, q => by
    have hr := hb p
    by_cases c : tz_bl (b p) = true
    · rw [tz_sp_s c] at q
      have c2 := of_decide_eq_true c
      refine am_ev.step (pc' := 1) rfl rfl ?_
      refine ax_gf (p' := 4) rfl rfl (fO (S.ob rfl)) (ax_put_s _ _ _) ?_
      refine am_ev.step (pc' := 5) rfl rfl ?_
      refine ax_gf (p' := 8) rfl rfl (fO (S.ob rfl)) (ax_put_o (Or.inr (by decide)) v1) ?_
      refine fx_c_ge_F (pF := 11) rfl (by omega) (by omega) rfl (by omega) ?_
      refine am_ev.step (pc' := 12) rfl rfl ?_
      refine ax_gf (p' := 15) rfl rfl (fO (S.ob rfl)) (ax_put_o (Or.inr (by decide)) (S.rf rfl rfl)) ?_
      refine am_ev.step (pc' := 16) rfl rfl ?_
      refine ax_gf (p' := 19) rfl rfl (fO (S.ob rfl)) (ax_put_s _ _ _) ?_
      refine ax_baload (p' := 20) rfl rfl ((S.po rfl rfl).rd (k := p) rfl rfl rfl rfl rfl (by omega) (ax_put_o (Or.inl (by decide)) (B p (by omega)))) ?_
      refine ax_call (z := 22) (p' := 23) (as := [_]) rfl (Or.inl ⟨_, rfl⟩) rfl rfl rfl rfl rfl rfl rfl rfl (tk_22t (by omega) c2) rfl ?_
      refine fx_z_eq_F (pF := 26) rfl (by omega) rfl (by omega) ?_
      refine am_ev.step (pc' := 27) rfl rfl ?_
      refine am_ev.step (pc' := 28) rfl rfl ?_
      refine ax_gf (p' := 31) rfl rfl (fO (S.ob rfl)) (ax_put_s _ _ _) ?_
      refine am_ev.step (pc' := 32) rfl rfl ?_
      refine fx_add (p' := 33) (e := ((p : Int) + 1)) rfl rfl (by omega) ?_
      refine ax_pf (p' := 36) rfl rfl (fO (S.ob rfl)) rfl ?_
      refine am_ev.step (pc' := 0) rfl rfl ?_
      rw [fx_pp, tz_nc]
      exact tk_21a S B hb hL v1 n (p + 1) (by omega) (by omega) q
    · rw [tz_sp_e c] at q
      have c2 := fun z => c (decide_eq_true z)
      refine am_ev.step (pc' := 1) rfl rfl ?_
      refine ax_gf (p' := 4) rfl rfl (fO (S.ob rfl)) (ax_put_s _ _ _) ?_
      refine am_ev.step (pc' := 5) rfl rfl ?_
      refine ax_gf (p' := 8) rfl rfl (fO (S.ob rfl)) (ax_put_o (Or.inr (by decide)) v1) ?_
      refine fx_c_ge_F (pF := 11) rfl (by omega) (by omega) rfl (by omega) ?_
      refine am_ev.step (pc' := 12) rfl rfl ?_
      refine ax_gf (p' := 15) rfl rfl (fO (S.ob rfl)) (ax_put_o (Or.inr (by decide)) (S.rf rfl rfl)) ?_
      refine am_ev.step (pc' := 16) rfl rfl ?_
      refine ax_gf (p' := 19) rfl rfl (fO (S.ob rfl)) (ax_put_s _ _ _) ?_
      refine ax_baload (p' := 20) rfl rfl ((S.po rfl rfl).rd (k := p) rfl rfl rfl rfl rfl (by omega) (ax_put_o (Or.inl (by decide)) (B p (by omega)))) ?_
      refine ax_call (z := 22) (p' := 23) (as := [_]) rfl (Or.inl ⟨_, rfl⟩) rfl rfl rfl rfl rfl rfl rfl rfl (tk_22f (by omega) c2) rfl ?_
      refine fx_z_eq_T (pT := 39) rfl (by omega) rfl (by omega) ?_
      exact q
theorem tk_21b {c0 : Int} (S : fS h) (B : tb h 42 b L) (hb : tz_r b) (hL : L ≤ 1600) (v1 : h.2.2.2 41 1 = iv L) : ∀ (n p : Nat), L - p = n → p ≤ L → am_ev (d + 1) 21 120 [.ref 41, iv (c0)] [] (am_put h 41 6 (iv (tz_sp tz_le b n p))) x → am_ev (d + 1) 21 81 [.ref 41, iv (c0)] [] (am_put h 41 6 (iv p)) x
  | 0, p, e, hp, q => by
    have e : p = L := by omega
    refine am_ev.step (pc' := 82) rfl rfl ?_
    refine ax_gf (p' := 85) rfl rfl (fO (S.ob rfl)) (ax_put_s _ _ _) ?_
    refine am_ev.step (pc' := 86) rfl rfl ?_
    refine ax_gf (p' := 89) rfl rfl (fO (S.ob rfl)) (ax_put_o (Or.inr (by decide)) v1) ?_
    refine fx_c_ge_T (pT := 120) rfl (by omega) (by omega) rfl (by omega) ?_
    exact q
  | n + 1, p, e, hp, q => by
    have hr := hb p
    by_cases c : tz_le (b p) = true
    · rw [tz_sp_s c] at q
      have c2 := of_decide_eq_true c
      refine am_ev.step (pc' := 82) rfl rfl ?_
      refine ax_gf (p' := 85) rfl rfl (fO (S.ob rfl)) (ax_put_s _ _ _) ?_
      refine am_ev.step (pc' := 86) rfl rfl ?_
      refine ax_gf (p' := 89) rfl rfl (fO (S.ob rfl)) (ax_put_o (Or.inr (by decide)) v1) ?_
      refine fx_c_ge_F (pF := 92) rfl (by omega) (by omega) rfl (by omega) ?_
      refine am_ev.step (pc' := 93) rfl rfl ?_
      refine ax_gf (p' := 96) rfl rfl (fO (S.ob rfl)) (ax_put_o (Or.inr (by decide)) (S.rf rfl rfl)) ?_
      refine am_ev.step (pc' := 97) rfl rfl ?_
      refine ax_gf (p' := 100) rfl rfl (fO (S.ob rfl)) (ax_put_s _ _ _) ?_
      refine ax_baload (p' := 101) rfl rfl ((S.po rfl rfl).rd (k := p) rfl rfl rfl rfl rfl (by omega) (ax_put_o (Or.inl (by decide)) (B p (by omega)))) ?_
      refine ax_call (z := 23) (p' := 104) (as := [_]) rfl (Or.inl ⟨_, rfl⟩) rfl rfl rfl rfl rfl rfl rfl rfl (tk_23t (by omega) c2) rfl ?_
      refine fx_z_eq_F (pF := 107) rfl (by omega) rfl (by omega) ?_
      refine am_ev.step (pc' := 108) rfl rfl ?_
      refine am_ev.step (pc' := 109) rfl rfl ?_
      refine ax_gf (p' := 112) rfl rfl (fO (S.ob rfl)) (ax_put_s _ _ _) ?_
      refine am_ev.step (pc' := 113) rfl rfl ?_
      refine fx_add (p' := 114) (e := ((p : Int) + 1)) rfl rfl (by omega) ?_
      refine ax_pf (p' := 117) rfl rfl (fO (S.ob rfl)) rfl ?_
      refine am_ev.step (pc' := 81) rfl rfl ?_
      rw [fx_pp, tz_nc]
      exact tk_21b S B hb hL v1 n (p + 1) (by omega) (by omega) q
    · rw [tz_sp_e c] at q
      have c2 := fun z => c (decide_eq_true z)
      refine am_ev.step (pc' := 82) rfl rfl ?_
      refine ax_gf (p' := 85) rfl rfl (fO (S.ob rfl)) (ax_put_s _ _ _) ?_
      refine am_ev.step (pc' := 86) rfl rfl ?_
      refine ax_gf (p' := 89) rfl rfl (fO (S.ob rfl)) (ax_put_o (Or.inr (by decide)) v1) ?_
      refine fx_c_ge_F (pF := 92) rfl (by omega) (by omega) rfl (by omega) ?_
      refine am_ev.step (pc' := 93) rfl rfl ?_
      refine ax_gf (p' := 96) rfl rfl (fO (S.ob rfl)) (ax_put_o (Or.inr (by decide)) (S.rf rfl rfl)) ?_
      refine am_ev.step (pc' := 97) rfl rfl ?_
      refine ax_gf (p' := 100) rfl rfl (fO (S.ob rfl)) (ax_put_s _ _ _) ?_
      refine ax_baload (p' := 101) rfl rfl ((S.po rfl rfl).rd (k := p) rfl rfl rfl rfl rfl (by omega) (ax_put_o (Or.inl (by decide)) (B p (by omega)))) ?_
      refine ax_call (z := 23) (p' := 104) (as := [_]) rfl (Or.inl ⟨_, rfl⟩) rfl rfl rfl rfl rfl rfl rfl rfl (tk_23f (by omega) c2) rfl ?_
      refine fx_z_eq_T (pT := 120) rfl (by omega) rfl (by omega) ?_
      exact q
theorem tk_21c {c0 : Int} (S : fS h) (B : tb h 42 b L) (hb : tz_r b) (hL : L ≤ 1600) (v1 : h.2.2.2 41 1 = iv L) : ∀ (n p : Nat), L - p = n → p ≤ L → am_ev (d + 1) 21 192 [.ref 41, iv (c0)] [] (am_put h 41 6 (iv (tz_sp tz_di b n p))) x → am_ev (d + 1) 21 153 [.ref 41, iv (c0)] [] (am_put h 41 6 (iv p)) x
  | 0, p, e, hp, q => by
    have e : p = L := by omega
    refine am_ev.step (pc' := 154) rfl rfl ?_
    refine ax_gf (p' := 157) rfl rfl (fO (S.ob rfl)) (ax_put_s _ _ _) ?_
    refine am_ev.step (pc' := 158) rfl rfl ?_
    refine ax_gf (p' := 161) rfl rfl (fO (S.ob rfl)) (ax_put_o (Or.inr (by decide)) v1) ?_
    refine fx_c_ge_T (pT := 192) rfl (by omega) (by omega) rfl (by omega) ?_
    exact q
  | n + 1, p, e, hp, q => by
    have hr := hb p
    by_cases c : tz_di (b p) = true
    · rw [tz_sp_s c] at q
      have c2 := of_decide_eq_true c
      refine am_ev.step (pc' := 154) rfl rfl ?_
      refine ax_gf (p' := 157) rfl rfl (fO (S.ob rfl)) (ax_put_s _ _ _) ?_
      refine am_ev.step (pc' := 158) rfl rfl ?_
      refine ax_gf (p' := 161) rfl rfl (fO (S.ob rfl)) (ax_put_o (Or.inr (by decide)) v1) ?_
      refine fx_c_ge_F (pF := 164) rfl (by omega) (by omega) rfl (by omega) ?_
      refine am_ev.step (pc' := 165) rfl rfl ?_
      refine ax_gf (p' := 168) rfl rfl (fO (S.ob rfl)) (ax_put_o (Or.inr (by decide)) (S.rf rfl rfl)) ?_
      refine am_ev.step (pc' := 169) rfl rfl ?_
      refine ax_gf (p' := 172) rfl rfl (fO (S.ob rfl)) (ax_put_s _ _ _) ?_
      refine ax_baload (p' := 173) rfl rfl ((S.po rfl rfl).rd (k := p) rfl rfl rfl rfl rfl (by omega) (ax_put_o (Or.inl (by decide)) (B p (by omega)))) ?_
      refine ax_call (z := 24) (p' := 176) (as := [_]) rfl (Or.inl ⟨_, rfl⟩) rfl rfl rfl rfl rfl rfl rfl rfl (tk_24t (by omega) c2) rfl ?_
      refine fx_z_eq_F (pF := 179) rfl (by omega) rfl (by omega) ?_
      refine am_ev.step (pc' := 180) rfl rfl ?_
      refine am_ev.step (pc' := 181) rfl rfl ?_
      refine ax_gf (p' := 184) rfl rfl (fO (S.ob rfl)) (ax_put_s _ _ _) ?_
      refine am_ev.step (pc' := 185) rfl rfl ?_
      refine fx_add (p' := 186) (e := ((p : Int) + 1)) rfl rfl (by omega) ?_
      refine ax_pf (p' := 189) rfl rfl (fO (S.ob rfl)) rfl ?_
      refine am_ev.step (pc' := 153) rfl rfl ?_
      rw [fx_pp, tz_nc]
      exact tk_21c S B hb hL v1 n (p + 1) (by omega) (by omega) q
    · rw [tz_sp_e c] at q
      have c2 := fun z => c (decide_eq_true z)
      refine am_ev.step (pc' := 154) rfl rfl ?_
      refine ax_gf (p' := 157) rfl rfl (fO (S.ob rfl)) (ax_put_s _ _ _) ?_
      refine am_ev.step (pc' := 158) rfl rfl ?_
      refine ax_gf (p' := 161) rfl rfl (fO (S.ob rfl)) (ax_put_o (Or.inr (by decide)) v1) ?_
      refine fx_c_ge_F (pF := 164) rfl (by omega) (by omega) rfl (by omega) ?_
      refine am_ev.step (pc' := 165) rfl rfl ?_
      refine ax_gf (p' := 168) rfl rfl (fO (S.ob rfl)) (ax_put_o (Or.inr (by decide)) (S.rf rfl rfl)) ?_
      refine am_ev.step (pc' := 169) rfl rfl ?_
      refine ax_gf (p' := 172) rfl rfl (fO (S.ob rfl)) (ax_put_s _ _ _) ?_
      refine ax_baload (p' := 173) rfl rfl ((S.po rfl rfl).rd (k := p) rfl rfl rfl rfl rfl (by omega) (ax_put_o (Or.inl (by decide)) (B p (by omega)))) ?_
      refine ax_call (z := 24) (p' := 176) (as := [_]) rfl (Or.inl ⟨_, rfl⟩) rfl rfl rfl rfl rfl rfl rfl rfl (tk_24f (by omega) c2) rfl ?_
      refine fx_z_eq_T (pT := 192) rfl (by omega) rfl (by omega) ?_
      exact q
theorem tz_T1 {v : Value} {s e : Nat} {k : Int} : am_put (am_put (am_put (am_put h 41 6 v) 41 5 (iv s)) 41 6 (iv e)) 41 2 (iv k) = T1 h s e k := by
  have E1 : am_put (am_put h 41 6 v) 41 5 (iv s) = am_put (am_put h 41 5 (iv s)) 41 6 v := fx_pc (by decide)
  unfold T1
  rw [E1, fx_pp]
theorem tz_T0 {s : Nat} {k : Int} : am_put (am_put (am_put h 41 6 (iv s)) 41 5 (iv s)) 41 2 (iv k) = T1 h s s k := by
  unfold T1
  rw [fx_pc (h := h) (j := 6) (i := 5) (by decide)]
theorem tk_21 (S : fS h) (B : tb h 42 b L) (hb : tz_r b) (hL : L ≤ 1600) (v1 : h.2.2.2 41 1 = iv L) {p : Nat} (v6 : h.2.2.2 41 6 = iv p) (hp : p ≤ L) : am_ev (d + 1) 21 0 (am_ent [.ref 41] 2) [] h (none, T1 h (tS b L p) (tE b L (tS b L p)) (tK b L (tS b L p))) := by
  show am_ev (d + 1) 21 0 [.ref 41, am_ph] [] h _
  refine fx_hc (fx_pi v6).symm ?_
  refine tk_21a S B hb hL v1 (L - p) p rfl hp ?_
  have hs := tS_le b hp
  show am_ev (d + 1) 21 39 [.ref 41, am_ph] [] (am_put h 41 6 (iv (tS b L p))) _
  generalize tS b L p = s at hs ⊢
  obtain ⟨s1, s2⟩ := hs
  by_cases c1 : L ≤ s
  · rw [show tE b L s = s from if_pos c1, show tK b L s = 0 from if_pos c1]
    refine am_ev.step (pc' := 40) rfl rfl ?_
    refine am_ev.step (pc' := 41) rfl rfl ?_
    refine ax_gf (p' := 44) rfl rfl (fO (S.ob rfl)) (ax_put_s _ _ _) ?_
    refine ax_pf (p' := 47) rfl rfl (fO (S.ob rfl)) rfl ?_
    refine am_ev.step (pc' := 48) rfl rfl ?_
    refine ax_gf (p' := 51) rfl rfl (fO (fO (S.ob rfl))) (ax_put_o (Or.inr (by decide)) (ax_put_s _ _ _)) ?_
    refine am_ev.step (pc' := 52) rfl rfl ?_
    refine ax_gf (p' := 55) rfl rfl (fO (fO (S.ob rfl))) (ax_put_o (Or.inr (by decide)) (ax_put_o (Or.inr (by decide)) v1)) ?_
    refine fx_c_lt_F (pF := 58) rfl (by omega) (by omega) rfl (by omega) ?_
    refine am_ev.step (pc' := 59) rfl rfl ?_
    refine am_ev.step (pc' := 60) rfl rfl ?_
    refine ax_pf (p' := 63) rfl rfl (fO (fO (S.ob rfl))) rfl ?_
    exact fx_cast (am_ev.retv rfl rfl) (by rw [tz_T0])
  · have hr := hb s
    by_cases c2 : tz_le (b s) = true
    · have c3 := of_decide_eq_true c2
      have hE : tE b L s = tz_sp tz_le b (L - s) s := by
        unfold tE
        rw [if_neg c1, if_pos c2]
      have hK : tK b L s = if tE b L s ≤ s + 12 then 1 else 3 := by
        rw [hE]
        unfold tK
        rw [if_neg c1, if_pos c2]
      have he := tE_le b s2
      refine am_ev.step (pc' := 40) rfl rfl ?_
      refine am_ev.step (pc' := 41) rfl rfl ?_
      refine ax_gf (p' := 44) rfl rfl (fO (S.ob rfl)) (ax_put_s _ _ _) ?_
      refine ax_pf (p' := 47) rfl rfl (fO (S.ob rfl)) rfl ?_
      refine am_ev.step (pc' := 48) rfl rfl ?_
      refine ax_gf (p' := 51) rfl rfl (fO (fO (S.ob rfl))) (ax_put_o (Or.inr (by decide)) (ax_put_s _ _ _)) ?_
      refine am_ev.step (pc' := 52) rfl rfl ?_
      refine ax_gf (p' := 55) rfl rfl (fO (fO (S.ob rfl))) (ax_put_o (Or.inr (by decide)) (ax_put_o (Or.inr (by decide)) v1)) ?_
      refine fx_c_lt_T (pT := 64) rfl (by omega) (by omega) rfl (by omega) ?_
      refine am_ev.step (pc' := 65) rfl rfl ?_
      refine ax_gf (p' := 68) rfl rfl (fO (fO (S.ob rfl))) (ax_put_o (Or.inr (by decide)) (ax_put_o (Or.inr (by decide)) (S.rf rfl rfl))) ?_
      refine am_ev.step (pc' := 69) rfl rfl ?_
      refine ax_gf (p' := 72) rfl rfl (fO (fO (S.ob rfl))) (ax_put_o (Or.inr (by decide)) (ax_put_s _ _ _)) ?_
      refine ax_baload (p' := 73) rfl rfl (((S.po rfl rfl).po rfl rfl).rd (k := s) rfl rfl rfl rfl rfl (by omega) (ax_put_o (Or.inl (by decide)) (ax_put_o (Or.inl (by decide)) (B s (by omega))))) ?_
      refine am_ev.step (pc' := 74) (ls' := [.ref 41, iv ((b s))]) rfl rfl ?_
      refine am_ev.step (pc' := 75) rfl rfl ?_
      refine ax_call (z := 23) (p' := 78) (as := [_]) rfl (Or.inl ⟨_, rfl⟩) rfl rfl rfl rfl rfl rfl rfl rfl (tk_23t (by omega) c3) rfl ?_
      refine fx_z_eq_F (pF := 81) rfl (by omega) rfl (by omega) ?_
      have g6 : (am_put (am_put h 41 6 (iv s)) 41 5 (iv s)).2.2.2 41 6 = iv s := ax_put_o (Or.inr (by decide)) (ax_put_s _ _ _)
      refine fx_hc (fx_pi g6).symm ?_
      refine tk_21b ((S.po rfl rfl).po rfl rfl) ((B.put (by decide)).put (by decide)) hb hL (ax_put_o (Or.inr (by decide)) (ax_put_o (Or.inr (by decide)) v1)) (L - s) s rfl s2 ?_
      rw [hK, ← hE]
      generalize tE b L s = e at he ⊢
      obtain ⟨e1, e2⟩ := he
      refine am_ev.step (pc' := 121) rfl rfl ?_
      refine am_ev.step (pc' := 122) rfl rfl ?_
      refine ax_gf (p' := 125) rfl rfl (fO (fO (fO (S.ob rfl)))) (ax_put_s _ _ _) ?_
      refine am_ev.step (pc' := 126) rfl rfl ?_
      refine ax_gf (p' := 129) rfl rfl (fO (fO (fO (S.ob rfl)))) (ax_put_o (Or.inr (by decide)) (ax_put_s _ _ _)) ?_
      refine fx_sub (p' := 130) (e := ((e : Int) - (s : Int))) rfl rfl (by omega) ?_
      refine fx_bip (p' := 132) rfl rfl rfl ?_
      refine fx_c_gt (pT := 139) (pF := 135) rfl (by omega) (by omega) rfl rfl (fun k1 => ?_) (fun k1 => ?_)
      · refine am_ev.step (pc' := 140) rfl rfl ?_
        refine ax_pf (p' := 143) rfl rfl (fO (fO (fO (S.ob rfl)))) rfl ?_
        refine am_ev.step (pc' := 254) rfl rfl ?_
        exact fx_cast (am_ev.retv rfl rfl) (by rw [tz_T1, if_neg (by omega)])
      · refine am_ev.step (pc' := 136) rfl rfl ?_
        refine am_ev.step (pc' := 140) rfl rfl ?_
        refine ax_pf (p' := 143) rfl rfl (fO (fO (fO (S.ob rfl)))) rfl ?_
        refine am_ev.step (pc' := 254) rfl rfl ?_
        exact fx_cast (am_ev.retv rfl rfl) (by rw [tz_T1, if_pos (by omega)])
    · have c3 := fun z => c2 (decide_eq_true z)
      by_cases c4 : tz_di (b s) = true
      · have c5 := of_decide_eq_true c4
        have hE : tE b L s = tz_sp tz_di b (L - s) s := by
          unfold tE
          rw [if_neg c1, if_neg c2, if_pos c4]
        have hK : tK b L s = if tE b L s ≤ s + 5 then 2 else 3 := by
          rw [hE]
          unfold tK
          rw [if_neg c1, if_neg c2, if_pos c4]
        have he := tE_le b s2
        refine am_ev.step (pc' := 40) rfl rfl ?_
        refine am_ev.step (pc' := 41) rfl rfl ?_
        refine ax_gf (p' := 44) rfl rfl (fO (S.ob rfl)) (ax_put_s _ _ _) ?_
        refine ax_pf (p' := 47) rfl rfl (fO (S.ob rfl)) rfl ?_
        refine am_ev.step (pc' := 48) rfl rfl ?_
        refine ax_gf (p' := 51) rfl rfl (fO (fO (S.ob rfl))) (ax_put_o (Or.inr (by decide)) (ax_put_s _ _ _)) ?_
        refine am_ev.step (pc' := 52) rfl rfl ?_
        refine ax_gf (p' := 55) rfl rfl (fO (fO (S.ob rfl))) (ax_put_o (Or.inr (by decide)) (ax_put_o (Or.inr (by decide)) v1)) ?_
        refine fx_c_lt_T (pT := 64) rfl (by omega) (by omega) rfl (by omega) ?_
        refine am_ev.step (pc' := 65) rfl rfl ?_
        refine ax_gf (p' := 68) rfl rfl (fO (fO (S.ob rfl))) (ax_put_o (Or.inr (by decide)) (ax_put_o (Or.inr (by decide)) (S.rf rfl rfl))) ?_
        refine am_ev.step (pc' := 69) rfl rfl ?_
        refine ax_gf (p' := 72) rfl rfl (fO (fO (S.ob rfl))) (ax_put_o (Or.inr (by decide)) (ax_put_s _ _ _)) ?_
        refine ax_baload (p' := 73) rfl rfl (((S.po rfl rfl).po rfl rfl).rd (k := s) rfl rfl rfl rfl rfl (by omega) (ax_put_o (Or.inl (by decide)) (ax_put_o (Or.inl (by decide)) (B s (by omega))))) ?_
        refine am_ev.step (pc' := 74) (ls' := [.ref 41, iv ((b s))]) rfl rfl ?_
        refine am_ev.step (pc' := 75) rfl rfl ?_
        refine ax_call (z := 23) (p' := 78) (as := [_]) rfl (Or.inl ⟨_, rfl⟩) rfl rfl rfl rfl rfl rfl rfl rfl (tk_23f (by omega) c3) rfl ?_
        refine fx_z_eq_T (pT := 146) rfl (by omega) rfl (by omega) ?_
        refine am_ev.step (pc' := 147) rfl rfl ?_
        refine ax_call (z := 24) (p' := 150) (as := [_]) rfl (Or.inl ⟨_, rfl⟩) rfl rfl rfl rfl rfl rfl rfl rfl (tk_24t (by omega) c5) rfl ?_
        refine fx_z_eq_F (pF := 153) rfl (by omega) rfl (by omega) ?_
        have g6 : (am_put (am_put h 41 6 (iv s)) 41 5 (iv s)).2.2.2 41 6 = iv s := ax_put_o (Or.inr (by decide)) (ax_put_s _ _ _)
        refine fx_hc (fx_pi g6).symm ?_
        refine tk_21c ((S.po rfl rfl).po rfl rfl) ((B.put (by decide)).put (by decide)) hb hL (ax_put_o (Or.inr (by decide)) (ax_put_o (Or.inr (by decide)) v1)) (L - s) s rfl s2 ?_
        rw [hK, ← hE]
        generalize tE b L s = e at he ⊢
        obtain ⟨e1, e2⟩ := he
        refine am_ev.step (pc' := 193) rfl rfl ?_
        refine am_ev.step (pc' := 194) rfl rfl ?_
        refine ax_gf (p' := 197) rfl rfl (fO (fO (fO (S.ob rfl)))) (ax_put_s _ _ _) ?_
        refine am_ev.step (pc' := 198) rfl rfl ?_
        refine ax_gf (p' := 201) rfl rfl (fO (fO (fO (S.ob rfl)))) (ax_put_o (Or.inr (by decide)) (ax_put_s _ _ _)) ?_
        refine fx_sub (p' := 202) (e := ((e : Int) - (s : Int))) rfl rfl (by omega) ?_
        refine am_ev.step (pc' := 203) rfl rfl ?_
        refine fx_c_gt (pT := 210) (pF := 206) rfl (by omega) (by omega) rfl rfl (fun k1 => ?_) (fun k1 => ?_)
        · refine am_ev.step (pc' := 211) rfl rfl ?_
          refine ax_pf (p' := 214) rfl rfl (fO (fO (fO (S.ob rfl)))) rfl ?_
          refine am_ev.step (pc' := 254) rfl rfl ?_
          exact fx_cast (am_ev.retv rfl rfl) (by rw [tz_T1, if_neg (by omega)])
        · refine am_ev.step (pc' := 207) rfl rfl ?_
          refine am_ev.step (pc' := 211) rfl rfl ?_
          refine ax_pf (p' := 214) rfl rfl (fO (fO (fO (S.ob rfl)))) rfl ?_
          refine am_ev.step (pc' := 254) rfl rfl ?_
          exact fx_cast (am_ev.retv rfl rfl) (by rw [tz_T1, if_pos (by omega)])
      · have c5 := fun z => c4 (decide_eq_true z)
        have hE : tE b L s = s + 1 := by
          unfold tE
          rw [if_neg c1, if_neg c2, if_neg c4]
        have hK : tK b L s = if b s = 59 ∨ b s = 47 ∨ b s = 43 then b s else 3 := by
          unfold tK
          rw [if_neg c1, if_neg c2, if_neg c4]
        rw [hE, hK]
        refine am_ev.step (pc' := 40) rfl rfl ?_
        refine am_ev.step (pc' := 41) rfl rfl ?_
        refine ax_gf (p' := 44) rfl rfl (fO (S.ob rfl)) (ax_put_s _ _ _) ?_
        refine ax_pf (p' := 47) rfl rfl (fO (S.ob rfl)) rfl ?_
        refine am_ev.step (pc' := 48) rfl rfl ?_
        refine ax_gf (p' := 51) rfl rfl (fO (fO (S.ob rfl))) (ax_put_o (Or.inr (by decide)) (ax_put_s _ _ _)) ?_
        refine am_ev.step (pc' := 52) rfl rfl ?_
        refine ax_gf (p' := 55) rfl rfl (fO (fO (S.ob rfl))) (ax_put_o (Or.inr (by decide)) (ax_put_o (Or.inr (by decide)) v1)) ?_
        refine fx_c_lt_T (pT := 64) rfl (by omega) (by omega) rfl (by omega) ?_
        refine am_ev.step (pc' := 65) rfl rfl ?_
        refine ax_gf (p' := 68) rfl rfl (fO (fO (S.ob rfl))) (ax_put_o (Or.inr (by decide)) (ax_put_o (Or.inr (by decide)) (S.rf rfl rfl))) ?_
        refine am_ev.step (pc' := 69) rfl rfl ?_
        refine ax_gf (p' := 72) rfl rfl (fO (fO (S.ob rfl))) (ax_put_o (Or.inr (by decide)) (ax_put_s _ _ _)) ?_
        refine ax_baload (p' := 73) rfl rfl (((S.po rfl rfl).po rfl rfl).rd (k := s) rfl rfl rfl rfl rfl (by omega) (ax_put_o (Or.inl (by decide)) (ax_put_o (Or.inl (by decide)) (B s (by omega))))) ?_
        refine am_ev.step (pc' := 74) (ls' := [.ref 41, iv ((b s))]) rfl rfl ?_
        refine am_ev.step (pc' := 75) rfl rfl ?_
        refine ax_call (z := 23) (p' := 78) (as := [_]) rfl (Or.inl ⟨_, rfl⟩) rfl rfl rfl rfl rfl rfl rfl rfl (tk_23f (by omega) c3) rfl ?_
        refine fx_z_eq_T (pT := 146) rfl (by omega) rfl (by omega) ?_
        refine am_ev.step (pc' := 147) rfl rfl ?_
        refine ax_call (z := 24) (p' := 150) (as := [_]) rfl (Or.inl ⟨_, rfl⟩) rfl rfl rfl rfl rfl rfl rfl rfl (tk_24f (by omega) c5) rfl ?_
        refine fx_z_eq_T (pT := 217) rfl (by omega) rfl (by omega) ?_
        refine am_ev.step (pc' := 218) rfl rfl ?_
        refine am_ev.step (pc' := 219) rfl rfl ?_
        refine ax_gf (p' := 222) rfl rfl (fO (fO (S.ob rfl))) (ax_put_o (Or.inr (by decide)) (ax_put_s _ _ _)) ?_
        refine am_ev.step (pc' := 223) rfl rfl ?_
        refine fx_add (p' := 224) (e := ((s : Int) + 1)) rfl rfl (by omega) ?_
        refine ax_pf (p' := 227) rfl rfl (fO (fO (S.ob rfl))) rfl ?_
        refine am_ev.step (pc' := 228) rfl rfl ?_
        refine am_ev.step (pc' := 229) rfl rfl ?_
        refine fx_bip (p' := 231) rfl rfl rfl ?_
        refine fx_c_eq (pT := 246) (pF := 234) rfl (by omega) (by omega) rfl rfl (fun k1 => ?_) (fun k1 => ?_)
        · refine am_ev.step (pc' := 247) rfl rfl ?_
          refine am_ev.step (pc' := 251) rfl rfl ?_
          refine ax_pf (p' := 254) rfl rfl (fO (fO (fO (S.ob rfl)))) rfl ?_
          exact fx_cast (am_ev.retv rfl rfl) (by rw [tz_nc, tz_T1, if_pos (by omega)])
        · refine am_ev.step (pc' := 235) rfl rfl ?_
          refine fx_bip (p' := 237) rfl rfl rfl ?_
          refine fx_c_eq (pT := 246) (pF := 240) rfl (by omega) (by omega) rfl rfl (fun k2 => ?_) (fun k2 => ?_)
          · refine am_ev.step (pc' := 247) rfl rfl ?_
            refine am_ev.step (pc' := 251) rfl rfl ?_
            refine ax_pf (p' := 254) rfl rfl (fO (fO (fO (S.ob rfl)))) rfl ?_
            exact fx_cast (am_ev.retv rfl rfl) (by rw [tz_nc, tz_T1, if_pos (by omega)])
          · refine am_ev.step (pc' := 241) rfl rfl ?_
            refine fx_bip (p' := 243) rfl rfl rfl ?_
            refine fx_c_ne (pT := 250) (pF := 246) rfl (by omega) (by omega) rfl rfl (fun k3 => ?_) (fun k3 => ?_)
            · refine am_ev.step (pc' := 251) rfl rfl ?_
              refine ax_pf (p' := 254) rfl rfl (fO (fO (fO (S.ob rfl)))) rfl ?_
              exact fx_cast (am_ev.retv rfl rfl) (by rw [tz_nc, tz_T1, if_neg (by omega)])
            · refine am_ev.step (pc' := 247) rfl rfl ?_
              refine am_ev.step (pc' := 251) rfl rfl ?_
              refine ax_pf (p' := 254) rfl rfl (fO (fO (fO (S.ob rfl)))) rfl ?_
              exact fx_cast (am_ev.retv rfl rfl) (by rw [tz_nc, tz_T1, if_pos (by omega)])
end TKB
