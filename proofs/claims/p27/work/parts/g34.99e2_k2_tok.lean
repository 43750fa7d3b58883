section
/-! TOKENS, the other side -/
def tz_u (x : Int) : Int := if x < 0 then x + 256 else x
theorem tz_u_c (x : Int) : (x < 0 ∧ tz_u x = x + 256) ∨ (0 ≤ x ∧ tz_u x = x) := by
  unfold tz_u
  by_cases h : x < 0
  · rw [if_pos h]
    omega
  · rw [if_neg h]
    omega
theorem tz_and0 : ∀ n : Nat, n < 256 → Int32.ofInt ((n : Int) - 128) &&& Int32.ofInt 255 = Int32.ofInt (tz_u ((n : Int) - 128)) := by decide +kernel
theorem tz_and {x : Int} (r : -128 ≤ x ∧ x ≤ 127) : Int32.ofInt x &&& Int32.ofInt 255 = Int32.ofInt (tz_u x) := by
  have k := tz_and0 (x + 128).toNat (by omega)
  have e : ((x + 128).toNat : Int) - 128 = x := by omega
  rw [e] at k
  exact k
def tz_nu (b : Nat → Int) : Nat → Nat → Int → Int
  | 0, _, v => v
  | n + 1, i, v => tz_nu b n (i + 1) (10 * v + b i - 48)
def tz_nv (b : Nat → Int) (s : Nat) : Nat → Nat → Int → Int
  | 0, _, v => v
  | n + 1, p, v => if tz_di (b p) = true then tz_nv b s n (p + 1) (if p < s + 5 then 10 * v + b p - 48 else v) else v
theorem tz_nv_nu {b : Nat → Int} {s : Nat} : ∀ (n p : Nat) (v : Int), s ≤ p → tz_sp tz_di b n p ≤ s + 5 → tz_nv b s n p v = tz_nu b (tz_sp tz_di b n p - p) p v
  | 0, p, v, _, _ => by
    show v = tz_nu b (p - p) p v
    rw [Nat.sub_self]
    rfl
  | n + 1, p, v, h1, h2 => by
    by_cases c : tz_di (b p) = true
    · rw [tz_sp_s c] at h2 ⊢
      have l := (tz_sp_le (c := tz_di) (b := b) n (p + 1)).1
      have e : tz_nv b s (n + 1) p v = tz_nv b s n (p + 1) (if p < s + 5 then 10 * v + b p - 48 else v) := if_pos c
      rw [e, if_pos (by omega), tz_nv_nu n (p + 1) _ (by omega) h2]
      have e2 : tz_sp tz_di b n (p + 1) - p = (tz_sp tz_di b n (p + 1) - (p + 1)) + 1 := by omega
      rw [e2]
      rfl
    · rw [tz_sp_e c]
      have e : tz_nv b s (n + 1) p v = v := if_neg c
      rw [e, Nat.sub_self]
      rfl
theorem tz_nu_b {b : Nat → Int} : ∀ (n p : Nat) (v m : Int), n ≤ 5 → 0 ≤ v → v ≤ m → (∀ i, p ≤ i → i < p + n → tz_di (b i) = true) → 0 ≤ tz_nu b n p v ∧ tz_nu b n p v + 1 ≤ (m + 1) * 10 ^ n
  | 0, p, v, m, _, h0, h1, _ => by
    show 0 ≤ v ∧ v + 1 ≤ (m + 1) * 1
    omega
  | n + 1, p, v, m, hn, h0, h1, hd => by
    have k := of_decide_eq_true (hd p (Nat.le_refl _) (by omega))
    have := tz_nu_b n (p + 1) (10 * v + b p - 48) (10 * m + 9) (by omega) (by omega) (by omega) (fun i a c => hd i (by omega) (by omega))
    have e : (m + 1) * 10 ^ (n + 1) = (10 * m + 9 + 1) * 10 ^ n := by
      rw [Int.pow_succ, Int.mul_comm ((10 : Int) ^ n) 10, ← Int.mul_assoc]
      congr 1
      omega
    rw [e]
    exact this
def tV (b : Nat → Int) (L s : Nat) (v0 : Int) : Int := if L ≤ s then v0 else if tz_le (b s) = true then v0 else if tz_di (b s) = true then tz_nv b s (L - s) s 0 else tz_u (b s)
def tH (k : Int) : Int := if k = 0 then 0 else if k = 1 then 1 else if k = 2 then 2 else if k = 3 then 4 else 3
def M1 (h : am_H) (s e : Nat) (k v : Int) : am_H := am_put (am_put (am_put (am_put h 78 4 (iv s)) 78 7 (iv v)) 78 5 (iv e)) 78 6 (iv k)
section TKC
variable {d : Nat} {h : am_H} {b : Nat → Int} {L : Nat} {x : Option Value × am_H}
theorem tk_171a (S : fS h) (B : tb h 80 b L) (hb : tz_r b) (hL : L ≤ 1600) (v3 : h.2.2.2 78 3 = iv L) {p : Nat} (hp : p < L) : am_ev d 171 0 (am_ent [.ref 78, iv p] 2) [] h (some (iv (tz_u (b p))), h) := by
  show am_ev d 171 0 [.ref 78, iv p] [] h _
  have hr := hb p
  refine am_ev.step (pc' := 1) rfl rfl ?_
  refine am_ev.step (pc' := 2) rfl rfl ?_
  refine ax_gf (p' := 5) rfl rfl (S.ob rfl) v3 ?_
  refine fx_c_ge_F (pF := 8) rfl (by omega) (by omega) rfl (by omega) ?_
  refine am_ev.step (pc' := 9) rfl rfl ?_
  refine ax_gf (p' := 12) rfl rfl (S.ob rfl) (S.rf rfl rfl) ?_
  refine am_ev.step (pc' := 13) rfl rfl ?_
  refine ax_baload (p' := 14) rfl rfl (S.rd (k := p) rfl rfl rfl rfl rfl (by omega) (B p (by omega))) ?_
  refine fx_sip (p' := 17) rfl rfl rfl ?_
  refine am_ev.step (pc' := 18) rfl rfl ?_
  refine am_ev.step (pc' := 22) rfl rfl ?_
  exact fx_reti rfl rfl (by rw [tz_and hr])
theorem tk_171b (S : fS h) (hL : L ≤ 1600) (v3 : h.2.2.2 78 3 = iv L) {p : Nat} (hp : L ≤ p) (hq : p ≤ 1600) : am_ev d 171 0 (am_ent [.ref 78, iv p] 2) [] h (some (iv 0), h) := by
  show am_ev d 171 0 [.ref 78, iv p] [] h _
  refine am_ev.step (pc' := 1) rfl rfl ?_
  refine am_ev.step (pc' := 2) rfl rfl ?_
  refine ax_gf (p' := 5) rfl rfl (S.ob rfl) v3 ?_
  refine fx_c_ge_T (pT := 21) rfl (by omega) (by omega) rfl (by omega) ?_
  refine am_ev.step (pc' := 22) rfl rfl ?_
  exact fx_reti rfl rfl rfl
theorem tk_170a (S : fS h) (B : tb h 80 b L) (hb : tz_r b) (hL : L ≤ 1600) (v3 : h.2.2.2 78 3 = iv L) : ∀ (n p : Nat), L - p = n → p ≤ L → am_ev (d + 1) 170 52 [.ref 78, am_ph] [] (am_put h 78 5 (iv (tz_sp tz_bl b n p))) x → am_ev (d + 1) 170 0 [.ref 78, am_ph] [] (am_put h 78 5 (iv p)) x
  | 0, p, e, hp, q => by
    have e : p = L := by omega
    refine am_ev.step (pc' := 1) rfl rfl ?_
    refine ax_gf (p' := 4) rfl rfl (fO (S.ob rfl)) (ax_put_s _ _ _) ?_
    refine am_ev.step (pc' := 5) rfl rfl ?_
    refine ax_gf (p' := 8) rfl rfl (fO (S.ob rfl)) (ax_put_o (Or.inr (by decide)) v3) ?_
    refine fx_c_ge_T (pT := 52) rfl (by omega) (by omega) rfl (by omega) ?_
    exact q
  | n + 1, p, e, hp, q => by
    have hr := hb p
    by_cases c : tz_bl (b p) = true
    · rw [tz_sp_s c] at q
      have c2 := of_decide_eq_true c
      refine am_ev.step (pc' := 1) rfl rfl ?_
      refine ax_gf (p' := 4) rfl rfl (fO (S.ob rfl)) (ax_put_s _ _ _) ?_
      refine am_ev.step (pc' := 5) rfl rfl ?_
      refine ax_gf (p' := 8) rfl rfl (fO (S.ob rfl)) (ax_put_o (Or.inr (by decide)) v3) ?_
      refine fx_c_ge_F (pF := 11) rfl (by omega) (by omega) rfl (by omega) ?_
      refine am_ev.step (pc' := 12) rfl rfl ?_
      refine ax_gf (p' := 15) rfl rfl (fO (S.ob rfl)) (ax_put_o (Or.inr (by decide)) (S.rf rfl rfl)) ?_
      refine am_ev.step (pc' := 16) rfl rfl ?_
      refine ax_gf (p' := 19) rfl rfl (fO (S.ob rfl)) (ax_put_s _ _ _) ?_
      refine ax_baload (p' := 20) rfl rfl ((S.po rfl rfl).rd (k := p) rfl rfl rfl rfl rfl (by omega) (ax_put_o (Or.inl (by decide)) (B p (by omega)))) ?_
      refine fx_bip (p' := 22) rfl rfl rfl ?_
      refine fx_c_eq (pT := 39) (pF := 25) rfl (by omega) (by omega) rfl rfl (fun k1 => ?_) (fun k1 => ?_)
      · refine am_ev.step (pc' := 40) rfl rfl ?_
        refine am_ev.step (pc' := 41) rfl rfl ?_
        refine ax_gf (p' := 44) rfl rfl (fO (S.ob rfl)) (ax_put_s _ _ _) ?_
        refine am_ev.step (pc' := 45) rfl rfl ?_
        refine fx_add (p' := 46) (e := ((p : Int) + 1)) rfl rfl (by omega) ?_
        refine ax_pf (p' := 49) rfl rfl (fO (S.ob rfl)) rfl ?_
        refine am_ev.step (pc' := 0) rfl rfl ?_
        rw [fx_pp, tz_nc]
        exact tk_170a S B hb hL v3 n (p + 1) (by omega) (by omega) q
      · refine am_ev.step (pc' := 26) rfl rfl ?_
        refine ax_gf (p' := 29) rfl rfl (fO (S.ob rfl)) (ax_put_o (Or.inr (by decide)) (S.rf rfl rfl)) ?_
        refine am_ev.step (pc' := 30) rfl rfl ?_
        refine ax_gf (p' := 33) rfl rfl (fO (S.ob rfl)) (ax_put_s _ _ _) ?_
        refine ax_baload (p' := 34) rfl rfl ((S.po rfl rfl).rd (k := p) rfl rfl rfl rfl rfl (by omega) (ax_put_o (Or.inl (by decide)) (B p (by omega)))) ?_
        refine fx_bip (p' := 36) rfl rfl rfl ?_
        refine fx_c_ne (pT := 52) (pF := 39) rfl (by omega) (by omega) rfl rfl (fun k2 => ?_) (fun k2 => ?_)
        · exfalso
          omega
        · refine am_ev.step (pc' := 40) rfl rfl ?_
          refine am_ev.step (pc' := 41) rfl rfl ?_
          refine ax_gf (p' := 44) rfl rfl (fO (S.ob rfl)) (ax_put_s _ _ _) ?_
          refine am_ev.step (pc' := 45) rfl rfl ?_
          refine fx_add (p' := 46) (e := ((p : Int) + 1)) rfl rfl (by omega) ?_
          refine ax_pf (p' := 49) rfl rfl (fO (S.ob rfl)) rfl ?_
          refine am_ev.step (pc' := 0) rfl rfl ?_
          rw [fx_pp, tz_nc]
          exact tk_170a S B hb hL v3 n (p + 1) (by omega) (by omega) q
    · rw [tz_sp_e c] at q
      have c2 : ¬ (b p = 32 ∨ b p = 10) := fun z => c (decide_eq_true z)
      refine am_ev.step (pc' := 1) rfl rfl ?_
      refine ax_gf (p' := 4) rfl rfl (fO (S.ob rfl)) (ax_put_s _ _ _) ?_
      refine am_ev.step (pc' := 5) rfl rfl ?_
      refine ax_gf (p' := 8) rfl rfl (fO (S.ob rfl)) (ax_put_o (Or.inr (by decide)) v3) ?_
      refine fx_c_ge_F (pF := 11) rfl (by omega) (by omega) rfl (by omega) ?_
      refine am_ev.step (pc' := 12) rfl rfl ?_
      refine ax_gf (p' := 15) rfl rfl (fO (S.ob rfl)) (ax_put_o (Or.inr (by decide)) (S.rf rfl rfl)) ?_
      refine am_ev.step (pc' := 16) rfl rfl ?_
      refine ax_gf (p' := 19) rfl rfl (fO (S.ob rfl)) (ax_put_s _ _ _) ?_
      refine ax_baload (p' := 20) rfl rfl ((S.po rfl rfl).rd (k := p) rfl rfl rfl rfl rfl (by omega) (ax_put_o (Or.inl (by decide)) (B p (by omega)))) ?_
      refine fx_bip (p' := 22) rfl rfl rfl ?_
      refine fx_c_eq (pT := 39) (pF := 25) rfl (by omega) (by omega) rfl rfl (fun k1 => ?_) (fun k1 => ?_)
      · refine am_ev.step (pc' := 40) rfl rfl ?_
        refine am_ev.step (pc' := 41) rfl rfl ?_
        refine ax_gf (p' := 44) rfl rfl (fO (S.ob rfl)) (ax_put_s _ _ _) ?_
        refine am_ev.step (pc' := 45) rfl rfl ?_
        refine fx_add (p' := 46) (e := ((p : Int) + 1)) rfl rfl (by omega) ?_
        refine ax_pf (p' := 49) rfl rfl (fO (S.ob rfl)) rfl ?_
        refine am_ev.step (pc' := 0) rfl rfl ?_
        exfalso
        omega
      · refine am_ev.step (pc' := 26) rfl rfl ?_
        refine ax_gf (p' := 29) rfl rfl (fO (S.ob rfl)) (ax_put_o (Or.inr (by decide)) (S.rf rfl rfl)) ?_
        refine am_ev.step (pc' := 30) rfl rfl ?_
        refine ax_gf (p' := 33) rfl rfl (fO (S.ob rfl)) (ax_put_s _ _ _) ?_
        refine ax_baload (p' := 34) rfl rfl ((S.po rfl rfl).rd (k := p) rfl rfl rfl rfl rfl (by omega) (ax_put_o (Or.inl (by decide)) (B p (by omega)))) ?_
        refine fx_bip (p' := 36) rfl rfl rfl ?_
        refine fx_c_ne (pT := 52) (pF := 39) rfl (by omega) (by omega) rfl rfl (fun k2 => ?_) (fun k2 => ?_)
        · exact q
        · refine am_ev.step (pc' := 40) rfl rfl ?_
          refine am_ev.step (pc' := 41) rfl rfl ?_
          refine ax_gf (p' := 44) rfl rfl (fO (S.ob rfl)) (ax_put_s _ _ _) ?_
          refine am_ev.step (pc' := 45) rfl rfl ?_
          refine fx_add (p' := 46) (e := ((p : Int) + 1)) rfl rfl (by omega) ?_
          refine ax_pf (p' := 49) rfl rfl (fO (S.ob rfl)) rfl ?_
          refine am_ev.step (pc' := 0) rfl rfl ?_
          exfalso
          omega
theorem tk_170b {c0 : Int} (S : fS h) (B : tb h 80 b L) (hb : tz_r b) (hL : L ≤ 1600) (v3 : h.2.2.2 78 3 = iv L) : ∀ (n p : Nat), L - p = n → p ≤ L → am_ev (d + 1) 170 122 [.ref 78, iv c0] [] (am_put h 78 5 (iv (tz_sp tz_le b n p))) x → am_ev (d + 1) 170 95 [.ref 78, iv c0] [] (am_put h 78 5 (iv p)) x
  | 0, p, e, hp, q => by
    have e : p = L := by omega
    refine am_ev.step (pc' := 96) rfl rfl ?_
    refine am_ev.step (pc' := 97) rfl rfl ?_
    refine ax_gf (p' := 100) rfl rfl (fO (S.ob rfl)) (ax_put_s _ _ _) ?_
    refine ax_call (z := 171) (p' := 103) (as := [_, _]) rfl (Or.inr (Or.inl ⟨_, rfl⟩)) rfl rfl rfl rfl rfl rfl (fO (S.ob rfl)) rfl (tk_171b (S.po rfl rfl) hL (ax_put_o (Or.inr (by decide)) v3) (p := p) (by omega) (by omega)) rfl ?_
    refine ax_call (z := 172) (p' := 106) (as := [_]) rfl (Or.inl ⟨_, rfl⟩) rfl rfl rfl rfl rfl rfl rfl rfl (tk_172f (by omega) (by omega)) rfl ?_
    refine fx_z_eq_T (pT := 122) rfl (by omega) rfl (by omega) ?_
    exact q
  | n + 1, p, e, hp, q => by
    have hr := hb p
    have hu := tz_u_c (b p)
    by_cases c : tz_le (b p) = true
    · rw [tz_sp_s c] at q
      have c2 := of_decide_eq_true c
      refine am_ev.step (pc' := 96) rfl rfl ?_
      refine am_ev.step (pc' := 97) rfl rfl ?_
      refine ax_gf (p' := 100) rfl rfl (fO (S.ob rfl)) (ax_put_s _ _ _) ?_
      refine ax_call (z := 171) (p' := 103) (as := [_, _]) rfl (Or.inr (Or.inl ⟨_, rfl⟩)) rfl rfl rfl rfl rfl rfl (fO (S.ob rfl)) rfl (tk_171a (S.po rfl rfl) (B.put (by decide)) hb hL (ax_put_o (Or.inr (by decide)) v3) (p := p) (by omega)) rfl ?_
      refine ax_call (z := 172) (p' := 106) (as := [_]) rfl (Or.inl ⟨_, rfl⟩) rfl rfl rfl rfl rfl rfl rfl rfl (tk_172t (by omega) (by omega)) rfl ?_
      refine fx_z_eq_F (pF := 109) rfl (by omega) rfl (by omega) ?_
      refine am_ev.step (pc' := 110) rfl rfl ?_
      refine am_ev.step (pc' := 111) rfl rfl ?_
      refine ax_gf (p' := 114) rfl rfl (fO (S.ob rfl)) (ax_put_s _ _ _) ?_
      refine am_ev.step (pc' := 115) rfl rfl ?_
      refine fx_add (p' := 116) (e := ((p : Int) + 1)) rfl rfl (by omega) ?_
      refine ax_pf (p' := 119) rfl rfl (fO (S.ob rfl)) rfl ?_
      refine am_ev.step (pc' := 95) rfl rfl ?_
      rw [fx_pp, tz_nc]
      exact tk_170b S B hb hL v3 n (p + 1) (by omega) (by omega) q
    · rw [tz_sp_e c] at q
      have c2 : ¬ (97 ≤ b p ∧ b p ≤ 122) := fun z => c (decide_eq_true z)
      refine am_ev.step (pc' := 96) rfl rfl ?_
      refine am_ev.step (pc' := 97) rfl rfl ?_
      refine ax_gf (p' := 100) rfl rfl (fO (S.ob rfl)) (ax_put_s _ _ _) ?_
      refine ax_call (z := 171) (p' := 103) (as := [_, _]) rfl (Or.inr (Or.inl ⟨_, rfl⟩)) rfl rfl rfl rfl rfl rfl (fO (S.ob rfl)) rfl (tk_171a (S.po rfl rfl) (B.put (by decide)) hb hL (ax_put_o (Or.inr (by decide)) v3) (p := p) (by omega)) rfl ?_
      refine ax_call (z := 172) (p' := 106) (as := [_]) rfl (Or.inl ⟨_, rfl⟩) rfl rfl rfl rfl rfl rfl rfl rfl (tk_172f (by omega) (by omega)) rfl ?_
      refine fx_z_eq_T (pT := 122) rfl (by omega) rfl (by omega) ?_
      exact q
theorem tk_170c {c0 : Int} {s : Nat} (S : fS h) (B : tb h 80 b L) (hb : tz_r b) (hL : L ≤ 1600) (v3 : h.2.2.2 78 3 = iv L) (v4 : h.2.2.2 78 4 = iv s) : ∀ (n p : Nat) (v : Int), L - p = n → p ≤ L → s ≤ p → am_ev (d + 1) 170 223 [.ref 78, iv c0] [] (am_put (am_put h 78 7 (iv (tz_nv b s n p v))) 78 5 (iv (tz_sp tz_di b n p))) x → am_ev (d + 1) 170 160 [.ref 78, iv c0] [] (am_put (am_put h 78 7 (iv v)) 78 5 (iv p)) x
  | 0, p, v, e, hp, hs, q => by
    have e : p = L := by omega
    refine am_ev.step (pc' := 161) rfl rfl ?_
    refine am_ev.step (pc' := 162) rfl rfl ?_
    refine ax_gf (p' := 165) rfl rfl (fO (fO (S.ob rfl))) (ax_put_s _ _ _) ?_
    refine ax_call (z := 171) (p' := 168) (as := [_, _]) rfl (Or.inr (Or.inl ⟨_, rfl⟩)) rfl rfl rfl rfl rfl rfl (fO (fO (S.ob rfl))) rfl (tk_171b ((S.po rfl rfl).po rfl rfl) hL (ax_put_o (Or.inr (by decide)) (ax_put_o (Or.inr (by decide)) v3)) (p := p) (by omega) (by omega)) rfl ?_
    refine ax_call (z := 173) (p' := 171) (as := [_]) rfl (Or.inl ⟨_, rfl⟩) rfl rfl rfl rfl rfl rfl rfl rfl (tk_173f (by omega) (by omega)) rfl ?_
    refine fx_z_eq_T (pT := 223) rfl (by omega) rfl (by omega) ?_
    exact q
  | n + 1, p, v, e, hp, hs, q => by
    have hr := hb p
    have hu := tz_u_c (b p)
    by_cases c : tz_di (b p) = true
    · rw [tz_sp_s c] at q
      have c2 := of_decide_eq_true c
      have e2 : tz_nv b s (n + 1) p v = tz_nv b s n (p + 1) (if p < s + 5 then 10 * v + b p - 48 else v) := if_pos c
      rw [e2] at q
      refine am_ev.step (pc' := 161) rfl rfl ?_
      refine am_ev.step (pc' := 162) rfl rfl ?_
      refine ax_gf (p' := 165) rfl rfl (fO (fO (S.ob rfl))) (ax_put_s _ _ _) ?_
      refine ax_call (z := 171) (p' := 168) (as := [_, _]) rfl (Or.inr (Or.inl ⟨_, rfl⟩)) rfl rfl rfl rfl rfl rfl (fO (fO (S.ob rfl))) rfl (tk_171a ((S.po rfl rfl).po rfl rfl) ((B.put (by decide)).put (by decide)) hb hL (ax_put_o (Or.inr (by decide)) (ax_put_o (Or.inr (by decide)) v3)) (p := p) (by omega)) rfl ?_
      refine ax_call (z := 173) (p' := 171) (as := [_]) rfl (Or.inl ⟨_, rfl⟩) rfl rfl rfl rfl rfl rfl rfl rfl (tk_173t (by omega) (by omega)) rfl ?_
      refine fx_z_eq_F (pF := 174) rfl (by omega) rfl (by omega) ?_
      refine am_ev.step (pc' := 175) rfl rfl ?_
      refine ax_gf (p' := 178) rfl rfl (fO (fO (S.ob rfl))) (ax_put_s _ _ _) ?_
      refine am_ev.step (pc' := 179) rfl rfl ?_
      refine ax_gf (p' := 182) rfl rfl (fO (fO (S.ob rfl))) (ax_put_o (Or.inr (by decide)) (ax_put_o (Or.inr (by decide)) v4)) ?_
      refine fx_sub (p' := 183) (e := ((p : Int) - (s : Int))) rfl rfl (by omega) ?_
      refine am_ev.step (pc' := 184) rfl rfl ?_
      refine fx_c_ge (pT := 210) (pF := 187) rfl (by omega) (by omega) rfl rfl (fun k1 => ?_) (fun k1 => ?_)
      · refine am_ev.step (pc' := 211) rfl rfl ?_
        refine am_ev.step (pc' := 212) rfl rfl ?_
        refine ax_gf (p' := 215) rfl rfl (fO (fO (S.ob rfl))) (ax_put_s _ _ _) ?_
        refine am_ev.step (pc' := 216) rfl rfl ?_
        refine fx_add (p' := 217) (e := ((p : Int) + 1)) rfl rfl (by omega) ?_
        refine ax_pf (p' := 220) rfl rfl (fO (fO (S.ob rfl))) rfl ?_
        refine am_ev.step (pc' := 160) rfl rfl ?_
        rw [if_neg (by omega)] at q
        rw [fx_pp, tz_nc]
        exact tk_170c S B hb hL v3 v4 n (p + 1) _ (by omega) (by omega) (by omega) q
      · refine am_ev.step (pc' := 188) rfl rfl ?_
        refine fx_bip (p' := 190) rfl rfl rfl ?_
        refine am_ev.step (pc' := 191) rfl rfl ?_
        refine ax_gf (p' := 194) rfl rfl (fO (fO (S.ob rfl))) (ax_put_o (Or.inr (by decide)) (ax_put_s _ _ _)) ?_
        refine fx_mul (p' := 195) (e := (10 * v)) rfl rfl (by omega) ?_
        refine am_ev.step (pc' := 196) rfl rfl ?_
        refine am_ev.step (pc' := 197) rfl rfl ?_
        refine ax_gf (p' := 200) rfl rfl (fO (fO (S.ob rfl))) (ax_put_s _ _ _) ?_
        refine ax_call (z := 171) (p' := 203) (as := [_, _]) rfl (Or.inr (Or.inl ⟨_, rfl⟩)) rfl rfl rfl rfl rfl rfl (fO (fO (S.ob rfl))) rfl (tk_171a ((S.po rfl rfl).po rfl rfl) ((B.put (by decide)).put (by decide)) hb hL (ax_put_o (Or.inr (by decide)) (ax_put_o (Or.inr (by decide)) v3)) (p := p) (by omega)) rfl ?_
        refine fx_add (p' := 204) (e := (10 * v + (tz_u (b p)))) rfl rfl (by omega) ?_
        refine fx_bip (p' := 206) rfl rfl rfl ?_
        refine fx_sub (p' := 207) (e := (10 * v + (tz_u (b p)) - 48)) rfl rfl (by omega) ?_
        refine ax_pf (p' := 210) rfl rfl (fO (fO (S.ob rfl))) rfl ?_
        refine am_ev.step (pc' := 211) rfl rfl ?_
        refine am_ev.step (pc' := 212) rfl rfl ?_
        refine ax_gf (p' := 215) rfl rfl (fO (fO (fO (S.ob rfl)))) (ax_put_o (Or.inr (by decide)) (ax_put_s _ _ _)) ?_
        refine am_ev.step (pc' := 216) rfl rfl ?_
        refine fx_add (p' := 217) (e := ((p : Int) + 1)) rfl rfl (by omega) ?_
        refine ax_pf (p' := 220) rfl rfl (fO (fO (fO (S.ob rfl)))) rfl ?_
        refine am_ev.step (pc' := 160) rfl rfl ?_
        rw [if_pos (by omega)] at q
        have e3 : 10 * v + tz_u (b p) - 48 = 10 * v + b p - 48 := by omega
        rw [fx_pc (h := am_put h 78 7 (iv v)) (j := 5) (i := 7) (by decide), fx_pp, fx_pp, tz_nc, e3]
        exact tk_170c S B hb hL v3 v4 n (p + 1) _ (by omega) (by omega) (by omega) q
    · rw [tz_sp_e c] at q
      have c2 : ¬ (48 ≤ b p ∧ b p ≤ 57) := fun z => c (decide_eq_true z)
      have e2 : tz_nv b s (n + 1) p v = v := if_neg c
      rw [e2] at q
      refine am_ev.step (pc' := 161) rfl rfl ?_
      refine am_ev.step (pc' := 162) rfl rfl ?_
      refine ax_gf (p' := 165) rfl rfl (fO (fO (S.ob rfl))) (ax_put_s _ _ _) ?_
      refine ax_call (z := 171) (p' := 168) (as := [_, _]) rfl (Or.inr (Or.inl ⟨_, rfl⟩)) rfl rfl rfl rfl rfl rfl (fO (fO (S.ob rfl))) rfl (tk_171a ((S.po rfl rfl).po rfl rfl) ((B.put (by decide)).put (by decide)) hb hL (ax_put_o (Or.inr (by decide)) (ax_put_o (Or.inr (by decide)) v3)) (p := p) (by omega)) rfl ?_
      refine ax_call (z := 173) (p' := 171) (as := [_]) rfl (Or.inl ⟨_, rfl⟩) rfl rfl rfl rfl rfl rfl rfl rfl (tk_173f (by omega) (by omega)) rfl ?_
      refine fx_z_eq_T (pT := 223) rfl (by omega) rfl (by omega) ?_
      exact q
theorem tz_M {u : Value} {s e : Nat} {k v : Int} : am_put (am_put (am_put (am_put (am_put h 78 5 u) 78 4 (iv s)) 78 7 (iv v)) 78 5 (iv e)) 78 6 (iv k) = M1 h s e k v := by
  unfold M1
  rw [fx_pc (h := h) (j := 5) (i := 4) (by decide), fx_pc (h := am_put h 78 4 (iv s)) (j := 5) (i := 7) (by decide), fx_pp]
theorem tz_MS {u : Value} {s e : Nat} {k v : Int} : am_put (am_put (am_put (am_put (am_put h 78 5 u) 78 4 (iv s)) 78 6 (iv k)) 78 7 (iv v)) 78 5 (iv e) = M1 h s e k v := by
  rw [fx_pc (h := am_put (am_put h 78 5 u) 78 4 (iv s)) (j := 6) (i := 7) (by decide), fx_pc (h := am_put (am_put (am_put h 78 5 u) 78 4 (iv s)) 78 7 (iv v)) (j := 6) (i := 5) (by decide), tz_M]
theorem tz_MW {u : Value} {s e : Nat} {k v : Int} (v7 : h.2.2.2 78 7 = iv v) : am_put (am_put (am_put (am_put h 78 5 u) 78 4 (iv s)) 78 5 (iv e)) 78 6 (iv k) = M1 h s e k v := by
  rw [← tz_M (u := u), fx_pi (h := am_put (am_put h 78 5 u) 78 4 (iv s)) (c := 78) (j := 7) (v := iv v) (ax_put_o (Or.inr (by decide)) (ax_put_o (Or.inr (by decide)) v7))]
theorem tz_ME {s : Nat} {k v : Int} (v7 : h.2.2.2 78 7 = iv v) : am_put (am_put (am_put h 78 5 (iv s)) 78 4 (iv s)) 78 6 (iv k) = M1 h s s k v := by
  rw [← tz_MW (u := iv s) v7, fx_pi (h := am_put (am_put h 78 5 (iv s)) 78 4 (iv s)) (c := 78) (j := 5) (v := iv s) (ax_put_o (Or.inr (by decide)) (ax_put_s _ _ _))]
theorem tk_170 (S : fS h) (B : tb h 80 b L) (hb : tz_r b) (hL : L ≤ 1600) (v3 : h.2.2.2 78 3 = iv L) {p : Nat} (v5 : h.2.2.2 78 5 = iv p) (hp : p ≤ L) {v0 : Int} (v7 : h.2.2.2 78 7 = iv v0) : am_ev (d + 1) 170 0 (am_ent [.ref 78] 2) [] h (none, M1 h (tS b L p) (tE b L (tS b L p)) (tH (tK b L (tS b L p))) (tV b L (tS b L p) v0)) := by
  have top : ∀ x, am_ev (d + 1) 170 52 [.ref 78, am_ph] [] (am_put h 78 5 (iv (tS b L p))) x → am_ev (d + 1) 170 0 (am_ent [.ref 78] 2) [] h x := fun x q => fx_hc (fx_pi v5).symm (tk_170a S B hb hL v3 (L - p) p rfl hp q)
  have hs := tS_le b hp
  generalize tS b L p = s at hs top ⊢
  obtain ⟨s1, s2⟩ := hs
  by_cases c1 : L ≤ s
  · have hK : tK b L s = 0 := if_pos c1
    have es : s = L := by omega
    rw [show tE b L s = s from if_pos c1, hK, show tV b L s v0 = v0 from if_pos c1]
    refine top _ ?_
    refine am_ev.step (pc' := 53) rfl rfl ?_
    refine am_ev.step (pc' := 54) rfl rfl ?_
    refine ax_gf (p' := 57) rfl rfl (fO (S.ob rfl)) (ax_put_s _ _ _) ?_
    refine ax_pf (p' := 60) rfl rfl (fO (S.ob rfl)) rfl ?_
    refine am_ev.step (pc' := 61) rfl rfl ?_
    refine am_ev.step (pc' := 62) rfl rfl ?_
    refine ax_gf (p' := 65) rfl rfl (fO (fO (S.ob rfl))) (ax_put_s _ _ _) ?_
    refine ax_call (z := 171) (p' := 68) (as := [_, _]) rfl (Or.inr (Or.inl ⟨_, rfl⟩)) rfl rfl rfl rfl rfl rfl (fO (fO (S.ob rfl))) rfl (tk_171b ((S.po rfl rfl).po rfl rfl) hL (ax_put_o (Or.inr (by decide)) (ax_put_o (Or.inr (by decide)) v3)) (p := s) (by omega) (by omega)) rfl ?_
    refine am_ev.step (pc' := 69) (ls' := [.ref 78, iv 0]) rfl rfl ?_
    refine am_ev.step (pc' := 70) rfl rfl ?_
    refine ax_gf (p' := 73) rfl rfl (fO (fO (S.ob rfl))) (ax_put_s _ _ _) ?_
    refine am_ev.step (pc' := 74) rfl rfl ?_
    refine ax_gf (p' := 77) rfl rfl (fO (fO (S.ob rfl))) (ax_put_o (Or.inr (by decide)) (ax_put_o (Or.inr (by decide)) v3)) ?_
    refine fx_c_ne_F (pF := 80) rfl (by omega) (by omega) rfl (by omega) ?_
    refine am_ev.step (pc' := 81) rfl rfl ?_
    refine am_ev.step (pc' := 82) rfl rfl ?_
    refine ax_pf (p' := 85) rfl rfl (fO (fO (S.ob rfl))) rfl ?_
    refine am_ev.step (pc' := 290) rfl rfl ?_
    exact fx_cast (am_ev.retv rfl rfl) (by rw [tz_ME v7]; rfl)
  · have hr := hb s
    have hu := tz_u_c (b s)
    by_cases c2 : tz_le (b s) = true
    · have c3 := of_decide_eq_true c2
      have hE : tE b L s = tz_sp tz_le b (L - s) s := by
        unfold tE
        rw [if_neg c1, if_pos c2]
      have hK : tK b L s = if tE b L s ≤ s + 12 then 1 else 3 := by
        rw [hE]
        unfold tK
        rw [if_neg c1, if_pos c2]
      have he := tE_le b s2
      have hV : tV b L s v0 = v0 := by
        unfold tV
        rw [if_neg c1, if_pos c2]
      rw [hV]
      refine top _ ?_
      refine am_ev.step (pc' := 53) rfl rfl ?_
      refine am_ev.step (pc' := 54) rfl rfl ?_
      refine ax_gf (p' := 57) rfl rfl (fO (S.ob rfl)) (ax_put_s _ _ _) ?_
      refine ax_pf (p' := 60) rfl rfl (fO (S.ob rfl)) rfl ?_
      refine am_ev.step (pc' := 61) rfl rfl ?_
      refine am_ev.step (pc' := 62) rfl rfl ?_
      refine ax_gf (p' := 65) rfl rfl (fO (fO (S.ob rfl))) (ax_put_s _ _ _) ?_
      refine ax_call (z := 171) (p' := 68) (as := [_, _]) rfl (Or.inr (Or.inl ⟨_, rfl⟩)) rfl rfl rfl rfl rfl rfl (fO (fO (S.ob rfl))) rfl (tk_171a ((S.po rfl rfl).po rfl rfl) ((B.put (by decide)).put (by decide)) hb hL (ax_put_o (Or.inr (by decide)) (ax_put_o (Or.inr (by decide)) v3)) (p := s) (by omega)) rfl ?_
      refine am_ev.step (pc' := 69) (ls' := [.ref 78, iv ((tz_u (b s)))]) rfl rfl ?_
      refine am_ev.step (pc' := 70) rfl rfl ?_
      refine ax_gf (p' := 73) rfl rfl (fO (fO (S.ob rfl))) (ax_put_s _ _ _) ?_
      refine am_ev.step (pc' := 74) rfl rfl ?_
      refine ax_gf (p' := 77) rfl rfl (fO (fO (S.ob rfl))) (ax_put_o (Or.inr (by decide)) (ax_put_o (Or.inr (by decide)) v3)) ?_
      refine fx_c_ne_T (pT := 88) rfl (by omega) (by omega) rfl (by omega) ?_
      refine am_ev.step (pc' := 89) rfl rfl ?_
      refine ax_call (z := 172) (p' := 92) (as := [_]) rfl (Or.inl ⟨_, rfl⟩) rfl rfl rfl rfl rfl rfl rfl rfl (tk_172t (by omega) (by omega)) rfl ?_
      refine fx_z_eq_F (pF := 95) rfl (by omega) rfl (by omega) ?_
      have g5 : (am_put (am_put h 78 5 (iv s)) 78 4 (iv s)).2.2.2 78 5 = iv s := ax_put_o (Or.inr (by decide)) (ax_put_s _ _ _)
      refine fx_hc (fx_pi g5).symm ?_
      refine tk_170b ((S.po rfl rfl).po rfl rfl) ((B.put (by decide)).put (by decide)) hb hL (ax_put_o (Or.inr (by decide)) (ax_put_o (Or.inr (by decide)) v3)) (L - s) s rfl s2 ?_
      rw [hK, ← hE]
      generalize tE b L s = e at he ⊢
      obtain ⟨e1, e2⟩ := he
      refine am_ev.step (pc' := 123) rfl rfl ?_
      refine am_ev.step (pc' := 124) rfl rfl ?_
      refine ax_gf (p' := 127) rfl rfl (fO (fO (fO (S.ob rfl)))) (ax_put_s _ _ _) ?_
      refine am_ev.step (pc' := 128) rfl rfl ?_
      refine ax_gf (p' := 131) rfl rfl (fO (fO (fO (S.ob rfl)))) (ax_put_o (Or.inr (by decide)) (ax_put_s _ _ _)) ?_
      refine fx_sub (p' := 132) (e := ((e : Int) - (s : Int))) rfl rfl (by omega) ?_
      refine fx_bip (p' := 134) rfl rfl rfl ?_
      refine fx_c_le (pT := 141) (pF := 137) rfl (by omega) (by omega) rfl rfl (fun k1 => ?_) (fun k1 => ?_)
      · refine am_ev.step (pc' := 142) rfl rfl ?_
        refine ax_pf (p' := 145) rfl rfl (fO (fO (fO (S.ob rfl)))) rfl ?_
        refine am_ev.step (pc' := 290) rfl rfl ?_
        exact fx_cast (am_ev.retv rfl rfl) (by rw [tz_MW v7, if_pos (by omega)]; rfl)
      · refine am_ev.step (pc' := 138) rfl rfl ?_
        refine am_ev.step (pc' := 142) rfl rfl ?_
        refine ax_pf (p' := 145) rfl rfl (fO (fO (fO (S.ob rfl)))) rfl ?_
        refine am_ev.step (pc' := 290) rfl rfl ?_
        exact fx_cast (am_ev.retv rfl rfl) (by rw [tz_MW v7, if_neg (by omega)]; rfl)
    · have c3 : ¬ (97 ≤ b s ∧ b s ≤ 122) := fun z => c2 (decide_eq_true z)
      by_cases c4 : tz_di (b s) = true
      · have c5 := of_decide_eq_true c4
        have hE : tE b L s = tz_sp tz_di b (L - s) s := by
          unfold tE
          rw [if_neg c1, if_neg c2, if_pos c4]
        have hK : tK b L s = if tE b L s ≤ s + 5 then 2 else 3 := by
          rw [hE]
          unfold tK
          rw [if_neg c1, if_neg c2, if_pos c4]
        have he := tE_le b s2
        have hV : tV b L s v0 = tz_nv b s (L - s) s 0 := by
          unfold tV
          rw [if_neg c1, if_neg c2, if_pos c4]
        rw [hV]
        refine top _ ?_
        refine am_ev.step (pc' := 53) rfl rfl ?_
        refine am_ev.step (pc' := 54) rfl rfl ?_
        refine ax_gf (p' := 57) rfl rfl (fO (S.ob rfl)) (ax_put_s _ _ _) ?_
        refine ax_pf (p' := 60) rfl rfl (fO (S.ob rfl)) rfl ?_
        refine am_ev.step (pc' := 61) rfl rfl ?_
        refine am_ev.step (pc' := 62) rfl rfl ?_
        refine ax_gf (p' := 65) rfl rfl (fO (fO (S.ob rfl))) (ax_put_s _ _ _) ?_
        refine ax_call (z := 171) (p' := 68) (as := [_, _]) rfl (Or.inr (Or.inl ⟨_, rfl⟩)) rfl rfl rfl rfl rfl rfl (fO (fO (S.ob rfl))) rfl (tk_171a ((S.po rfl rfl).po rfl rfl) ((B.put (by decide)).put (by decide)) hb hL (ax_put_o (Or.inr (by decide)) (ax_put_o (Or.inr (by decide)) v3)) (p := s) (by omega)) rfl ?_
        refine am_ev.step (pc' := 69) (ls' := [.ref 78, iv ((tz_u (b s)))]) rfl rfl ?_
        refine am_ev.step (pc' := 70) rfl rfl ?_
        refine ax_gf (p' := 73) rfl rfl (fO (fO (S.ob rfl))) (ax_put_s _ _ _) ?_
        refine am_ev.step (pc' := 74) rfl rfl ?_
        refine ax_gf (p' := 77) rfl rfl (fO (fO (S.ob rfl))) (ax_put_o (Or.inr (by decide)) (ax_put_o (Or.inr (by decide)) v3)) ?_
        refine fx_c_ne_T (pT := 88) rfl (by omega) (by omega) rfl (by omega) ?_
        refine am_ev.step (pc' := 89) rfl rfl ?_
        refine ax_call (z := 172) (p' := 92) (as := [_]) rfl (Or.inl ⟨_, rfl⟩) rfl rfl rfl rfl rfl rfl rfl rfl (tk_172f (by omega) (by omega)) rfl ?_
        refine fx_z_eq_T (pT := 148) rfl (by omega) rfl (by omega) ?_
        refine am_ev.step (pc' := 149) rfl rfl ?_
        refine ax_call (z := 173) (p' := 152) (as := [_]) rfl (Or.inl ⟨_, rfl⟩) rfl rfl rfl rfl rfl rfl rfl rfl (tk_173t (by omega) (by omega)) rfl ?_
        refine fx_z_eq_F (pF := 155) rfl (by omega) rfl (by omega) ?_
        refine am_ev.step (pc' := 156) rfl rfl ?_
        refine am_ev.step (pc' := 157) rfl rfl ?_
        refine ax_pf (p' := 160) rfl rfl (fO (fO (S.ob rfl))) rfl ?_
        have g5 : (am_put (am_put (am_put h 78 5 (iv s)) 78 4 (iv s)) 78 7 (iv 0)).2.2.2 78 5 = iv s := ax_put_o (Or.inr (by decide)) (ax_put_o (Or.inr (by decide)) (ax_put_s _ _ _))
        refine fx_hc (fx_pi g5).symm ?_
        refine tk_170c ((S.po rfl rfl).po rfl rfl) ((B.put (by decide)).put (by decide)) hb hL (ax_put_o (Or.inr (by decide)) (ax_put_o (Or.inr (by decide)) v3)) (ax_put_s _ _ _) (L - s) s 0 rfl s2 (Nat.le_refl _) ?_
        rw [hK, ← hE]
        generalize tE b L s = e at he ⊢
        generalize tz_nv b s (L - s) s 0 = nv
        obtain ⟨e1, e2⟩ := he
        refine am_ev.step (pc' := 224) rfl rfl ?_
        refine am_ev.step (pc' := 225) rfl rfl ?_
        refine ax_gf (p' := 228) rfl rfl (fO (fO (fO (fO (S.ob rfl))))) (ax_put_s _ _ _) ?_
        refine am_ev.step (pc' := 229) rfl rfl ?_
        refine ax_gf (p' := 232) rfl rfl (fO (fO (fO (fO (S.ob rfl))))) (ax_put_o (Or.inr (by decide)) (ax_put_o (Or.inr (by decide)) (ax_put_s _ _ _))) ?_
        refine fx_sub (p' := 233) (e := ((e : Int) - (s : Int))) rfl rfl (by omega) ?_
        refine am_ev.step (pc' := 234) rfl rfl ?_
        refine fx_c_le (pT := 241) (pF := 237) rfl (by omega) (by omega) rfl rfl (fun k1 => ?_) (fun k1 => ?_)
        · refine am_ev.step (pc' := 242) rfl rfl ?_
          refine ax_pf (p' := 245) rfl rfl (fO (fO (fO (fO (S.ob rfl))))) rfl ?_
          refine am_ev.step (pc' := 290) rfl rfl ?_
          exact fx_cast (am_ev.retv rfl rfl) (by rw [tz_M, if_pos (by omega)]; rfl)
        · refine am_ev.step (pc' := 238) rfl rfl ?_
          refine am_ev.step (pc' := 242) rfl rfl ?_
          refine ax_pf (p' := 245) rfl rfl (fO (fO (fO (fO (S.ob rfl))))) rfl ?_
          refine am_ev.step (pc' := 290) rfl rfl ?_
          exact fx_cast (am_ev.retv rfl rfl) (by rw [tz_M, if_neg (by omega)]; rfl)
      · have c5 : ¬ (48 ≤ b s ∧ b s ≤ 57) := fun z => c4 (decide_eq_true z)
        have hE : tE b L s = s + 1 := by
          unfold tE
          rw [if_neg c1, if_neg c2, if_neg c4]
        have hK : tK b L s = if b s = 59 ∨ b s = 47 ∨ b s = 43 then b s else 3 := by
          unfold tK
          rw [if_neg c1, if_neg c2, if_neg c4]
        have hk2 : (tK b L s = b s ∧ (b s = 59 ∨ b s = 47 ∨ b s = 43) ∧ tH (tK b L s) = 3) ∨ (tK b L s = 3 ∧ ¬ (b s = 59 ∨ b s = 47 ∨ b s = 43) ∧ tH (tK b L s) = 4) := by
          rw [hK]
          split
          · rename_i z
            refine Or.inl ⟨rfl, z, ?_⟩
            unfold tH
            rw [if_neg (by omega), if_neg (by omega), if_neg (by omega), if_neg (by omega)]
          · rename_i z
            exact Or.inr ⟨rfl, z, rfl⟩
        have hV : tV b L s v0 = tz_u (b s) := by
          unfold tV
          rw [if_neg c1, if_neg c2, if_neg c4]
        rw [hE, hV]
        refine top _ ?_
        refine am_ev.step (pc' := 53) rfl rfl ?_
        refine am_ev.step (pc' := 54) rfl rfl ?_
        refine ax_gf (p' := 57) rfl rfl (fO (S.ob rfl)) (ax_put_s _ _ _) ?_
        refine ax_pf (p' := 60) rfl rfl (fO (S.ob rfl)) rfl ?_
        refine am_ev.step (pc' := 61) rfl rfl ?_
        refine am_ev.step (pc' := 62) rfl rfl ?_
        refine ax_gf (p' := 65) rfl rfl (fO (fO (S.ob rfl))) (ax_put_s _ _ _) ?_
        refine ax_call (z := 171) (p' := 68) (as := [_, _]) rfl (Or.inr (Or.inl ⟨_, rfl⟩)) rfl rfl rfl rfl rfl rfl (fO (fO (S.ob rfl))) rfl (tk_171a ((S.po rfl rfl).po rfl rfl) ((B.put (by decide)).put (by decide)) hb hL (ax_put_o (Or.inr (by decide)) (ax_put_o (Or.inr (by decide)) v3)) (p := s) (by omega)) rfl ?_
        refine am_ev.step (pc' := 69) (ls' := [.ref 78, iv ((tz_u (b s)))]) rfl rfl ?_
        refine am_ev.step (pc' := 70) rfl rfl ?_
        refine ax_gf (p' := 73) rfl rfl (fO (fO (S.ob rfl))) (ax_put_s _ _ _) ?_
        refine am_ev.step (pc' := 74) rfl rfl ?_
        refine ax_gf (p' := 77) rfl rfl (fO (fO (S.ob rfl))) (ax_put_o (Or.inr (by decide)) (ax_put_o (Or.inr (by decide)) v3)) ?_
        refine fx_c_ne_T (pT := 88) rfl (by omega) (by omega) rfl (by omega) ?_
        refine am_ev.step (pc' := 89) rfl rfl ?_
        refine ax_call (z := 172) (p' := 92) (as := [_]) rfl (Or.inl ⟨_, rfl⟩) rfl rfl rfl rfl rfl rfl rfl rfl (tk_172f (by omega) (by omega)) rfl ?_
        refine fx_z_eq_T (pT := 148) rfl (by omega) rfl (by omega) ?_
        refine am_ev.step (pc' := 149) rfl rfl ?_
        refine ax_call (z := 173) (p' := 152) (as := [_]) rfl (Or.inl ⟨_, rfl⟩) rfl rfl rfl rfl rfl rfl rfl rfl (tk_173f (by omega) (by omega)) rfl ?_
        refine fx_z_eq_T (pT := 248) rfl (by omega) rfl (by omega) ?_
        refine am_ev.step (pc' := 249) rfl rfl ?_
        refine am_ev.step (pc' := 250) rfl rfl ?_
        refine fx_bip (p' := 252) rfl rfl rfl ?_
        refine fx_c_eq (pT := 267) (pF := 255) rfl (by omega) (by omega) rfl rfl (fun k1 => ?_) (fun k1 => ?_)
        · refine am_ev.step (pc' := 268) rfl rfl ?_
          refine am_ev.step (pc' := 272) rfl rfl ?_
          refine ax_pf (p' := 275) rfl rfl (fO (fO (S.ob rfl))) rfl ?_
          refine am_ev.step (pc' := 276) rfl rfl ?_
          refine am_ev.step (pc' := 277) rfl rfl ?_
          refine ax_pf (p' := 280) rfl rfl (fO (fO (fO (S.ob rfl)))) rfl ?_
          refine am_ev.step (pc' := 281) rfl rfl ?_
          refine am_ev.step (pc' := 282) rfl rfl ?_
          refine ax_gf (p' := 285) rfl rfl (fO (fO (fO (fO (S.ob rfl))))) (ax_put_o (Or.inr (by decide)) (ax_put_o (Or.inr (by decide)) (ax_put_o (Or.inr (by decide)) (ax_put_s _ _ _)))) ?_
          refine am_ev.step (pc' := 286) rfl rfl ?_
          refine fx_add (p' := 287) (e := ((s : Int) + 1)) rfl rfl (by omega) ?_
          refine ax_pf (p' := 290) rfl rfl (fO (fO (fO (fO (S.ob rfl))))) rfl ?_
          exact fx_cast (am_ev.retv rfl rfl) (by rw [tz_nc, tz_MS, show tH (tK b L s) = 3 by omega])
        · refine am_ev.step (pc' := 256) rfl rfl ?_
          refine fx_bip (p' := 258) rfl rfl rfl ?_
          refine fx_c_eq (pT := 267) (pF := 261) rfl (by omega) (by omega) rfl rfl (fun k2 => ?_) (fun k2 => ?_)
          · refine am_ev.step (pc' := 268) rfl rfl ?_
            refine am_ev.step (pc' := 272) rfl rfl ?_
            refine ax_pf (p' := 275) rfl rfl (fO (fO (S.ob rfl))) rfl ?_
            refine am_ev.step (pc' := 276) rfl rfl ?_
            refine am_ev.step (pc' := 277) rfl rfl ?_
            refine ax_pf (p' := 280) rfl rfl (fO (fO (fO (S.ob rfl)))) rfl ?_
            refine am_ev.step (pc' := 281) rfl rfl ?_
            refine am_ev.step (pc' := 282) rfl rfl ?_
            refine ax_gf (p' := 285) rfl rfl (fO (fO (fO (fO (S.ob rfl))))) (ax_put_o (Or.inr (by decide)) (ax_put_o (Or.inr (by decide)) (ax_put_o (Or.inr (by decide)) (ax_put_s _ _ _)))) ?_
            refine am_ev.step (pc' := 286) rfl rfl ?_
            refine fx_add (p' := 287) (e := ((s : Int) + 1)) rfl rfl (by omega) ?_
            refine ax_pf (p' := 290) rfl rfl (fO (fO (fO (fO (S.ob rfl))))) rfl ?_
            exact fx_cast (am_ev.retv rfl rfl) (by rw [tz_nc, tz_MS, show tH (tK b L s) = 3 by omega])
          · refine am_ev.step (pc' := 262) rfl rfl ?_
            refine fx_bip (p' := 264) rfl rfl rfl ?_
            refine fx_c_ne (pT := 271) (pF := 267) rfl (by omega) (by omega) rfl rfl (fun k3 => ?_) (fun k3 => ?_)
            · refine am_ev.step (pc' := 272) rfl rfl ?_
              refine ax_pf (p' := 275) rfl rfl (fO (fO (S.ob rfl))) rfl ?_
              refine am_ev.step (pc' := 276) rfl rfl ?_
              refine am_ev.step (pc' := 277) rfl rfl ?_
              refine ax_pf (p' := 280) rfl rfl (fO (fO (fO (S.ob rfl)))) rfl ?_
              refine am_ev.step (pc' := 281) rfl rfl ?_
              refine am_ev.step (pc' := 282) rfl rfl ?_
              refine ax_gf (p' := 285) rfl rfl (fO (fO (fO (fO (S.ob rfl))))) (ax_put_o (Or.inr (by decide)) (ax_put_o (Or.inr (by decide)) (ax_put_o (Or.inr (by decide)) (ax_put_s _ _ _)))) ?_
              refine am_ev.step (pc' := 286) rfl rfl ?_
              refine fx_add (p' := 287) (e := ((s : Int) + 1)) rfl rfl (by omega) ?_
              refine ax_pf (p' := 290) rfl rfl (fO (fO (fO (fO (S.ob rfl))))) rfl ?_
              exact fx_cast (am_ev.retv rfl rfl) (by rw [tz_nc, tz_MS, show tH (tK b L s) = 4 by omega])
            · refine am_ev.step (pc' := 268) rfl rfl ?_
              refine am_ev.step (pc' := 272) rfl rfl ?_
              refine ax_pf (p' := 275) rfl rfl (fO (fO (S.ob rfl))) rfl ?_
              refine am_ev.step (pc' := 276) rfl rfl ?_
              refine am_ev.step (pc' := 277) rfl rfl ?_
              refine ax_pf (p' := 280) rfl rfl (fO (fO (fO (S.ob rfl)))) rfl ?_
              refine am_ev.step (pc' := 281) rfl rfl ?_
              refine am_ev.step (pc' := 282) rfl rfl ?_
              refine ax_gf (p' := 285) rfl rfl (fO (fO (fO (fO (S.ob rfl))))) (ax_put_o (Or.inr (by decide)) (ax_put_o (Or.inr (by decide)) (ax_put_o (Or.inr (by decide)) (ax_put_s _ _ _)))) ?_
              refine am_ev.step (pc' := 286) rfl rfl ?_
              refine fx_add (p' := 287) (e := ((s : Int) + 1)) rfl rfl (by omega) ?_
              refine ax_pf (p' := 290) rfl rfl (fO (fO (fO (fO (S.ob rfl))))) rfl ?_
              exact fx_cast (am_ev.retv rfl rfl) (by rw [tz_nc, tz_MS, show tH (tK b L s) = 3 by omega])
theorem tV_c (b : Nat → Int) (L s : Nat) (v0 : Int) : (tK b L s = 2 → tV b L s v0 = tz_nu b (tE b L s - s) s 0) ∧ (43 ≤ tK b L s → tV b L s v0 = tK b L s) := by
  have hu := tz_u_c (b s)
  by_cases c1 : L ≤ s
  · have hK : tK b L s = 0 := if_pos c1
    exact ⟨fun z => by omega, fun z => by omega⟩
  · by_cases c2 : tz_le (b s) = true
    · have hK : tK b L s = 1 ∨ tK b L s = 3 := by
        unfold tK
        rw [if_neg c1, if_pos c2]
        split
        · exact Or.inl rfl
        · exact Or.inr rfl
      exact ⟨fun z => by omega, fun z => by omega⟩
    · by_cases c4 : tz_di (b s) = true
      · have hE : tE b L s = tz_sp tz_di b (L - s) s := by
          unfold tE
          rw [if_neg c1, if_neg c2, if_pos c4]
        have hK : (tK b L s = 2 ∧ tz_sp tz_di b (L - s) s ≤ s + 5) ∨ tK b L s = 3 := by
          unfold tK
          rw [if_neg c1, if_neg c2, if_pos c4]
          split
          · exact Or.inl ⟨rfl, by assumption⟩
          · exact Or.inr rfl
        have hV : tV b L s v0 = tz_nv b s (L - s) s 0 := by
          unfold tV
          rw [if_neg c1, if_neg c2, if_pos c4]
        refine ⟨fun z => ?_, fun z => by omega⟩
        rcases hK with ⟨_, k2⟩ | k2
        · rw [hV, hE]
          exact tz_nv_nu (L - s) s 0 (Nat.le_refl _) k2
        · omega
      · have hK : (tK b L s = b s ∧ (b s = 59 ∨ b s = 47 ∨ b s = 43)) ∨ tK b L s = 3 := by
          unfold tK
          rw [if_neg c1, if_neg c2, if_neg c4]
          split
          · exact Or.inl ⟨rfl, by assumption⟩
          · exact Or.inr rfl
        have hV : tV b L s v0 = tz_u (b s) := by
          unfold tV
          rw [if_neg c1, if_neg c2, if_neg c4]
        exact ⟨fun z => by omega, fun z => by omega⟩
end TKC
/-! WORDS AND NUMBERS -/
def tz_w (b : Nat → Int) (s e : Nat) (k : Int) (i : Nat) : Prop := k = 1 ∧ e = s + am_slen i ∧ ∀ j, j < am_slen i → b (s + j) = (am_sch i j : Int)
section TKW
variable {d y pc p' : Nat} {ls r : List Value} {h : am_H} {x : Option Value × am_H}
theorem fx_slen {e : am_E} {i : Nat} (hc : am_at y pc e) (hi : am_isC e.1) (hz : e.2.2.2.1 = 1003) (hk : i < 16) (hcs : Nat.ble (am_cs r) 8 = true) (hd : 2 ≤ d) (hM : am_sM e.1 (am_in y).1 1003 = true) (hp : pc + 3 = p') (q : am_ev (d + 1) y p' ls (iv (am_slen i : Int) :: r) h x) : am_ev (d + 1) y pc ls (.ref (7 + i) :: r) h x := by
  subst hp
  refine am_ev.len hc hi hz hk (Nat.le_of_ble_eq_true hcs) hd hM ?_
  rw [← Int32.ofInt_eq_ofNat]
  exact q
theorem fx_chr {e : am_E} {i j : Nat} {f : Int} (hc : am_at y pc e) (hi : am_isC e.1) (hz : e.2.2.2.1 = 1004) (hk : i < 16) (hcs : Nat.ble (am_cs r) 8 = true) (hd : 4 ≤ d) (hM : am_sM e.1 (am_in y).1 1004 = true) (he : f = (j : Int)) (hj : j < am_slen i) (hl : am_slen i ≤ 100) (hp : pc + 3 = p') (q : am_ev (d + 1) y p' ls (iv (am_sch i j : Int) :: r) h x) : am_ev (d + 1) y pc ls (iv f :: .ref (7 + i) :: r) h x := by
  subst hp he
  have e1 : (Int32.ofInt (j : Int)).toInt = (j : Int) := fx_ti (by omega)
  have e2 : (Int32.ofInt (j : Int)).toNatClampNeg = j := by
    show (Int32.ofInt (j : Int)).toInt.toNat = j
    rw [e1, Int.toNat_natCast]
  refine am_ev.chr hc hi hz hk (Nat.le_of_ble_eq_true hcs) hd hM (Int32.le_iff_toInt_le.2 (by rw [e1, show (0 : Int32).toInt = 0 by decide]; omega)) (by rw [e2]; exact hj) ?_
  rw [e2, ← Int32.ofInt_eq_ofNat]
  exact q
theorem tz_slen {i : Nat} (h : i < 16) : am_slen i ≤ 7 := by
  have : ∀ i, i < 16 → am_slen i ≤ 7 := by decide +kernel
  exact this i h
theorem tz_sch {i j : Nat} (h : i < 16) (g : j < am_slen i) : am_sch i j ≤ 122 := by
  have : ∀ i, i < 16 → ∀ j, j < am_slen i → am_sch i j ≤ 122 := by decide +kernel
  exact this i h j g
end TKW
section TKX
variable {d : Nat} {h : am_H} {b : Nat → Int} {L s e : Nat} {k : Int}
theorem tk_26a {i : Nat} (hi : i < 16) (S : fS h) (B : tb h 42 b L) (hb : tz_r b) (hL : L ≤ 1600) (v1 : h.2.2.2 41 1 = iv L) (v5 : h.2.2.2 41 5 = iv s) (hs : s + am_slen i ≤ L) : ∀ (n j : Nat), am_slen i - j = n → j ≤ am_slen i → ((∀ q, j ≤ q → q < am_slen i → b (s + q) = (am_sch i q : Int)) → am_ev (d + 5) 26 28 [.ref 41, .ref (7 + i), iv j] [] h (some (iv 1), h)) ∧ (¬ (∀ q, j ≤ q → q < am_slen i → b (s + q) = (am_sch i q : Int)) → am_ev (d + 5) 26 28 [.ref 41, .ref (7 + i), iv j] [] h (some (iv 0), h))
  | 0, j, ej, hj => by
    have hl := tz_slen hi
    have e : j = am_slen i := by omega
    refine ⟨fun q => ?_, fun q => absurd (fun q a c => by omega) q⟩
    refine am_ev.step (pc' := 29) rfl rfl ?_
    refine am_ev.step (pc' := 30) rfl rfl ?_
    refine fx_slen (p' := 33) rfl (Or.inr (Or.inl ⟨_, rfl⟩)) rfl hi rfl (by omega) rfl rfl ?_
    refine fx_c_ge_T (pT := 76) rfl (by omega) (by omega) rfl (by omega) ?_
    refine am_ev.step (pc' := 77) rfl rfl ?_
    exact fx_reti rfl rfl rfl
  | n + 1, j, ej, hj => by
    have hl := tz_slen hi
    have hr := hb (s + j)
    have hc := tz_sch hi (show j < am_slen i by omega)
    by_cases c : b (s + j) = (am_sch i j : Int)
    · have st : ∀ x, am_ev (d + 5) 26 28 [.ref 41, .ref (7 + i), iv ((j + 1 : Nat) : Int)] [] h x → am_ev (d + 5) 26 28 [.ref 41, .ref (7 + i), iv j] [] h x := fun x q => by
        refine am_ev.step (pc' := 29) rfl rfl ?_
        refine am_ev.step (pc' := 30) rfl rfl ?_
        refine fx_slen (p' := 33) rfl (Or.inr (Or.inl ⟨_, rfl⟩)) rfl hi rfl (by omega) rfl rfl ?_
        refine fx_c_ge_F (pF := 36) rfl (by omega) (by omega) rfl (by omega) ?_
        refine am_ev.step (pc' := 37) rfl rfl ?_
        refine ax_gf (p' := 40) rfl rfl (S.ob rfl) v5 ?_
        refine am_ev.step (pc' := 41) rfl rfl ?_
        refine fx_add (p' := 42) (e := ((s : Int) + (j : Int))) rfl rfl (by omega) ?_
        refine am_ev.step (pc' := 43) rfl rfl ?_
        refine ax_gf (p' := 46) rfl rfl (S.ob rfl) v1 ?_
        refine fx_c_ge_F (pF := 49) rfl (by omega) (by omega) rfl (by omega) ?_
        refine am_ev.step (pc' := 50) rfl rfl ?_
        refine ax_gf (p' := 53) rfl rfl (S.ob rfl) (S.rf rfl rfl) ?_
        refine am_ev.step (pc' := 54) rfl rfl ?_
        refine ax_gf (p' := 57) rfl rfl (S.ob rfl) v5 ?_
        refine am_ev.step (pc' := 58) rfl rfl ?_
        refine fx_add (p' := 59) (e := ((s : Int) + (j : Int))) rfl rfl (by omega) ?_
        refine ax_baload (p' := 60) rfl rfl (S.rd (k := (s + j)) rfl rfl rfl rfl (by omega) (by omega) (B (s + j) (by omega))) ?_
        refine am_ev.step (pc' := 61) rfl rfl ?_
        refine am_ev.step (pc' := 62) rfl rfl ?_
        refine fx_chr (p' := 65) (j := j) rfl (Or.inr (Or.inl ⟨_, rfl⟩)) rfl hi rfl (by omega) rfl rfl (by omega) (by omega) rfl ?_
        refine fx_c_eq_T (pT := 70) rfl (by omega) (by omega) rfl (by omega) ?_
        refine fx_inc (p' := 73) (e := ((j : Int) + 1)) (ls' := [.ref 41, .ref (7 + i), iv ((j : Int) + 1)]) rfl rfl rfl (by omega) rfl ?_
        refine am_ev.step (pc' := 28) rfl rfl ?_
        rw [tz_nc]
        exact q
      obtain ⟨i1, i2⟩ := tk_26a hi S B hb hL v1 v5 hs n (j + 1) (by omega) (by omega)
      refine ⟨fun q => st _ (i1 fun z a c => q z (by omega) c), fun q => st _ (i2 fun z => q fun w a c2 => ?_)⟩
      by_cases ez : w = j
      · rw [ez]
        exact c
      · exact z w (by omega) c2
    · refine ⟨fun q => absurd (q j (Nat.le_refl _) (by omega)) c, fun _ => ?_⟩
      refine am_ev.step (pc' := 29) rfl rfl ?_
      refine am_ev.step (pc' := 30) rfl rfl ?_
      refine fx_slen (p' := 33) rfl (Or.inr (Or.inl ⟨_, rfl⟩)) rfl hi rfl (by omega) rfl rfl ?_
      refine fx_c_ge_F (pF := 36) rfl (by omega) (by omega) rfl (by omega) ?_
      refine am_ev.step (pc' := 37) rfl rfl ?_
      refine ax_gf (p' := 40) rfl rfl (S.ob rfl) v5 ?_
      refine am_ev.step (pc' := 41) rfl rfl ?_
      refine fx_add (p' := 42) (e := ((s : Int) + (j : Int))) rfl rfl (by omega) ?_
      refine am_ev.step (pc' := 43) rfl rfl ?_
      refine ax_gf (p' := 46) rfl rfl (S.ob rfl) v1 ?_
      refine fx_c_ge_F (pF := 49) rfl (by omega) (by omega) rfl (by omega) ?_
      refine am_ev.step (pc' := 50) rfl rfl ?_
      refine ax_gf (p' := 53) rfl rfl (S.ob rfl) (S.rf rfl rfl) ?_
      refine am_ev.step (pc' := 54) rfl rfl ?_
      refine ax_gf (p' := 57) rfl rfl (S.ob rfl) v5 ?_
      refine am_ev.step (pc' := 58) rfl rfl ?_
      refine fx_add (p' := 59) (e := ((s : Int) + (j : Int))) rfl rfl (by omega) ?_
      refine ax_baload (p' := 60) rfl rfl (S.rd (k := (s + j)) rfl rfl rfl rfl (by omega) (by omega) (B (s + j) (by omega))) ?_
      refine am_ev.step (pc' := 61) rfl rfl ?_
      refine am_ev.step (pc' := 62) rfl rfl ?_
      refine fx_chr (p' := 65) (j := j) rfl (Or.inr (Or.inl ⟨_, rfl⟩)) rfl hi rfl (by omega) rfl rfl (by omega) (by omega) rfl ?_
      refine fx_c_eq_F (pF := 68) rfl (by omega) (by omega) rfl (by omega) ?_
      refine am_ev.step (pc' := 69) rfl rfl ?_
      exact fx_reti rfl rfl rfl
theorem tk_26 {i : Nat} (hi : i < 16) (S : fS h) (B : tb h 42 b L) (hb : tz_r b) (hL : L ≤ 1600) (v1 : h.2.2.2 41 1 = iv L) (v2 : h.2.2.2 41 2 = iv k) (v5 : h.2.2.2 41 5 = iv s) (v6 : h.2.2.2 41 6 = iv e) (hse : s ≤ e ∧ e ≤ L) (hk : 0 ≤ k ∧ k ≤ 100) : (tz_w b s e k i → am_ev (d + 5) 26 0 (am_ent [.ref 41, .ref (7 + i)] 3) [] h (some (iv 1), h)) ∧ (¬ tz_w b s e k i → am_ev (d + 5) 26 0 (am_ent [.ref 41, .ref (7 + i)] 3) [] h (some (iv 0), h)) := by
  have hl := tz_slen hi
  by_cases c1 : k = 1
  · by_cases c2 : e = s + am_slen i
    · obtain ⟨i1, i2⟩ := tk_26a (d := d) hi S B hb hL v1 v5 (by omega) (am_slen i) 0 rfl (Nat.zero_le _)
      have st : ∀ x, am_ev (d + 5) 26 28 [.ref 41, .ref (7 + i), iv ((0 : Nat) : Int)] [] h x → am_ev (d + 5) 26 0 [.ref 41, .ref (7 + i), am_ph] [] h x := fun x q => by
        refine am_ev.step (pc' := 1) rfl rfl ?_
        refine ax_gf (p' := 4) rfl rfl (S.ob rfl) v2 ?_
        refine am_ev.step (pc' := 5) rfl rfl ?_
        refine fx_c_ne_F (pF := 8) rfl (by omega) (by omega) rfl (by omega) ?_
        refine am_ev.step (pc' := 9) rfl rfl ?_
        refine ax_gf (p' := 12) rfl rfl (S.ob rfl) v6 ?_
        refine am_ev.step (pc' := 13) rfl rfl ?_
        refine ax_gf (p' := 16) rfl rfl (S.ob rfl) v5 ?_
        refine fx_sub (p' := 17) (e := ((e : Int) - (s : Int))) rfl rfl (by omega) ?_
        refine am_ev.step (pc' := 18) rfl rfl ?_
        refine fx_slen (p' := 21) rfl (Or.inr (Or.inl ⟨_, rfl⟩)) rfl hi rfl (by omega) rfl rfl ?_
        refine fx_c_eq_T (pT := 26) rfl (by omega) (by omega) rfl (by omega) ?_
        refine am_ev.step (pc' := 27) rfl rfl ?_
        refine am_ev.step (pc' := 28) (ls' := [.ref 41, .ref (7 + i), iv 0]) rfl rfl ?_
        exact q
      exact ⟨fun q => st _ (i1 fun z _ a => q.2.2 z a), fun q => st _ (i2 fun z => q ⟨c1, c2, fun w a => z w (Nat.zero_le _) a⟩)⟩
    · refine ⟨fun q => absurd q.2.1 c2, fun _ => ?_⟩
      show am_ev (d + 5) 26 0 [.ref 41, .ref (7 + i), am_ph] [] h _
      refine am_ev.step (pc' := 1) rfl rfl ?_
      refine ax_gf (p' := 4) rfl rfl (S.ob rfl) v2 ?_
      refine am_ev.step (pc' := 5) rfl rfl ?_
      refine fx_c_ne_F (pF := 8) rfl (by omega) (by omega) rfl (by omega) ?_
      refine am_ev.step (pc' := 9) rfl rfl ?_
      refine ax_gf (p' := 12) rfl rfl (S.ob rfl) v6 ?_
      refine am_ev.step (pc' := 13) rfl rfl ?_
      refine ax_gf (p' := 16) rfl rfl (S.ob rfl) v5 ?_
      refine fx_sub (p' := 17) (e := ((e : Int) - (s : Int))) rfl rfl (by omega) ?_
      refine am_ev.step (pc' := 18) rfl rfl ?_
      refine fx_slen (p' := 21) rfl (Or.inr (Or.inl ⟨_, rfl⟩)) rfl hi rfl (by omega) rfl rfl ?_
      refine fx_c_eq_F (pF := 24) rfl (by omega) (by omega) rfl (by omega) ?_
      refine am_ev.step (pc' := 25) rfl rfl ?_
      exact fx_reti rfl rfl rfl
  · refine ⟨fun q => absurd q.1 c1, fun _ => ?_⟩
    show am_ev (d + 5) 26 0 [.ref 41, .ref (7 + i), am_ph] [] h _
    refine am_ev.step (pc' := 1) rfl rfl ?_
    refine ax_gf (p' := 4) rfl rfl (S.ob rfl) v2 ?_
    refine am_ev.step (pc' := 5) rfl rfl ?_
    refine fx_c_ne_T (pT := 24) rfl (by omega) (by omega) rfl (by omega) ?_
    refine am_ev.step (pc' := 25) rfl rfl ?_
    exact fx_reti rfl rfl rfl
theorem tk_175a {i : Nat} (hi : i < 16) (S : fS h) (B : tb h 80 b L) (hb : tz_r b) (hL : L ≤ 1600) (v4 : h.2.2.2 78 4 = iv s) (hs : s + am_slen i ≤ L) : ∀ (n j : Nat), am_slen i - j = n → j ≤ am_slen i → ((∀ q, j ≤ q → q < am_slen i → b (s + q) = (am_sch i q : Int)) → am_ev (d + 5) 175 32 [.ref 78, .ref (7 + i), iv 1, iv j] [] h (some (iv 1), h)) ∧ (¬ (∀ q, j ≤ q → q < am_slen i → b (s + q) = (am_sch i q : Int)) → am_ev (d + 5) 175 32 [.ref 78, .ref (7 + i), iv 1, iv j] [] h (some (iv 0), h))
  | 0, j, ej, hj => by
    have hl := tz_slen hi
    have e : j = am_slen i := by omega
    refine ⟨fun q => ?_, fun q => absurd (fun q a c => by omega) q⟩
    refine am_ev.step (pc' := 33) rfl rfl ?_
    refine am_ev.step (pc' := 34) rfl rfl ?_
    refine fx_slen (p' := 37) rfl (Or.inr (Or.inl ⟨_, rfl⟩)) rfl hi rfl (by omega) rfl rfl ?_
    refine fx_c_ge_T (pT := 75) rfl (by omega) (by omega) rfl (by omega) ?_
    refine am_ev.step (pc' := 76) rfl rfl ?_
    exact fx_reti rfl rfl rfl
  | n + 1, j, ej, hj => by
    have hl := tz_slen hi
    have hr := hb (s + j)
    have hc := tz_sch hi (show j < am_slen i by omega)
    by_cases c : b (s + j) = (am_sch i j : Int)
    · have st : ∀ x, am_ev (d + 5) 175 32 [.ref 78, .ref (7 + i), iv 1, iv ((j + 1 : Nat) : Int)] [] h x → am_ev (d + 5) 175 32 [.ref 78, .ref (7 + i), iv 1, iv j] [] h x := fun x q => by
        refine am_ev.step (pc' := 33) rfl rfl ?_
        refine am_ev.step (pc' := 34) rfl rfl ?_
        refine fx_slen (p' := 37) rfl (Or.inr (Or.inl ⟨_, rfl⟩)) rfl hi rfl (by omega) rfl rfl ?_
        refine fx_c_ge_F (pF := 40) rfl (by omega) (by omega) rfl (by omega) ?_
        refine am_ev.step (pc' := 41) rfl rfl ?_
        refine fx_z_eq_F (pF := 44) rfl (by omega) rfl (by omega) ?_
        refine am_ev.step (pc' := 45) rfl rfl ?_
        refine ax_gf (p' := 48) rfl rfl (S.ob rfl) (S.rf rfl rfl) ?_
        refine am_ev.step (pc' := 49) rfl rfl ?_
        refine ax_gf (p' := 52) rfl rfl (S.ob rfl) v4 ?_
        refine am_ev.step (pc' := 53) rfl rfl ?_
        refine fx_add (p' := 54) (e := ((s : Int) + (j : Int))) rfl rfl (by omega) ?_
        refine ax_baload (p' := 55) rfl rfl (S.rd (k := (s + j)) rfl rfl rfl rfl (by omega) (by omega) (B (s + j) (by omega))) ?_
        refine am_ev.step (pc' := 56) rfl rfl ?_
        refine am_ev.step (pc' := 57) rfl rfl ?_
        refine fx_chr (p' := 60) (j := j) rfl (Or.inr (Or.inl ⟨_, rfl⟩)) rfl hi rfl (by omega) rfl rfl (by omega) (by omega) rfl ?_
        refine fx_c_ne_F (pF := 63) rfl (by omega) (by omega) rfl (by omega) ?_
        refine am_ev.step (pc' := 64) rfl rfl ?_
        refine am_ev.step (pc' := 68) rfl rfl ?_
        refine am_ev.step (pc' := 69) (ls' := [.ref 78, .ref (7 + i), iv 1, iv ((j : Int))]) rfl rfl ?_
        refine fx_inc (p' := 72) (e := ((j : Int) + 1)) (ls' := [.ref 78, .ref (7 + i), iv 1, iv ((j : Int) + 1)]) rfl rfl rfl (by omega) rfl ?_
        refine am_ev.step (pc' := 32) rfl rfl ?_
        rw [tz_nc]
        exact q
      obtain ⟨i1, i2⟩ := tk_175a hi S B hb hL v4 hs n (j + 1) (by omega) (by omega)
      refine ⟨fun q => st _ (i1 fun z a c => q z (by omega) c), fun q => st _ (i2 fun z => q fun w a c2 => ?_)⟩
      by_cases ez : w = j
      · rw [ez]
        exact c
      · exact z w (by omega) c2
    · refine ⟨fun q => absurd (q j (Nat.le_refl _) (by omega)) c, fun _ => ?_⟩
      refine am_ev.step (pc' := 33) rfl rfl ?_
      refine am_ev.step (pc' := 34) rfl rfl ?_
      refine fx_slen (p' := 37) rfl (Or.inr (Or.inl ⟨_, rfl⟩)) rfl hi rfl (by omega) rfl rfl ?_
      refine fx_c_ge_F (pF := 40) rfl (by omega) (by omega) rfl (by omega) ?_
      refine am_ev.step (pc' := 41) rfl rfl ?_
      refine fx_z_eq_F (pF := 44) rfl (by omega) rfl (by omega) ?_
      refine am_ev.step (pc' := 45) rfl rfl ?_
      refine ax_gf (p' := 48) rfl rfl (S.ob rfl) (S.rf rfl rfl) ?_
      refine am_ev.step (pc' := 49) rfl rfl ?_
      refine ax_gf (p' := 52) rfl rfl (S.ob rfl) v4 ?_
      refine am_ev.step (pc' := 53) rfl rfl ?_
      refine fx_add (p' := 54) (e := ((s : Int) + (j : Int))) rfl rfl (by omega) ?_
      refine ax_baload (p' := 55) rfl rfl (S.rd (k := (s + j)) rfl rfl rfl rfl (by omega) (by omega) (B (s + j) (by omega))) ?_
      refine am_ev.step (pc' := 56) rfl rfl ?_
      refine am_ev.step (pc' := 57) rfl rfl ?_
      refine fx_chr (p' := 60) (j := j) rfl (Or.inr (Or.inl ⟨_, rfl⟩)) rfl hi rfl (by omega) rfl rfl (by omega) (by omega) rfl ?_
      refine fx_c_ne_T (pT := 67) rfl (by omega) (by omega) rfl (by omega) ?_
      refine am_ev.step (pc' := 68) rfl rfl ?_
      refine am_ev.step (pc' := 69) (ls' := [.ref 78, .ref (7 + i), iv 0, iv ((j : Int))]) rfl rfl ?_
      refine fx_inc (p' := 72) (e := ((j : Int) + 1)) (ls' := [.ref 78, .ref (7 + i), iv 0, iv ((j : Int) + 1)]) rfl rfl rfl (by omega) rfl ?_
      refine am_ev.step (pc' := 32) rfl rfl ?_
      refine am_ev.step (pc' := 33) rfl rfl ?_
      refine am_ev.step (pc' := 34) rfl rfl ?_
      refine fx_slen (p' := 37) rfl (Or.inr (Or.inl ⟨_, rfl⟩)) rfl hi rfl (by omega) rfl rfl ?_
      refine fx_c_ge (pT := 75) (pF := 40) rfl (by omega) (by omega) rfl rfl (fun k1 => ?_) (fun k1 => ?_)
      · refine am_ev.step (pc' := 76) rfl rfl ?_
        exact fx_reti rfl rfl rfl
      · refine am_ev.step (pc' := 41) rfl rfl ?_
        refine fx_z_eq_T (pT := 75) rfl (by omega) rfl (by omega) ?_
        refine am_ev.step (pc' := 76) rfl rfl ?_
        exact fx_reti rfl rfl rfl
theorem tk_175 {i : Nat} (hi : i < 16) (S : fS h) (B : tb h 80 b L) (hb : tz_r b) (hL : L ≤ 1600) (v6 : h.2.2.2 78 6 = iv (tH k)) (v4 : h.2.2.2 78 4 = iv s) (v5 : h.2.2.2 78 5 = iv e) (hse : s ≤ e ∧ e ≤ L) (hk : 0 ≤ k ∧ k ≤ 100) : (tz_w b s e k i → am_ev (d + 5) 175 0 (am_ent [.ref 78, .ref (7 + i)] 4) [] h (some (iv 1), h)) ∧ (¬ tz_w b s e k i → am_ev (d + 5) 175 0 (am_ent [.ref 78, .ref (7 + i)] 4) [] h (some (iv 0), h)) := by
  have hl := tz_slen hi
  have tk : (k = 1 ∧ tH k = 1) ∨ (k ≠ 1 ∧ tH k ≠ 1 ∧ 0 ≤ tH k ∧ tH k ≤ 4) := by
    by_cases c1 : k = 1
    · rw [c1]
      exact Or.inl ⟨rfl, rfl⟩
    · refine Or.inr ⟨c1, ?_⟩
      unfold tH
      repeat' split
      all_goals omega
  by_cases c1 : k = 1
  · by_cases c2 : e = s + am_slen i
    · obtain ⟨i1, i2⟩ := tk_175a (d := d) hi S B hb hL v4 (by omega) (am_slen i) 0 rfl (Nat.zero_le _)
      have st : ∀ x, am_ev (d + 5) 175 32 [.ref 78, .ref (7 + i), iv 1, iv ((0 : Nat) : Int)] [] h x → am_ev (d + 5) 175 0 [.ref 78, .ref (7 + i), am_ph, am_ph] [] h x := fun x q => by
        refine am_ev.step (pc' := 1) rfl rfl ?_
        refine ax_gf (p' := 4) rfl rfl (S.ob rfl) v6 ?_
        refine am_ev.step (pc' := 5) rfl rfl ?_
        refine fx_c_ne_F (pF := 8) rfl (by omega) (by omega) rfl (by omega) ?_
        refine am_ev.step (pc' := 9) rfl rfl ?_
        refine ax_gf (p' := 12) rfl rfl (S.ob rfl) v5 ?_
        refine am_ev.step (pc' := 13) rfl rfl ?_
        refine ax_gf (p' := 16) rfl rfl (S.ob rfl) v4 ?_
        refine fx_sub (p' := 17) (e := ((e : Int) - (s : Int))) rfl rfl (by omega) ?_
        refine am_ev.step (pc' := 18) rfl rfl ?_
        refine fx_slen (p' := 21) rfl (Or.inr (Or.inl ⟨_, rfl⟩)) rfl hi rfl (by omega) rfl rfl ?_
        refine fx_c_ne_F (pF := 24) rfl (by omega) (by omega) rfl (by omega) ?_
        refine am_ev.step (pc' := 25) rfl rfl ?_
        refine am_ev.step (pc' := 29) rfl rfl ?_
        refine am_ev.step (pc' := 30) (ls' := [.ref 78, .ref (7 + i), iv 1, am_ph]) rfl rfl ?_
        refine am_ev.step (pc' := 31) rfl rfl ?_
        refine am_ev.step (pc' := 32) (ls' := [.ref 78, .ref (7 + i), iv 1, iv 0]) rfl rfl ?_
        exact q
      exact ⟨fun q => st _ (i1 fun z _ a => q.2.2 z a), fun q => st _ (i2 fun z => q ⟨c1, c2, fun w a => z w (Nat.zero_le _) a⟩)⟩
    · refine ⟨fun q => absurd q.2.1 c2, fun _ => ?_⟩
      show am_ev (d + 5) 175 0 [.ref 78, .ref (7 + i), am_ph, am_ph] [] h _
      refine am_ev.step (pc' := 1) rfl rfl ?_
      refine ax_gf (p' := 4) rfl rfl (S.ob rfl) v6 ?_
      refine am_ev.step (pc' := 5) rfl rfl ?_
      refine fx_c_ne_F (pF := 8) rfl (by omega) (by omega) rfl (by omega) ?_
      refine am_ev.step (pc' := 9) rfl rfl ?_
      refine ax_gf (p' := 12) rfl rfl (S.ob rfl) v5 ?_
      refine am_ev.step (pc' := 13) rfl rfl ?_
      refine ax_gf (p' := 16) rfl rfl (S.ob rfl) v4 ?_
      refine fx_sub (p' := 17) (e := ((e : Int) - (s : Int))) rfl rfl (by omega) ?_
      refine am_ev.step (pc' := 18) rfl rfl ?_
      refine fx_slen (p' := 21) rfl (Or.inr (Or.inl ⟨_, rfl⟩)) rfl hi rfl (by omega) rfl rfl ?_
      refine fx_c_ne_T (pT := 28) rfl (by omega) (by omega) rfl (by omega) ?_
      refine am_ev.step (pc' := 29) rfl rfl ?_
      refine am_ev.step (pc' := 30) (ls' := [.ref 78, .ref (7 + i), iv 0, am_ph]) rfl rfl ?_
      refine am_ev.step (pc' := 31) rfl rfl ?_
      refine am_ev.step (pc' := 32) (ls' := [.ref 78, .ref (7 + i), iv 0, iv 0]) rfl rfl ?_
      refine am_ev.step (pc' := 33) rfl rfl ?_
      refine am_ev.step (pc' := 34) rfl rfl ?_
      refine fx_slen (p' := 37) rfl (Or.inr (Or.inl ⟨_, rfl⟩)) rfl hi rfl (by omega) rfl rfl ?_
      refine fx_c_ge (pT := 75) (pF := 40) rfl (by omega) (by omega) rfl rfl (fun k1 => ?_) (fun k1 => ?_)
      · refine am_ev.step (pc' := 76) rfl rfl ?_
        exact fx_reti rfl rfl rfl
      · refine am_ev.step (pc' := 41) rfl rfl ?_
        refine fx_z_eq_T (pT := 75) rfl (by omega) rfl (by omega) ?_
        refine am_ev.step (pc' := 76) rfl rfl ?_
        exact fx_reti rfl rfl rfl
  · refine ⟨fun q => absurd q.1 c1, fun _ => ?_⟩
    show am_ev (d + 5) 175 0 [.ref 78, .ref (7 + i), am_ph, am_ph] [] h _
    refine am_ev.step (pc' := 1) rfl rfl ?_
    refine ax_gf (p' := 4) rfl rfl (S.ob rfl) v6 ?_
    refine am_ev.step (pc' := 5) rfl rfl ?_
    refine fx_c_ne_T (pT := 28) rfl (by omega) (by omega) rfl (by omega) ?_
    refine am_ev.step (pc' := 29) rfl rfl ?_
    refine am_ev.step (pc' := 30) (ls' := [.ref 78, .ref (7 + i), iv 0, am_ph]) rfl rfl ?_
    refine am_ev.step (pc' := 31) rfl rfl ?_
    refine am_ev.step (pc' := 32) (ls' := [.ref 78, .ref (7 + i), iv 0, iv 0]) rfl rfl ?_
    refine am_ev.step (pc' := 33) rfl rfl ?_
    refine am_ev.step (pc' := 34) rfl rfl ?_
    refine fx_slen (p' := 37) rfl (Or.inr (Or.inl ⟨_, rfl⟩)) rfl hi rfl (by omega) rfl rfl ?_
    refine fx_c_ge (pT := 75) (pF := 40) rfl (by omega) (by omega) rfl rfl (fun k1 => ?_) (fun k1 => ?_)
    · refine am_ev.step (pc' := 76) rfl rfl ?_
      exact fx_reti rfl rfl rfl
    · refine am_ev.step (pc' := 41) rfl rfl ?_
      refine fx_z_eq_T (pT := 75) rfl (by omega) rfl (by omega) ?_
      refine am_ev.step (pc' := 76) rfl rfl ?_
      exact fx_reti rfl rfl rfl
theorem tk_30a (S : fS h) (B : tb h 42 b L) (hL : L ≤ 1600) (v1 : h.2.2.2 41 1 = iv L) (v6 : h.2.2.2 41 6 = iv e) (he : e ≤ L) : ∀ (n j : Nat) (v : Int), e - j = n → j ≤ e → am_ev d 30 7 [.ref 41, iv v, iv j] [] h (some (iv (tz_nu b n j v)), h)
  | 0, j, v, ej, hj => by
    show am_ev d 30 7 [.ref 41, iv v, iv j] [] h (some (iv v), h)
    refine am_ev.step (pc' := 8) rfl rfl ?_
    refine am_ev.step (pc' := 9) rfl rfl ?_
    refine ax_gf (p' := 12) rfl rfl (S.ob rfl) v6 ?_
    refine fx_c_ge_T (pT := 44) rfl (by omega) (by omega) rfl (by omega) ?_
    refine am_ev.step (pc' := 45) rfl rfl ?_
    exact fx_reti rfl rfl rfl
  | n + 1, j, v, ej, hj => by
    refine am_ev.step (pc' := 8) rfl rfl ?_
    refine am_ev.step (pc' := 9) rfl rfl ?_
    refine ax_gf (p' := 12) rfl rfl (S.ob rfl) v6 ?_
    refine fx_c_ge_F (pF := 15) rfl (by omega) (by omega) rfl (by omega) ?_
    refine am_ev.step (pc' := 16) rfl rfl ?_
    refine am_ev.step (pc' := 17) rfl rfl ?_
    refine ax_gf (p' := 20) rfl rfl (S.ob rfl) v1 ?_
    refine fx_c_ge_F (pF := 23) rfl (by omega) (by omega) rfl (by omega) ?_
    refine am_ev.step (pc' := 24) rfl rfl ?_
    refine fx_bip (p' := 26) rfl rfl rfl ?_
    refine fx_mul (p' := 27) (e := (10 * v)) rfl rfl (by omega) ?_
    refine am_ev.step (pc' := 28) rfl rfl ?_
    refine ax_gf (p' := 31) rfl rfl (S.ob rfl) (S.rf rfl rfl) ?_
    refine am_ev.step (pc' := 32) rfl rfl ?_
    refine ax_baload (p' := 33) rfl rfl (S.rd (k := j) rfl rfl rfl rfl rfl (by omega) (B j (by omega))) ?_
    refine fx_add (p' := 34) (e := (10 * v + (b j))) rfl rfl (by omega) ?_
    refine fx_bip (p' := 36) rfl rfl rfl ?_
    refine fx_sub (p' := 37) (e := (10 * v + (b j) - 48)) rfl rfl (by omega) ?_
    refine am_ev.step (pc' := 38) (ls' := [.ref 41, iv (10 * v + (b j) - 48), iv ((j : Int))]) rfl rfl ?_
    refine fx_inc (p' := 41) (e := ((j : Int) + 1)) (ls' := [.ref 41, iv (10 * v + (b j) - 48), iv ((j : Int) + 1)]) rfl rfl rfl (by omega) rfl ?_
    refine am_ev.step (pc' := 7) rfl rfl ?_
    rw [tz_nc]
    exact tk_30a S B hL v1 v6 he n (j + 1) _ (by omega) (by omega)
theorem tk_30 (S : fS h) (B : tb h 42 b L) (hL : L ≤ 1600) (v1 : h.2.2.2 41 1 = iv L) (v5 : h.2.2.2 41 5 = iv s) (v6 : h.2.2.2 41 6 = iv e) (hse : s ≤ e ∧ e ≤ L) : am_ev d 30 0 (am_ent [.ref 41] 3) [] h (some (iv (tz_nu b (e - s) s 0)), h) := by
  show am_ev d 30 0 [.ref 41, am_ph, am_ph] [] h _
  refine am_ev.step (pc' := 1) rfl rfl ?_
  refine am_ev.step (pc' := 2) (ls' := [.ref 41, iv 0, am_ph]) rfl rfl ?_
  refine am_ev.step (pc' := 3) rfl rfl ?_
  refine ax_gf (p' := 6) rfl rfl (S.ob rfl) v5 ?_
  refine am_ev.step (pc' := 7) (ls' := [.ref 41, iv 0, iv ((s : Int))]) rfl rfl ?_
  exact tk_30a S B hL v1 v6 hse.2 (e - s) s 0 rfl hse.1
end TKX
end
section
/-! BITS (the family bt of the kit's laws, begun from there) -/
def bt (x : Int32) (i : Nat) : Bool := x.toBitVec.getLsbD i
theorem b_ext {x y : Int32} (h : ∀ i, i < 32 → bt x i = bt y i) : x = y := Int32.toBitVec_inj.mp (BitVec.eq_of_getLsbD_eq (fun i hi => h i hi))
theorem b_or (x y : Int32) (i : Nat) : bt (x ||| y) i = (bt x i || bt y i) := by unfold bt; rw [Int32.toBitVec_or, BitVec.getLsbD_or]
theorem b_and (x y : Int32) (i : Nat) : bt (x &&& y) i = (bt x i && bt y i) := by unfold bt; rw [Int32.toBitVec_and, BitVec.getLsbD_and]
theorem b_0 (i : Nat) : bt 0 i = false := BitVec.getLsbD_zero
theorem s_l : ∀ n, n < 32 → ((Int32.ofNat n &&& 31).toBitVec.smod 32).toNat = n := by decide +kernel
theorem s_u : ∀ n, n < 32 → (((Int32.ofNat n).toUInt32 &&& Int32.toUInt32 31).toBitVec % 32).toNat = n := by decide +kernel
theorem b_shl (n : Nat) (hn : n < 32) (x : Int32) {i : Nat} (hi : i < 32) : bt (x <<< (Int32.ofNat n &&& 31)) i = (decide (n ≤ i) && bt x (i - n)) := by
  unfold bt
  rw [Int32.toBitVec_shiftLeft]
  show (x.toBitVec <<< ((Int32.ofNat n &&& 31).toBitVec.smod 32).toNat).getLsbD i = _
  rw [s_l n hn, BitVec.getLsbD_shiftLeft]
  rcases Nat.lt_or_ge i n with h | h
  · simp [h, Nat.not_le.mpr h]
  · simp [hi, h, Nat.not_lt.mpr h]
theorem b_ushr (n : Nat) (hn : n < 32) (x : Int32) (i : Nat) : bt ((x.toUInt32 >>> ((Int32.ofNat n).toUInt32 &&& Int32.toUInt32 31)).toInt32) i = bt x (n + i) := by
  show (x.toUInt32 >>> ((Int32.ofNat n).toUInt32 &&& Int32.toUInt32 31)).toBitVec.getLsbD i = x.toUInt32.toBitVec.getLsbD (n + i)
  rw [UInt32.toBitVec_shiftRight]
  show (x.toUInt32.toBitVec >>> (((Int32.ofNat n).toUInt32 &&& Int32.toUInt32 31).toBitVec % 32).toNat).getLsbD i = _
  rw [s_u n hn, BitVec.getLsbD_ushiftRight]
theorem b_1 : ∀ i, i < 32 → bt (Int32.ofInt 1) i = decide (i = 0) := by decide +kernel
theorem b_and1 (y : Int32) : y &&& Int32.ofInt 1 = 0 ↔ bt y 0 = false := by
  refine ⟨fun z => ?_, fun z => b_ext fun i hi => ?_⟩
  · have k := congrArg (fun u => bt u 0) z
    simp only [b_and, b_0, b_1 0 (by decide)] at k
    simpa using k
  · rw [b_and, b_0, b_1 i hi]
    by_cases e : i = 0
    · rw [e, z]
      rfl
    · rw [decide_eq_false e, Bool.and_false]
theorem b_set {t : Int32} {c : Nat} (hc : c < 31) {i : Nat} (hi : i < 31) : bt (t ||| (Int32.ofInt 1 <<< (Int32.ofInt (c : Int) &&& 31))) i = (bt t i || decide (i = c)) := by
  rw [b_or, Int32.ofInt_eq_ofNat, b_shl c (by omega) _ (by omega), b_1 (i - c) (by omega)]
  congr 1
  by_cases e : i = c
  · subst e
    simp
  · by_cases l : c ≤ i
    · have : ¬ i - c = 0 := by omega
      simp [e, this]
    · simp [e, l]
section TKD
variable {d : Nat} {h : am_H}
theorem tk_31 {t : Int32} {c : Nat} (hc : c < 31) : (bt t c = true → am_ev d 31 0 (am_ent [.int t, iv c] 2) [] h (some (iv 1), h)) ∧ (bt t c = false → am_ev d 31 0 (am_ent [.int t, iv c] 2) [] h (some (iv 0), h)) := by
  have key : (t.toUInt32 >>> ((Int32.ofInt (c : Int)).toUInt32 &&& Int32.toUInt32 31)).toInt32 &&& Int32.ofInt 1 = 0 ↔ bt t c = false := by
    rw [b_and1, Int32.ofInt_eq_ofNat, b_ushr c (by omega), Nat.add_zero]
  have st : ∀ x, am_ev d 31 5 [.int t, iv c] [.int ((t.toUInt32 >>> ((Int32.ofInt (c : Int)).toUInt32 &&& Int32.toUInt32 31)).toInt32 &&& Int32.ofInt 1)] h x → am_ev d 31 0 (am_ent [.int t, iv c] 2) [] h x := fun x q => by
    show am_ev d 31 0 [.int t, iv c] [] h x
    refine am_ev.step (pc' := 1) rfl rfl ?_
    refine am_ev.step (pc' := 2) rfl rfl ?_
    refine am_ev.step (pc' := 3) rfl rfl ?_
    refine am_ev.step (pc' := 4) rfl rfl ?_
    refine am_ev.step (pc' := 5) rfl rfl ?_
    exact q
  refine ⟨fun q => st _ ?_, fun q => st _ ?_⟩
  · refine am_ev.step (pc' := 8) rfl (if_neg (fun z => by rw [key.1 z] at q; cases q)) ?_
    refine am_ev.step (pc' := 9) rfl rfl ?_
    refine am_ev.step (pc' := 13) rfl rfl ?_
    exact fx_reti rfl rfl rfl
  · refine am_ev.step (pc' := 12) rfl (if_pos (key.2 q)) ?_
    refine am_ev.step (pc' := 13) rfl rfl ?_
    exact fx_reti rfl rfl rfl
end TKD
/-! TOKENS AND THEIR NUMBERS, by names -/
def tz_t (b : Nat → Int) (L p s e : Nat) (k v : Int) : Prop := p ≤ L ∧ tS b L p = s ∧ tE b L s = e ∧ tK b L s = k ∧ tz_nu b (e - s) s 0 = v
theorem tz_t_ex {b : Nat → Int} {L p : Nat} (h : p ≤ L) : ∃ s e k v, tz_t b L p s e k v := ⟨_, _, _, _, h, rfl, rfl, rfl, rfl⟩
theorem tK_b {b : Nat → Int} {L s : Nat} (hb : tz_r b) : (0 ≤ tK b L s ∧ tK b L s ≤ 59) ∧ (tK b L s = 2 → tE b L s ≤ s + 5 ∧ ∀ i, s ≤ i → i < tE b L s → tz_di (b i) = true) ∧ (tK b L s = 0 → L ≤ s) ∧ (tK b L s = 0 ∨ s < tE b L s ∨ L ≤ s) := by
  have hr := hb s
  by_cases c1 : L ≤ s
  · have hK : tK b L s = 0 := if_pos c1
    rw [hK]
    exact ⟨by omega, fun z => by omega, fun _ => c1, Or.inl rfl⟩
  · by_cases c2 : tz_le (b s) = true
    · have hE : tE b L s = tz_sp tz_le b (L - s) s := by
        unfold tE
        rw [if_neg c1, if_pos c2]
      have hK : tK b L s = 1 ∨ tK b L s = 3 := by
        unfold tK
        rw [if_neg c1, if_pos c2]
        split
        · exact Or.inl rfl
        · exact Or.inr rfl
      have e1 : L - s = (L - s - 1) + 1 := by omega
      have e2 := (tz_sp_le (c := tz_le) (b := b) (L - s - 1) (s + 1)).1
      rw [e1, tz_sp_s c2] at hE
      exact ⟨by omega, fun z => by omega, fun z => by omega, Or.inr (Or.inl (by omega))⟩
    · by_cases c4 : tz_di (b s) = true
      · have hE : tE b L s = tz_sp tz_di b (L - s) s := by
          unfold tE
          rw [if_neg c1, if_neg c2, if_pos c4]
        have hK : (tK b L s = 2 ∧ tE b L s ≤ s + 5) ∨ tK b L s = 3 := by
          rw [hE]
          unfold tK
          rw [if_neg c1, if_neg c2, if_pos c4]
          split
          · exact Or.inl ⟨rfl, by assumption⟩
          · exact Or.inr rfl
        have e1 : L - s = (L - s - 1) + 1 := by omega
        have e2 := (tz_sp_le (c := tz_di) (b := b) (L - s - 1) (s + 1)).1
        have e3 : s < tE b L s := by
          rw [hE, e1, tz_sp_s c4]
          omega
        refine ⟨by omega, fun z => ⟨by omega, fun i h1 h2 => ?_⟩, fun z => by omega, Or.inr (Or.inl e3)⟩
        rw [hE] at h2
        exact tz_sp_in (L - s) s i h1 h2
      · have hE : tE b L s = s + 1 := by
          unfold tE
          rw [if_neg c1, if_neg c2, if_neg c4]
        have hK : (tK b L s = b s ∧ (b s = 59 ∨ b s = 47 ∨ b s = 43)) ∨ tK b L s = 3 := by
          unfold tK
          rw [if_neg c1, if_neg c2, if_neg c4]
          split
          · exact Or.inl ⟨rfl, by assumption⟩
          · exact Or.inr rfl
        exact ⟨by omega, fun z => by omega, fun z => by omega, Or.inr (Or.inl (by omega))⟩
theorem tz_t.f {b : Nat → Int} {L p s e : Nat} {k v : Int} (hb : tz_r b) (t : tz_t b L p s e k v) : p ≤ s ∧ s ≤ e ∧ e ≤ L ∧ 0 ≤ k ∧ k ≤ 59 ∧ (k = 2 → 0 ≤ v ∧ v ≤ 99999) ∧ (k = 0 ∨ s < e) := by
  obtain ⟨hp, rfl, rfl, rfl, rfl⟩ := t
  have a1 := tS_le b hp
  have a2 := tE_le b a1.2
  obtain ⟨b1, b2, b3, b4⟩ := tK_b (L := L) (s := tS b L p) hb
  refine ⟨a1.1, a2.1, a2.2, b1.1, b1.2, fun z => ?_, ?_⟩
  · obtain ⟨g1, g2⟩ := b2 z
    have k := tz_nu_b (b := b) (tE b L (tS b L p) - tS b L p) (tS b L p) 0 0 (by omega) (by omega) (by omega) (fun i h1 h2 => g2 i h1 (by omega))
    have m : (10 : Int) ^ (tE b L (tS b L p) - tS b L p) ≤ 10 ^ 5 := by
      have : tE b L (tS b L p) - tS b L p ≤ 5 := by omega
      exact_mod_cast Nat.pow_le_pow_right (by decide : 0 < 10) this
    omega
  · rcases b4 with z | z | z
    · exact Or.inl z
    · exact Or.inr z
    · exact Or.inl (if_pos z)
theorem tz_wx {b : Nat → Int} {s e : Nat} {k : Int} {i j : Nat} (hi : i < 16) (hj : j < 16) (a : tz_w b s e k i) (c : tz_w b s e k j) : i = j := by
  have key : ∀ i, i < 16 → ∀ j, j < 16 → am_slen i = am_slen j → (∀ q, q < am_slen i → am_sch i q = am_sch j q) → i = j := by decide +kernel
  have el : am_slen i = am_slen j := by
    have := a.2.1
    have := c.2.1
    omega
  refine key i hi j hj el fun q hq => ?_
  have x1 := a.2.2 q hq
  have x2 := c.2.2 q (by omega)
  omega
abbrev FL (h : am_H) (f : Int) (s : Nat) : am_H := am_put (am_put h 41 3 (iv f)) 41 4 (iv s)
/-- the places of the program's tape -/
def tp (h : am_H) (b : Nat → Int) (L : Nat) : Prop := fS h ∧ tb h 42 b L ∧ h.2.2.2 41 1 = iv L
section TKE
variable {d : Nat} {h : am_H} {b : Nat → Int} {L p s e : Nat} {k v : Int}
theorem tk_21w (S : fS h) (B : tb h 42 b L) (hb : tz_r b) (hL : L ≤ 1600) (v1 : h.2.2.2 41 1 = iv L) (v6 : h.2.2.2 41 6 = iv p) (t : tz_t b L p s e k v) : am_ev (d + 1) 21 0 (am_ent [.ref 41] 2) [] h (none, T1 h s e k) := by
  obtain ⟨hp, rfl, rfl, rfl, -⟩ := t
  exact tk_21 S B hb hL v1 v6 hp
theorem tk_29 {f : Int} (S : fS h) (v5 : h.2.2.2 41 5 = iv s) : am_ev d 29 0 (am_ent [.ref 41, iv f] 2) [] h (some (iv 0), FL h f s) := by
  show am_ev d 29 0 [.ref 41, iv f] [] h _
  refine am_ev.step (pc' := 1) rfl rfl ?_
  refine am_ev.step (pc' := 2) rfl rfl ?_
  refine ax_pf (p' := 5) rfl rfl (S.ob rfl) rfl ?_
  refine am_ev.step (pc' := 6) rfl rfl ?_
  refine am_ev.step (pc' := 7) rfl rfl ?_
  refine ax_gf (p' := 10) rfl rfl (fO (S.ob rfl)) (ax_put_o (Or.inr (by decide)) v5) ?_
  refine ax_pf (p' := 13) rfl rfl (fO (S.ob rfl)) rfl ?_
  refine am_ev.step (pc' := 14) rfl rfl ?_
  exact fx_reti rfl rfl rfl
theorem tk_30w (S : fS h) (B : tb h 42 b L) (hb : tz_r b) (hL : L ≤ 1600) (v1 : h.2.2.2 41 1 = iv L) (v5 : h.2.2.2 41 5 = iv s) (v6 : h.2.2.2 41 6 = iv e) (t : tz_t b L p s e k v) : am_ev d 30 0 (am_ent [.ref 41] 3) [] h (some (iv v), h) := by
  have f := t.f hb
  obtain ⟨hp, rfl, rfl, rfl, rfl⟩ := t
  exact tk_30 S B hL v1 v5 v6 ⟨f.2.1, f.2.2.1⟩
theorem tk_28a {lo hi : Int} (r : -100 ≤ lo ∧ lo ≤ 100000 ∧ -100 ≤ hi ∧ hi ≤ 100000) (S : fS h) (B : tb h 42 b L) (hb : tz_r b) (hL : L ≤ 1600) (v1 : h.2.2.2 41 1 = iv L) (v6 : h.2.2.2 41 6 = iv p) (t : tz_t b L p s e k v) (q : k ≠ 2) : am_ev (d + 2) 28 0 (am_ent [.ref 41, iv lo, iv hi] 4) [] h (some (iv 0), FL (T1 h s e k) 1 s) := by
  have f := t.f hb
  show am_ev (d + 2) 28 0 [.ref 41, iv lo, iv hi, am_ph] [] h _
  refine am_ev.step (pc' := 1) rfl rfl ?_
  refine ax_call (z := 21) (p' := 4) (as := [_]) rfl (Or.inr (Or.inl ⟨_, rfl⟩)) rfl rfl rfl rfl rfl rfl (S.ob rfl) rfl (tk_21w S B hb hL v1 v6 t) rfl ?_
  refine am_ev.step (pc' := 5) rfl rfl ?_
  refine ax_gf (p' := 8) rfl rfl (fO (fO (fO (S.ob rfl)))) (ax_put_s _ _ _) ?_
  refine am_ev.step (pc' := 9) rfl rfl ?_
  refine fx_c_eq_F (pF := 12) rfl (by omega) (by omega) rfl (by omega) ?_
  refine am_ev.step (pc' := 13) rfl rfl ?_
  refine am_ev.step (pc' := 14) rfl rfl ?_
  refine ax_call (z := 29) (p' := 17) (as := [_, _]) rfl (Or.inr (Or.inl ⟨_, rfl⟩)) rfl rfl rfl rfl rfl rfl (fO (fO (fO (S.ob rfl)))) rfl (tk_29 (s := s) (((S.po rfl rfl).po rfl rfl).po rfl rfl) (ax_put_o (Or.inr (by decide)) (ax_put_o (Or.inr (by decide)) (ax_put_s _ _ _)))) rfl ?_
  exact fx_reti rfl rfl rfl
theorem tk_28b {lo hi : Int} (r : -100 ≤ lo ∧ lo ≤ 100000 ∧ -100 ≤ hi ∧ hi ≤ 100000) (S : fS h) (B : tb h 42 b L) (hb : tz_r b) (hL : L ≤ 1600) (v1 : h.2.2.2 41 1 = iv L) (v6 : h.2.2.2 41 6 = iv p) (t : tz_t b L p s e k v) (q : k = 2 ∧ ¬ (lo ≤ v ∧ v ≤ hi)) : am_ev (d + 2) 28 0 (am_ent [.ref 41, iv lo, iv hi] 4) [] h (some (iv 0), FL (T1 h s e k) 2 s) := by
  have f := t.f hb
  show am_ev (d + 2) 28 0 [.ref 41, iv lo, iv hi, am_ph] [] h _
  refine am_ev.step (pc' := 1) rfl rfl ?_
  refine ax_call (z := 21) (p' := 4) (as := [_]) rfl (Or.inr (Or.inl ⟨_, rfl⟩)) rfl rfl rfl rfl rfl rfl (S.ob rfl) rfl (tk_21w S B hb hL v1 v6 t) rfl ?_
  refine am_ev.step (pc' := 5) rfl rfl ?_
  refine ax_gf (p' := 8) rfl rfl (fO (fO (fO (S.ob rfl)))) (ax_put_s _ _ _) ?_
  refine am_ev.step (pc' := 9) rfl rfl ?_
  refine fx_c_eq_T (pT := 18) rfl (by omega) (by omega) rfl (by omega) ?_
  refine am_ev.step (pc' := 19) rfl rfl ?_
  refine ax_call (z := 30) (p' := 22) (as := [_]) rfl (Or.inr (Or.inl ⟨_, rfl⟩)) rfl rfl rfl rfl rfl rfl (fO (fO (fO (S.ob rfl)))) rfl (tk_30w (((S.po rfl rfl).po rfl rfl).po rfl rfl) (((B.put (by decide)).put (by decide)).put (by decide)) hb hL (ax_put_o (Or.inr (by decide)) (ax_put_o (Or.inr (by decide)) (ax_put_o (Or.inr (by decide)) v1))) (ax_put_o (Or.inr (by decide)) (ax_put_o (Or.inr (by decide)) (ax_put_s _ _ _))) (ax_put_o (Or.inr (by decide)) (ax_put_s _ _ _)) t) rfl ?_
  refine am_ev.step (pc' := 23) (ls' := [.ref 41, iv (lo), iv (hi), iv (v)]) rfl rfl ?_
  refine am_ev.step (pc' := 24) rfl rfl ?_
  refine am_ev.step (pc' := 25) rfl rfl ?_
  refine fx_c_lt (pT := 33) (pF := 28) rfl (by omega) (by omega) rfl rfl (fun c1 => ?_) (fun c1 => ?_)
  · refine am_ev.step (pc' := 34) rfl rfl ?_
    refine am_ev.step (pc' := 35) rfl rfl ?_
    refine ax_call (z := 29) (p' := 38) (as := [_, _]) rfl (Or.inr (Or.inl ⟨_, rfl⟩)) rfl rfl rfl rfl rfl rfl (fO (fO (fO (S.ob rfl)))) rfl (tk_29 (s := s) (((S.po rfl rfl).po rfl rfl).po rfl rfl) (ax_put_o (Or.inr (by decide)) (ax_put_o (Or.inr (by decide)) (ax_put_s _ _ _)))) rfl ?_
    refine fx_z_eq_T (pT := 45) rfl (by omega) rfl (by omega) ?_
    refine am_ev.step (pc' := 46) rfl rfl ?_
    exact fx_reti rfl rfl rfl
  · refine am_ev.step (pc' := 29) rfl rfl ?_
    refine am_ev.step (pc' := 30) rfl rfl ?_
    refine fx_c_le (pT := 41) (pF := 33) rfl (by omega) (by omega) rfl rfl (fun c2 => ?_) (fun c2 => ?_)
    · refine am_ev.step (pc' := 42) rfl rfl ?_
      refine am_ev.step (pc' := 46) rfl rfl ?_
      exfalso
      omega
    · refine am_ev.step (pc' := 34) rfl rfl ?_
      refine am_ev.step (pc' := 35) rfl rfl ?_
      refine ax_call (z := 29) (p' := 38) (as := [_, _]) rfl (Or.inr (Or.inl ⟨_, rfl⟩)) rfl rfl rfl rfl rfl rfl (fO (fO (fO (S.ob rfl)))) rfl (tk_29 (s := s) (((S.po rfl rfl).po rfl rfl).po rfl rfl) (ax_put_o (Or.inr (by decide)) (ax_put_o (Or.inr (by decide)) (ax_put_s _ _ _)))) rfl ?_
      refine fx_z_eq_T (pT := 45) rfl (by omega) rfl (by omega) ?_
      refine am_ev.step (pc' := 46) rfl rfl ?_
      exact fx_reti rfl rfl rfl
theorem tk_28c {lo hi : Int} (r : -100 ≤ lo ∧ lo ≤ 100000 ∧ -100 ≤ hi ∧ hi ≤ 100000) (S : fS h) (B : tb h 42 b L) (hb : tz_r b) (hL : L ≤ 1600) (v1 : h.2.2.2 41 1 = iv L) (v6 : h.2.2.2 41 6 = iv p) (t : tz_t b L p s e k v) (q : k = 2 ∧ lo ≤ v ∧ v ≤ hi) : am_ev (d + 2) 28 0 (am_ent [.ref 41, iv lo, iv hi] 4) [] h (some (iv 1), T1 h s e k) := by
  have f := t.f hb
  show am_ev (d + 2) 28 0 [.ref 41, iv lo, iv hi, am_ph] [] h _
  refine am_ev.step (pc' := 1) rfl rfl ?_
  refine ax_call (z := 21) (p' := 4) (as := [_]) rfl (Or.inr (Or.inl ⟨_, rfl⟩)) rfl rfl rfl rfl rfl rfl (S.ob rfl) rfl (tk_21w S B hb hL v1 v6 t) rfl ?_
  refine am_ev.step (pc' := 5) rfl rfl ?_
  refine ax_gf (p' := 8) rfl rfl (fO (fO (fO (S.ob rfl)))) (ax_put_s _ _ _) ?_
  refine am_ev.step (pc' := 9) rfl rfl ?_
  refine fx_c_eq_T (pT := 18) rfl (by omega) (by omega) rfl (by omega) ?_
  refine am_ev.step (pc' := 19) rfl rfl ?_
  refine ax_call (z := 30) (p' := 22) (as := [_]) rfl (Or.inr (Or.inl ⟨_, rfl⟩)) rfl rfl rfl rfl rfl rfl (fO (fO (fO (S.ob rfl)))) rfl (tk_30w (((S.po rfl rfl).po rfl rfl).po rfl rfl) (((B.put (by decide)).put (by decide)).put (by decide)) hb hL (ax_put_o (Or.inr (by decide)) (ax_put_o (Or.inr (by decide)) (ax_put_o (Or.inr (by decide)) v1))) (ax_put_o (Or.inr (by decide)) (ax_put_o (Or.inr (by decide)) (ax_put_s _ _ _))) (ax_put_o (Or.inr (by decide)) (ax_put_s _ _ _)) t) rfl ?_
  refine am_ev.step (pc' := 23) (ls' := [.ref 41, iv (lo), iv (hi), iv (v)]) rfl rfl ?_
  refine am_ev.step (pc' := 24) rfl rfl ?_
  refine am_ev.step (pc' := 25) rfl rfl ?_
  refine fx_c_lt_F (pF := 28) rfl (by omega) (by omega) rfl (by omega) ?_
  refine am_ev.step (pc' := 29) rfl rfl ?_
  refine am_ev.step (pc' := 30) rfl rfl ?_
  refine fx_c_le_T (pT := 41) rfl (by omega) (by omega) rfl (by omega) ?_
  refine am_ev.step (pc' := 42) rfl rfl ?_
  refine am_ev.step (pc' := 46) rfl rfl ?_
  exact fx_reti rfl rfl rfl
theorem tk_32a (S : fS h) (B : tb h 42 b L) (hb : tz_r b) (hL : L ≤ 1600) (v1 : h.2.2.2 41 1 = iv L) (v6 : h.2.2.2 41 6 = iv p) (t : tz_t b L p s e k v) (q : k ≠ 59) : am_ev (d + 2) 32 0 (am_ent [.ref 41] 1) [] h (some (iv 0), FL (T1 h s e k) 1 s) := by
  have f := t.f hb
  show am_ev (d + 2) 32 0 [.ref 41] [] h _
  refine am_ev.step (pc' := 1) rfl rfl ?_
  refine ax_call (z := 21) (p' := 4) (as := [_]) rfl (Or.inr (Or.inl ⟨_, rfl⟩)) rfl rfl rfl rfl rfl rfl (S.ob rfl) rfl (tk_21w S B hb hL v1 v6 t) rfl ?_
  refine am_ev.step (pc' := 5) rfl rfl ?_
  refine ax_gf (p' := 8) rfl rfl (fO (fO (fO (S.ob rfl)))) (ax_put_s _ _ _) ?_
  refine fx_bip (p' := 10) rfl rfl rfl ?_
  refine fx_c_eq_F (pF := 13) rfl (by omega) (by omega) rfl (by omega) ?_
  refine am_ev.step (pc' := 14) rfl rfl ?_
  refine am_ev.step (pc' := 15) rfl rfl ?_
  refine ax_call (z := 29) (p' := 18) (as := [_, _]) rfl (Or.inr (Or.inl ⟨_, rfl⟩)) rfl rfl rfl rfl rfl rfl (fO (fO (fO (S.ob rfl)))) rfl (tk_29 (s := s) (((S.po rfl rfl).po rfl rfl).po rfl rfl) (ax_put_o (Or.inr (by decide)) (ax_put_o (Or.inr (by decide)) (ax_put_s _ _ _)))) rfl ?_
  refine fx_z_eq_T (pT := 25) rfl (by omega) rfl (by omega) ?_
  refine am_ev.step (pc' := 26) rfl rfl ?_
  exact fx_reti rfl rfl rfl
theorem tk_32b (S : fS h) (B : tb h 42 b L) (hb : tz_r b) (hL : L ≤ 1600) (v1 : h.2.2.2 41 1 = iv L) (v6 : h.2.2.2 41 6 = iv p) (t : tz_t b L p s e k v) (q : k = 59) : am_ev (d + 2) 32 0 (am_ent [.ref 41] 1) [] h (some (iv 1), T1 h s e k) := by
  have f := t.f hb
  show am_ev (d + 2) 32 0 [.ref 41] [] h _
  refine am_ev.step (pc' := 1) rfl rfl ?_
  refine ax_call (z := 21) (p' := 4) (as := [_]) rfl (Or.inr (Or.inl ⟨_, rfl⟩)) rfl rfl rfl rfl rfl rfl (S.ob rfl) rfl (tk_21w S B hb hL v1 v6 t) rfl ?_
  refine am_ev.step (pc' := 5) rfl rfl ?_
  refine ax_gf (p' := 8) rfl rfl (fO (fO (fO (S.ob rfl)))) (ax_put_s _ _ _) ?_
  refine fx_bip (p' := 10) rfl rfl rfl ?_
  refine fx_c_eq_T (pT := 21) rfl (by omega) (by omega) rfl (by omega) ?_
  refine am_ev.step (pc' := 22) rfl rfl ?_
  refine am_ev.step (pc' := 26) rfl rfl ?_
  exact fx_reti rfl rfl rfl
def tx_r (c : Nat) : Nat := match c with
  | 0 => 10
  | 1 => 11
  | 2 => 14
  | 3 => 6
  | 4 => 12
  | 5 => 13
  | 6 => 9
  | _ => 5
theorem tx_r_lt (c : Nat) : tx_r c < 16 := by
  unfold tx_r
  split <;> decide
/-- which clause of the rules a token begins: 0 to 6, 7 free, -1 none -/
def cl_r (b : Nat → Int) (s e : Nat) (k c : Int) : Prop := (∃ n : Nat, n < 8 ∧ c = n ∧ tz_w b s e k (tx_r n)) ∨ (c = -1 ∧ ∀ n, n < 8 → ¬ tz_w b s e k (tx_r n))
theorem cl_r_ex (b : Nat → Int) (s e : Nat) (k : Int) : ∃ c, cl_r b s e k c := by
  by_cases q : ∃ n : Nat, n < 8 ∧ tz_w b s e k (tx_r n)
  · obtain ⟨n, a, c⟩ := q
    exact ⟨n, Or.inl ⟨n, a, rfl, c⟩⟩
  · exact ⟨-1, Or.inr ⟨rfl, fun n a c => q ⟨n, a, c⟩⟩⟩
theorem cl_r_w {b : Nat → Int} {s e : Nat} {k c : Int} (q : cl_r b s e k c) {n : Nat} (hn : n < 8) : (c = n → tz_w b s e k (tx_r n)) ∧ (c ≠ n → ¬ tz_w b s e k (tx_r n)) := by
  have inj : ∀ n, n < 8 → ∀ m, m < 8 → tx_r n = tx_r m → n = m := by decide +kernel
  rcases q with ⟨m, a, e1, w⟩ | ⟨e1, w⟩
  · refine ⟨fun z => ?_, fun z y => ?_⟩
    · have : n = m := by omega
      rw [this]
      exact w
    · have := inj n hn m a (tz_wx (tx_r_lt n) (tx_r_lt m) y w)
      omega
  · exact ⟨fun z => by omega, fun z => w n hn⟩
theorem tk_25 (S : fS h) (B : tb h 42 b L) (hb : tz_r b) (hL : L ≤ 1600) (v1 : h.2.2.2 41 1 = iv L) (v2 : h.2.2.2 41 2 = iv k) (v5 : h.2.2.2 41 5 = iv s) (v6 : h.2.2.2 41 6 = iv e) (hse : s ≤ e ∧ e ≤ L) (hk : 0 ≤ k ∧ k ≤ 100) {c : Int} (q : cl_r b s e k c) : am_ev (d + 6) 25 0 (am_ent [.ref 41] 1) [] h (some (iv c), h) := by
  show am_ev (d + 6) 25 0 [.ref 41] [] h _
  have q0 := q
  rcases q with ⟨n, hn, rfl, -⟩ | ⟨rfl, -⟩
  · have w : ∀ m : Nat, m < 8 → (n = m → tz_w b s e k (tx_r m)) ∧ (n ≠ m → ¬ tz_w b s e k (tx_r m)) := fun m hm => ⟨fun z => (cl_r_w q0 hm).1 (by omega), fun z => (cl_r_w q0 hm).2 (by omega)⟩
    have hn2 : n = 0 ∨ n = 1 ∨ n = 2 ∨ n = 3 ∨ n = 4 ∨ n = 5 ∨ n = 6 ∨ n = 7 := by omega
    rcases hn2 with rfl | rfl | rfl | rfl | rfl | rfl | rfl | rfl
    · refine am_ev.step (pc' := 1) rfl rfl ?_
      refine am_ev.ldc rfl rfl rfl rfl ?_
      refine ax_call (z := 26) (p' := 6) (as := [_, _]) rfl (Or.inr (Or.inl ⟨_, rfl⟩)) rfl rfl rfl rfl rfl rfl (S.ob rfl) rfl ((tk_26 (i := 10) (by decide) S B hb hL v1 v2 v5 v6 hse hk).1 ((w 0 (by decide)).1 rfl)) rfl ?_
      refine fx_z_eq_F (pF := 9) rfl (by omega) rfl (by omega) ?_
      refine am_ev.step (pc' := 10) rfl rfl ?_
      exact fx_reti rfl rfl rfl
    · refine am_ev.step (pc' := 1) rfl rfl ?_
      refine am_ev.ldc rfl rfl rfl rfl ?_
      refine ax_call (z := 26) (p' := 6) (as := [_, _]) rfl (Or.inr (Or.inl ⟨_, rfl⟩)) rfl rfl rfl rfl rfl rfl (S.ob rfl) rfl ((tk_26 (i := 10) (by decide) S B hb hL v1 v2 v5 v6 hse hk).2 ((w 0 (by decide)).2 (by decide))) rfl ?_
      refine fx_z_eq_T (pT := 11) rfl (by omega) rfl (by omega) ?_
      refine am_ev.step (pc' := 12) rfl rfl ?_
      refine am_ev.ldc rfl rfl rfl rfl ?_
      refine ax_call (z := 26) (p' := 17) (as := [_, _]) rfl (Or.inr (Or.inl ⟨_, rfl⟩)) rfl rfl rfl rfl rfl rfl (S.ob rfl) rfl ((tk_26 (i := 11) (by decide) S B hb hL v1 v2 v5 v6 hse hk).1 ((w 1 (by decide)).1 rfl)) rfl ?_
      refine fx_z_eq_F (pF := 20) rfl (by omega) rfl (by omega) ?_
      refine am_ev.step (pc' := 21) rfl rfl ?_
      exact fx_reti rfl rfl rfl
    · refine am_ev.step (pc' := 1) rfl rfl ?_
      refine am_ev.ldc rfl rfl rfl rfl ?_
      refine ax_call (z := 26) (p' := 6) (as := [_, _]) rfl (Or.inr (Or.inl ⟨_, rfl⟩)) rfl rfl rfl rfl rfl rfl (S.ob rfl) rfl ((tk_26 (i := 10) (by decide) S B hb hL v1 v2 v5 v6 hse hk).2 ((w 0 (by decide)).2 (by decide))) rfl ?_
      refine fx_z_eq_T (pT := 11) rfl (by omega) rfl (by omega) ?_
      refine am_ev.step (pc' := 12) rfl rfl ?_
      refine am_ev.ldc rfl rfl rfl rfl ?_
      refine ax_call (z := 26) (p' := 17) (as := [_, _]) rfl (Or.inr (Or.inl ⟨_, rfl⟩)) rfl rfl rfl rfl rfl rfl (S.ob rfl) rfl ((tk_26 (i := 11) (by decide) S B hb hL v1 v2 v5 v6 hse hk).2 ((w 1 (by decide)).2 (by decide))) rfl ?_
      refine fx_z_eq_T (pT := 22) rfl (by omega) rfl (by omega) ?_
      refine am_ev.step (pc' := 23) rfl rfl ?_
      refine am_ev.ldc rfl rfl rfl rfl ?_
      refine ax_call (z := 26) (p' := 28) (as := [_, _]) rfl (Or.inr (Or.inl ⟨_, rfl⟩)) rfl rfl rfl rfl rfl rfl (S.ob rfl) rfl ((tk_26 (i := 14) (by decide) S B hb hL v1 v2 v5 v6 hse hk).1 ((w 2 (by decide)).1 rfl)) rfl ?_
      refine fx_z_eq_F (pF := 31) rfl (by omega) rfl (by omega) ?_
      refine am_ev.step (pc' := 32) rfl rfl ?_
      exact fx_reti rfl rfl rfl
    · refine am_ev.step (pc' := 1) rfl rfl ?_
      refine am_ev.ldc rfl rfl rfl rfl ?_
      refine ax_call (z := 26) (p' := 6) (as := [_, _]) rfl (Or.inr (Or.inl ⟨_, rfl⟩)) rfl rfl rfl rfl rfl rfl (S.ob rfl) rfl ((tk_26 (i := 10) (by decide) S B hb hL v1 v2 v5 v6 hse hk).2 ((w 0 (by decide)).2 (by decide))) rfl ?_
      refine fx_z_eq_T (pT := 11) rfl (by omega) rfl (by omega) ?_
      refine am_ev.step (pc' := 12) rfl rfl ?_
      refine am_ev.ldc rfl rfl rfl rfl ?_
      refine ax_call (z := 26) (p' := 17) (as := [_, _]) rfl (Or.inr (Or.inl ⟨_, rfl⟩)) rfl rfl rfl rfl rfl rfl (S.ob rfl) rfl ((tk_26 (i := 11) (by decide) S B hb hL v1 v2 v5 v6 hse hk).2 ((w 1 (by decide)).2 (by decide))) rfl ?_
      refine fx_z_eq_T (pT := 22) rfl (by omega) rfl (by omega) ?_
      refine am_ev.step (pc' := 23) rfl rfl ?_
      refine am_ev.ldc rfl rfl rfl rfl ?_
      refine ax_call (z := 26) (p' := 28) (as := [_, _]) rfl (Or.inr (Or.inl ⟨_, rfl⟩)) rfl rfl rfl rfl rfl rfl (S.ob rfl) rfl ((tk_26 (i := 14) (by decide) S B hb hL v1 v2 v5 v6 hse hk).2 ((w 2 (by decide)).2 (by decide))) rfl ?_
      refine fx_z_eq_T (pT := 33) rfl (by omega) rfl (by omega) ?_
      refine am_ev.step (pc' := 34) rfl rfl ?_
      refine am_ev.ldc rfl rfl rfl rfl ?_
      refine ax_call (z := 26) (p' := 39) (as := [_, _]) rfl (Or.inr (Or.inl ⟨_, rfl⟩)) rfl rfl rfl rfl rfl rfl (S.ob rfl) rfl ((tk_26 (i := 6) (by decide) S B hb hL v1 v2 v5 v6 hse hk).1 ((w 3 (by decide)).1 rfl)) rfl ?_
      refine fx_z_eq_F (pF := 42) rfl (by omega) rfl (by omega) ?_
      refine am_ev.step (pc' := 43) rfl rfl ?_
      exact fx_reti rfl rfl rfl
    · refine am_ev.step (pc' := 1) rfl rfl ?_
      refine am_ev.ldc rfl rfl rfl rfl ?_
      refine ax_call (z := 26) (p' := 6) (as := [_, _]) rfl (Or.inr (Or.inl ⟨_, rfl⟩)) rfl rfl rfl rfl rfl rfl (S.ob rfl) rfl ((tk_26 (i := 10) (by decide) S B hb hL v1 v2 v5 v6 hse hk).2 ((w 0 (by decide)).2 (by decide))) rfl ?_
      refine fx_z_eq_T (pT := 11) rfl (by omega) rfl (by omega) ?_
      refine am_ev.step (pc' := 12) rfl rfl ?_
      refine am_ev.ldc rfl rfl rfl rfl ?_
      refine ax_call (z := 26) (p' := 17) (as := [_, _]) rfl (Or.inr (Or.inl ⟨_, rfl⟩)) rfl rfl rfl rfl rfl rfl (S.ob rfl) rfl ((tk_26 (i := 11) (by decide) S B hb hL v1 v2 v5 v6 hse hk).2 ((w 1 (by decide)).2 (by decide))) rfl ?_
      refine fx_z_eq_T (pT := 22) rfl (by omega) rfl (by omega) ?_
      refine am_ev.step (pc' := 23) rfl rfl ?_
      refine am_ev.ldc rfl rfl rfl rfl ?_
      refine ax_call (z := 26) (p' := 28) (as := [_, _]) rfl (Or.inr (Or.inl ⟨_, rfl⟩)) rfl rfl rfl rfl rfl rfl (S.ob rfl) rfl ((tk_26 (i := 14) (by decide) S B hb hL v1 v2 v5 v6 hse hk).2 ((w 2 (by decide)).2 (by decide))) rfl ?_
      refine fx_z_eq_T (pT := 33) rfl (by omega) rfl (by omega) ?_
      refine am_ev.step (pc' := 34) rfl rfl ?_
      refine am_ev.ldc rfl rfl rfl rfl ?_
      refine ax_call (z := 26) (p' := 39) (as := [_, _]) rfl (Or.inr (Or.inl ⟨_, rfl⟩)) rfl rfl rfl rfl rfl rfl (S.ob rfl) rfl ((tk_26 (i := 6) (by decide) S B hb hL v1 v2 v5 v6 hse hk).2 ((w 3 (by decide)).2 (by decide))) rfl ?_
      refine fx_z_eq_T (pT := 44) rfl (by omega) rfl (by omega) ?_
      refine am_ev.step (pc' := 45) rfl rfl ?_
      refine am_ev.ldc rfl rfl rfl rfl ?_
      refine ax_call (z := 26) (p' := 50) (as := [_, _]) rfl (Or.inr (Or.inl ⟨_, rfl⟩)) rfl rfl rfl rfl rfl rfl (S.ob rfl) rfl ((tk_26 (i := 12) (by decide) S B hb hL v1 v2 v5 v6 hse hk).1 ((w 4 (by decide)).1 rfl)) rfl ?_
      refine fx_z_eq_F (pF := 53) rfl (by omega) rfl (by omega) ?_
      refine am_ev.step (pc' := 54) rfl rfl ?_
      exact fx_reti rfl rfl rfl
    · refine am_ev.step (pc' := 1) rfl rfl ?_
      refine am_ev.ldc rfl rfl rfl rfl ?_
      refine ax_call (z := 26) (p' := 6) (as := [_, _]) rfl (Or.inr (Or.inl ⟨_, rfl⟩)) rfl rfl rfl rfl rfl rfl (S.ob rfl) rfl ((tk_26 (i := 10) (by decide) S B hb hL v1 v2 v5 v6 hse hk).2 ((w 0 (by decide)).2 (by decide))) rfl ?_
      refine fx_z_eq_T (pT := 11) rfl (by omega) rfl (by omega) ?_
      refine am_ev.step (pc' := 12) rfl rfl ?_
      refine am_ev.ldc rfl rfl rfl rfl ?_
      refine ax_call (z := 26) (p' := 17) (as := [_, _]) rfl (Or.inr (Or.inl ⟨_, rfl⟩)) rfl rfl rfl rfl rfl rfl (S.ob rfl) rfl ((tk_26 (i := 11) (by decide) S B hb hL v1 v2 v5 v6 hse hk).2 ((w 1 (by decide)).2 (by decide))) rfl ?_
      refine fx_z_eq_T (pT := 22) rfl (by omega) rfl (by omega) ?_
      refine am_ev.step (pc' := 23) rfl rfl ?_
      refine am_ev.ldc rfl rfl rfl rfl ?_
      refine ax_call (z := 26) (p' := 28) (as := [_, _]) rfl (Or.inr (Or.inl ⟨_, rfl⟩)) rfl rfl rfl rfl rfl rfl (S.ob rfl) rfl ((tk_26 (i := 14) (by decide) S B hb hL v1 v2 v5 v6 hse hk).2 ((w 2 (by decide)).2 (by decide))) rfl ?_
      refine fx_z_eq_T (pT := 33) rfl (by omega) rfl (by omega) ?_
      refine am_ev.step (pc' := 34) rfl rfl ?_
      refine am_ev.ldc rfl rfl rfl rfl ?_
      refine ax_call (z := 26) (p' := 39) (as := [_, _]) rfl (Or.inr (Or.inl ⟨_, rfl⟩)) rfl rfl rfl rfl rfl rfl (S.ob rfl) rfl ((tk_26 (i := 6) (by decide) S B hb hL v1 v2 v5 v6 hse hk).2 ((w 3 (by decide)).2 (by decide))) rfl ?_
      refine fx_z_eq_T (pT := 44) rfl (by omega) rfl (by omega) ?_
      refine am_ev.step (pc' := 45) rfl rfl ?_
      refine am_ev.ldc rfl rfl rfl rfl ?_
      refine ax_call (z := 26) (p' := 50) (as := [_, _]) rfl (Or.inr (Or.inl ⟨_, rfl⟩)) rfl rfl rfl rfl rfl rfl (S.ob rfl) rfl ((tk_26 (i := 12) (by decide) S B hb hL v1 v2 v5 v6 hse hk).2 ((w 4 (by decide)).2 (by decide))) rfl ?_
      refine fx_z_eq_T (pT := 55) rfl (by omega) rfl (by omega) ?_
      refine am_ev.step (pc' := 56) rfl rfl ?_
      refine am_ev.ldc rfl rfl rfl rfl ?_
      refine ax_call (z := 26) (p' := 61) (as := [_, _]) rfl (Or.inr (Or.inl ⟨_, rfl⟩)) rfl rfl rfl rfl rfl rfl (S.ob rfl) rfl ((tk_26 (i := 13) (by decide) S B hb hL v1 v2 v5 v6 hse hk).1 ((w 5 (by decide)).1 rfl)) rfl ?_
      refine fx_z_eq_F (pF := 64) rfl (by omega) rfl (by omega) ?_
      refine am_ev.step (pc' := 65) rfl rfl ?_
      exact fx_reti rfl rfl rfl
    · refine am_ev.step (pc' := 1) rfl rfl ?_
      refine am_ev.ldc rfl rfl rfl rfl ?_
      refine ax_call (z := 26) (p' := 6) (as := [_, _]) rfl (Or.inr (Or.inl ⟨_, rfl⟩)) rfl rfl rfl rfl rfl rfl (S.ob rfl) rfl ((tk_26 (i := 10) (by decide) S B hb hL v1 v2 v5 v6 hse hk).2 ((w 0 (by decide)).2 (by decide))) rfl ?_
      refine fx_z_eq_T (pT := 11) rfl (by omega) rfl (by omega) ?_
      refine am_ev.step (pc' := 12) rfl rfl ?_
      refine am_ev.ldc rfl rfl rfl rfl ?_
      refine ax_call (z := 26) (p' := 17) (as := [_, _]) rfl (Or.inr (Or.inl ⟨_, rfl⟩)) rfl rfl rfl rfl rfl rfl (S.ob rfl) rfl ((tk_26 (i := 11) (by decide) S B hb hL v1 v2 v5 v6 hse hk).2 ((w 1 (by decide)).2 (by decide))) rfl ?_
      refine fx_z_eq_T (pT := 22) rfl (by omega) rfl (by omega) ?_
      refine am_ev.step (pc' := 23) rfl rfl ?_
      refine am_ev.ldc rfl rfl rfl rfl ?_
      refine ax_call (z := 26) (p' := 28) (as := [_, _]) rfl (Or.inr (Or.inl ⟨_, rfl⟩)) rfl rfl rfl rfl rfl rfl (S.ob rfl) rfl ((tk_26 (i := 14) (by decide) S B hb hL v1 v2 v5 v6 hse hk).2 ((w 2 (by decide)).2 (by decide))) rfl ?_
      refine fx_z_eq_T (pT := 33) rfl (by omega) rfl (by omega) ?_
      refine am_ev.step (pc' := 34) rfl rfl ?_
      refine am_ev.ldc rfl rfl rfl rfl ?_
      refine ax_call (z := 26) (p' := 39) (as := [_, _]) rfl (Or.inr (Or.inl ⟨_, rfl⟩)) rfl rfl rfl rfl rfl rfl (S.ob rfl) rfl ((tk_26 (i := 6) (by decide) S B hb hL v1 v2 v5 v6 hse hk).2 ((w 3 (by decide)).2 (by decide))) rfl ?_
      refine fx_z_eq_T (pT := 44) rfl (by omega) rfl (by omega) ?_
      refine am_ev.step (pc' := 45) rfl rfl ?_
      refine am_ev.ldc rfl rfl rfl rfl ?_
      refine ax_call (z := 26) (p' := 50) (as := [_, _]) rfl (Or.inr (Or.inl ⟨_, rfl⟩)) rfl rfl rfl rfl rfl rfl (S.ob rfl) rfl ((tk_26 (i := 12) (by decide) S B hb hL v1 v2 v5 v6 hse hk).2 ((w 4 (by decide)).2 (by decide))) rfl ?_
      refine fx_z_eq_T (pT := 55) rfl (by omega) rfl (by omega) ?_
      refine am_ev.step (pc' := 56) rfl rfl ?_
      refine am_ev.ldc rfl rfl rfl rfl ?_
      refine ax_call (z := 26) (p' := 61) (as := [_, _]) rfl (Or.inr (Or.inl ⟨_, rfl⟩)) rfl rfl rfl rfl rfl rfl (S.ob rfl) rfl ((tk_26 (i := 13) (by decide) S B hb hL v1 v2 v5 v6 hse hk).2 ((w 5 (by decide)).2 (by decide))) rfl ?_
      refine fx_z_eq_T (pT := 66) rfl (by omega) rfl (by omega) ?_
      refine am_ev.step (pc' := 67) rfl rfl ?_
      refine am_ev.ldc rfl rfl rfl rfl ?_
      refine ax_call (z := 26) (p' := 72) (as := [_, _]) rfl (Or.inr (Or.inl ⟨_, rfl⟩)) rfl rfl rfl rfl rfl rfl (S.ob rfl) rfl ((tk_26 (i := 9) (by decide) S B hb hL v1 v2 v5 v6 hse hk).1 ((w 6 (by decide)).1 rfl)) rfl ?_
      refine fx_z_eq_F (pF := 75) rfl (by omega) rfl (by omega) ?_
      refine fx_bip (p' := 77) rfl rfl rfl ?_
      exact fx_reti rfl rfl rfl
    · refine am_ev.step (pc' := 1) rfl rfl ?_
      refine am_ev.ldc rfl rfl rfl rfl ?_
      refine ax_call (z := 26) (p' := 6) (as := [_, _]) rfl (Or.inr (Or.inl ⟨_, rfl⟩)) rfl rfl rfl rfl rfl rfl (S.ob rfl) rfl ((tk_26 (i := 10) (by decide) S B hb hL v1 v2 v5 v6 hse hk).2 ((w 0 (by decide)).2 (by decide))) rfl ?_
      refine fx_z_eq_T (pT := 11) rfl (by omega) rfl (by omega) ?_
      refine am_ev.step (pc' := 12) rfl rfl ?_
      refine am_ev.ldc rfl rfl rfl rfl ?_
      refine ax_call (z := 26) (p' := 17) (as := [_, _]) rfl (Or.inr (Or.inl ⟨_, rfl⟩)) rfl rfl rfl rfl rfl rfl (S.ob rfl) rfl ((tk_26 (i := 11) (by decide) S B hb hL v1 v2 v5 v6 hse hk).2 ((w 1 (by decide)).2 (by decide))) rfl ?_
      refine fx_z_eq_T (pT := 22) rfl (by omega) rfl (by omega) ?_
      refine am_ev.step (pc' := 23) rfl rfl ?_
      refine am_ev.ldc rfl rfl rfl rfl ?_
      refine ax_call (z := 26) (p' := 28) (as := [_, _]) rfl (Or.inr (Or.inl ⟨_, rfl⟩)) rfl rfl rfl rfl rfl rfl (S.ob rfl) rfl ((tk_26 (i := 14) (by decide) S B hb hL v1 v2 v5 v6 hse hk).2 ((w 2 (by decide)).2 (by decide))) rfl ?_
      refine fx_z_eq_T (pT := 33) rfl (by omega) rfl (by omega) ?_
      refine am_ev.step (pc' := 34) rfl rfl ?_
      refine am_ev.ldc rfl rfl rfl rfl ?_
      refine ax_call (z := 26) (p' := 39) (as := [_, _]) rfl (Or.inr (Or.inl ⟨_, rfl⟩)) rfl rfl rfl rfl rfl rfl (S.ob rfl) rfl ((tk_26 (i := 6) (by decide) S B hb hL v1 v2 v5 v6 hse hk).2 ((w 3 (by decide)).2 (by decide))) rfl ?_
      refine fx_z_eq_T (pT := 44) rfl (by omega) rfl (by omega) ?_
      refine am_ev.step (pc' := 45) rfl rfl ?_
      refine am_ev.ldc rfl rfl rfl rfl ?_
      refine ax_call (z := 26) (p' := 50) (as := [_, _]) rfl (Or.inr (Or.inl ⟨_, rfl⟩)) rfl rfl rfl rfl rfl rfl (S.ob rfl) rfl ((tk_26 (i := 12) (by decide) S B hb hL v1 v2 v5 v6 hse hk).2 ((w 4 (by decide)).2 (by decide))) rfl ?_
      refine fx_z_eq_T (pT := 55) rfl (by omega) rfl (by omega) ?_
      refine am_ev.step (pc' := 56) rfl rfl ?_
      refine am_ev.ldc rfl rfl rfl rfl ?_
      refine ax_call (z := 26) (p' := 61) (as := [_, _]) rfl (Or.inr (Or.inl ⟨_, rfl⟩)) rfl rfl rfl rfl rfl rfl (S.ob rfl) rfl ((tk_26 (i := 13) (by decide) S B hb hL v1 v2 v5 v6 hse hk).2 ((w 5 (by decide)).2 (by decide))) rfl ?_
      refine fx_z_eq_T (pT := 66) rfl (by omega) rfl (by omega) ?_
      refine am_ev.step (pc' := 67) rfl rfl ?_
      refine am_ev.ldc rfl rfl rfl rfl ?_
      refine ax_call (z := 26) (p' := 72) (as := [_, _]) rfl (Or.inr (Or.inl ⟨_, rfl⟩)) rfl rfl rfl rfl rfl rfl (S.ob rfl) rfl ((tk_26 (i := 9) (by decide) S B hb hL v1 v2 v5 v6 hse hk).2 ((w 6 (by decide)).2 (by decide))) rfl ?_
      refine fx_z_eq_T (pT := 78) rfl (by omega) rfl (by omega) ?_
      refine am_ev.step (pc' := 79) rfl rfl ?_
      refine am_ev.ldc rfl rfl rfl rfl ?_
      refine ax_call (z := 26) (p' := 84) (as := [_, _]) rfl (Or.inr (Or.inl ⟨_, rfl⟩)) rfl rfl rfl rfl rfl rfl (S.ob rfl) rfl ((tk_26 (i := 5) (by decide) S B hb hL v1 v2 v5 v6 hse hk).1 ((w 7 (by decide)).1 rfl)) rfl ?_
      refine fx_z_eq_F (pF := 87) rfl (by omega) rfl (by omega) ?_
      refine fx_bip (p' := 89) rfl rfl rfl ?_
      refine am_ev.step (pc' := 93) rfl rfl ?_
      exact fx_reti rfl rfl rfl
  · refine am_ev.step (pc' := 1) rfl rfl ?_
    refine am_ev.ldc rfl rfl rfl rfl ?_
    refine ax_call (z := 26) (p' := 6) (as := [_, _]) rfl (Or.inr (Or.inl ⟨_, rfl⟩)) rfl rfl rfl rfl rfl rfl (S.ob rfl) rfl ((tk_26 (i := 10) (by decide) S B hb hL v1 v2 v5 v6 hse hk).2 ((cl_r_w q0 (n := 0) (by decide)).2 (by decide))) rfl ?_
    refine fx_z_eq_T (pT := 11) rfl (by omega) rfl (by omega) ?_
    refine am_ev.step (pc' := 12) rfl rfl ?_
    refine am_ev.ldc rfl rfl rfl rfl ?_
    refine ax_call (z := 26) (p' := 17) (as := [_, _]) rfl (Or.inr (Or.inl ⟨_, rfl⟩)) rfl rfl rfl rfl rfl rfl (S.ob rfl) rfl ((tk_26 (i := 11) (by decide) S B hb hL v1 v2 v5 v6 hse hk).2 ((cl_r_w q0 (n := 1) (by decide)).2 (by decide))) rfl ?_
    refine fx_z_eq_T (pT := 22) rfl (by omega) rfl (by omega) ?_
    refine am_ev.step (pc' := 23) rfl rfl ?_
    refine am_ev.ldc rfl rfl rfl rfl ?_
    refine ax_call (z := 26) (p' := 28) (as := [_, _]) rfl (Or.inr (Or.inl ⟨_, rfl⟩)) rfl rfl rfl rfl rfl rfl (S.ob rfl) rfl ((tk_26 (i := 14) (by decide) S B hb hL v1 v2 v5 v6 hse hk).2 ((cl_r_w q0 (n := 2) (by decide)).2 (by decide))) rfl ?_
    refine fx_z_eq_T (pT := 33) rfl (by omega) rfl (by omega) ?_
    refine am_ev.step (pc' := 34) rfl rfl ?_
    refine am_ev.ldc rfl rfl rfl rfl ?_
    refine ax_call (z := 26) (p' := 39) (as := [_, _]) rfl (Or.inr (Or.inl ⟨_, rfl⟩)) rfl rfl rfl rfl rfl rfl (S.ob rfl) rfl ((tk_26 (i := 6) (by decide) S B hb hL v1 v2 v5 v6 hse hk).2 ((cl_r_w q0 (n := 3) (by decide)).2 (by decide))) rfl ?_
    refine fx_z_eq_T (pT := 44) rfl (by omega) rfl (by omega) ?_
    refine am_ev.step (pc' := 45) rfl rfl ?_
    refine am_ev.ldc rfl rfl rfl rfl ?_
    refine ax_call (z := 26) (p' := 50) (as := [_, _]) rfl (Or.inr (Or.inl ⟨_, rfl⟩)) rfl rfl rfl rfl rfl rfl (S.ob rfl) rfl ((tk_26 (i := 12) (by decide) S B hb hL v1 v2 v5 v6 hse hk).2 ((cl_r_w q0 (n := 4) (by decide)).2 (by decide))) rfl ?_
    refine fx_z_eq_T (pT := 55) rfl (by omega) rfl (by omega) ?_
    refine am_ev.step (pc' := 56) rfl rfl ?_
    refine am_ev.ldc rfl rfl rfl rfl ?_
    refine ax_call (z := 26) (p' := 61) (as := [_, _]) rfl (Or.inr (Or.inl ⟨_, rfl⟩)) rfl rfl rfl rfl rfl rfl (S.ob rfl) rfl ((tk_26 (i := 13) (by decide) S B hb hL v1 v2 v5 v6 hse hk).2 ((cl_r_w q0 (n := 5) (by decide)).2 (by decide))) rfl ?_
    refine fx_z_eq_T (pT := 66) rfl (by omega) rfl (by omega) ?_
    refine am_ev.step (pc' := 67) rfl rfl ?_
    refine am_ev.ldc rfl rfl rfl rfl ?_
    refine ax_call (z := 26) (p' := 72) (as := [_, _]) rfl (Or.inr (Or.inl ⟨_, rfl⟩)) rfl rfl rfl rfl rfl rfl (S.ob rfl) rfl ((tk_26 (i := 9) (by decide) S B hb hL v1 v2 v5 v6 hse hk).2 ((cl_r_w q0 (n := 6) (by decide)).2 (by decide))) rfl ?_
    refine fx_z_eq_T (pT := 78) rfl (by omega) rfl (by omega) ?_
    refine am_ev.step (pc' := 79) rfl rfl ?_
    refine am_ev.ldc rfl rfl rfl rfl ?_
    refine ax_call (z := 26) (p' := 84) (as := [_, _]) rfl (Or.inr (Or.inl ⟨_, rfl⟩)) rfl rfl rfl rfl rfl rfl (S.ob rfl) rfl ((tk_26 (i := 5) (by decide) S B hb hL v1 v2 v5 v6 hse hk).2 ((cl_r_w q0 (n := 7) (by decide)).2 (by decide))) rfl ?_
    refine fx_z_eq_T (pT := 92) rfl (by omega) rfl (by omega) ?_
    refine am_ev.step (pc' := 93) rfl rfl ?_
    exact fx_reti rfl rfl rfl
end TKE
end
section
/-! THE RULES: a clause is read -/
theorem sv_b : ∀ c, c < 7 → -100 ≤ cq_sv 2 c ∧ cq_sv 2 c ≤ 100000 ∧ -100 ≤ cq_sv 3 c ∧ cq_sv 3 c ≤ 100000 := by decide +kernel
section TKF
variable {d : Nat} {h : am_H} {b : Nat → Int} {L p s e s1 e1 s2 e2 s3 e3 l : Nat} {k k1 k2 k3 v1 v2 v3 : Int} {t u : Int32}
theorem tk_33x (S : fS h) (B : tb h 42 b L) (hb : tz_r b) (hL : L ≤ 1600) (w1 : h.2.2.2 41 1 = iv L) (v5 : h.2.2.2 41 5 = iv s) (v6 : h.2.2.2 41 6 = iv e) : am_ev (d + 1) 33 0 (am_ent [.ref 43, iv (-1), .ref 41] 3) [] h (some (iv 0), (am_put (am_put h 41 3 (iv 1)) 41 4 (iv ((s : Int))))) := by
  show am_ev (d + 1) 33 0 [.ref 43, iv (-1), .ref 41] [] h _
  refine am_ev.step (pc' := 1) rfl rfl ?_
  refine fx_z_lt_T (pT := 10) rfl (by omega) rfl (by omega) ?_
  refine am_ev.step (pc' := 11) rfl rfl ?_
  refine am_ev.step (pc' := 12) rfl rfl ?_
  refine ax_call (z := 29) (p' := 15) (as := [_, _]) rfl (Or.inr (Or.inl ⟨_, rfl⟩)) rfl rfl rfl rfl rfl rfl (S.ob rfl) rfl (tk_29 (s := s) S v5) rfl ?_
  exact fx_reti rfl rfl rfl
theorem tk_33a (S : fS h) (B : tb h 42 b L) (hb : tz_r b) (hL : L ≤ 1600) (w1 : h.2.2.2 41 1 = iv L) (v5 : h.2.2.2 41 5 = iv s) (v6 : h.2.2.2 41 6 = iv e) (hl : l < 7) (v4 : h.2.2.2 43 4 = .int t) (q0 : bt t l = true) : am_ev (d + 1) 33 0 (am_ent [.ref 43, iv ((l : Int)), .ref 41] 3) [] h (some (iv 0), (am_put (am_put h 41 3 (iv 3)) 41 4 (iv ((s : Int))))) := by
  show am_ev (d + 1) 33 0 [.ref 43, iv ((l : Int)), .ref 41] [] h _
  refine am_ev.step (pc' := 1) rfl rfl ?_
  refine fx_z_lt_F (pF := 4) rfl (by omega) rfl (by omega) ?_
  refine am_ev.step (pc' := 5) rfl rfl ?_
  refine fx_bip (p' := 7) rfl rfl rfl ?_
  refine fx_c_lt_T (pT := 16) rfl (by omega) (by omega) rfl (by omega) ?_
  refine am_ev.step (pc' := 17) rfl rfl ?_
  refine ax_gf (p' := 20) rfl rfl (S.ob rfl) v4 ?_
  refine am_ev.step (pc' := 21) rfl rfl ?_
  refine ax_call (z := 31) (p' := 24) (as := [_, _]) rfl (Or.inl ⟨_, rfl⟩) rfl rfl rfl rfl rfl rfl rfl rfl ((tk_31 (c := l) (by omega)).1 q0) rfl ?_
  refine fx_z_eq_F (pF := 27) rfl (by omega) rfl (by omega) ?_
  refine am_ev.step (pc' := 28) rfl rfl ?_
  refine am_ev.step (pc' := 29) rfl rfl ?_
  refine ax_call (z := 29) (p' := 32) (as := [_, _]) rfl (Or.inr (Or.inl ⟨_, rfl⟩)) rfl rfl rfl rfl rfl rfl (S.ob rfl) rfl (tk_29 (s := s) S v5) rfl ?_
  exact fx_reti rfl rfl rfl
theorem tk_33b (S : fS h) (B : tb h 42 b L) (hb : tz_r b) (hL : L ≤ 1600) (w1 : h.2.2.2 41 1 = iv L) (v5 : h.2.2.2 41 5 = iv s) (v6 : h.2.2.2 41 6 = iv e) (hl : l < 7) (v4 : h.2.2.2 43 4 = .int t) (q0 : bt t l = false) (t1 : tz_t b L e s1 e1 k1 v1) (q1 : k1 ≠ 2) : am_ev (d + 3) 33 0 (am_ent [.ref 43, iv ((l : Int)), .ref 41] 3) [] h (some (iv 0), (am_put (am_put (am_put (am_put (am_put (am_put h 43 4 (.int (t ||| ((Int32.ofInt 1) <<< ((Int32.ofInt ((l : Int))) &&& 31))))) 41 5 (iv ((s1 : Int)))) 41 6 (iv ((e1 : Int)))) 41 2 (iv (k1))) 41 3 (iv 1)) 41 4 (iv ((s1 : Int))))) := by
  have rb := sv_b l hl
  show am_ev (d + 3) 33 0 [.ref 43, iv ((l : Int)), .ref 41] [] h _
  refine am_ev.step (pc' := 1) rfl rfl ?_
  refine fx_z_lt_F (pF := 4) rfl (by omega) rfl (by omega) ?_
  refine am_ev.step (pc' := 5) rfl rfl ?_
  refine fx_bip (p' := 7) rfl rfl rfl ?_
  refine fx_c_lt_T (pT := 16) rfl (by omega) (by omega) rfl (by omega) ?_
  refine am_ev.step (pc' := 17) rfl rfl ?_
  refine ax_gf (p' := 20) rfl rfl (S.ob rfl) v4 ?_
  refine am_ev.step (pc' := 21) rfl rfl ?_
  refine ax_call (z := 31) (p' := 24) (as := [_, _]) rfl (Or.inl ⟨_, rfl⟩) rfl rfl rfl rfl rfl rfl rfl rfl ((tk_31 (c := l) (by omega)).2 q0) rfl ?_
  refine fx_z_eq_T (pT := 33) rfl (by omega) rfl (by omega) ?_
  refine am_ev.step (pc' := 34) rfl rfl ?_
  refine am_ev.step (pc' := 35) rfl rfl ?_
  refine ax_gf (p' := 38) rfl rfl (S.ob rfl) v4 ?_
  refine am_ev.step (pc' := 39) rfl rfl ?_
  refine am_ev.step (pc' := 40) rfl rfl ?_
  refine am_ev.step (pc' := 41) rfl rfl ?_
  refine am_ev.step (pc' := 42) rfl rfl ?_
  refine ax_pf (p' := 45) rfl rfl (S.ob rfl) rfl ?_
  refine am_ev.step (pc' := 46) rfl rfl ?_
  refine am_ev.step (pc' := 49) rfl rfl ?_
  refine am_ev.step (pc' := 50) rfl rfl ?_
  refine ax_iaload (p' := 51) rfl rfl ((S.po rfl rfl).rs (k := l) rfl rfl (by omega)) ?_
  refine am_ev.step (pc' := 54) rfl rfl ?_
  refine am_ev.step (pc' := 55) rfl rfl ?_
  refine ax_iaload (p' := 56) rfl rfl ((S.po rfl rfl).rs (k := l) rfl rfl (by omega)) ?_
  refine ax_call (z := 28) (p' := 59) (as := [_, _, _]) rfl (Or.inr (Or.inl ⟨_, rfl⟩)) rfl rfl rfl rfl rfl rfl (fO (S.ob rfl)) rfl (tk_28a (lo := ((cq_sv 2 l))) (hi := ((cq_sv 3 l))) (by omega) (S.po rfl rfl) (B.put (by decide)) hb hL (ax_put_o (Or.inl (by decide)) w1) (ax_put_o (Or.inl (by decide)) v6) t1 q1) rfl ?_
  refine fx_z_ne_F (pF := 62) rfl (by omega) rfl (by omega) ?_
  refine am_ev.step (pc' := 63) rfl rfl ?_
  exact fx_reti rfl rfl rfl
theorem tk_33c (S : fS h) (B : tb h 42 b L) (hb : tz_r b) (hL : L ≤ 1600) (w1 : h.2.2.2 41 1 = iv L) (v5 : h.2.2.2 41 5 = iv s) (v6 : h.2.2.2 41 6 = iv e) (hl : l < 7) (v4 : h.2.2.2 43 4 = .int t) (q0 : bt t l = false) (t1 : tz_t b L e s1 e1 k1 v1) (q1 : k1 = 2 ∧ ¬ (cq_sv 2 l ≤ v1 ∧ v1 ≤ cq_sv 3 l)) : am_ev (d + 3) 33 0 (am_ent [.ref 43, iv ((l : Int)), .ref 41] 3) [] h (some (iv 0), (am_put (am_put (am_put (am_put (am_put (am_put h 43 4 (.int (t ||| ((Int32.ofInt 1) <<< ((Int32.ofInt ((l : Int))) &&& 31))))) 41 5 (iv ((s1 : Int)))) 41 6 (iv ((e1 : Int)))) 41 2 (iv (k1))) 41 3 (iv 2)) 41 4 (iv ((s1 : Int))))) := by
  have rb := sv_b l hl
  show am_ev (d + 3) 33 0 [.ref 43, iv ((l : Int)), .ref 41] [] h _
  refine am_ev.step (pc' := 1) rfl rfl ?_
  refine fx_z_lt_F (pF := 4) rfl (by omega) rfl (by omega) ?_
  refine am_ev.step (pc' := 5) rfl rfl ?_
  refine fx_bip (p' := 7) rfl rfl rfl ?_
  refine fx_c_lt_T (pT := 16) rfl (by omega) (by omega) rfl (by omega) ?_
  refine am_ev.step (pc' := 17) rfl rfl ?_
  refine ax_gf (p' := 20) rfl rfl (S.ob rfl) v4 ?_
  refine am_ev.step (pc' := 21) rfl rfl ?_
  refine ax_call (z := 31) (p' := 24) (as := [_, _]) rfl (Or.inl ⟨_, rfl⟩) rfl rfl rfl rfl rfl rfl rfl rfl ((tk_31 (c := l) (by omega)).2 q0) rfl ?_
  refine fx_z_eq_T (pT := 33) rfl (by omega) rfl (by omega) ?_
  refine am_ev.step (pc' := 34) rfl rfl ?_
  refine am_ev.step (pc' := 35) rfl rfl ?_
  refine ax_gf (p' := 38) rfl rfl (S.ob rfl) v4 ?_
  refine am_ev.step (pc' := 39) rfl rfl ?_
  refine am_ev.step (pc' := 40) rfl rfl ?_
  refine am_ev.step (pc' := 41) rfl rfl ?_
  refine am_ev.step (pc' := 42) rfl rfl ?_
  refine ax_pf (p' := 45) rfl rfl (S.ob rfl) rfl ?_
  refine am_ev.step (pc' := 46) rfl rfl ?_
  refine am_ev.step (pc' := 49) rfl rfl ?_
  refine am_ev.step (pc' := 50) rfl rfl ?_
  refine ax_iaload (p' := 51) rfl rfl ((S.po rfl rfl).rs (k := l) rfl rfl (by omega)) ?_
  refine am_ev.step (pc' := 54) rfl rfl ?_
  refine am_ev.step (pc' := 55) rfl rfl ?_
  refine ax_iaload (p' := 56) rfl rfl ((S.po rfl rfl).rs (k := l) rfl rfl (by omega)) ?_
  refine ax_call (z := 28) (p' := 59) (as := [_, _, _]) rfl (Or.inr (Or.inl ⟨_, rfl⟩)) rfl rfl rfl rfl rfl rfl (fO (S.ob rfl)) rfl (tk_28b (lo := ((cq_sv 2 l))) (hi := ((cq_sv 3 l))) (by omega) (S.po rfl rfl) (B.put (by decide)) hb hL (ax_put_o (Or.inl (by decide)) w1) (ax_put_o (Or.inl (by decide)) v6) t1 q1) rfl ?_
  refine fx_z_ne_F (pF := 62) rfl (by omega) rfl (by omega) ?_
  refine am_ev.step (pc' := 63) rfl rfl ?_
  exact fx_reti rfl rfl rfl
theorem tk_33d (S : fS h) (B : tb h 42 b L) (hb : tz_r b) (hL : L ≤ 1600) (w1 : h.2.2.2 41 1 = iv L) (v5 : h.2.2.2 41 5 = iv s) (v6 : h.2.2.2 41 6 = iv e) (hl : l < 7) (v4 : h.2.2.2 43 4 = .int t) (q0 : bt t l = false) (t1 : tz_t b L e s1 e1 k1 v1) (q1 : k1 = 2 ∧ cq_sv 2 l ≤ v1 ∧ v1 ≤ cq_sv 3 l) (t2 : tz_t b L e1 s2 e2 k2 v2) (q2 : k2 ≠ 59) : am_ev (d + 3) 33 0 (am_ent [.ref 43, iv ((l : Int)), .ref 41] 3) [] h (some (iv 0), (am_put (am_put (am_put (am_put (am_put (am_put (am_put (am_put (am_put (am_put h 43 4 (.int (t ||| ((Int32.ofInt 1) <<< ((Int32.ofInt ((l : Int))) &&& 31))))) 41 5 (iv ((s1 : Int)))) 41 6 (iv ((e1 : Int)))) 41 2 (iv (k1))) 46 l (iv (v1))) 41 5 (iv ((s2 : Int)))) 41 6 (iv ((e2 : Int)))) 41 2 (iv (k2))) 41 3 (iv 1)) 41 4 (iv ((s2 : Int))))) := by
  have rb := sv_b l hl
  show am_ev (d + 3) 33 0 [.ref 43, iv ((l : Int)), .ref 41] [] h _
  refine am_ev.step (pc' := 1) rfl rfl ?_
  refine fx_z_lt_F (pF := 4) rfl (by omega) rfl (by omega) ?_
  refine am_ev.step (pc' := 5) rfl rfl ?_
  refine fx_bip (p' := 7) rfl rfl rfl ?_
  refine fx_c_lt_T (pT := 16) rfl (by omega) (by omega) rfl (by omega) ?_
  refine am_ev.step (pc' := 17) rfl rfl ?_
  refine ax_gf (p' := 20) rfl rfl (S.ob rfl) v4 ?_
  refine am_ev.step (pc' := 21) rfl rfl ?_
  refine ax_call (z := 31) (p' := 24) (as := [_, _]) rfl (Or.inl ⟨_, rfl⟩) rfl rfl rfl rfl rfl rfl rfl rfl ((tk_31 (c := l) (by omega)).2 q0) rfl ?_
  refine fx_z_eq_T (pT := 33) rfl (by omega) rfl (by omega) ?_
  refine am_ev.step (pc' := 34) rfl rfl ?_
  refine am_ev.step (pc' := 35) rfl rfl ?_
  refine ax_gf (p' := 38) rfl rfl (S.ob rfl) v4 ?_
  refine am_ev.step (pc' := 39) rfl rfl ?_
  refine am_ev.step (pc' := 40) rfl rfl ?_
  refine am_ev.step (pc' := 41) rfl rfl ?_
  refine am_ev.step (pc' := 42) rfl rfl ?_
  refine ax_pf (p' := 45) rfl rfl (S.ob rfl) rfl ?_
  refine am_ev.step (pc' := 46) rfl rfl ?_
  refine am_ev.step (pc' := 49) rfl rfl ?_
  refine am_ev.step (pc' := 50) rfl rfl ?_
  refine ax_iaload (p' := 51) rfl rfl ((S.po rfl rfl).rs (k := l) rfl rfl (by omega)) ?_
  refine am_ev.step (pc' := 54) rfl rfl ?_
  refine am_ev.step (pc' := 55) rfl rfl ?_
  refine ax_iaload (p' := 56) rfl rfl ((S.po rfl rfl).rs (k := l) rfl rfl (by omega)) ?_
  refine ax_call (z := 28) (p' := 59) (as := [_, _, _]) rfl (Or.inr (Or.inl ⟨_, rfl⟩)) rfl rfl rfl rfl rfl rfl (fO (S.ob rfl)) rfl (tk_28c (lo := ((cq_sv 2 l))) (hi := ((cq_sv 3 l))) (by omega) (S.po rfl rfl) (B.put (by decide)) hb hL (ax_put_o (Or.inl (by decide)) w1) (ax_put_o (Or.inl (by decide)) v6) t1 q1) rfl ?_
  refine fx_z_ne_T (pT := 64) rfl (by omega) rfl (by omega) ?_
  refine am_ev.step (pc' := 65) rfl rfl ?_
  refine ax_gf (p' := 68) rfl rfl (fO (fO (fO (fO (S.ob rfl))))) (ax_put_o (Or.inl (by decide)) (ax_put_o (Or.inl (by decide)) (ax_put_o (Or.inl (by decide)) (ax_put_o (Or.inr (by decide)) (S.rf rfl rfl))))) ?_
  refine am_ev.step (pc' := 69) rfl rfl ?_
  refine am_ev.step (pc' := 70) rfl rfl ?_
  refine ax_call (z := 30) (p' := 73) (as := [_]) rfl (Or.inr (Or.inl ⟨_, rfl⟩)) rfl rfl rfl rfl rfl rfl (fO (fO (fO (fO (S.ob rfl))))) rfl (tk_30w ((((S.po rfl rfl).po rfl rfl).po rfl rfl).po rfl rfl) ((((B.put (by decide)).put (by decide)).put (by decide)).put (by decide)) hb hL (ax_put_o (Or.inr (by decide)) (ax_put_o (Or.inr (by decide)) (ax_put_o (Or.inr (by decide)) (ax_put_o (Or.inl (by decide)) w1)))) (ax_put_o (Or.inr (by decide)) (ax_put_o (Or.inr (by decide)) (ax_put_s _ _ _))) (ax_put_o (Or.inr (by decide)) (ax_put_s _ _ _)) t1) rfl ?_
  refine ax_iastore (p' := 74) rfl rfl (((((S.po rfl rfl).po rfl rfl).po rfl rfl).po rfl rfl).wr (k := l) rfl rfl rfl rfl (by omega)) ?_
  refine am_ev.step (pc' := 75) rfl rfl ?_
  refine ax_call (z := 32) (p' := 78) (as := [_]) rfl (Or.inr (Or.inl ⟨_, rfl⟩)) rfl rfl rfl rfl rfl rfl (fO (fO (fO (fO (fO (S.ob rfl)))))) rfl (tk_32a (((((S.po rfl rfl).po rfl rfl).po rfl rfl).po rfl rfl).pa rfl) (((((B.put (by decide)).put (by decide)).put (by decide)).put (by decide)).put (by decide)) hb hL (ax_put_o (Or.inl (by decide)) (ax_put_o (Or.inr (by decide)) (ax_put_o (Or.inr (by decide)) (ax_put_o (Or.inr (by decide)) (ax_put_o (Or.inl (by decide)) w1))))) (ax_put_o (Or.inl (by decide)) (ax_put_o (Or.inr (by decide)) (ax_put_s _ _ _))) t2 q2) rfl ?_
  exact fx_reti rfl rfl rfl
theorem tk_33e (S : fS h) (B : tb h 42 b L) (hb : tz_r b) (hL : L ≤ 1600) (w1 : h.2.2.2 41 1 = iv L) (v5 : h.2.2.2 41 5 = iv s) (v6 : h.2.2.2 41 6 = iv e) (hl : l < 7) (v4 : h.2.2.2 43 4 = .int t) (q0 : bt t l = false) (t1 : tz_t b L e s1 e1 k1 v1) (q1 : k1 = 2 ∧ cq_sv 2 l ≤ v1 ∧ v1 ≤ cq_sv 3 l) (t2 : tz_t b L e1 s2 e2 k2 v2) (q2 : k2 = 59) : am_ev (d + 3) 33 0 (am_ent [.ref 43, iv ((l : Int)), .ref 41] 3) [] h (some (iv 1), (am_put (am_put (am_put (am_put (am_put (am_put (am_put (am_put h 43 4 (.int (t ||| ((Int32.ofInt 1) <<< ((Int32.ofInt ((l : Int))) &&& 31))))) 41 5 (iv ((s1 : Int)))) 41 6 (iv ((e1 : Int)))) 41 2 (iv (k1))) 46 l (iv (v1))) 41 5 (iv ((s2 : Int)))) 41 6 (iv ((e2 : Int)))) 41 2 (iv (k2)))) := by
  have rb := sv_b l hl
  show am_ev (d + 3) 33 0 [.ref 43, iv ((l : Int)), .ref 41] [] h _
  refine am_ev.step (pc' := 1) rfl rfl ?_
  refine fx_z_lt_F (pF := 4) rfl (by omega) rfl (by omega) ?_
  refine am_ev.step (pc' := 5) rfl rfl ?_
  refine fx_bip (p' := 7) rfl rfl rfl ?_
  refine fx_c_lt_T (pT := 16) rfl (by omega) (by omega) rfl (by omega) ?_
  refine am_ev.step (pc' := 17) rfl rfl ?_
  refine ax_gf (p' := 20) rfl rfl (S.ob rfl) v4 ?_
  refine am_ev.step (pc' := 21) rfl rfl ?_
  refine ax_call (z := 31) (p' := 24) (as := [_, _]) rfl (Or.inl ⟨_, rfl⟩) rfl rfl rfl rfl rfl rfl rfl rfl ((tk_31 (c := l) (by omega)).2 q0) rfl ?_
  refine fx_z_eq_T (pT := 33) rfl (by omega) rfl (by omega) ?_
  refine am_ev.step (pc' := 34) rfl rfl ?_
  refine am_ev.step (pc' := 35) rfl rfl ?_
  refine ax_gf (p' := 38) rfl rfl (S.ob rfl) v4 ?_
  refine am_ev.step (pc' := 39) rfl rfl ?_
  refine am_ev.step (pc' := 40) rfl rfl ?_
  refine am_ev.step (pc' := 41) rfl rfl ?_
  refine am_ev.step (pc' := 42) rfl rfl ?_
  refine ax_pf (p' := 45) rfl rfl (S.ob rfl) rfl ?_
  refine am_ev.step (pc' := 46) rfl rfl ?_
  refine am_ev.step (pc' := 49) rfl rfl ?_
  refine am_ev.step (pc' := 50) rfl rfl ?_
  refine ax_iaload (p' := 51) rfl rfl ((S.po rfl rfl).rs (k := l) rfl rfl (by omega)) ?_
  refine am_ev.step (pc' := 54) rfl rfl ?_
  refine am_ev.step (pc' := 55) rfl rfl ?_
  refine ax_iaload (p' := 56) rfl rfl ((S.po rfl rfl).rs (k := l) rfl rfl (by omega)) ?_
  refine ax_call (z := 28) (p' := 59) (as := [_, _, _]) rfl (Or.inr (Or.inl ⟨_, rfl⟩)) rfl rfl rfl rfl rfl rfl (fO (S.ob rfl)) rfl (tk_28c (lo := ((cq_sv 2 l))) (hi := ((cq_sv 3 l))) (by omega) (S.po rfl rfl) (B.put (by decide)) hb hL (ax_put_o (Or.inl (by decide)) w1) (ax_put_o (Or.inl (by decide)) v6) t1 q1) rfl ?_
  refine fx_z_ne_T (pT := 64) rfl (by omega) rfl (by omega) ?_
  refine am_ev.step (pc' := 65) rfl rfl ?_
  refine ax_gf (p' := 68) rfl rfl (fO (fO (fO (fO (S.ob rfl))))) (ax_put_o (Or.inl (by decide)) (ax_put_o (Or.inl (by decide)) (ax_put_o (Or.inl (by decide)) (ax_put_o (Or.inr (by decide)) (S.rf rfl rfl))))) ?_
  refine am_ev.step (pc' := 69) rfl rfl ?_
  refine am_ev.step (pc' := 70) rfl rfl ?_
  refine ax_call (z := 30) (p' := 73) (as := [_]) rfl (Or.inr (Or.inl ⟨_, rfl⟩)) rfl rfl rfl rfl rfl rfl (fO (fO (fO (fO (S.ob rfl))))) rfl (tk_30w ((((S.po rfl rfl).po rfl rfl).po rfl rfl).po rfl rfl) ((((B.put (by decide)).put (by decide)).put (by decide)).put (by decide)) hb hL (ax_put_o (Or.inr (by decide)) (ax_put_o (Or.inr (by decide)) (ax_put_o (Or.inr (by decide)) (ax_put_o (Or.inl (by decide)) w1)))) (ax_put_o (Or.inr (by decide)) (ax_put_o (Or.inr (by decide)) (ax_put_s _ _ _))) (ax_put_o (Or.inr (by decide)) (ax_put_s _ _ _)) t1) rfl ?_
  refine ax_iastore (p' := 74) rfl rfl (((((S.po rfl rfl).po rfl rfl).po rfl rfl).po rfl rfl).wr (k := l) rfl rfl rfl rfl (by omega)) ?_
  refine am_ev.step (pc' := 75) rfl rfl ?_
  refine ax_call (z := 32) (p' := 78) (as := [_]) rfl (Or.inr (Or.inl ⟨_, rfl⟩)) rfl rfl rfl rfl rfl rfl (fO (fO (fO (fO (fO (S.ob rfl)))))) rfl (tk_32b (((((S.po rfl rfl).po rfl rfl).po rfl rfl).po rfl rfl).pa rfl) (((((B.put (by decide)).put (by decide)).put (by decide)).put (by decide)).put (by decide)) hb hL (ax_put_o (Or.inl (by decide)) (ax_put_o (Or.inr (by decide)) (ax_put_o (Or.inr (by decide)) (ax_put_o (Or.inr (by decide)) (ax_put_o (Or.inl (by decide)) w1))))) (ax_put_o (Or.inl (by decide)) (ax_put_o (Or.inr (by decide)) (ax_put_s _ _ _))) t2 q2) rfl ?_
  exact fx_reti rfl rfl rfl
theorem tk_27a (S : fS h) (B : tb h 42 b L) (hb : tz_r b) (hL : L ≤ 1600) (w1 : h.2.2.2 41 1 = iv L) (v6 : h.2.2.2 41 6 = iv e) (v4u : h.2.2.2 43 5 = .int u) (t1 : tz_t b L e s1 e1 k1 v1) (q1 : k1 ≠ 2) : am_ev (d + 3) 27 0 (am_ent [.ref 43, .ref 41] 3) [] h (some (iv 0), (am_put (am_put (am_put (am_put (am_put h 41 5 (iv ((s1 : Int)))) 41 6 (iv ((e1 : Int)))) 41 2 (iv (k1))) 41 3 (iv 1)) 41 4 (iv ((s1 : Int))))) := by
  show am_ev (d + 3) 27 0 [.ref 43, .ref 41, am_ph] [] h _
  refine am_ev.step (pc' := 1) rfl rfl ?_
  refine am_ev.step (pc' := 2) rfl rfl ?_
  refine am_ev.step (pc' := 3) rfl rfl ?_
  refine ax_call (z := 28) (p' := 6) (as := [_, _, _]) rfl (Or.inr (Or.inl ⟨_, rfl⟩)) rfl rfl rfl rfl rfl rfl (S.ob rfl) rfl (tk_28a (lo := 0) (hi := 5) (by omega) S B hb hL w1 v6 t1 q1) rfl ?_
  refine fx_z_ne_F (pF := 9) rfl (by omega) rfl (by omega) ?_
  refine am_ev.step (pc' := 10) rfl rfl ?_
  exact fx_reti rfl rfl rfl
theorem tk_27b (S : fS h) (B : tb h 42 b L) (hb : tz_r b) (hL : L ≤ 1600) (w1 : h.2.2.2 41 1 = iv L) (v6 : h.2.2.2 41 6 = iv e) (v4u : h.2.2.2 43 5 = .int u) (t1 : tz_t b L e s1 e1 k1 v1) (q1 : k1 = 2 ∧ ¬ (0 ≤ v1 ∧ v1 ≤ 5)) : am_ev (d + 3) 27 0 (am_ent [.ref 43, .ref 41] 3) [] h (some (iv 0), (am_put (am_put (am_put (am_put (am_put h 41 5 (iv ((s1 : Int)))) 41 6 (iv ((e1 : Int)))) 41 2 (iv (k1))) 41 3 (iv 2)) 41 4 (iv ((s1 : Int))))) := by
  show am_ev (d + 3) 27 0 [.ref 43, .ref 41, am_ph] [] h _
  refine am_ev.step (pc' := 1) rfl rfl ?_
  refine am_ev.step (pc' := 2) rfl rfl ?_
  refine am_ev.step (pc' := 3) rfl rfl ?_
  refine ax_call (z := 28) (p' := 6) (as := [_, _, _]) rfl (Or.inr (Or.inl ⟨_, rfl⟩)) rfl rfl rfl rfl rfl rfl (S.ob rfl) rfl (tk_28b (lo := 0) (hi := 5) (by omega) S B hb hL w1 v6 t1 q1) rfl ?_
  refine fx_z_ne_F (pF := 9) rfl (by omega) rfl (by omega) ?_
  refine am_ev.step (pc' := 10) rfl rfl ?_
  exact fx_reti rfl rfl rfl
theorem tk_27c (S : fS h) (B : tb h 42 b L) (hb : tz_r b) (hL : L ≤ 1600) (w1 : h.2.2.2 41 1 = iv L) (v6 : h.2.2.2 41 6 = iv e) (v4u : h.2.2.2 43 5 = .int u) (hl : l < 6) (t1 : tz_t b L e s1 e1 k1 (l : Int)) (q1 : k1 = 2) (q0 : bt u l = true) : am_ev (d + 3) 27 0 (am_ent [.ref 43, .ref 41] 3) [] h (some (iv 0), (am_put (am_put (am_put (am_put (am_put h 41 5 (iv ((s1 : Int)))) 41 6 (iv ((e1 : Int)))) 41 2 (iv (k1))) 41 3 (iv 3)) 41 4 (iv ((s1 : Int))))) := by
  show am_ev (d + 3) 27 0 [.ref 43, .ref 41, am_ph] [] h _
  refine am_ev.step (pc' := 1) rfl rfl ?_
  refine am_ev.step (pc' := 2) rfl rfl ?_
  refine am_ev.step (pc' := 3) rfl rfl ?_
  refine ax_call (z := 28) (p' := 6) (as := [_, _, _]) rfl (Or.inr (Or.inl ⟨_, rfl⟩)) rfl rfl rfl rfl rfl rfl (S.ob rfl) rfl (tk_28c (lo := 0) (hi := 5) (by omega) S B hb hL w1 v6 t1 ⟨q1, by omega, by omega⟩) rfl ?_
  refine fx_z_ne_T (pT := 11) rfl (by omega) rfl (by omega) ?_
  refine am_ev.step (pc' := 12) rfl rfl ?_
  refine ax_call (z := 30) (p' := 15) (as := [_]) rfl (Or.inr (Or.inl ⟨_, rfl⟩)) rfl rfl rfl rfl rfl rfl (fO (fO (fO (S.ob rfl)))) rfl (tk_30w (((S.po rfl rfl).po rfl rfl).po rfl rfl) (((B.put (by decide)).put (by decide)).put (by decide)) hb hL (ax_put_o (Or.inr (by decide)) (ax_put_o (Or.inr (by decide)) (ax_put_o (Or.inr (by decide)) w1))) (ax_put_o (Or.inr (by decide)) (ax_put_o (Or.inr (by decide)) (ax_put_s _ _ _))) (ax_put_o (Or.inr (by decide)) (ax_put_s _ _ _)) t1) rfl ?_
  refine am_ev.step (pc' := 16) (ls' := [.ref 43, .ref 41, iv ((l : Int))]) rfl rfl ?_
  refine am_ev.step (pc' := 17) rfl rfl ?_
  refine fx_z_lt_F (pF := 20) rfl (by omega) rfl (by omega) ?_
  refine am_ev.step (pc' := 21) rfl rfl ?_
  refine fx_bip (p' := 23) rfl rfl rfl ?_
  refine fx_c_lt_T (pT := 32) rfl (by omega) (by omega) rfl (by omega) ?_
  refine am_ev.step (pc' := 33) rfl rfl ?_
  refine ax_gf (p' := 36) rfl rfl (fO (fO (fO (S.ob rfl)))) (ax_put_o (Or.inl (by decide)) (ax_put_o (Or.inl (by decide)) (ax_put_o (Or.inl (by decide)) v4u))) ?_
  refine am_ev.step (pc' := 37) rfl rfl ?_
  refine ax_call (z := 31) (p' := 40) (as := [_, _]) rfl (Or.inl ⟨_, rfl⟩) rfl rfl rfl rfl rfl rfl rfl rfl ((tk_31 (c := l) (by omega)).1 q0) rfl ?_
  refine fx_z_eq_F (pF := 43) rfl (by omega) rfl (by omega) ?_
  refine am_ev.step (pc' := 44) rfl rfl ?_
  refine am_ev.step (pc' := 45) rfl rfl ?_
  refine ax_call (z := 29) (p' := 48) (as := [_, _]) rfl (Or.inr (Or.inl ⟨_, rfl⟩)) rfl rfl rfl rfl rfl rfl (fO (fO (fO (S.ob rfl)))) rfl (tk_29 (s := s1) (((S.po rfl rfl).po rfl rfl).po rfl rfl) (ax_put_o (Or.inr (by decide)) (ax_put_o (Or.inr (by decide)) (ax_put_s _ _ _)))) rfl ?_
  exact fx_reti rfl rfl rfl
theorem tk_27d (S : fS h) (B : tb h 42 b L) (hb : tz_r b) (hL : L ≤ 1600) (w1 : h.2.2.2 41 1 = iv L) (v6 : h.2.2.2 41 6 = iv e) (v4u : h.2.2.2 43 5 = .int u) (hl : l < 6) (t1 : tz_t b L e s1 e1 k1 (l : Int)) (q1 : k1 = 2) (q0 : bt u l = false) (t2 : tz_t b L e1 s2 e2 k2 v2) (q2 : k2 ≠ 2) : am_ev (d + 3) 27 0 (am_ent [.ref 43, .ref 41] 3) [] h (some (iv 0), (am_put (am_put (am_put (am_put (am_put (am_put (am_put (am_put (am_put h 41 5 (iv ((s1 : Int)))) 41 6 (iv ((e1 : Int)))) 41 2 (iv (k1))) 43 5 (.int (u ||| ((Int32.ofInt 1) <<< ((Int32.ofInt ((l : Int))) &&& 31))))) 41 5 (iv ((s2 : Int)))) 41 6 (iv ((e2 : Int)))) 41 2 (iv (k2))) 41 3 (iv 1)) 41 4 (iv ((s2 : Int))))) := by
  show am_ev (d + 3) 27 0 [.ref 43, .ref 41, am_ph] [] h _
  refine am_ev.step (pc' := 1) rfl rfl ?_
  refine am_ev.step (pc' := 2) rfl rfl ?_
  refine am_ev.step (pc' := 3) rfl rfl ?_
  refine ax_call (z := 28) (p' := 6) (as := [_, _, _]) rfl (Or.inr (Or.inl ⟨_, rfl⟩)) rfl rfl rfl rfl rfl rfl (S.ob rfl) rfl (tk_28c (lo := 0) (hi := 5) (by omega) S B hb hL w1 v6 t1 ⟨q1, by omega, by omega⟩) rfl ?_
  refine fx_z_ne_T (pT := 11) rfl (by omega) rfl (by omega) ?_
  refine am_ev.step (pc' := 12) rfl rfl ?_
  refine ax_call (z := 30) (p' := 15) (as := [_]) rfl (Or.inr (Or.inl ⟨_, rfl⟩)) rfl rfl rfl rfl rfl rfl (fO (fO (fO (S.ob rfl)))) rfl (tk_30w (((S.po rfl rfl).po rfl rfl).po rfl rfl) (((B.put (by decide)).put (by decide)).put (by decide)) hb hL (ax_put_o (Or.inr (by decide)) (ax_put_o (Or.inr (by decide)) (ax_put_o (Or.inr (by decide)) w1))) (ax_put_o (Or.inr (by decide)) (ax_put_o (Or.inr (by decide)) (ax_put_s _ _ _))) (ax_put_o (Or.inr (by decide)) (ax_put_s _ _ _)) t1) rfl ?_
  refine am_ev.step (pc' := 16) (ls' := [.ref 43, .ref 41, iv ((l : Int))]) rfl rfl ?_
  refine am_ev.step (pc' := 17) rfl rfl ?_
  refine fx_z_lt_F (pF := 20) rfl (by omega) rfl (by omega) ?_
  refine am_ev.step (pc' := 21) rfl rfl ?_
  refine fx_bip (p' := 23) rfl rfl rfl ?_
  refine fx_c_lt_T (pT := 32) rfl (by omega) (by omega) rfl (by omega) ?_
  refine am_ev.step (pc' := 33) rfl rfl ?_
  refine ax_gf (p' := 36) rfl rfl (fO (fO (fO (S.ob rfl)))) (ax_put_o (Or.inl (by decide)) (ax_put_o (Or.inl (by decide)) (ax_put_o (Or.inl (by decide)) v4u))) ?_
  refine am_ev.step (pc' := 37) rfl rfl ?_
  refine ax_call (z := 31) (p' := 40) (as := [_, _]) rfl (Or.inl ⟨_, rfl⟩) rfl rfl rfl rfl rfl rfl rfl rfl ((tk_31 (c := l) (by omega)).2 q0) rfl ?_
  refine fx_z_eq_T (pT := 49) rfl (by omega) rfl (by omega) ?_
  refine am_ev.step (pc' := 50) rfl rfl ?_
  refine am_ev.step (pc' := 51) rfl rfl ?_
  refine ax_gf (p' := 54) rfl rfl (fO (fO (fO (S.ob rfl)))) (ax_put_o (Or.inl (by decide)) (ax_put_o (Or.inl (by decide)) (ax_put_o (Or.inl (by decide)) v4u))) ?_
  refine am_ev.step (pc' := 55) rfl rfl ?_
  refine am_ev.step (pc' := 56) rfl rfl ?_
  refine am_ev.step (pc' := 57) rfl rfl ?_
  refine am_ev.step (pc' := 58) rfl rfl ?_
  refine ax_pf (p' := 61) rfl rfl (fO (fO (fO (S.ob rfl)))) rfl ?_
  refine am_ev.step (pc' := 62) rfl rfl ?_
  refine am_ev.step (pc' := 63) rfl rfl ?_
  refine fx_bip (p' := 65) rfl rfl rfl ?_
  refine ax_call (z := 28) (p' := 68) (as := [_, _, _]) rfl (Or.inr (Or.inl ⟨_, rfl⟩)) rfl rfl rfl rfl rfl rfl (fO (fO (fO (fO (S.ob rfl))))) rfl (tk_28a (lo := 0) (hi := 99) (by omega) ((((S.po rfl rfl).po rfl rfl).po rfl rfl).po rfl rfl) ((((B.put (by decide)).put (by decide)).put (by decide)).put (by decide)) hb hL (ax_put_o (Or.inl (by decide)) (ax_put_o (Or.inr (by decide)) (ax_put_o (Or.inr (by decide)) (ax_put_o (Or.inr (by decide)) w1)))) (ax_put_o (Or.inl (by decide)) (ax_put_o (Or.inr (by decide)) (ax_put_s _ _ _))) t2 q2) rfl ?_
  refine fx_z_ne_F (pF := 71) rfl (by omega) rfl (by omega) ?_
  refine am_ev.step (pc' := 72) rfl rfl ?_
  exact fx_reti rfl rfl rfl
theorem tk_27e (S : fS h) (B : tb h 42 b L) (hb : tz_r b) (hL : L ≤ 1600) (w1 : h.2.2.2 41 1 = iv L) (v6 : h.2.2.2 41 6 = iv e) (v4u : h.2.2.2 43 5 = .int u) (hl : l < 6) (t1 : tz_t b L e s1 e1 k1 (l : Int)) (q1 : k1 = 2) (q0 : bt u l = false) (t2 : tz_t b L e1 s2 e2 k2 v2) (q2 : k2 = 2 ∧ ¬ (0 ≤ v2 ∧ v2 ≤ 99)) : am_ev (d + 3) 27 0 (am_ent [.ref 43, .ref 41] 3) [] h (some (iv 0), (am_put (am_put (am_put (am_put (am_put (am_put (am_put (am_put (am_put h 41 5 (iv ((s1 : Int)))) 41 6 (iv ((e1 : Int)))) 41 2 (iv (k1))) 43 5 (.int (u ||| ((Int32.ofInt 1) <<< ((Int32.ofInt ((l : Int))) &&& 31))))) 41 5 (iv ((s2 : Int)))) 41 6 (iv ((e2 : Int)))) 41 2 (iv (k2))) 41 3 (iv 2)) 41 4 (iv ((s2 : Int))))) := by
  show am_ev (d + 3) 27 0 [.ref 43, .ref 41, am_ph] [] h _
  refine am_ev.step (pc' := 1) rfl rfl ?_
  refine am_ev.step (pc' := 2) rfl rfl ?_
  refine am_ev.step (pc' := 3) rfl rfl ?_
  refine ax_call (z := 28) (p' := 6) (as := [_, _, _]) rfl (Or.inr (Or.inl ⟨_, rfl⟩)) rfl rfl rfl rfl rfl rfl (S.ob rfl) rfl (tk_28c (lo := 0) (hi := 5) (by omega) S B hb hL w1 v6 t1 ⟨q1, by omega, by omega⟩) rfl ?_
  refine fx_z_ne_T (pT := 11) rfl (by omega) rfl (by omega) ?_
  refine am_ev.step (pc' := 12) rfl rfl ?_
  refine ax_call (z := 30) (p' := 15) (as := [_]) rfl (Or.inr (Or.inl ⟨_, rfl⟩)) rfl rfl rfl rfl rfl rfl (fO (fO (fO (S.ob rfl)))) rfl (tk_30w (((S.po rfl rfl).po rfl rfl).po rfl rfl) (((B.put (by decide)).put (by decide)).put (by decide)) hb hL (ax_put_o (Or.inr (by decide)) (ax_put_o (Or.inr (by decide)) (ax_put_o (Or.inr (by decide)) w1))) (ax_put_o (Or.inr (by decide)) (ax_put_o (Or.inr (by decide)) (ax_put_s _ _ _))) (ax_put_o (Or.inr (by decide)) (ax_put_s _ _ _)) t1) rfl ?_
  refine am_ev.step (pc' := 16) (ls' := [.ref 43, .ref 41, iv ((l : Int))]) rfl rfl ?_
  refine am_ev.step (pc' := 17) rfl rfl ?_
  refine fx_z_lt_F (pF := 20) rfl (by omega) rfl (by omega) ?_
  refine am_ev.step (pc' := 21) rfl rfl ?_
  refine fx_bip (p' := 23) rfl rfl rfl ?_
  refine fx_c_lt_T (pT := 32) rfl (by omega) (by omega) rfl (by omega) ?_
  refine am_ev.step (pc' := 33) rfl rfl ?_
  refine ax_gf (p' := 36) rfl rfl (fO (fO (fO (S.ob rfl)))) (ax_put_o (Or.inl (by decide)) (ax_put_o (Or.inl (by decide)) (ax_put_o (Or.inl (by decide)) v4u))) ?_
  refine am_ev.step (pc' := 37) rfl rfl ?_
  refine ax_call (z := 31) (p' := 40) (as := [_, _]) rfl (Or.inl ⟨_, rfl⟩) rfl rfl rfl rfl rfl rfl rfl rfl ((tk_31 (c := l) (by omega)).2 q0) rfl ?_
  refine fx_z_eq_T (pT := 49) rfl (by omega) rfl (by omega) ?_
  refine am_ev.step (pc' := 50) rfl rfl ?_
  refine am_ev.step (pc' := 51) rfl rfl ?_
  refine ax_gf (p' := 54) rfl rfl (fO (fO (fO (S.ob rfl)))) (ax_put_o (Or.inl (by decide)) (ax_put_o (Or.inl (by decide)) (ax_put_o (Or.inl (by decide)) v4u))) ?_
  refine am_ev.step (pc' := 55) rfl rfl ?_
  refine am_ev.step (pc' := 56) rfl rfl ?_
  refine am_ev.step (pc' := 57) rfl rfl ?_
  refine am_ev.step (pc' := 58) rfl rfl ?_
  refine ax_pf (p' := 61) rfl rfl (fO (fO (fO (S.ob rfl)))) rfl ?_
  refine am_ev.step (pc' := 62) rfl rfl ?_
  refine am_ev.step (pc' := 63) rfl rfl ?_
  refine fx_bip (p' := 65) rfl rfl rfl ?_
  refine ax_call (z := 28) (p' := 68) (as := [_, _, _]) rfl (Or.inr (Or.inl ⟨_, rfl⟩)) rfl rfl rfl rfl rfl rfl (fO (fO (fO (fO (S.ob rfl))))) rfl (tk_28b (lo := 0) (hi := 99) (by omega) ((((S.po rfl rfl).po rfl rfl).po rfl rfl).po rfl rfl) ((((B.put (by decide)).put (by decide)).put (by decide)).put (by decide)) hb hL (ax_put_o (Or.inl (by decide)) (ax_put_o (Or.inr (by decide)) (ax_put_o (Or.inr (by decide)) (ax_put_o (Or.inr (by decide)) w1)))) (ax_put_o (Or.inl (by decide)) (ax_put_o (Or.inr (by decide)) (ax_put_s _ _ _))) t2 q2) rfl ?_
  refine fx_z_ne_F (pF := 71) rfl (by omega) rfl (by omega) ?_
  refine am_ev.step (pc' := 72) rfl rfl ?_
  exact fx_reti rfl rfl rfl
theorem tk_27f (S : fS h) (B : tb h 42 b L) (hb : tz_r b) (hL : L ≤ 1600) (w1 : h.2.2.2 41 1 = iv L) (v6 : h.2.2.2 41 6 = iv e) (v4u : h.2.2.2 43 5 = .int u) (hl : l < 6) (t1 : tz_t b L e s1 e1 k1 (l : Int)) (q1 : k1 = 2) (q0 : bt u l = false) (t2 : tz_t b L e1 s2 e2 k2 v2) (q2 : k2 = 2 ∧ 0 ≤ v2 ∧ v2 ≤ 99) (t3 : tz_t b L e2 s3 e3 k3 v3) (q3 : k3 ≠ 59) : am_ev (d + 3) 27 0 (am_ent [.ref 43, .ref 41] 3) [] h (some (iv 0), (am_put (am_put (am_put (am_put (am_put (am_put (am_put (am_put (am_put (am_put (am_put (am_put (am_put h 41 5 (iv ((s1 : Int)))) 41 6 (iv ((e1 : Int)))) 41 2 (iv (k1))) 43 5 (.int (u ||| ((Int32.ofInt 1) <<< ((Int32.ofInt ((l : Int))) &&& 31))))) 41 5 (iv ((s2 : Int)))) 41 6 (iv ((e2 : Int)))) 41 2 (iv (k2))) 47 l (iv (v2))) 41 5 (iv ((s3 : Int)))) 41 6 (iv ((e3 : Int)))) 41 2 (iv (k3))) 41 3 (iv 1)) 41 4 (iv ((s3 : Int))))) := by
  show am_ev (d + 3) 27 0 [.ref 43, .ref 41, am_ph] [] h _
  refine am_ev.step (pc' := 1) rfl rfl ?_
  refine am_ev.step (pc' := 2) rfl rfl ?_
  refine am_ev.step (pc' := 3) rfl rfl ?_
  refine ax_call (z := 28) (p' := 6) (as := [_, _, _]) rfl (Or.inr (Or.inl ⟨_, rfl⟩)) rfl rfl rfl rfl rfl rfl (S.ob rfl) rfl (tk_28c (lo := 0) (hi := 5) (by omega) S B hb hL w1 v6 t1 ⟨q1, by omega, by omega⟩) rfl ?_
  refine fx_z_ne_T (pT := 11) rfl (by omega) rfl (by omega) ?_
  refine am_ev.step (pc' := 12) rfl rfl ?_
  refine ax_call (z := 30) (p' := 15) (as := [_]) rfl (Or.inr (Or.inl ⟨_, rfl⟩)) rfl rfl rfl rfl rfl rfl (fO (fO (fO (S.ob rfl)))) rfl (tk_30w (((S.po rfl rfl).po rfl rfl).po rfl rfl) (((B.put (by decide)).put (by decide)).put (by decide)) hb hL (ax_put_o (Or.inr (by decide)) (ax_put_o (Or.inr (by decide)) (ax_put_o (Or.inr (by decide)) w1))) (ax_put_o (Or.inr (by decide)) (ax_put_o (Or.inr (by decide)) (ax_put_s _ _ _))) (ax_put_o (Or.inr (by decide)) (ax_put_s _ _ _)) t1) rfl ?_
  refine am_ev.step (pc' := 16) (ls' := [.ref 43, .ref 41, iv ((l : Int))]) rfl rfl ?_
  refine am_ev.step (pc' := 17) rfl rfl ?_
  refine fx_z_lt_F (pF := 20) rfl (by omega) rfl (by omega) ?_
  refine am_ev.step (pc' := 21) rfl rfl ?_
  refine fx_bip (p' := 23) rfl rfl rfl ?_
  refine fx_c_lt_T (pT := 32) rfl (by omega) (by omega) rfl (by omega) ?_
  refine am_ev.step (pc' := 33) rfl rfl ?_
  refine ax_gf (p' := 36) rfl rfl (fO (fO (fO (S.ob rfl)))) (ax_put_o (Or.inl (by decide)) (ax_put_o (Or.inl (by decide)) (ax_put_o (Or.inl (by decide)) v4u))) ?_
  refine am_ev.step (pc' := 37) rfl rfl ?_
  refine ax_call (z := 31) (p' := 40) (as := [_, _]) rfl (Or.inl ⟨_, rfl⟩) rfl rfl rfl rfl rfl rfl rfl rfl ((tk_31 (c := l) (by omega)).2 q0) rfl ?_
  refine fx_z_eq_T (pT := 49) rfl (by omega) rfl (by omega) ?_
  refine am_ev.step (pc' := 50) rfl rfl ?_
  refine am_ev.step (pc' := 51) rfl rfl ?_
  refine ax_gf (p' := 54) rfl rfl (fO (fO (fO (S.ob rfl)))) (ax_put_o (Or.inl (by decide)) (ax_put_o (Or.inl (by decide)) (ax_put_o (Or.inl (by decide)) v4u))) ?_
  refine am_ev.step (pc' := 55) rfl rfl ?_
  refine am_ev.step (pc' := 56) rfl rfl ?_
  refine am_ev.step (pc' := 57) rfl rfl ?_
  refine am_ev.step (pc' := 58) rfl rfl ?_
  refine ax_pf (p' := 61) rfl rfl (fO (fO (fO (S.ob rfl)))) rfl ?_
  refine am_ev.step (pc' := 62) rfl rfl ?_
  refine am_ev.step (pc' := 63) rfl rfl ?_
  refine fx_bip (p' := 65) rfl rfl rfl ?_
  refine ax_call (z := 28) (p' := 68) (as := [_, _, _]) rfl (Or.inr (Or.inl ⟨_, rfl⟩)) rfl rfl rfl rfl rfl rfl (fO (fO (fO (fO (S.ob rfl))))) rfl (tk_28c (lo := 0) (hi := 99) (by omega) ((((S.po rfl rfl).po rfl rfl).po rfl rfl).po rfl rfl) ((((B.put (by decide)).put (by decide)).put (by decide)).put (by decide)) hb hL (ax_put_o (Or.inl (by decide)) (ax_put_o (Or.inr (by decide)) (ax_put_o (Or.inr (by decide)) (ax_put_o (Or.inr (by decide)) w1)))) (ax_put_o (Or.inl (by decide)) (ax_put_o (Or.inr (by decide)) (ax_put_s _ _ _))) t2 q2) rfl ?_
  refine fx_z_ne_T (pT := 73) rfl (by omega) rfl (by omega) ?_
  refine am_ev.step (pc' := 74) rfl rfl ?_
  refine ax_gf (p' := 77) rfl rfl (fO (fO (fO (fO (fO (fO (fO (S.ob rfl)))))))) (ax_put_o (Or.inl (by decide)) (ax_put_o (Or.inl (by decide)) (ax_put_o (Or.inl (by decide)) (ax_put_o (Or.inr (by decide)) (ax_put_o (Or.inl (by decide)) (ax_put_o (Or.inl (by decide)) (ax_put_o (Or.inl (by decide)) (S.rf rfl rfl)))))))) ?_
  refine am_ev.step (pc' := 78) rfl rfl ?_
  refine am_ev.step (pc' := 79) rfl rfl ?_
  refine ax_call (z := 30) (p' := 82) (as := [_]) rfl (Or.inr (Or.inl ⟨_, rfl⟩)) rfl rfl rfl rfl rfl rfl (fO (fO (fO (fO (fO (fO (fO (S.ob rfl)))))))) rfl (tk_30w (((((((S.po rfl rfl).po rfl rfl).po rfl rfl).po rfl rfl).po rfl rfl).po rfl rfl).po rfl rfl) (((((((B.put (by decide)).put (by decide)).put (by decide)).put (by decide)).put (by decide)).put (by decide)).put (by decide)) hb hL (ax_put_o (Or.inr (by decide)) (ax_put_o (Or.inr (by decide)) (ax_put_o (Or.inr (by decide)) (ax_put_o (Or.inl (by decide)) (ax_put_o (Or.inr (by decide)) (ax_put_o (Or.inr (by decide)) (ax_put_o (Or.inr (by decide)) w1))))))) (ax_put_o (Or.inr (by decide)) (ax_put_o (Or.inr (by decide)) (ax_put_s _ _ _))) (ax_put_o (Or.inr (by decide)) (ax_put_s _ _ _)) t2) rfl ?_
  refine ax_iastore (p' := 83) rfl rfl ((((((((S.po rfl rfl).po rfl rfl).po rfl rfl).po rfl rfl).po rfl rfl).po rfl rfl).po rfl rfl).wr (k := l) rfl rfl rfl rfl (by omega)) ?_
  refine am_ev.step (pc' := 84) rfl rfl ?_
  refine ax_call (z := 32) (p' := 87) (as := [_]) rfl (Or.inr (Or.inl ⟨_, rfl⟩)) rfl rfl rfl rfl rfl rfl (fO (fO (fO (fO (fO (fO (fO (fO (S.ob rfl))))))))) rfl (tk_32a ((((((((S.po rfl rfl).po rfl rfl).po rfl rfl).po rfl rfl).po rfl rfl).po rfl rfl).po rfl rfl).pa rfl) ((((((((B.put (by decide)).put (by decide)).put (by decide)).put (by decide)).put (by decide)).put (by decide)).put (by decide)).put (by decide)) hb hL (ax_put_o (Or.inl (by decide)) (ax_put_o (Or.inr (by decide)) (ax_put_o (Or.inr (by decide)) (ax_put_o (Or.inr (by decide)) (ax_put_o (Or.inl (by decide)) (ax_put_o (Or.inr (by decide)) (ax_put_o (Or.inr (by decide)) (ax_put_o (Or.inr (by decide)) w1)))))))) (ax_put_o (Or.inl (by decide)) (ax_put_o (Or.inr (by decide)) (ax_put_s _ _ _))) t3 q3) rfl ?_
  exact fx_reti rfl rfl rfl
theorem tk_27g (S : fS h) (B : tb h 42 b L) (hb : tz_r b) (hL : L ≤ 1600) (w1 : h.2.2.2 41 1 = iv L) (v6 : h.2.2.2 41 6 = iv e) (v4u : h.2.2.2 43 5 = .int u) (hl : l < 6) (t1 : tz_t b L e s1 e1 k1 (l : Int)) (q1 : k1 = 2) (q0 : bt u l = false) (t2 : tz_t b L e1 s2 e2 k2 v2) (q2 : k2 = 2 ∧ 0 ≤ v2 ∧ v2 ≤ 99) (t3 : tz_t b L e2 s3 e3 k3 v3) (q3 : k3 = 59) : am_ev (d + 3) 27 0 (am_ent [.ref 43, .ref 41] 3) [] h (some (iv 1), (am_put (am_put (am_put (am_put (am_put (am_put (am_put (am_put (am_put (am_put (am_put h 41 5 (iv ((s1 : Int)))) 41 6 (iv ((e1 : Int)))) 41 2 (iv (k1))) 43 5 (.int (u ||| ((Int32.ofInt 1) <<< ((Int32.ofInt ((l : Int))) &&& 31))))) 41 5 (iv ((s2 : Int)))) 41 6 (iv ((e2 : Int)))) 41 2 (iv (k2))) 47 l (iv (v2))) 41 5 (iv ((s3 : Int)))) 41 6 (iv ((e3 : Int)))) 41 2 (iv (k3)))) := by
  show am_ev (d + 3) 27 0 [.ref 43, .ref 41, am_ph] [] h _
  refine am_ev.step (pc' := 1) rfl rfl ?_
  refine am_ev.step (pc' := 2) rfl rfl ?_
  refine am_ev.step (pc' := 3) rfl rfl ?_
  refine ax_call (z := 28) (p' := 6) (as := [_, _, _]) rfl (Or.inr (Or.inl ⟨_, rfl⟩)) rfl rfl rfl rfl rfl rfl (S.ob rfl) rfl (tk_28c (lo := 0) (hi := 5) (by omega) S B hb hL w1 v6 t1 ⟨q1, by omega, by omega⟩) rfl ?_
  refine fx_z_ne_T (pT := 11) rfl (by omega) rfl (by omega) ?_
  refine am_ev.step (pc' := 12) rfl rfl ?_
  refine ax_call (z := 30) (p' := 15) (as := [_]) rfl (Or.inr (Or.inl ⟨_, rfl⟩)) rfl rfl rfl rfl rfl rfl (fO (fO (fO (S.ob rfl)))) rfl (tk_30w (((S.po rfl rfl).po rfl rfl).po rfl rfl) (((B.put (by decide)).put (by decide)).put (by decide)) hb hL (ax_put_o (Or.inr (by decide)) (ax_put_o (Or.inr (by decide)) (ax_put_o (Or.inr (by decide)) w1))) (ax_put_o (Or.inr (by decide)) (ax_put_o (Or.inr (by decide)) (ax_put_s _ _ _))) (ax_put_o (Or.inr (by decide)) (ax_put_s _ _ _)) t1) rfl ?_
  refine am_ev.step (pc' := 16) (ls' := [.ref 43, .ref 41, iv ((l : Int))]) rfl rfl ?_
  refine am_ev.step (pc' := 17) rfl rfl ?_
  refine fx_z_lt_F (pF := 20) rfl (by omega) rfl (by omega) ?_
  refine am_ev.step (pc' := 21) rfl rfl ?_
  refine fx_bip (p' := 23) rfl rfl rfl ?_
  refine fx_c_lt_T (pT := 32) rfl (by omega) (by omega) rfl (by omega) ?_
  refine am_ev.step (pc' := 33) rfl rfl ?_
  refine ax_gf (p' := 36) rfl rfl (fO (fO (fO (S.ob rfl)))) (ax_put_o (Or.inl (by decide)) (ax_put_o (Or.inl (by decide)) (ax_put_o (Or.inl (by decide)) v4u))) ?_
  refine am_ev.step (pc' := 37) rfl rfl ?_
  refine ax_call (z := 31) (p' := 40) (as := [_, _]) rfl (Or.inl ⟨_, rfl⟩) rfl rfl rfl rfl rfl rfl rfl rfl ((tk_31 (c := l) (by omega)).2 q0) rfl ?_
  refine fx_z_eq_T (pT := 49) rfl (by omega) rfl (by omega) ?_
  refine am_ev.step (pc' := 50) rfl rfl ?_
  refine am_ev.step (pc' := 51) rfl rfl ?_
  refine ax_gf (p' := 54) rfl rfl (fO (fO (fO (S.ob rfl)))) (ax_put_o (Or.inl (by decide)) (ax_put_o (Or.inl (by decide)) (ax_put_o (Or.inl (by decide)) v4u))) ?_
  refine am_ev.step (pc' := 55) rfl rfl ?_
  refine am_ev.step (pc' := 56) rfl rfl ?_
  refine am_ev.step (pc' := 57) rfl rfl ?_
  refine am_ev.step (pc' := 58) rfl rfl ?_
  refine ax_pf (p' := 61) rfl rfl (fO (fO (fO (S.ob rfl)))) rfl ?_
  refine am_ev.step (pc' := 62) rfl rfl ?_
  refine am_ev.step (pc' := 63) rfl rfl ?_
  refine fx_bip (p' := 65) rfl rfl rfl ?_
  refine ax_call (z := 28) (p' := 68) (as := [_, _, _]) rfl (Or.inr (Or.inl ⟨_, rfl⟩)) rfl rfl rfl rfl rfl rfl (fO (fO (fO (fO (S.ob rfl))))) rfl (tk_28c (lo := 0) (hi := 99) (by omega) ((((S.po rfl rfl).po rfl rfl).po rfl rfl).po rfl rfl) ((((B.put (by decide)).put (by decide)).put (by decide)).put (by decide)) hb hL (ax_put_o (Or.inl (by decide)) (ax_put_o (Or.inr (by decide)) (ax_put_o (Or.inr (by decide)) (ax_put_o (Or.inr (by decide)) w1)))) (ax_put_o (Or.inl (by decide)) (ax_put_o (Or.inr (by decide)) (ax_put_s _ _ _))) t2 q2) rfl ?_
  refine fx_z_ne_T (pT := 73) rfl (by omega) rfl (by omega) ?_
  refine am_ev.step (pc' := 74) rfl rfl ?_
  refine ax_gf (p' := 77) rfl rfl (fO (fO (fO (fO (fO (fO (fO (S.ob rfl)))))))) (ax_put_o (Or.inl (by decide)) (ax_put_o (Or.inl (by decide)) (ax_put_o (Or.inl (by decide)) (ax_put_o (Or.inr (by decide)) (ax_put_o (Or.inl (by decide)) (ax_put_o (Or.inl (by decide)) (ax_put_o (Or.inl (by decide)) (S.rf rfl rfl)))))))) ?_
  refine am_ev.step (pc' := 78) rfl rfl ?_
  refine am_ev.step (pc' := 79) rfl rfl ?_
  refine ax_call (z := 30) (p' := 82) (as := [_]) rfl (Or.inr (Or.inl ⟨_, rfl⟩)) rfl rfl rfl rfl rfl rfl (fO (fO (fO (fO (fO (fO (fO (S.ob rfl)))))))) rfl (tk_30w (((((((S.po rfl rfl).po rfl rfl).po rfl rfl).po rfl rfl).po rfl rfl).po rfl rfl).po rfl rfl) (((((((B.put (by decide)).put (by decide)).put (by decide)).put (by decide)).put (by decide)).put (by decide)).put (by decide)) hb hL (ax_put_o (Or.inr (by decide)) (ax_put_o (Or.inr (by decide)) (ax_put_o (Or.inr (by decide)) (ax_put_o (Or.inl (by decide)) (ax_put_o (Or.inr (by decide)) (ax_put_o (Or.inr (by decide)) (ax_put_o (Or.inr (by decide)) w1))))))) (ax_put_o (Or.inr (by decide)) (ax_put_o (Or.inr (by decide)) (ax_put_s _ _ _))) (ax_put_o (Or.inr (by decide)) (ax_put_s _ _ _)) t2) rfl ?_
  refine ax_iastore (p' := 83) rfl rfl ((((((((S.po rfl rfl).po rfl rfl).po rfl rfl).po rfl rfl).po rfl rfl).po rfl rfl).po rfl rfl).wr (k := l) rfl rfl rfl rfl (by omega)) ?_
  refine am_ev.step (pc' := 84) rfl rfl ?_
  refine ax_call (z := 32) (p' := 87) (as := [_]) rfl (Or.inr (Or.inl ⟨_, rfl⟩)) rfl rfl rfl rfl rfl rfl (fO (fO (fO (fO (fO (fO (fO (fO (S.ob rfl))))))))) rfl (tk_32b ((((((((S.po rfl rfl).po rfl rfl).po rfl rfl).po rfl rfl).po rfl rfl).po rfl rfl).po rfl rfl).pa rfl) ((((((((B.put (by decide)).put (by decide)).put (by decide)).put (by decide)).put (by decide)).put (by decide)).put (by decide)).put (by decide)) hb hL (ax_put_o (Or.inl (by decide)) (ax_put_o (Or.inr (by decide)) (ax_put_o (Or.inr (by decide)) (ax_put_o (Or.inr (by decide)) (ax_put_o (Or.inl (by decide)) (ax_put_o (Or.inr (by decide)) (ax_put_o (Or.inr (by decide)) (ax_put_o (Or.inr (by decide)) w1)))))))) (ax_put_o (Or.inl (by decide)) (ax_put_o (Or.inr (by decide)) (ax_put_s _ _ _))) t3 q3) rfl ?_
  exact fx_reti rfl rfl rfl
end TKF
end
