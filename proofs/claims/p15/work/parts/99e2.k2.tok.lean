/-! TOKENS, the other side -/
def tz_u (x : Int) : Int := if x < 0 then x + 256 else x
theorem tz_u_c (x : Int) : (x < 0 ∧ tz_u x = x + 256) ∨ (0 ≤ x ∧ tz_u x = x) := by
  unfold tz_u
  by_cases h : x < 0
  · rw [if_pos h]
    omega
  · rw [if_neg h]
    omega
theorem tz_and0 : ∀ n : Nat, n < 256 → Int32.ofInt ((n : Int) - 128) &&& Int32.ofInt 255 = Int32.ofInt (tz_u ((n : Int) - 128)) := by decide +kernel
theorem tz_and {x : Int} (r : -128 ≤ x ∧ x ≤ 127) : Int32.ofInt x &&& Int32.ofInt 255 = Int32.ofInt (tz_u x) := by
  have k := tz_and0 (x + 128).toNat (by omega)
  have e : ((x + 128).toNat : Int) - 128 = x := by omega
  rw [e] at k
  exact k
def tz_nu (b : Nat → Int) : Nat → Nat → Int → Int
  | 0, _, v => v
  | n + 1, i, v => tz_nu b n (i + 1) (10 * v + b i - 48)
def tz_nv (b : Nat → Int) (s : Nat) : Nat → Nat → Int → Int
  | 0, _, v => v
  | n + 1, p, v => if tz_di (b p) = true then tz_nv b s n (p + 1) (if p < s + 5 then 10 * v + b p - 48 else v) else v
theorem tz_nv_nu {b : Nat → Int} {s : Nat} : ∀ (n p : Nat) (v : Int), s ≤ p → tz_sp tz_di b n p ≤ s + 5 → tz_nv b s n p v = tz_nu b (tz_sp tz_di b n p - p) p v
  | 0, p, v, _, _ => by
    show v = tz_nu b (p - p) p v
    rw [Nat.sub_self]
    rfl
  | n + 1, p, v, h1, h2 => by
    by_cases c : tz_di (b p) = true
    · rw [tz_sp_s c] at h2 ⊢
      have l := (tz_sp_le (c := tz_di) (b := b) n (p + 1)).1
      have e : tz_nv b s (n + 1) p v = tz_nv b s n (p + 1) (if p < s + 5 then 10 * v + b p - 48 else v) := if_pos c
      rw [e, if_pos (by omega), tz_nv_nu n (p + 1) _ (by omega) h2]
      have e2 : tz_sp tz_di b n (p + 1) - p = (tz_sp tz_di b n (p + 1) - (p + 1)) + 1 := by omega
      rw [e2]
      rfl
    · rw [tz_sp_e c]
      have e : tz_nv b s (n + 1) p v = v := if_neg c
      rw [e, Nat.sub_self]
      rfl
theorem tz_nu_b {b : Nat → Int} : ∀ (n p : Nat) (v m : Int), n ≤ 5 → 0 ≤ v → v ≤ m → (∀ i, p ≤ i → i < p + n → tz_di (b i) = true) → 0 ≤ tz_nu b n p v ∧ tz_nu b n p v + 1 ≤ (m + 1) * 10 ^ n
  | 0, p, v, m, _, h0, h1, _ => by
    show 0 ≤ v ∧ v + 1 ≤ (m + 1) * 1
    omega
  | n + 1, p, v, m, hn, h0, h1, hd => by
    have k := of_decide_eq_true (hd p (Nat.le_refl _) (by omega))
    have := tz_nu_b n (p + 1) (10 * v + b p - 48) (10 * m + 9) (by omega) (by omega) (by omega) (fun i a c => hd i (by omega) (by omega))
    have e : (m + 1) * 10 ^ (n + 1) = (10 * m + 9 + 1) * 10 ^ n := by
      rw [Int.pow_succ, Int.mul_comm ((10 : Int) ^ n) 10, ← Int.mul_assoc]
      congr 1
      omega
    rw [e]
    exact this
def tV (b : Nat → Int) (L s : Nat) (v0 : Int) : Int := if L ≤ s then v0 else if tz_le (b s) = true then v0 else if tz_di (b s) = true then tz_nv b s (L - s) s 0 else tz_u (b s)
def tH (k : Int) : Int := if k = 0 then 0 else if k = 1 then 1 else if k = 2 then 2 else if k = 3 then 4 else 3
def M1 (h : am_H) (s e : Nat) (k v : Int) : am_H := am_put (am_put (am_put (am_put h 78 4 (iv s)) 78 7 (iv v)) 78 5 (iv e)) 78 6 (iv k)
section TKC
variable {d : Nat} {h : am_H} {b : Nat → Int} {L : Nat} {x : Option Value × am_H}
theorem tk_171a (S : fS h) (B : tb h 80 b L) (hb : tz_r b) (hL : L ≤ 1600) (v3 : h.2.2.2 78 3 = iv L) {p : Nat} (hp : p < L) : am_ev d 171 0 (am_ent [.ref 78, iv p] 2) [] h (some (iv (tz_u (b p))), h) := by
  show am_ev d 171 0 [.ref 78, iv p] [] h _
  have hr := hb p
  refine am_ev.step (pc' := 1) rfl rfl ?_
  refine am_ev.step (pc' := 2) rfl rfl ?_
  refine ax_gf (p' := 5) rfl rfl (S.ob rfl) v3 ?_
  refine fx_c_ge_F (pF := 8) rfl (by omega) (by omega) rfl (by omega) ?_
  refine am_ev.step (pc' := 9) rfl rfl ?_
  refine ax_gf (p' := 12) rfl rfl (S.ob rfl) (S.rf rfl rfl) ?_
  refine am_ev.step (pc' := 13) rfl rfl ?_
  refine ax_baload (p' := 14) rfl rfl (S.rd (k := p) rfl rfl rfl rfl rfl (by omega) (B p (by omega))) ?_
  refine fx_sip (p' := 17) rfl rfl rfl ?_
  refine am_ev.step (pc' := 18) rfl rfl ?_
  refine am_ev.step (pc' := 22) rfl rfl ?_
  exact fx_reti rfl rfl (by rw [tz_and hr])
theorem tk_171b (S : fS h) (hL : L ≤ 1600) (v3 : h.2.2.2 78 3 = iv L) {p : Nat} (hp : L ≤ p) (hq : p ≤ 1600) : am_ev d 171 0 (am_ent [.ref 78, iv p] 2) [] h (some (iv 0), h) := by
  show am_ev d 171 0 [.ref 78, iv p] [] h _
  refine am_ev.step (pc' := 1) rfl rfl ?_
  refine am_ev.step (pc' := 2) rfl rfl ?_
  refine ax_gf (p' := 5) rfl rfl (S.ob rfl) v3 ?_
  refine fx_c_ge_T (pT := 21) rfl (by omega) (by omega) rfl (by omega) ?_
  refine am_ev.step (pc' := 22) rfl rfl ?_
  exact fx_reti rfl rfl rfl
theorem tk_170a (S : fS h) (B : tb h 80 b L) (hb : tz_r b) (hL : L ≤ 1600) (v3 : h.2.2.2 78 3 = iv L) : ∀ (n p : Nat), L - p = n → p ≤ L → am_ev (d + 1) 170 52 [.ref 78, am_ph] [] (am_put h 78 5 (iv (tz_sp tz_bl b n p))) x → am_ev (d + 1) 170 0 [.ref 78, am_ph] [] (am_put h 78 5 (iv p)) x
  | 0, p, e, hp, q => by
    have e : p = L := by omega
    refine am_ev.step (pc' := 1) rfl rfl ?_
    refine ax_gf (p' := 4) rfl rfl (fO (S.ob rfl)) (ax_put_s _ _ _) ?_
    refine am_ev.step (pc' := 5) rfl rfl ?_
    refine ax_gf (p' := 8) rfl rfl (fO (S.ob rfl)) (ax_put_o (Or.inr (by decide)) v3) ?_
    refine fx_c_ge_T (pT := 52) rfl (by omega) (by omega) rfl (by omega) ?_
    exact q
  | n + 1, p, e, hp, q => by
    have hr := hb p
    by_cases c : tz_bl (b p) = true
    · rw [tz_sp_s c] at q
      have c2 := of_decide_eq_true c
      refine am_ev.step (pc' := 1) rfl rfl ?_
      refine ax_gf (p' := 4) rfl rfl (fO (S.ob rfl)) (ax_put_s _ _ _) ?_
      refine am_ev.step (pc' := 5) rfl rfl ?_
      refine ax_gf (p' := 8) rfl rfl (fO (S.ob rfl)) (ax_put_o (Or.inr (by decide)) v3) ?_
      refine fx_c_ge_F (pF := 11) rfl (by omega) (by omega) rfl (by omega) ?_
      refine am_ev.step (pc' := 12) rfl rfl ?_
      refine ax_gf (p' := 15) rfl rfl (fO (S.ob rfl)) (ax_put_o (Or.inr (by decide)) (S.rf rfl rfl)) ?_
      refine am_ev.step (pc' := 16) rfl rfl ?_
      refine ax_gf (p' := 19) rfl rfl (fO (S.ob rfl)) (ax_put_s _ _ _) ?_
      refine ax_baload (p' := 20) rfl rfl ((S.po rfl rfl).rd (k := p) rfl rfl rfl rfl rfl (by omega) (ax_put_o (Or.inl (by decide)) (B p (by omega)))) ?_
      refine fx_bip (p' := 22) rfl rfl rfl ?_
      refine fx_c_eq (pT := 39) (pF := 25) rfl (by omega) (by omega) rfl rfl (fun k1 => ?_) (fun k1 => ?_)
      · refine am_ev.step (pc' := 40) rfl rfl ?_
        refine am_ev.step (pc' := 41) rfl rfl ?_
        refine ax_gf (p' := 44) rfl rfl (fO (S.ob rfl)) (ax_put_s _ _ _) ?_
        refine am_ev.step (pc' := 45) rfl rfl ?_
        refine fx_add (p' := 46) (e := ((p : Int) + 1)) rfl rfl (by omega) ?_
        refine ax_pf (p' := 49) rfl rfl (fO (S.ob rfl)) rfl ?_
        refine am_ev.step (pc' := 0) rfl rfl ?_
        rw [fx_pp, tz_nc]
        exact tk_170a S B hb hL v3 n (p + 1) (by omega) (by omega) q
      · refine am_ev.step (pc' := 26) rfl rfl ?_
        refine ax_gf (p' := 29) rfl rfl (fO (S.ob rfl)) (ax_put_o (Or.inr (by decide)) (S.rf rfl rfl)) ?_
        refine am_ev.step (pc' := 30) rfl rfl ?_
        refine ax_gf (p' := 33) rfl rfl (fO (S.ob rfl)) (ax_put_s _ _ _) ?_
        refine ax_baload (p' := 34) rfl rfl ((S.po rfl rfl).rd (k := p) rfl rfl rfl rfl rfl (by omega) (ax_put_o (Or.inl (by decide)) (B p (by omega)))) ?_
        refine fx_bip (p' := 36) rfl rfl rfl ?_
        refine fx_c_ne (pT := 52) (pF := 39) rfl (by omega) (by omega) rfl rfl (fun k2 => ?_) (fun k2 => ?_)
        · exfalso
          omega
        · refine am_ev.step (pc' := 40) rfl rfl ?_
          refine am_ev.step (pc' := 41) rfl rfl ?_
          refine ax_gf (p' := 44) rfl rfl (fO (S.ob rfl)) (ax_put_s _ _ _) ?_
          refine am_ev.step (pc' := 45) rfl rfl ?_
          refine fx_add (p' := 46) (e := ((p : Int) + 1)) rfl rfl (by omega) ?_
          refine ax_pf (p' := 49) rfl rfl (fO (S.ob rfl)) rfl ?_
          refine am_ev.step (pc' := 0) rfl rfl ?_
          rw [fx_pp, tz_nc]
          exact tk_170a S B hb hL v3 n (p + 1) (by omega) (by omega) q
    · rw [tz_sp_e c] at q
      have c2 : ¬ (b p = 32 ∨ b p = 10) := fun z => c (decide_eq_true z)
      refine am_ev.step (pc' := 1) rfl rfl ?_
      refine ax_gf (p' := 4) rfl rfl (fO (S.ob rfl)) (ax_put_s _ _ _) ?_
      refine am_ev.step (pc' := 5) rfl rfl ?_
      refine ax_gf (p' := 8) rfl rfl (fO (S.ob rfl)) (ax_put_o (Or.inr (by decide)) v3) ?_
      refine fx_c_ge_F (pF := 11) rfl (by omega) (by omega) rfl (by omega) ?_
      refine am_ev.step (pc' := 12) rfl rfl ?_
      refine ax_gf (p' := 15) rfl rfl (fO (S.ob rfl)) (ax_put_o (Or.inr (by decide)) (S.rf rfl rfl)) ?_
      refine am_ev.step (pc' := 16) rfl rfl ?_
      refine ax_gf (p' := 19) rfl rfl (fO (S.ob rfl)) (ax_put_s _ _ _) ?_
      refine ax_baload (p' := 20) rfl rfl ((S.po rfl rfl).rd (k := p) rfl rfl rfl rfl rfl (by omega) (ax_put_o (Or.inl (by decide)) (B p (by omega)))) ?_
      refine fx_bip (p' := 22) rfl rfl rfl ?_
      refine fx_c_eq (pT := 39) (pF := 25) rfl (by omega) (by omega) rfl rfl (fun k1 => ?_) (fun k1 => ?_)
      · refine am_ev.step (pc' := 40) rfl rfl ?_
        refine am_ev.step (pc' := 41) rfl rfl ?_
        refine ax_gf (p' := 44) rfl rfl (fO (S.ob rfl)) (ax_put_s _ _ _) ?_
        refine am_ev.step (pc' := 45) rfl rfl ?_
        refine fx_add (p' := 46) (e := ((p : Int) + 1)) rfl rfl (by omega) ?_
        refine ax_pf (p' := 49) rfl rfl (fO (S.ob rfl)) rfl ?_
        refine am_ev.step (pc' := 0) rfl rfl ?_
        exfalso
        omega
      · refine am_ev.step (pc' := 26) rfl rfl ?_
        refine ax_gf (p' := 29) rfl rfl (fO (S.ob rfl)) (ax_put_o (Or.inr (by decide)) (S.rf rfl rfl)) ?_
        refine am_ev.step (pc' := 30) rfl rfl ?_
        refine ax_gf (p' := 33) rfl rfl (fO (S.ob rfl)) (ax_put_s _ _ _) ?_
        refine ax_baload (p' := 34) rfl rfl ((S.po rfl rfl).rd (k := p) rfl rfl rfl rfl rfl (by omega) (ax_put_o (Or.inl (by decide)) (B p (by omega)))) ?_
        refine fx_bip (p' := 36) rfl rfl rfl ?_
        refine fx_c_ne (pT := 52) (pF := 39) rfl (by omega) (by omega) rfl rfl (fun k2 => ?_) (fun k2 => ?_)
        · exact q
        · refine am_ev.step (pc' := 40) rfl rfl ?_
          refine am_ev.step (pc' := 41) rfl rfl ?_
          refine ax_gf (p' := 44) rfl rfl (fO (S.ob rfl)) (ax_put_s _ _ _) ?_
          refine am_ev.step (pc' := 45) rfl rfl ?_
          refine fx_add (p' := 46) (e := ((p : Int) + 1)) rfl rfl (by omega) ?_
          refine ax_pf (p' := 49) rfl rfl (fO (S.ob rfl)) rfl ?_
          refine am_ev.step (pc' := 0) rfl rfl ?_
          exfalso
          omega
theorem tk_170b {c0 : Int} (S : fS h) (B : tb h 80 b L) (hb : tz_r b) (hL : L ≤ 1600) (v3 : h.2.2.2 78 3 = iv L) : ∀ (n p : Nat), L - p = n → p ≤ L → am_ev (d + 1) 170 122 [.ref 78, iv c0] [] (am_put h 78 5 (iv (tz_sp tz_le b n p))) x → am_ev (d + 1) 170 95 [.ref 78, iv c0] [] (am_put h 78 5 (iv p)) x
  | 0, p, e, hp, q => by
    have e : p = L := by omega
    refine am_ev.step (pc' := 96) rfl rfl ?_
    refine am_ev.step (pc' := 97) rfl rfl ?_
    refine ax_gf (p' := 100) rfl rfl (fO (S.ob rfl)) (ax_put_s _ _ _) ?_
    refine ax_call (z := 171) (p' := 103) (as := [_, _]) rfl (Or.inr (Or.inl ⟨_, rfl⟩)) rfl rfl rfl rfl rfl rfl (fO (S.ob rfl)) rfl (tk_171b (S.po rfl rfl) hL (ax_put_o (Or.inr (by decide)) v3) (p := p) (by omega) (by omega)) rfl ?_
    refine ax_call (z := 172) (p' := 106) (as := [_]) rfl (Or.inl ⟨_, rfl⟩) rfl rfl rfl rfl rfl rfl rfl rfl (tk_172f (by omega) (by omega)) rfl ?_
    refine fx_z_eq_T (pT := 122) rfl (by omega) rfl (by omega) ?_
    exact q
  | n + 1, p, e, hp, q => by
    have hr := hb p
    have hu := tz_u_c (b p)
    by_cases c : tz_le (b p) = true
    · rw [tz_sp_s c] at q
      have c2 := of_decide_eq_true c
      refine am_ev.step (pc' := 96) rfl rfl ?_
      refine am_ev.step (pc' := 97) rfl rfl ?_
      refine ax_gf (p' := 100) rfl rfl (fO (S.ob rfl)) (ax_put_s _ _ _) ?_
      refine ax_call (z := 171) (p' := 103) (as := [_, _]) rfl (Or.inr (Or.inl ⟨_, rfl⟩)) rfl rfl rfl rfl rfl rfl (fO (S.ob rfl)) rfl (tk_171a (S.po rfl rfl) (B.put (by decide)) hb hL (ax_put_o (Or.inr (by decide)) v3) (p := p) (by omega)) rfl ?_
      refine ax_call (z := 172) (p' := 106) (as := [_]) rfl (Or.inl ⟨_, rfl⟩) rfl rfl rfl rfl rfl rfl rfl rfl (tk_172t (by omega) (by omega)) rfl ?_
      refine fx_z_eq_F (pF := 109) rfl (by omega) rfl (by omega) ?_
      refine am_ev.step (pc' := 110) rfl rfl ?_
      refine am_ev.step (pc' := 111) rfl rfl ?_
      refine ax_gf (p' := 114) rfl rfl (fO (S.ob rfl)) (ax_put_s _ _ _) ?_
      refine am_ev.step (pc' := 115) rfl rfl ?_
      refine fx_add (p' := 116) (e := ((p : Int) + 1)) rfl rfl (by omega) ?_
      refine ax_pf (p' := 119) rfl rfl (fO (S.ob rfl)) rfl ?_
      refine am_ev.step (pc' := 95) rfl rfl ?_
      rw [fx_pp, tz_nc]
      exact tk_170b S B hb hL v3 n (p + 1) (by omega) (by omega) q
    · rw [tz_sp_e c] at q
      have c2 : ¬ (97 ≤ b p ∧ b p ≤ 122) := fun z => c (decide_eq_true z)
      refine am_ev.step (pc' := 96) rfl rfl ?_
      refine am_ev.step (pc' := 97) rfl rfl ?_
      refine ax_gf (p' := 100) rfl rfl (fO (S.ob rfl)) (ax_put_s _ _ _) ?_
      refine ax_call (z := 171) (p' := 103) (as := [_, _]) rfl (Or.inr (Or.inl ⟨_, rfl⟩)) rfl rfl rfl rfl rfl rfl (fO (S.ob rfl)) rfl (tk_171a (S.po rfl rfl) (B.put (by decide)) hb hL (ax_put_o (Or.inr (by decide)) v3) (p := p) (by omega)) rfl ?_
      refine ax_call (z := 172) (p' := 106) (as := [_]) rfl (Or.inl ⟨_, rfl⟩) rfl rfl rfl rfl rfl rfl rfl rfl (tk_172f (by omega) (by omega)) rfl ?_
      refine fx_z_eq_T (pT := 122) rfl (by omega) rfl (by omega) ?_
      exact q
theorem tk_170c {c0 : Int} {s : Nat} (S : fS h) (B : tb h 80 b L) (hb : tz_r b) (hL : L ≤ 1600) (v3 : h.2.2.2 78 3 = iv L) (v4 : h.2.2.2 78 4 = iv s) : ∀ (n p : Nat) (v : Int), L - p = n → p ≤ L → s ≤ p → am_ev (d + 1) 170 223 [.ref 78, iv c0] [] (am_put (am_put h 78 7 (iv (tz_nv b s n p v))) 78 5 (iv (tz_sp tz_di b n p))) x → am_ev (d + 1) 170 160 [.ref 78, iv c0] [] (am_put (am_put h 78 7 (iv v)) 78 5 (iv p)) x
  | 0, p, v, e, hp, hs, q => by
    have e : p = L := by omega
    refine am_ev.step (pc' := 161) rfl rfl ?_
    refine am_ev.step (pc' := 162) rfl rfl ?_
    refine ax_gf (p' := 165) rfl rfl (fO (fO (S.ob rfl))) (ax_put_s _ _ _) ?_
    refine ax_call (z := 171) (p' := 168) (as := [_, _]) rfl (Or.inr (Or.inl ⟨_, rfl⟩)) rfl rfl rfl rfl rfl rfl (fO (fO (S.ob rfl))) rfl (tk_171b ((S.po rfl rfl).po rfl rfl) hL (ax_put_o (Or.inr (by decide)) (ax_put_o (Or.inr (by decide)) v3)) (p := p) (by omega) (by omega)) rfl ?_
    refine ax_call (z := 173) (p' := 171) (as := [_]) rfl (Or.inl ⟨_, rfl⟩) rfl rfl rfl rfl rfl rfl rfl rfl (tk_173f (by omega) (by omega)) rfl ?_
    refine fx_z_eq_T (pT := 223) rfl (by omega) rfl (by omega) ?_
    exact q
  | n + 1, p, v, e, hp, hs, q => by
    have hr := hb p
    have hu := tz_u_c (b p)
    by_cases c : tz_di (b p) = true
    · rw [tz_sp_s c] at q
      have c2 := of_decide_eq_true c
      have e2 : tz_nv b s (n + 1) p v = tz_nv b s n (p + 1) (if p < s + 5 then 10 * v + b p - 48 else v) := if_pos c
      rw [e2] at q
      refine am_ev.step (pc' := 161) rfl rfl ?_
      refine am_ev.step (pc' := 162) rfl rfl ?_
      refine ax_gf (p' := 165) rfl rfl (fO (fO (S.ob rfl))) (ax_put_s _ _ _) ?_
      refine ax_call (z := 171) (p' := 168) (as := [_, _]) rfl (Or.inr (Or.inl ⟨_, rfl⟩)) rfl rfl rfl rfl rfl rfl (fO (fO (S.ob rfl))) rfl (tk_171a ((S.po rfl rfl).po rfl rfl) ((B.put (by decide)).put (by decide)) hb hL (ax_put_o (Or.inr (by decide)) (ax_put_o (Or.inr (by decide)) v3)) (p := p) (by omega)) rfl ?_
      refine ax_call (z := 173) (p' := 171) (as := [_]) rfl (Or.inl ⟨_, rfl⟩) rfl rfl rfl rfl rfl rfl rfl rfl (tk_173t (by omega) (by omega)) rfl ?_
      refine fx_z_eq_F (pF := 174) rfl (by omega) rfl (by omega) ?_
      refine am_ev.step (pc' := 175) rfl rfl ?_
      refine ax_gf (p' := 178) rfl rfl (fO (fO (S.ob rfl))) (ax_put_s _ _ _) ?_
      refine am_ev.step (pc' := 179) rfl rfl ?_
      refine ax_gf (p' := 182) rfl rfl (fO (fO (S.ob rfl))) (ax_put_o (Or.inr (by decide)) (ax_put_o (Or.inr (by decide)) v4)) ?_
      refine fx_sub (p' := 183) (e := ((p : Int) - (s : Int))) rfl rfl (by omega) ?_
      refine am_ev.step (pc' := 184) rfl rfl ?_
      refine fx_c_ge (pT := 210) (pF := 187) rfl (by omega) (by omega) rfl rfl (fun k1 => ?_) (fun k1 => ?_)
      · refine am_ev.step (pc' := 211) rfl rfl ?_
        refine am_ev.step (pc' := 212) rfl rfl ?_
        refine ax_gf (p' := 215) rfl rfl (fO (fO (S.ob rfl))) (ax_put_s _ _ _) ?_
        refine am_ev.step (pc' := 216) rfl rfl ?_
        refine fx_add (p' := 217) (e := ((p : Int) + 1)) rfl rfl (by omega) ?_
        refine ax_pf (p' := 220) rfl rfl (fO (fO (S.ob rfl))) rfl ?_
        refine am_ev.step (pc' := 160) rfl rfl ?_
        rw [if_neg (by omega)] at q
        rw [fx_pp, tz_nc]
        exact tk_170c S B hb hL v3 v4 n (p + 1) _ (by omega) (by omega) (by omega) q
      · refine am_ev.step (pc' := 188) rfl rfl ?_
        refine fx_bip (p' := 190) rfl rfl rfl ?_
        refine am_ev.step (pc' := 191) rfl rfl ?_
        refine ax_gf (p' := 194) rfl rfl (fO (fO (S.ob rfl))) (ax_put_o (Or.inr (by decide)) (ax_put_s _ _ _)) ?_
        refine fx_mul (p' := 195) (e := (10 * v)) rfl rfl (by omega) ?_
        refine am_ev.step (pc' := 196) rfl rfl ?_
        refine am_ev.step (pc' := 197) rfl rfl ?_
        refine ax_gf (p' := 200) rfl rfl (fO (fO (S.ob rfl))) (ax_put_s _ _ _) ?_
        refine ax_call (z := 171) (p' := 203) (as := [_, _]) rfl (Or.inr (Or.inl ⟨_, rfl⟩)) rfl rfl rfl rfl rfl rfl (fO (fO (S.ob rfl))) rfl (tk_171a ((S.po rfl rfl).po rfl rfl) ((B.put (by decide)).put (by decide)) hb hL (ax_put_o (Or.inr (by decide)) (ax_put_o (Or.inr (by decide)) v3)) (p := p) (by omega)) rfl ?_
        refine fx_add (p' := 204) (e := (10 * v + (tz_u (b p)))) rfl rfl (by omega) ?_
        refine fx_bip (p' := 206) rfl rfl rfl ?_
        refine fx_sub (p' := 207) (e := (10 * v + (tz_u (b p)) - 48)) rfl rfl (by omega) ?_
        refine ax_pf (p' := 210) rfl rfl (fO (fO (S.ob rfl))) rfl ?_
        refine am_ev.step (pc' := 211) rfl rfl ?_
        refine am_ev.step (pc' := 212) rfl rfl ?_
        refine ax_gf (p' := 215) rfl rfl (fO (fO (fO (S.ob rfl)))) (ax_put_o (Or.inr (by decide)) (ax_put_s _ _ _)) ?_
        refine am_ev.step (pc' := 216) rfl rfl ?_
        refine fx_add (p' := 217) (e := ((p : Int) + 1)) rfl rfl (by omega) ?_
        refine ax_pf (p' := 220) rfl rfl (fO (fO (fO (S.ob rfl)))) rfl ?_
        refine am_ev.step (pc' := 160) rfl rfl ?_
        rw [if_pos (by omega)] at q
        have e3 : 10 * v + tz_u (b p) - 48 = 10 * v + b p - 48 := by omega
        rw [fx_pc (h := am_put h 78 7 (iv v)) (j := 5) (i := 7) (by decide), fx_pp, fx_pp, tz_nc, e3]
        exact tk_170c S B hb hL v3 v4 n (p + 1) _ (by omega) (by omega) (by omega) q
    · rw [tz_sp_e c] at q
      have c2 : ¬ (48 ≤ b p ∧ b p ≤ 57) := fun z => c (decide_eq_true z)
      have e2 : tz_nv b s (n + 1) p v = v := if_neg c
      rw [e2] at q
      refine am_ev.step (pc' := 161) rfl rfl ?_
      refine am_ev.step (pc' := 162) rfl rfl ?_
      refine ax_gf (p' := 165) rfl rfl (fO (fO (S.ob rfl))) (ax_put_s _ _ _) ?_
      refine ax_call (z := 171) (p' := 168) (as := [_, _]) rfl (Or.inr (Or.inl ⟨_, rfl⟩)) rfl rfl rfl rfl rfl rfl (fO (fO (S.ob rfl))) rfl (tk_171a ((S.po rfl rfl).po rfl rfl) ((B.put (by decide)).put (by decide)) hb hL (ax_put_o (Or.inr (by decide)) (ax_put_o (Or.inr (by decide)) v3)) (p := p) (by omega)) rfl ?_
      refine ax_call (z := 173) (p' := 171) (as := [_]) rfl (Or.inl ⟨_, rfl⟩) rfl rfl rfl rfl rfl rfl rfl rfl (tk_173f (by omega) (by omega)) rfl ?_
      refine fx_z_eq_T (pT := 223) rfl (by omega) rfl (by omega) ?_
      exact q
theorem tz_M {u : Value} {s e : Nat} {k v : Int} : am_put (am_put (am_put (am_put (am_put h 78 5 u) 78 4 (iv s)) 78 7 (iv v)) 78 5 (iv e)) 78 6 (iv k) = M1 h s e k v := by
  unfold M1
  rw [fx_pc (h := h) (j := 5) (i := 4) (by decide), fx_pc (h := am_put h 78 4 (iv s)) (j := 5) (i := 7) (by decide), fx_pp]
theorem tz_MS {u : Value} {s e : Nat} {k v : Int} : am_put (am_put (am_put (am_put (am_put h 78 5 u) 78 4 (iv s)) 78 6 (iv k)) 78 7 (iv v)) 78 5 (iv e) = M1 h s e k v := by
  rw [fx_pc (h := am_put (am_put h 78 5 u) 78 4 (iv s)) (j := 6) (i := 7) (by decide), fx_pc (h := am_put (am_put (am_put h 78 5 u) 78 4 (iv s)) 78 7 (iv v)) (j := 6) (i := 5) (by decide), tz_M]
theorem tz_MW {u : Value} {s e : Nat} {k v : Int} (v7 : h.2.2.2 78 7 = iv v) : am_put (am_put (am_put (am_put h 78 5 u) 78 4 (iv s)) 78 5 (iv e)) 78 6 (iv k) = M1 h s e k v := by
  rw [← tz_M (u := u), fx_pi (h := am_put (am_put h 78 5 u) 78 4 (iv s)) (c := 78) (j := 7) (v := iv v) (ax_put_o (Or.inr (by decide)) (ax_put_o (Or.inr (by decide)) v7))]
theorem tz_ME {s : Nat} {k v : Int} (v7 : h.2.2.2 78 7 = iv v) : am_put (am_put (am_put h 78 5 (iv s)) 78 4 (iv s)) 78 6 (iv k) = M1 h s s k v := by
  rw [← tz_MW (u := iv s) v7, fx_pi (h := am_put (am_put h 78 5 (iv s)) 78 4 (iv s)) (c := 78) (j := 5) (v := iv s) (ax_put_o (Or.inr (by decide)) (ax_put_s _ _ _))]
theorem tk_170 (S : fS h) (B : tb h 80 b L) (hb : tz_r b) (hL : L ≤ 1600) (v3 : h.2.2.2 78 3 = iv L) {p : Nat} (v5 : h.2.2.2 78 5 = iv p) (hp : p ≤ L) {v0 : Int} (v7 : h.2.2.2 78 7 = iv v0) : am_ev (d + 1) 170 0 (am_ent [.ref 78] 2) [] h (none, M1 h (tS b L p) (tE b L (tS b L p)) (tH (tK b L (tS b L p))) (tV b L (tS b L p) v0)) := by
  have top : ∀ x, am_ev (d + 1) 170 52 [.ref 78, am_ph] [] (am_put h 78 5 (iv (tS b L p))) x → am_ev (d + 1) 170 0 (am_ent [.ref 78] 2) [] h x := fun x q => fx_hc (fx_pi v5).symm (tk_170a S B hb hL v3 (L - p) p rfl hp q)
  have hs := tS_le b hp
  generalize tS b L p = s at hs top ⊢
  obtain ⟨s1, s2⟩ := hs
  by_cases c1 : L ≤ s
  · have hK : tK b L s = 0 := if_pos c1
    have es : s = L := by omega
    rw [show tE b L s = s from if_pos c1, hK, show tV b L s v0 = v0 from if_pos c1]
    refine top _ ?_
    refine am_ev.step (pc' := 53) rfl rfl ?_
    refine am_ev.step (pc' := 54) rfl rfl ?_
    refine ax_gf (p' := 57) rfl rfl (fO (S.ob rfl)) (ax_put_s _ _ _) ?_
    refine ax_pf (p' := 60) rfl rfl (fO (S.ob rfl)) rfl ?_
    refine am_ev.step (pc' := 61) rfl rfl ?_
    refine am_ev.step (pc' := 62) rfl rfl ?_
    refine ax_gf (p' := 65) rfl rfl (fO (fO (S.ob rfl))) (ax_put_s _ _ _) ?_
    refine ax_call (z := 171) (p' := 68) (as := [_, _]) rfl (Or.inr (Or.inl ⟨_, rfl⟩)) rfl rfl rfl rfl rfl rfl (fO (fO (S.ob rfl))) rfl (tk_171b ((S.po rfl rfl).po rfl rfl) hL (ax_put_o (Or.inr (by decide)) (ax_put_o (Or.inr (by decide)) v3)) (p := s) (by omega) (by omega)) rfl ?_
    refine am_ev.step (pc' := 69) (ls' := [.ref 78, iv 0]) rfl rfl ?_
    refine am_ev.step (pc' := 70) rfl rfl ?_
    refine ax_gf (p' := 73) rfl rfl (fO (fO (S.ob rfl))) (ax_put_s _ _ _) ?_
    refine am_ev.step (pc' := 74) rfl rfl ?_
    refine ax_gf (p' := 77) rfl rfl (fO (fO (S.ob rfl))) (ax_put_o (Or.inr (by decide)) (ax_put_o (Or.inr (by decide)) v3)) ?_
    refine fx_c_ne_F (pF := 80) rfl (by omega) (by omega) rfl (by omega) ?_
    refine am_ev.step (pc' := 81) rfl rfl ?_
    refine am_ev.step (pc' := 82) rfl rfl ?_
    refine ax_pf (p' := 85) rfl rfl (fO (fO (S.ob rfl))) rfl ?_
    refine am_ev.step (pc' := 290) rfl rfl ?_
    exact fx_cast (am_ev.retv rfl rfl) (by rw [tz_ME v7]; rfl)
  · have hr := hb s
    have hu := tz_u_c (b s)
    by_cases c2 : tz_le (b s) = true
    · have c3 := of_decide_eq_true c2
      have hE : tE b L s = tz_sp tz_le b (L - s) s := by
        unfold tE
        rw [if_neg c1, if_pos c2]
      have hK : tK b L s = if tE b L s ≤ s + 12 then 1 else 3 := by
        rw [hE]
        unfold tK
        rw [if_neg c1, if_pos c2]
      have he := tE_le b s2
      have hV : tV b L s v0 = v0 := by
        unfold tV
        rw [if_neg c1, if_pos c2]
      rw [hV]
      refine top _ ?_
      refine am_ev.step (pc' := 53) rfl rfl ?_
      refine am_ev.step (pc' := 54) rfl rfl ?_
      refine ax_gf (p' := 57) rfl rfl (fO (S.ob rfl)) (ax_put_s _ _ _) ?_
      refine ax_pf (p' := 60) rfl rfl (fO (S.ob rfl)) rfl ?_
      refine am_ev.step (pc' := 61) rfl rfl ?_
      refine am_ev.step (pc' := 62) rfl rfl ?_
      refine ax_gf (p' := 65) rfl rfl (fO (fO (S.ob rfl))) (ax_put_s _ _ _) ?_
      refine ax_call (z := 171) (p' := 68) (as := [_, _]) rfl (Or.inr (Or.inl ⟨_, rfl⟩)) rfl rfl rfl rfl rfl rfl (fO (fO (S.ob rfl))) rfl (tk_171a ((S.po rfl rfl).po rfl rfl) ((B.put (by decide)).put (by decide)) hb hL (ax_put_o (Or.inr (by decide)) (ax_put_o (Or.inr (by decide)) v3)) (p := s) (by omega)) rfl ?_
      refine am_ev.step (pc' := 69) (ls' := [.ref 78, iv ((tz_u (b s)))]) rfl rfl ?_
      refine am_ev.step (pc' := 70) rfl rfl ?_
      refine ax_gf (p' := 73) rfl rfl (fO (fO (S.ob rfl))) (ax_put_s _ _ _) ?_
      refine am_ev.step (pc' := 74) rfl rfl ?_
      refine ax_gf (p' := 77) rfl rfl (fO (fO (S.ob rfl))) (ax_put_o (Or.inr (by decide)) (ax_put_o (Or.inr (by decide)) v3)) ?_
      refine fx_c_ne_T (pT := 88) rfl (by omega) (by omega) rfl (by omega) ?_
      refine am_ev.step (pc' := 89) rfl rfl ?_
      refine ax_call (z := 172) (p' := 92) (as := [_]) rfl (Or.inl ⟨_, rfl⟩) rfl rfl rfl rfl rfl rfl rfl rfl (tk_172t (by omega) (by omega)) rfl ?_
      refine fx_z_eq_F (pF := 95) rfl (by omega) rfl (by omega) ?_
      have g5 : (am_put (am_put h 78 5 (iv s)) 78 4 (iv s)).2.2.2 78 5 = iv s := ax_put_o (Or.inr (by decide)) (ax_put_s _ _ _)
      refine fx_hc (fx_pi g5).symm ?_
      refine tk_170b ((S.po rfl rfl).po rfl rfl) ((B.put (by decide)).put (by decide)) hb hL (ax_put_o (Or.inr (by decide)) (ax_put_o (Or.inr (by decide)) v3)) (L - s) s rfl s2 ?_
      rw [hK, ← hE]
      generalize tE b L s = e at he ⊢
      obtain ⟨e1, e2⟩ := he
      refine am_ev.step (pc' := 123) rfl rfl ?_
      refine am_ev.step (pc' := 124) rfl rfl ?_
      refine ax_gf (p' := 127) rfl rfl (fO (fO (fO (S.ob rfl)))) (ax_put_s _ _ _) ?_
      refine am_ev.step (pc' := 128) rfl rfl ?_
      refine ax_gf (p' := 131) rfl rfl (fO (fO (fO (S.ob rfl)))) (ax_put_o (Or.inr (by decide)) (ax_put_s _ _ _)) ?_
      refine fx_sub (p' := 132) (e := ((e : Int) - (s : Int))) rfl rfl (by omega) ?_
      refine fx_bip (p' := 134) rfl rfl rfl ?_
      refine fx_c_le (pT := 141) (pF := 137) rfl (by omega) (by omega) rfl rfl (fun k1 => ?_) (fun k1 => ?_)
      · refine am_ev.step (pc' := 142) rfl rfl ?_
        refine ax_pf (p' := 145) rfl rfl (fO (fO (fO (S.ob rfl)))) rfl ?_
        refine am_ev.step (pc' := 290) rfl rfl ?_
        exact fx_cast (am_ev.retv rfl rfl) (by rw [tz_MW v7, if_pos (by omega)]; rfl)
      · refine am_ev.step (pc' := 138) rfl rfl ?_
        refine am_ev.step (pc' := 142) rfl rfl ?_
        refine ax_pf (p' := 145) rfl rfl (fO (fO (fO (S.ob rfl)))) rfl ?_
        refine am_ev.step (pc' := 290) rfl rfl ?_
        exact fx_cast (am_ev.retv rfl rfl) (by rw [tz_MW v7, if_neg (by omega)]; rfl)
    · have c3 : ¬ (97 ≤ b s ∧ b s ≤ 122) := fun z => c2 (decide_eq_true z)
      by_cases c4 : tz_di (b s) = true
      · have c5 := of_decide_eq_true c4
        have hE : tE b L s = tz_sp tz_di b (L - s) s := by
          unfold tE
          rw [if_neg c1, if_neg c2, if_pos c4]
        have hK : tK b L s = if tE b L s ≤ s + 5 then 2 else 3 := by
          rw [hE]
          unfold tK
          rw [if_neg c1, if_neg c2, if_pos c4]
        have he := tE_le b s2
        have hV : tV b L s v0 = tz_nv b s (L - s) s 0 := by
          unfold tV
          rw [if_neg c1, if_neg c2, if_pos c4]
        rw [hV]
        refine top _ ?_
        refine am_ev.step (pc' := 53) rfl rfl ?_
        refine am_ev.step (pc' := 54) rfl rfl ?_
        refine ax_gf (p' := 57) rfl rfl (fO (S.ob rfl)) (ax_put_s _ _ _) ?_
        refine ax_pf (p' := 60) rfl rfl (fO (S.ob rfl)) rfl ?_
        refine am_ev.step (pc' := 61) rfl rfl ?_
        refine am_ev.step (pc' := 62) rfl rfl ?_
        refine ax_gf (p' := 65) rfl rfl (fO (fO (S.ob rfl))) (ax_put_s _ _ _) ?_
        refine ax_call (z := 171) (p' := 68) (as := [_, _]) rfl (Or.inr (Or.inl ⟨_, rfl⟩)) rfl rfl rfl rfl rfl rfl (fO (fO (S.ob rfl))) rfl (tk_171a ((S.po rfl rfl).po rfl rfl) ((B.put (by decide)).put (by decide)) hb hL (ax_put_o (Or.inr (by decide)) (ax_put_o (Or.inr (by decide)) v3)) (p := s) (by omega)) rfl ?_
        refine am_ev.step (pc' := 69) (ls' := [.ref 78, iv ((tz_u (b s)))]) rfl rfl ?_
        refine am_ev.step (pc' := 70) rfl rfl ?_
        refine ax_gf (p' := 73) rfl rfl (fO (fO (S.ob rfl))) (ax_put_s _ _ _) ?_
        refine am_ev.step (pc' := 74) rfl rfl ?_
        refine ax_gf (p' := 77) rfl rfl (fO (fO (S.ob rfl))) (ax_put_o (Or.inr (by decide)) (ax_put_o (Or.inr (by decide)) v3)) ?_
        refine fx_c_ne_T (pT := 88) rfl (by omega) (by omega) rfl (by omega) ?_
        refine am_ev.step (pc' := 89) rfl rfl ?_
        refine ax_call (z := 172) (p' := 92) (as := [_]) rfl (Or.inl ⟨_, rfl⟩) rfl rfl rfl rfl rfl rfl rfl rfl (tk_172f (by omega) (by omega)) rfl ?_
        refine fx_z_eq_T (pT := 148) rfl (by omega) rfl (by omega) ?_
        refine am_ev.step (pc' := 149) rfl rfl ?_
        refine ax_call (z := 173) (p' := 152) (as := [_]) rfl (Or.inl ⟨_, rfl⟩) rfl rfl rfl rfl rfl rfl rfl rfl (tk_173t (by omega) (by omega)) rfl ?_
        refine fx_z_eq_F (pF := 155) rfl (by omega) rfl (by omega) ?_
        refine am_ev.step (pc' := 156) rfl rfl ?_
        refine am_ev.step (pc' := 157) rfl rfl ?_
        refine ax_pf (p' := 160) rfl rfl (fO (fO (S.ob rfl))) rfl ?_
        have g5 : (am_put (am_put (am_put h 78 5 (iv s)) 78 4 (iv s)) 78 7 (iv 0)).2.2.2 78 5 = iv s := ax_put_o (Or.inr (by decide)) (ax_put_o (Or.inr (by decide)) (ax_put_s _ _ _))
        refine fx_hc (fx_pi g5).symm ?_
        refine tk_170c ((S.po rfl rfl).po rfl rfl) ((B.put (by decide)).put (by decide)) hb hL (ax_put_o (Or.inr (by decide)) (ax_put_o (Or.inr (by decide)) v3)) (ax_put_s _ _ _) (L - s) s 0 rfl s2 (Nat.le_refl _) ?_
        rw [hK, ← hE]
        generalize tE b L s = e at he ⊢
        generalize tz_nv b s (L - s) s 0 = nv
        obtain ⟨e1, e2⟩ := he
        refine am_ev.step (pc' := 224) rfl rfl ?_
        refine am_ev.step (pc' := 225) rfl rfl ?_
        refine ax_gf (p' := 228) rfl rfl (fO (fO (fO (fO (S.ob rfl))))) (ax_put_s _ _ _) ?_
        refine am_ev.step (pc' := 229) rfl rfl ?_
        refine ax_gf (p' := 232) rfl rfl (fO (fO (fO (fO (S.ob rfl))))) (ax_put_o (Or.inr (by decide)) (ax_put_o (Or.inr (by decide)) (ax_put_s _ _ _))) ?_
        refine fx_sub (p' := 233) (e := ((e : Int) - (s : Int))) rfl rfl (by omega) ?_
        refine am_ev.step (pc' := 234) rfl rfl ?_
        refine fx_c_le (pT := 241) (pF := 237) rfl (by omega) (by omega) rfl rfl (fun k1 => ?_) (fun k1 => ?_)
        · refine am_ev.step (pc' := 242) rfl rfl ?_
          refine ax_pf (p' := 245) rfl rfl (fO (fO (fO (fO (S.ob rfl))))) rfl ?_
          refine am_ev.step (pc' := 290) rfl rfl ?_
          exact fx_cast (am_ev.retv rfl rfl) (by rw [tz_M, if_pos (by omega)]; rfl)
        · refine am_ev.step (pc' := 238) rfl rfl ?_
          refine am_ev.step (pc' := 242) rfl rfl ?_
          refine ax_pf (p' := 245) rfl rfl (fO (fO (fO (fO (S.ob rfl))))) rfl ?_
          refine am_ev.step (pc' := 290) rfl rfl ?_
          exact fx_cast (am_ev.retv rfl rfl) (by rw [tz_M, if_neg (by omega)]; rfl)
      · have c5 : ¬ (48 ≤ b s ∧ b s ≤ 57) := fun z => c4 (decide_eq_true z)
        have hE : tE b L s = s + 1 := by
          unfold tE
          rw [if_neg c1, if_neg c2, if_neg c4]
        have hK : tK b L s = if b s = 59 ∨ b s = 47 ∨ b s = 43 then b s else 3 := by
          unfold tK
          rw [if_neg c1, if_neg c2, if_neg c4]
        have hk2 : (tK b L s = b s ∧ (b s = 59 ∨ b s = 47 ∨ b s = 43) ∧ tH (tK b L s) = 3) ∨ (tK b L s = 3 ∧ ¬ (b s = 59 ∨ b s = 47 ∨ b s = 43) ∧ tH (tK b L s) = 4) := by
          rw [hK]
          split
          · rename_i z
            refine Or.inl ⟨rfl, z, ?_⟩
            unfold tH
            rw [if_neg (by omega), if_neg (by omega), if_neg (by omega), if_neg (by omega)]
          · rename_i z
            exact Or.inr ⟨rfl, z, rfl⟩
        have hV : tV b L s v0 = tz_u (b s) := by
          unfold tV
          rw [if_neg c1, if_neg c2, if_neg c4]
        rw [hE, hV]
        refine top _ ?_
        refine am_ev.step (pc' := 53) rfl rfl ?_
        refine am_ev.step (pc' := 54) rfl rfl ?_
        refine ax_gf (p' := 57) rfl rfl (fO (S.ob rfl)) (ax_put_s _ _ _) ?_
        refine ax_pf (p' := 60) rfl rfl (fO (S.ob rfl)) rfl ?_
        refine am_ev.step (pc' := 61) rfl rfl ?_
        refine am_ev.step (pc' := 62) rfl rfl ?_
        refine ax_gf (p' := 65) rfl rfl (fO (fO (S.ob rfl))) (ax_put_s _ _ _) ?_
        refine ax_call (z := 171) (p' := 68) (as := [_, _]) rfl (Or.inr (Or.inl ⟨_, rfl⟩)) rfl rfl rfl rfl rfl rfl (fO (fO (S.ob rfl))) rfl (tk_171a ((S.po rfl rfl).po rfl rfl) ((B.put (by decide)).put (by decide)) hb hL (ax_put_o (Or.inr (by decide)) (ax_put_o (Or.inr (by decide)) v3)) (p := s) (by omega)) rfl ?_
        refine am_ev.step (pc' := 69) (ls' := [.ref 78, iv ((tz_u (b s)))]) rfl rfl ?_
        refine am_ev.step (pc' := 70) rfl rfl ?_
        refine ax_gf (p' := 73) rfl rfl (fO (fO (S.ob rfl))) (ax_put_s _ _ _) ?_
        refine am_ev.step (pc' := 74) rfl rfl ?_
        refine ax_gf (p' := 77) rfl rfl (fO (fO (S.ob rfl))) (ax_put_o (Or.inr (by decide)) (ax_put_o (Or.inr (by decide)) v3)) ?_
        refine fx_c_ne_T (pT := 88) rfl (by omega) (by omega) rfl (by omega) ?_
        refine am_ev.step (pc' := 89) rfl rfl ?_
        refine ax_call (z := 172) (p' := 92) (as := [_]) rfl (Or.inl ⟨_, rfl⟩) rfl rfl rfl rfl rfl rfl rfl rfl (tk_172f (by omega) (by omega)) rfl ?_
        refine fx_z_eq_T (pT := 148) rfl (by omega) rfl (by omega) ?_
        refine am_ev.step (pc' := 149) rfl rfl ?_
        refine ax_call (z := 173) (p' := 152) (as := [_]) rfl (Or.inl ⟨_, rfl⟩) rfl rfl rfl rfl rfl rfl rfl rfl (tk_173f (by omega) (by omega)) rfl ?_
        refine fx_z_eq_T (pT := 248) rfl (by omega) rfl (by omega) ?_
        refine am_ev.step (pc' := 249) rfl rfl ?_
        refine am_ev.step (pc' := 250) rfl rfl ?_
        refine fx_bip (p' := 252) rfl rfl rfl ?_
        refine fx_c_eq (pT := 267) (pF := 255) rfl (by omega) (by omega) rfl rfl (fun k1 => ?_) (fun k1 => ?_)
        · refine am_ev.step (pc' := 268) rfl rfl ?_
          refine am_ev.step (pc' := 272) rfl rfl ?_
          refine ax_pf (p' := 275) rfl rfl (fO (fO (S.ob rfl))) rfl ?_
          refine am_ev.step (pc' := 276) rfl rfl ?_
          refine am_ev.step (pc' := 277) rfl rfl ?_
          refine ax_pf (p' := 280) rfl rfl (fO (fO (fO (S.ob rfl)))) rfl ?_
          refine am_ev.step (pc' := 281) rfl rfl ?_
          refine am_ev.step (pc' := 282) rfl rfl ?_
          refine ax_gf (p' := 285) rfl rfl (fO (fO (fO (fO (S.ob rfl))))) (ax_put_o (Or.inr (by decide)) (ax_put_o (Or.inr (by decide)) (ax_put_o (Or.inr (by decide)) (ax_put_s _ _ _)))) ?_
          refine am_ev.step (pc' := 286) rfl rfl ?_
          refine fx_add (p' := 287) (e := ((s : Int) + 1)) rfl rfl (by omega) ?_
          refine ax_pf (p' := 290) rfl rfl (fO (fO (fO (fO (S.ob rfl))))) rfl ?_
          exact fx_cast (am_ev.retv rfl rfl) (by rw [tz_nc, tz_MS, show tH (tK b L s) = 3 by omega])
        · refine am_ev.step (pc' := 256) rfl rfl ?_
          refine fx_bip (p' := 258) rfl rfl rfl ?_
          refine fx_c_eq (pT := 267) (pF := 261) rfl (by omega) (by omega) rfl rfl (fun k2 => ?_) (fun k2 => ?_)
          · refine am_ev.step (pc' := 268) rfl rfl ?_
            refine am_ev.step (pc' := 272) rfl rfl ?_
            refine ax_pf (p' := 275) rfl rfl (fO (fO (S.ob rfl))) rfl ?_
            refine am_ev.step (pc' := 276) rfl rfl ?_
            refine am_ev.step (pc' := 277) rfl rfl ?_
            refine ax_pf (p' := 280) rfl rfl (fO (fO (fO (S.ob rfl)))) rfl ?_
            refine am_ev.step (pc' := 281) rfl rfl ?_
            refine am_ev.step (pc' := 282) rfl rfl ?_
            refine ax_gf (p' := 285) rfl rfl (fO (fO (fO (fO (S.ob rfl))))) (ax_put_o (Or.inr (by decide)) (ax_put_o (Or.inr (by decide)) (ax_put_o (Or.inr (by decide)) (ax_put_s _ _ _)))) ?_
            refine am_ev.step (pc' := 286) rfl rfl ?_
            refine fx_add (p' := 287) (e := ((s : Int) + 1)) rfl rfl (by omega) ?_
            refine ax_pf (p' := 290) rfl rfl (fO (fO (fO (fO (S.ob rfl))))) rfl ?_
            exact fx_cast (am_ev.retv rfl rfl) (by rw [tz_nc, tz_MS, show tH (tK b L s) = 3 by omega])
          · refine am_ev.step (pc' := 262) rfl rfl ?_
            refine fx_bip (p' := 264) rfl rfl rfl ?_
            refine fx_c_ne (pT := 271) (pF := 267) rfl (by omega) (by omega) rfl rfl (fun k3 => ?_) (fun k3 => ?_)
            · refine am_ev.step (pc' := 272) rfl rfl ?_
              refine ax_pf (p' := 275) rfl rfl (fO (fO (S.ob rfl))) rfl ?_
              refine am_ev.step (pc' := 276) rfl rfl ?_
              refine am_ev.step (pc' := 277) rfl rfl ?_
              refine ax_pf (p' := 280) rfl rfl (fO (fO (fO (S.ob rfl)))) rfl ?_
              refine am_ev.step (pc' := 281) rfl rfl ?_
              refine am_ev.step (pc' := 282) rfl rfl ?_
              refine ax_gf (p' := 285) rfl rfl (fO (fO (fO (fO (S.ob rfl))))) (ax_put_o (Or.inr (by decide)) (ax_put_o (Or.inr (by decide)) (ax_put_o (Or.inr (by decide)) (ax_put_s _ _ _)))) ?_
              refine am_ev.step (pc' := 286) rfl rfl ?_
              refine fx_add (p' := 287) (e := ((s : Int) + 1)) rfl rfl (by omega) ?_
              refine ax_pf (p' := 290) rfl rfl (fO (fO (fO (fO (S.ob rfl))))) rfl ?_
              exact fx_cast (am_ev.retv rfl rfl) (by rw [tz_nc, tz_MS, show tH (tK b L s) = 4 by omega])
            · refine am_ev.step (pc' := 268) rfl rfl ?_
              refine am_ev.step (pc' := 272) rfl rfl ?_
              refine ax_pf (p' := 275) rfl rfl (fO (fO (S.ob rfl))) rfl ?_
              refine am_ev.step (pc' := 276) rfl rfl ?_
              refine am_ev.step (pc' := 277) rfl rfl ?_
              refine ax_pf (p' := 280) rfl rfl (fO (fO (fO (S.ob rfl)))) rfl ?_
              refine am_ev.step (pc' := 281) rfl rfl ?_
              refine am_ev.step (pc' := 282) rfl rfl ?_
              refine ax_gf (p' := 285) rfl rfl (fO (fO (fO (fO (S.ob rfl))))) (ax_put_o (Or.inr (by decide)) (ax_put_o (Or.inr (by decide)) (ax_put_o (Or.inr (by decide)) (ax_put_s _ _ _)))) ?_
              refine am_ev.step (pc' := 286) rfl rfl ?_
              refine fx_add (p' := 287) (e := ((s : Int) + 1)) rfl rfl (by omega) ?_
              refine ax_pf (p' := 290) rfl rfl (fO (fO (fO (fO (S.ob rfl))))) rfl ?_
              exact fx_cast (am_ev.retv rfl rfl) (by rw [tz_nc, tz_MS, show tH (tK b L s) = 3 by omega])
theorem tV_c (b : Nat → Int) (L s : Nat) (v0 : Int) : (tK b L s = 2 → tV b L s v0 = tz_nu b (tE b L s - s) s 0) ∧ (43 ≤ tK b L s → tV b L s v0 = tK b L s) := by
  have hu := tz_u_c (b s)
  by_cases c1 : L ≤ s
  · have hK : tK b L s = 0 := if_pos c1
    exact ⟨fun z => by omega, fun z => by omega⟩
  · by_cases c2 : tz_le (b s) = true
    · have hK : tK b L s = 1 ∨ tK b L s = 3 := by
        unfold tK
        rw [if_neg c1, if_pos c2]
        split
        · exact Or.inl rfl
        · exact Or.inr rfl
      exact ⟨fun z => by omega, fun z => by omega⟩
    · by_cases c4 : tz_di (b s) = true
      · have hE : tE b L s = tz_sp tz_di b (L - s) s := by
          unfold tE
          rw [if_neg c1, if_neg c2, if_pos c4]
        have hK : (tK b L s = 2 ∧ tz_sp tz_di b (L - s) s ≤ s + 5) ∨ tK b L s = 3 := by
          unfold tK
          rw [if_neg c1, if_neg c2, if_pos c4]
          split
          · exact Or.inl ⟨rfl, by assumption⟩
          · exact Or.inr rfl
        have hV : tV b L s v0 = tz_nv b s (L - s) s 0 := by
          unfold tV
          rw [if_neg c1, if_neg c2, if_pos c4]
        refine ⟨fun z => ?_, fun z => by omega⟩
        rcases hK with ⟨_, k2⟩ | k2
        · rw [hV, hE]
          exact tz_nv_nu (L - s) s 0 (Nat.le_refl _) k2
        · omega
      · have hK : (tK b L s = b s ∧ (b s = 59 ∨ b s = 47 ∨ b s = 43)) ∨ tK b L s = 3 := by
          unfold tK
          rw [if_neg c1, if_neg c2, if_neg c4]
          split
          · exact Or.inl ⟨rfl, by assumption⟩
          · exact Or.inr rfl
        have hV : tV b L s v0 = tz_u (b s) := by
          unfold tV
          rw [if_neg c1, if_neg c2, if_neg c4]
        exact ⟨fun z => by omega, fun z => by omega⟩
end TKC
/-! WORDS AND NUMBERS -/
def tz_w (b : Nat → Int) (s e : Nat) (k : Int) (i : Nat) : Prop := k = 1 ∧ e = s + am_slen i ∧ ∀ j, j < am_slen i → b (s + j) = (am_sch i j : Int)
section TKW
variable {d y pc p' : Nat} {ls r : List Value} {h : am_H} {x : Option Value × am_H}
theorem fx_slen {e : am_E} {i : Nat} (hc : am_at y pc e) (hi : am_isC e.1) (hz : e.2.2.2.1 = 1003) (hk : i < 16) (hcs : Nat.ble (am_cs r) 8 = true) (hd : 2 ≤ d) (hM : am_sM e.1 (am_in y).1 1003 = true) (hp : pc + 3 = p') (q : am_ev (d + 1) y p' ls (iv (am_slen i : Int) :: r) h x) : am_ev (d + 1) y pc ls (.ref (7 + i) :: r) h x := by
  subst hp
  refine am_ev.len hc hi hz hk (Nat.le_of_ble_eq_true hcs) hd hM ?_
  rw [← Int32.ofInt_eq_ofNat]
  exact q
theorem fx_chr {e : am_E} {i j : Nat} {f : Int} (hc : am_at y pc e) (hi : am_isC e.1) (hz : e.2.2.2.1 = 1004) (hk : i < 16) (hcs : Nat.ble (am_cs r) 8 = true) (hd : 4 ≤ d) (hM : am_sM e.1 (am_in y).1 1004 = true) (he : f = (j : Int)) (hj : j < am_slen i) (hl : am_slen i ≤ 100) (hp : pc + 3 = p') (q : am_ev (d + 1) y p' ls (iv (am_sch i j : Int) :: r) h x) : am_ev (d + 1) y pc ls (iv f :: .ref (7 + i) :: r) h x := by
  subst hp he
  have e1 : (Int32.ofInt (j : Int)).toInt = (j : Int) := fx_ti (by omega)
  have e2 : (Int32.ofInt (j : Int)).toNatClampNeg = j := by
    show (Int32.ofInt (j : Int)).toInt.toNat = j
    rw [e1, Int.toNat_natCast]
  refine am_ev.chr hc hi hz hk (Nat.le_of_ble_eq_true hcs) hd hM (Int32.le_iff_toInt_le.2 (by rw [e1, show (0 : Int32).toInt = 0 by decide]; omega)) (by rw [e2]; exact hj) ?_
  rw [e2, ← Int32.ofInt_eq_ofNat]
  exact q
theorem tz_slen {i : Nat} (h : i < 16) : am_slen i ≤ 7 := by
  have : ∀ i, i < 16 → am_slen i ≤ 7 := by decide +kernel
  exact this i h
theorem tz_sch {i j : Nat} (h : i < 16) (g : j < am_slen i) : am_sch i j ≤ 122 := by
  have : ∀ i, i < 16 → ∀ j, j < am_slen i → am_sch i j ≤ 122 := by decide +kernel
  exact this i h j g
end TKW
section TKX
variable {d : Nat} {h : am_H} {b : Nat → Int} {L s e : Nat} {k : Int}
theorem tk_26a {i : Nat} (hi : i < 16) (S : fS h) (B : tb h 42 b L) (hb : tz_r b) (hL : L ≤ 1600) (v1 : h.2.2.2 41 1 = iv L) (v5 : h.2.2.2 41 5 = iv s) (hs : s + am_slen i ≤ L) : ∀ (n j : Nat), am_slen i - j = n → j ≤ am_slen i → ((∀ q, j ≤ q → q < am_slen i → b (s + q) = (am_sch i q : Int)) → am_ev (d + 5) 26 28 [.ref 41, .ref (7 + i), iv j] [] h (some (iv 1), h)) ∧ (¬ (∀ q, j ≤ q → q < am_slen i → b (s + q) = (am_sch i q : Int)) → am_ev (d + 5) 26 28 [.ref 41, .ref (7 + i), iv j] [] h (some (iv 0), h))
  | 0, j, ej, hj => by
    have hl := tz_slen hi
    have e : j = am_slen i := by omega
    refine ⟨fun q => ?_, fun q => absurd (fun q a c => by omega) q⟩
    refine am_ev.step (pc' := 29) rfl rfl ?_
    refine am_ev.step (pc' := 30) rfl rfl ?_
    refine fx_slen (p' := 33) rfl (Or.inr (Or.inl ⟨_, rfl⟩)) rfl hi rfl (by omega) rfl rfl ?_
    refine fx_c_ge_T (pT := 76) rfl (by omega) (by omega) rfl (by omega) ?_
    refine am_ev.step (pc' := 77) rfl rfl ?_
    exact fx_reti rfl rfl rfl
  | n + 1, j, ej, hj => by
    have hl := tz_slen hi
    have hr := hb (s + j)
    have hc := tz_sch hi (show j < am_slen i by omega)
    by_cases c : b (s + j) = (am_sch i j : Int)
    · have st : ∀ x, am_ev (d + 5) 26 28 [.ref 41, .ref (7 + i), iv ((j + 1 : Nat) : Int)] [] h x → am_ev (d + 5) 26 28 [.ref 41, .ref (7 + i), iv j] [] h x := fun x q => by
        refine am_ev.step (pc' := 29) rfl rfl ?_
        refine am_ev.step (pc' := 30) rfl rfl ?_
        refine fx_slen (p' := 33) rfl (Or.inr (Or.inl ⟨_, rfl⟩)) rfl hi rfl (by omega) rfl rfl ?_
        refine fx_c_ge_F (pF := 36) rfl (by omega) (by omega) rfl (by omega) ?_
        refine am_ev.step (pc' := 37) rfl rfl ?_
        refine ax_gf (p' := 40) rfl rfl (S.ob rfl) v5 ?_
        refine am_ev.step (pc' := 41) rfl rfl ?_
        refine fx_add (p' := 42) (e := ((s : Int) + (j : Int))) rfl rfl (by omega) ?_
        refine am_ev.step (pc' := 43) rfl rfl ?_
        refine ax_gf (p' := 46) rfl rfl (S.ob rfl) v1 ?_
        refine fx_c_ge_F (pF := 49) rfl (by omega) (by omega) rfl (by omega) ?_
        refine am_ev.step (pc' := 50) rfl rfl ?_
        refine ax_gf (p' := 53) rfl rfl (S.ob rfl) (S.rf rfl rfl) ?_
        refine am_ev.step (pc' := 54) rfl rfl ?_
        refine ax_gf (p' := 57) rfl rfl (S.ob rfl) v5 ?_
        refine am_ev.step (pc' := 58) rfl rfl ?_
        refine fx_add (p' := 59) (e := ((s : Int) + (j : Int))) rfl rfl (by omega) ?_
        refine ax_baload (p' := 60) rfl rfl (S.rd (k := (s + j)) rfl rfl rfl rfl (by omega) (by omega) (B (s + j) (by omega))) ?_
        refine am_ev.step (pc' := 61) rfl rfl ?_
        refine am_ev.step (pc' := 62) rfl rfl ?_
        refine fx_chr (p' := 65) (j := j) rfl (Or.inr (Or.inl ⟨_, rfl⟩)) rfl hi rfl (by omega) rfl rfl (by omega) (by omega) rfl ?_
        refine fx_c_eq_T (pT := 70) rfl (by omega) (by omega) rfl (by omega) ?_
        refine fx_inc (p' := 73) (e := ((j : Int) + 1)) (ls' := [.ref 41, .ref (7 + i), iv ((j : Int) + 1)]) rfl rfl rfl (by omega) rfl ?_
        refine am_ev.step (pc' := 28) rfl rfl ?_
        rw [tz_nc]
        exact q
      obtain ⟨i1, i2⟩ := tk_26a hi S B hb hL v1 v5 hs n (j + 1) (by omega) (by omega)
      refine ⟨fun q => st _ (i1 fun z a c => q z (by omega) c), fun q => st _ (i2 fun z => q fun w a c2 => ?_)⟩
      by_cases ez : w = j
      · rw [ez]
        exact c
      · exact z w (by omega) c2
    · refine ⟨fun q => absurd (q j (Nat.le_refl _) (by omega)) c, fun _ => ?_⟩
      refine am_ev.step (pc' := 29) rfl rfl ?_
      refine am_ev.step (pc' := 30) rfl rfl ?_
      refine fx_slen (p' := 33) rfl (Or.inr (Or.inl ⟨_, rfl⟩)) rfl hi rfl (by omega) rfl rfl ?_
      refine fx_c_ge_F (pF := 36) rfl (by omega) (by omega) rfl (by omega) ?_
      refine am_ev.step (pc' := 37) rfl rfl ?_
      refine ax_gf (p' := 40) rfl rfl (S.ob rfl) v5 ?_
      refine am_ev.step (pc' := 41) rfl rfl ?_
      refine fx_add (p' := 42) (e := ((s : Int) + (j : Int))) rfl rfl (by omega) ?_
      refine am_ev.step (pc' := 43) rfl rfl ?_
      refine ax_gf (p' := 46) rfl rfl (S.ob rfl) v1 ?_
      refine fx_c_ge_F (pF := 49) rfl (by omega) (by omega) rfl (by omega) ?_
      refine am_ev.step (pc' := 50) rfl rfl ?_
      refine ax_gf (p' := 53) rfl rfl (S.ob rfl) (S.rf rfl rfl) ?_
      refine am_ev.step (pc' := 54) rfl rfl ?_
      refine ax_gf (p' := 57) rfl rfl (S.ob rfl) v5 ?_
      refine am_ev.step (pc' := 58) rfl rfl ?_
      refine fx_add (p' := 59) (e := ((s : Int) + (j : Int))) rfl rfl (by omega) ?_
      refine ax_baload (p' := 60) rfl rfl (S.rd (k := (s + j)) rfl rfl rfl rfl (by omega) (by omega) (B (s + j) (by omega))) ?_
      refine am_ev.step (pc' := 61) rfl rfl ?_
      refine am_ev.step (pc' := 62) rfl rfl ?_
      refine fx_chr (p' := 65) (j := j) rfl (Or.inr (Or.inl ⟨_, rfl⟩)) rfl hi rfl (by omega) rfl rfl (by omega) (by omega) rfl ?_
      refine fx_c_eq_F (pF := 68) rfl (by omega) (by omega) rfl (by omega) ?_
      refine am_ev.step (pc' := 69) rfl rfl ?_
      exact fx_reti rfl rfl rfl
theorem tk_26 {i : Nat} (hi : i < 16) (S : fS h) (B : tb h 42 b L) (hb : tz_r b) (hL : L ≤ 1600) (v1 : h.2.2.2 41 1 = iv L) (v2 : h.2.2.2 41 2 = iv k) (v5 : h.2.2.2 41 5 = iv s) (v6 : h.2.2.2 41 6 = iv e) (hse : s ≤ e ∧ e ≤ L) (hk : 0 ≤ k ∧ k ≤ 100) : (tz_w b s e k i → am_ev (d + 5) 26 0 (am_ent [.ref 41, .ref (7 + i)] 3) [] h (some (iv 1), h)) ∧ (¬ tz_w b s e k i → am_ev (d + 5) 26 0 (am_ent [.ref 41, .ref (7 + i)] 3) [] h (some (iv 0), h)) := by
  have hl := tz_slen hi
  by_cases c1 : k = 1
  · by_cases c2 : e = s + am_slen i
    · obtain ⟨i1, i2⟩ := tk_26a (d := d) hi S B hb hL v1 v5 (by omega) (am_slen i) 0 rfl (Nat.zero_le _)
      have st : ∀ x, am_ev (d + 5) 26 28 [.ref 41, .ref (7 + i), iv ((0 : Nat) : Int)] [] h x → am_ev (d + 5) 26 0 [.ref 41, .ref (7 + i), am_ph] [] h x := fun x q => by
        refine am_ev.step (pc' := 1) rfl rfl ?_
        refine ax_gf (p' := 4) rfl rfl (S.ob rfl) v2 ?_
        refine am_ev.step (pc' := 5) rfl rfl ?_
        refine fx_c_ne_F (pF := 8) rfl (by omega) (by omega) rfl (by omega) ?_
        refine am_ev.step (pc' := 9) rfl rfl ?_
        refine ax_gf (p' := 12) rfl rfl (S.ob rfl) v6 ?_
        refine am_ev.step (pc' := 13) rfl rfl ?_
        refine ax_gf (p' := 16) rfl rfl (S.ob rfl) v5 ?_
        refine fx_sub (p' := 17) (e := ((e : Int) - (s : Int))) rfl rfl (by omega) ?_
        refine am_ev.step (pc' := 18) rfl rfl ?_
        refine fx_slen (p' := 21) rfl (Or.inr (Or.inl ⟨_, rfl⟩)) rfl hi rfl (by omega) rfl rfl ?_
        refine fx_c_eq_T (pT := 26) rfl (by omega) (by omega) rfl (by omega) ?_
        refine am_ev.step (pc' := 27) rfl rfl ?_
        refine am_ev.step (pc' := 28) (ls' := [.ref 41, .ref (7 + i), iv 0]) rfl rfl ?_
        exact q
      exact ⟨fun q => st _ (i1 fun z _ a => q.2.2 z a), fun q => st _ (i2 fun z => q ⟨c1, c2, fun w a => z w (Nat.zero_le _) a⟩)⟩
    · refine ⟨fun q => absurd q.2.1 c2, fun _ => ?_⟩
      show am_ev (d + 5) 26 0 [.ref 41, .ref (7 + i), am_ph] [] h _
      refine am_ev.step (pc' := 1) rfl rfl ?_
      refine ax_gf (p' := 4) rfl rfl (S.ob rfl) v2 ?_
      refine am_ev.step (pc' := 5) rfl rfl ?_
      refine fx_c_ne_F (pF := 8) rfl (by omega) (by omega) rfl (by omega) ?_
      refine am_ev.step (pc' := 9) rfl rfl ?_
      refine ax_gf (p' := 12) rfl rfl (S.ob rfl) v6 ?_
      refine am_ev.step (pc' := 13) rfl rfl ?_
      refine ax_gf (p' := 16) rfl rfl (S.ob rfl) v5 ?_
      refine fx_sub (p' := 17) (e := ((e : Int) - (s : Int))) rfl rfl (by omega) ?_
      refine am_ev.step (pc' := 18) rfl rfl ?_
      refine fx_slen (p' := 21) rfl (Or.inr (Or.inl ⟨_, rfl⟩)) rfl hi rfl (by omega) rfl rfl ?_
      refine fx_c_eq_F (pF := 24) rfl (by omega) (by omega) rfl (by omega) ?_
      refine am_ev.step (pc' := 25) rfl rfl ?_
      exact fx_reti rfl rfl rfl
  · refine ⟨fun q => absurd q.1 c1, fun _ => ?_⟩
    show am_ev (d + 5) 26 0 [.ref 41, .ref (7 + i), am_ph] [] h _
    refine am_ev.step (pc' := 1) rfl rfl ?_
    refine ax_gf (p' := 4) rfl rfl (S.ob rfl) v2 ?_
    refine am_ev.step (pc' := 5) rfl rfl ?_
    refine fx_c_ne_T (pT := 24) rfl (by omega) (by omega) rfl (by omega) ?_
    refine am_ev.step (pc' := 25) rfl rfl ?_
    exact fx_reti rfl rfl rfl
theorem tk_175a {i : Nat} (hi : i < 16) (S : fS h) (B : tb h 80 b L) (hb : tz_r b) (hL : L ≤ 1600) (v4 : h.2.2.2 78 4 = iv s) (hs : s + am_slen i ≤ L) : ∀ (n j : Nat), am_slen i - j = n → j ≤ am_slen i → ((∀ q, j ≤ q → q < am_slen i → b (s + q) = (am_sch i q : Int)) → am_ev (d + 5) 175 32 [.ref 78, .ref (7 + i), iv 1, iv j] [] h (some (iv 1), h)) ∧ (¬ (∀ q, j ≤ q → q < am_slen i → b (s + q) = (am_sch i q : Int)) → am_ev (d + 5) 175 32 [.ref 78, .ref (7 + i), iv 1, iv j] [] h (some (iv 0), h))
  | 0, j, ej, hj => by
    have hl := tz_slen hi
    have e : j = am_slen i := by omega
    refine ⟨fun q => ?_, fun q => absurd (fun q a c => by omega) q⟩
    refine am_ev.step (pc' := 33) rfl rfl ?_
    refine am_ev.step (pc' := 34) rfl rfl ?_
    refine fx_slen (p' := 37) rfl (Or.inr (Or.inl ⟨_, rfl⟩)) rfl hi rfl (by omega) rfl rfl ?_
    refine fx_c_ge_T (pT := 75) rfl (by omega) (by omega) rfl (by omega) ?_
    refine am_ev.step (pc' := 76) rfl rfl ?_
    exact fx_reti rfl rfl rfl
  | n + 1, j, ej, hj => by
    have hl := tz_slen hi
    have hr := hb (s + j)
    have hc := tz_sch hi (show j < am_slen i by omega)
    by_cases c : b (s + j) = (am_sch i j : Int)
    · have st : ∀ x, am_ev (d + 5) 175 32 [.ref 78, .ref (7 + i), iv 1, iv ((j + 1 : Nat) : Int)] [] h x → am_ev (d + 5) 175 32 [.ref 78, .ref (7 + i), iv 1, iv j] [] h x := fun x q => by
        refine am_ev.step (pc' := 33) rfl rfl ?_
        refine am_ev.step (pc' := 34) rfl rfl ?_
        refine fx_slen (p' := 37) rfl (Or.inr (Or.inl ⟨_, rfl⟩)) rfl hi rfl (by omega) rfl rfl ?_
        refine fx_c_ge_F (pF := 40) rfl (by omega) (by omega) rfl (by omega) ?_
        refine am_ev.step (pc' := 41) rfl rfl ?_
        refine fx_z_eq_F (pF := 44) rfl (by omega) rfl (by omega) ?_
        refine am_ev.step (pc' := 45) rfl rfl ?_
        refine ax_gf (p' := 48) rfl rfl (S.ob rfl) (S.rf rfl rfl) ?_
        refine am_ev.step (pc' := 49) rfl rfl ?_
        refine ax_gf (p' := 52) rfl rfl (S.ob rfl) v4 ?_
        refine am_ev.step (pc' := 53) rfl rfl ?_
        refine fx_add (p' := 54) (e := ((s : Int) + (j : Int))) rfl rfl (by omega) ?_
        refine ax_baload (p' := 55) rfl rfl (S.rd (k := (s + j)) rfl rfl rfl rfl (by omega) (by omega) (B (s + j) (by omega))) ?_
        refine am_ev.step (pc' := 56) rfl rfl ?_
        refine am_ev.step (pc' := 57) rfl rfl ?_
        refine fx_chr (p' := 60) (j := j) rfl (Or.inr (Or.inl ⟨_, rfl⟩)) rfl hi rfl (by omega) rfl rfl (by omega) (by omega) rfl ?_
        refine fx_c_ne_F (pF := 63) rfl (by omega) (by omega) rfl (by omega) ?_
        refine am_ev.step (pc' := 64) rfl rfl ?_
        refine am_ev.step (pc' := 68) rfl rfl ?_
        refine am_ev.step (pc' := 69) (ls' := [.ref 78, .ref (7 + i), iv 1, iv ((j : Int))]) rfl rfl ?_
        refine fx_inc (p' := 72) (e := ((j : Int) + 1)) (ls' := [.ref 78, .ref (7 + i), iv 1, iv ((j : Int) + 1)]) rfl rfl rfl (by omega) rfl ?_
        refine am_ev.step (pc' := 32) rfl rfl ?_
        rw [tz_nc]
        exact q
      obtain ⟨i1, i2⟩ := tk_175a hi S B hb hL v4 hs n (j + 1) (by omega) (by omega)
      refine ⟨fun q => st _ (i1 fun z a c => q z (by omega) c), fun q => st _ (i2 fun z => q fun w a c2 => ?_)⟩
      by_cases ez : w = j
      · rw [ez]
        exact c
      · exact z w (by omega) c2
    · refine ⟨fun q => absurd (q j (Nat.le_refl _) (by omega)) c, fun _ => ?_⟩
      refine am_ev.step (pc' := 33) rfl rfl ?_
      refine am_ev.step (pc' := 34) rfl rfl ?_
      refine fx_slen (p' := 37) rfl (Or.inr (Or.inl ⟨_, rfl⟩)) rfl hi rfl (by omega) rfl rfl ?_
      refine fx_c_ge_F (pF := 40) rfl (by omega) (by omega) rfl (by omega) ?_
      refine am_ev.step (pc' := 41) rfl rfl ?_
      refine fx_z_eq_F (pF := 44) rfl (by omega) rfl (by omega) ?_
      refine am_ev.step (pc' := 45) rfl rfl ?_
      refine ax_gf (p' := 48) rfl rfl (S.ob rfl) (S.rf rfl rfl) ?_
      refine am_ev.step (pc' := 49) rfl rfl ?_
      refine ax_gf (p' := 52) rfl rfl (S.ob rfl) v4 ?_
      refine am_ev.step (pc' := 53) rfl rfl ?_
      refine fx_add (p' := 54) (e := ((s : Int) + (j : Int))) rfl rfl (by omega) ?_
      refine ax_baload (p' := 55) rfl rfl (S.rd (k := (s + j)) rfl rfl rfl rfl (by omega) (by omega) (B (s + j) (by omega))) ?_
      refine am_ev.step (pc' := 56) rfl rfl ?_
      refine am_ev.step (pc' := 57) rfl rfl ?_
      refine fx_chr (p' := 60) (j := j) rfl (Or.inr (Or.inl ⟨_, rfl⟩)) rfl hi rfl (by omega) rfl rfl (by omega) (by omega) rfl ?_
      refine fx_c_ne_T (pT := 67) rfl (by omega) (by omega) rfl (by omega) ?_
      refine am_ev.step (pc' := 68) rfl rfl ?_
      refine am_ev.step (pc' := 69) (ls' := [.ref 78, .ref (7 + i), iv 0, iv ((j : Int))]) rfl rfl ?_
      refine fx_inc (p' := 72) (e := ((j : Int) + 1)) (ls' := [.ref 78, .ref (7 + i), iv 0, iv ((j : Int) + 1)]) rfl rfl rfl (by omega) rfl ?_
      refine am_ev.step (pc' := 32) rfl rfl ?_
      refine am_ev.step (pc' := 33) rfl rfl ?_
      refine am_ev.step (pc' := 34) rfl rfl ?_
      refine fx_slen (p' := 37) rfl (Or.inr (Or.inl ⟨_, rfl⟩)) rfl hi rfl (by omega) rfl rfl ?_
      refine fx_c_ge (pT := 75) (pF := 40) rfl (by omega) (by omega) rfl rfl (fun k1 => ?_) (fun k1 => ?_)
      · refine am_ev.step (pc' := 76) rfl rfl ?_
        exact fx_reti rfl rfl rfl
      · refine am_ev.step (pc' := 41) rfl rfl ?_
        refine fx_z_eq_T (pT := 75) rfl (by omega) rfl (by omega) ?_
        refine am_ev.step (pc' := 76) rfl rfl ?_
        exact fx_reti rfl rfl rfl
theorem tk_175 {i : Nat} (hi : i < 16) (S : fS h) (B : tb h 80 b L) (hb : tz_r b) (hL : L ≤ 1600) (v6 : h.2.2.2 78 6 = iv (tH k)) (v4 : h.2.2.2 78 4 = iv s) (v5 : h.2.2.2 78 5 = iv e) (hse : s ≤ e ∧ e ≤ L) (hk : 0 ≤ k ∧ k ≤ 100) : (tz_w b s e k i → am_ev (d + 5) 175 0 (am_ent [.ref 78, .ref (7 + i)] 4) [] h (some (iv 1), h)) ∧ (¬ tz_w b s e k i → am_ev (d + 5) 175 0 (am_ent [.ref 78, .ref (7 + i)] 4) [] h (some (iv 0), h)) := by
  have hl := tz_slen hi
  have tk : (k = 1 ∧ tH k = 1) ∨ (k ≠ 1 ∧ tH k ≠ 1 ∧ 0 ≤ tH k ∧ tH k ≤ 4) := by
    by_cases c1 : k = 1
    · rw [c1]
      exact Or.inl ⟨rfl, rfl⟩
    · refine Or.inr ⟨c1, ?_⟩
      unfold tH
      repeat' split
      all_goals omega
  by_cases c1 : k = 1
  · by_cases c2 : e = s + am_slen i
    · obtain ⟨i1, i2⟩ := tk_175a (d := d) hi S B hb hL v4 (by omega) (am_slen i) 0 rfl (Nat.zero_le _)
      have st : ∀ x, am_ev (d + 5) 175 32 [.ref 78, .ref (7 + i), iv 1, iv ((0 : Nat) : Int)] [] h x → am_ev (d + 5) 175 0 [.ref 78, .ref (7 + i), am_ph, am_ph] [] h x := fun x q => by
        refine am_ev.step (pc' := 1) rfl rfl ?_
        refine ax_gf (p' := 4) rfl rfl (S.ob rfl) v6 ?_
        refine am_ev.step (pc' := 5) rfl rfl ?_
        refine fx_c_ne_F (pF := 8) rfl (by omega) (by omega) rfl (by omega) ?_
        refine am_ev.step (pc' := 9) rfl rfl ?_
        refine ax_gf (p' := 12) rfl rfl (S.ob rfl) v5 ?_
        refine am_ev.step (pc' := 13) rfl rfl ?_
        refine ax_gf (p' := 16) rfl rfl (S.ob rfl) v4 ?_
        refine fx_sub (p' := 17) (e := ((e : Int) - (s : Int))) rfl rfl (by omega) ?_
        refine am_ev.step (pc' := 18) rfl rfl ?_
        refine fx_slen (p' := 21) rfl (Or.inr (Or.inl ⟨_, rfl⟩)) rfl hi rfl (by omega) rfl rfl ?_
        refine fx_c_ne_F (pF := 24) rfl (by omega) (by omega) rfl (by omega) ?_
        refine am_ev.step (pc' := 25) rfl rfl ?_
        refine am_ev.step (pc' := 29) rfl rfl ?_
        refine am_ev.step (pc' := 30) (ls' := [.ref 78, .ref (7 + i), iv 1, am_ph]) rfl rfl ?_
        refine am_ev.step (pc' := 31) rfl rfl ?_
        refine am_ev.step (pc' := 32) (ls' := [.ref 78, .ref (7 + i), iv 1, iv 0]) rfl rfl ?_
        exact q
      exact ⟨fun q => st _ (i1 fun z _ a => q.2.2 z a), fun q => st _ (i2 fun z => q ⟨c1, c2, fun w a => z w (Nat.zero_le _) a⟩)⟩
    · refine ⟨fun q => absurd q.2.1 c2, fun _ => ?_⟩
      show am_ev (d + 5) 175 0 [.ref 78, .ref (7 + i), am_ph, am_ph] [] h _
      refine am_ev.step (pc' := 1) rfl rfl ?_
      refine ax_gf (p' := 4) rfl rfl (S.ob rfl) v6 ?_
      refine am_ev.step (pc' := 5) rfl rfl ?_
      refine fx_c_ne_F (pF := 8) rfl (by omega) (by omega) rfl (by omega) ?_
      refine am_ev.step (pc' := 9) rfl rfl ?_
      refine ax_gf (p' := 12) rfl rfl (S.ob rfl) v5 ?_
      refine am_ev.step (pc' := 13) rfl rfl ?_
      refine ax_gf (p' := 16) rfl rfl (S.ob rfl) v4 ?_
      refine fx_sub (p' := 17) (e := ((e : Int) - (s : Int))) rfl rfl (by omega) ?_
      refine am_ev.step (pc' := 18) rfl rfl ?_
      refine fx_slen (p' := 21) rfl (Or.inr (Or.inl ⟨_, rfl⟩)) rfl hi rfl (by omega) rfl rfl ?_
      refine fx_c_ne_T (pT := 28) rfl (by omega) (by omega) rfl (by omega) ?_
      refine am_ev.step (pc' := 29) rfl rfl ?_
      refine am_ev.step (pc' := 30) (ls' := [.ref 78, .ref (7 + i), iv 0, am_ph]) rfl rfl ?_
      refine am_ev.step (pc' := 31) rfl rfl ?_
      refine am_ev.step (pc' := 32) (ls' := [.ref 78, .ref (7 + i), iv 0, iv 0]) rfl rfl ?_
      refine am_ev.step (pc' := 33) rfl rfl ?_
      refine am_ev.step (pc' := 34) rfl rfl ?_
      refine fx_slen (p' := 37) rfl (Or.inr (Or.inl ⟨_, rfl⟩)) rfl hi rfl (by omega) rfl rfl ?_
      refine fx_c_ge (pT := 75) (pF := 40) rfl (by omega) (by omega) rfl rfl (fun k1 => ?_) (fun k1 => ?_)
      · refine am_ev.step (pc' := 76) rfl rfl ?_
        exact fx_reti rfl rfl rfl
      · refine am_ev.step (pc' := 41) rfl rfl ?_
        refine fx_z_eq_T (pT := 75) rfl (by omega) rfl (by omega) ?_
        refine am_ev.step (pc' := 76) rfl rfl ?_
        exact fx_reti rfl rfl rfl
  · refine ⟨fun q => absurd q.1 c1, fun _ => ?_⟩
    show am_ev (d + 5) 175 0 [.ref 78, .ref (7 + i), am_ph, am_ph] [] h _
    refine am_ev.step (pc' := 1) rfl rfl ?_
    refine ax_gf (p' := 4) rfl rfl (S.ob rfl) v6 ?_
    refine am_ev.step (pc' := 5) rfl rfl ?_
    refine fx_c_ne_T (pT := 28) rfl (by omega) (by omega) rfl (by omega) ?_
    refine am_ev.step (pc' := 29) rfl rfl ?_
    refine am_ev.step (pc' := 30) (ls' := [.ref 78, .ref (7 + i), iv 0, am_ph]) rfl rfl ?_
    refine am_ev.step (pc' := 31) rfl rfl ?_
    refine am_ev.step (pc' := 32) (ls' := [.ref 78, .ref (7 + i), iv 0, iv 0]) rfl rfl ?_
    refine am_ev.step (pc' := 33) rfl rfl ?_
    refine am_ev.step (pc' := 34) rfl rfl ?_
    refine fx_slen (p' := 37) rfl (Or.inr (Or.inl ⟨_, rfl⟩)) rfl hi rfl (by omega) rfl rfl ?_
    refine fx_c_ge (pT := 75) (pF := 40) rfl (by omega) (by omega) rfl rfl (fun k1 => ?_) (fun k1 => ?_)
    · refine am_ev.step (pc' := 76) rfl rfl ?_
      exact fx_reti rfl rfl rfl
    · refine am_ev.step (pc' := 41) rfl rfl ?_
      refine fx_z_eq_T (pT := 75) rfl (by omega) rfl (by omega) ?_
      refine am_ev.step (pc' := 76) rfl rfl ?_
      exact fx_reti rfl rfl rfl
theorem tk_30a (S : fS h) (B : tb h 42 b L) (hL : L ≤ 1600) (v1 : h.2.2.2 41 1 = iv L) (v6 : h.2.2.2 41 6 = iv e) (he : e ≤ L) : ∀ (n j : Nat) (v : Int), e - j = n → j ≤ e → am_ev d 30 7 [.ref 41, iv v, iv j] [] h (some (iv (tz_nu b n j v)), h)
  | 0, j, v, ej, hj => by
    show am_ev d 30 7 [.ref 41, iv v, iv j] [] h (some (iv v), h)
    refine am_ev.step (pc' := 8) rfl rfl ?_
    refine am_ev.step (pc' := 9) rfl rfl ?_
    refine ax_gf (p' := 12) rfl rfl (S.ob rfl) v6 ?_
    refine fx_c_ge_T (pT := 44) rfl (by omega) (by omega) rfl (by omega) ?_
    refine am_ev.step (pc' := 45) rfl rfl ?_
    exact fx_reti rfl rfl rfl
  | n + 1, j, v, ej, hj => by
    refine am_ev.step (pc' := 8) rfl rfl ?_
    refine am_ev.step (pc' := 9) rfl rfl ?_
    refine ax_gf (p' := 12) rfl rfl (S.ob rfl) v6 ?_
    refine fx_c_ge_F (pF := 15) rfl (by omega) (by omega) rfl (by omega) ?_
    refine am_ev.step (pc' := 16) rfl rfl ?_
    refine am_ev.step (pc' := 17) rfl rfl ?_
    refine ax_gf (p' := 20) rfl rfl (S.ob rfl) v1 ?_
    refine fx_c_ge_F (pF := 23) rfl (by omega) (by omega) rfl (by omega) ?_
    refine am_ev.step (pc' := 24) rfl rfl ?_
    refine fx_bip (p' := 26) rfl rfl rfl ?_
    refine fx_mul (p' := 27) (e := (10 * v)) rfl rfl (by omega) ?_
    refine am_ev.step (pc' := 28) rfl rfl ?_
    refine ax_gf (p' := 31) rfl rfl (S.ob rfl) (S.rf rfl rfl) ?_
    refine am_ev.step (pc' := 32) rfl rfl ?_
    refine ax_baload (p' := 33) rfl rfl (S.rd (k := j) rfl rfl rfl rfl rfl (by omega) (B j (by omega))) ?_
    refine fx_add (p' := 34) (e := (10 * v + (b j))) rfl rfl (by omega) ?_
    refine fx_bip (p' := 36) rfl rfl rfl ?_
    refine fx_sub (p' := 37) (e := (10 * v + (b j) - 48)) rfl rfl (by omega) ?_
    refine am_ev.step (pc' := 38) (ls' := [.ref 41, iv (10 * v + (b j) - 48), iv ((j : Int))]) rfl rfl ?_
    refine fx_inc (p' := 41) (e := ((j : Int) + 1)) (ls' := [.ref 41, iv (10 * v + (b j) - 48), iv ((j : Int) + 1)]) rfl rfl rfl (by omega) rfl ?_
    refine am_ev.step (pc' := 7) rfl rfl ?_
    rw [tz_nc]
    exact tk_30a S B hL v1 v6 he n (j + 1) _ (by omega) (by omega)
theorem tk_30 (S : fS h) (B : tb h 42 b L) (hL : L ≤ 1600) (v1 : h.2.2.2 41 1 = iv L) (v5 : h.2.2.2 41 5 = iv s) (v6 : h.2.2.2 41 6 = iv e) (hse : s ≤ e ∧ e ≤ L) : am_ev d 30 0 (am_ent [.ref 41] 3) [] h (some (iv (tz_nu b (e - s) s 0)), h) := by
  show am_ev d 30 0 [.ref 41, am_ph, am_ph] [] h _
  refine am_ev.step (pc' := 1) rfl rfl ?_
  refine am_ev.step (pc' := 2) (ls' := [.ref 41, iv 0, am_ph]) rfl rfl ?_
  refine am_ev.step (pc' := 3) rfl rfl ?_
  refine ax_gf (p' := 6) rfl rfl (S.ob rfl) v5 ?_
  refine am_ev.step (pc' := 7) (ls' := [.ref 41, iv 0, iv ((s : Int))]) rfl rfl ?_
  exact tk_30a S B hL v1 v6 hse.2 (e - s) s 0 rfl hse.1
end TKX
