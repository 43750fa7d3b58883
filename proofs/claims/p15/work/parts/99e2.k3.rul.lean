/-! BITS (the family bt of the kit's laws, begun from there) -/
def bt (x : Int32) (i : Nat) : Bool := x.toBitVec.getLsbD i
theorem b_ext {x y : Int32} (h : ∀ i, i < 32 → bt x i = bt y i) : x = y := Int32.toBitVec_inj.mp (BitVec.eq_of_getLsbD_eq (fun i hi => h i hi))
theorem b_or (x y : Int32) (i : Nat) : bt (x ||| y) i = (bt x i || bt y i) := by unfold bt; rw [Int32.toBitVec_or, BitVec.getLsbD_or]
theorem b_and (x y : Int32) (i : Nat) : bt (x &&& y) i = (bt x i && bt y i) := by unfold bt; rw [Int32.toBitVec_and, BitVec.getLsbD_and]
theorem b_0 (i : Nat) : bt 0 i = false := BitVec.getLsbD_zero
theorem s_l : ∀ n, n < 32 → ((Int32.ofNat n &&& 31).toBitVec.smod 32).toNat = n := by decide +kernel
theorem s_u : ∀ n, n < 32 → (((Int32.ofNat n).toUInt32 &&& Int32.toUInt32 31).toBitVec % 32).toNat = n := by decide +kernel
theorem b_shl (n : Nat) (hn : n < 32) (x : Int32) {i : Nat} (hi : i < 32) : bt (x <<< (Int32.ofNat n &&& 31)) i = (decide (n ≤ i) && bt x (i - n)) := by
  unfold bt
  rw [Int32.toBitVec_shiftLeft]
  show (x.toBitVec <<< ((Int32.ofNat n &&& 31).toBitVec.smod 32).toNat).getLsbD i = _
  rw [s_l n hn, BitVec.getLsbD_shiftLeft]
  rcases Nat.lt_or_ge i n with h | h
  · simp [h, Nat.not_le.mpr h]
  · simp [hi, h, Nat.not_lt.mpr h]
theorem b_ushr (n : Nat) (hn : n < 32) (x : Int32) (i : Nat) : bt ((x.toUInt32 >>> ((Int32.ofNat n).toUInt32 &&& Int32.toUInt32 31)).toInt32) i = bt x (n + i) := by
  show (x.toUInt32 >>> ((Int32.ofNat n).toUInt32 &&& Int32.toUInt32 31)).toBitVec.getLsbD i = x.toUInt32.toBitVec.getLsbD (n + i)
  rw [UInt32.toBitVec_shiftRight]
  show (x.toUInt32.toBitVec >>> (((Int32.ofNat n).toUInt32 &&& Int32.toUInt32 31).toBitVec % 32).toNat).getLsbD i = _
  rw [s_u n hn, BitVec.getLsbD_ushiftRight]
theorem b_1 : ∀ i, i < 32 → bt (Int32.ofInt 1) i = decide (i = 0) := by decide +kernel
theorem b_and1 (y : Int32) : y &&& Int32.ofInt 1 = 0 ↔ bt y 0 = false := by
  refine ⟨fun z => ?_, fun z => b_ext fun i hi => ?_⟩
  · have k := congrArg (fun u => bt u 0) z
    simp only [b_and, b_0, b_1 0 (by decide)] at k
    simpa using k
  · rw [b_and, b_0, b_1 i hi]
    by_cases e : i = 0
    · rw [e, z]
      rfl
    · rw [decide_eq_false e, Bool.and_false]
theorem b_set {t : Int32} {c : Nat} (hc : c < 31) {i : Nat} (hi : i < 31) : bt (t ||| (Int32.ofInt 1 <<< (Int32.ofInt (c : Int) &&& 31))) i = (bt t i || decide (i = c)) := by
  rw [b_or, Int32.ofInt_eq_ofNat, b_shl c (by omega) _ (by omega), b_1 (i - c) (by omega)]
  congr 1
  by_cases e : i = c
  · subst e
    simp
  · by_cases l : c ≤ i
    · have : ¬ i - c = 0 := by omega
      simp [e, this]
    · simp [e, l]
section TKD
variable {d : Nat} {h : am_H}
theorem tk_31 {t : Int32} {c : Nat} (hc : c < 31) : (bt t c = true → am_ev d 31 0 (am_ent [.int t, iv c] 2) [] h (some (iv 1), h)) ∧ (bt t c = false → am_ev d 31 0 (am_ent [.int t, iv c] 2) [] h (some (iv 0), h)) := by
  have key : (t.toUInt32 >>> ((Int32.ofInt (c : Int)).toUInt32 &&& Int32.toUInt32 31)).toInt32 &&& Int32.ofInt 1 = 0 ↔ bt t c = false := by
    rw [b_and1, Int32.ofInt_eq_ofNat, b_ushr c (by omega), Nat.add_zero]
  have st : ∀ x, am_ev d 31 5 [.int t, iv c] [.int ((t.toUInt32 >>> ((Int32.ofInt (c : Int)).toUInt32 &&& Int32.toUInt32 31)).toInt32 &&& Int32.ofInt 1)] h x → am_ev d 31 0 (am_ent [.int t, iv c] 2) [] h x := fun x q => by
    show am_ev d 31 0 [.int t, iv c] [] h x
    refine am_ev.step (pc' := 1) rfl rfl ?_
    refine am_ev.step (pc' := 2) rfl rfl ?_
    refine am_ev.step (pc' := 3) rfl rfl ?_
    refine am_ev.step (pc' := 4) rfl rfl ?_
    refine am_ev.step (pc' := 5) rfl rfl ?_
    exact q
  refine ⟨fun q => st _ ?_, fun q => st _ ?_⟩
  · refine am_ev.step (pc' := 8) rfl (if_neg (fun z => by rw [key.1 z] at q; cases q)) ?_
    refine am_ev.step (pc' := 9) rfl rfl ?_
    refine am_ev.step (pc' := 13) rfl rfl ?_
    exact fx_reti rfl rfl rfl
  · refine am_ev.step (pc' := 12) rfl (if_pos (key.2 q)) ?_
    refine am_ev.step (pc' := 13) rfl rfl ?_
    exact fx_reti rfl rfl rfl
end TKD
/-! TOKENS AND THEIR NUMBERS, by names -/
def tz_t (b : Nat → Int) (L p s e : Nat) (k v : Int) : Prop := p ≤ L ∧ tS b L p = s ∧ tE b L s = e ∧ tK b L s = k ∧ tz_nu b (e - s) s 0 = v
theorem tz_t_ex {b : Nat → Int} {L p : Nat} (h : p ≤ L) : ∃ s e k v, tz_t b L p s e k v := ⟨_, _, _, _, h, rfl, rfl, rfl, rfl⟩
theorem tK_b {b : Nat → Int} {L s : Nat} (hb : tz_r b) : (0 ≤ tK b L s ∧ tK b L s ≤ 59) ∧ (tK b L s = 2 → tE b L s ≤ s + 5 ∧ ∀ i, s ≤ i → i < tE b L s → tz_di (b i) = true) ∧ (tK b L s = 0 → L ≤ s) ∧ (tK b L s = 0 ∨ s < tE b L s ∨ L ≤ s) := by
  have hr := hb s
  by_cases c1 : L ≤ s
  · have hK : tK b L s = 0 := if_pos c1
    rw [hK]
    exact ⟨by omega, fun z => by omega, fun _ => c1, Or.inl rfl⟩
  · by_cases c2 : tz_le (b s) = true
    · have hE : tE b L s = tz_sp tz_le b (L - s) s := by
        unfold tE
        rw [if_neg c1, if_pos c2]
      have hK : tK b L s = 1 ∨ tK b L s = 3 := by
        unfold tK
        rw [if_neg c1, if_pos c2]
        split
        · exact Or.inl rfl
        · exact Or.inr rfl
      have e1 : L - s = (L - s - 1) + 1 := by omega
      have e2 := (tz_sp_le (c := tz_le) (b := b) (L - s - 1) (s + 1)).1
      rw [e1, tz_sp_s c2] at hE
      exact ⟨by omega, fun z => by omega, fun z => by omega, Or.inr (Or.inl (by omega))⟩
    · by_cases c4 : tz_di (b s) = true
      · have hE : tE b L s = tz_sp tz_di b (L - s) s := by
          unfold tE
          rw [if_neg c1, if_neg c2, if_pos c4]
        have hK : (tK b L s = 2 ∧ tE b L s ≤ s + 5) ∨ tK b L s = 3 := by
          rw [hE]
          unfold tK
          rw [if_neg c1, if_neg c2, if_pos c4]
          split
          · exact Or.inl ⟨rfl, by assumption⟩
          · exact Or.inr rfl
        have e1 : L - s = (L - s - 1) + 1 := by omega
        have e2 := (tz_sp_le (c := tz_di) (b := b) (L - s - 1) (s + 1)).1
        have e3 : s < tE b L s := by
          rw [hE, e1, tz_sp_s c4]
          omega
        refine ⟨by omega, fun z => ⟨by omega, fun i h1 h2 => ?_⟩, fun z => by omega, Or.inr (Or.inl e3)⟩
        rw [hE] at h2
        exact tz_sp_in (L - s) s i h1 h2
      · have hE : tE b L s = s + 1 := by
          unfold tE
          rw [if_neg c1, if_neg c2, if_neg c4]
        have hK : (tK b L s = b s ∧ (b s = 59 ∨ b s = 47 ∨ b s = 43)) ∨ tK b L s = 3 := by
          unfold tK
          rw [if_neg c1, if_neg c2, if_neg c4]
          split
          · exact Or.inl ⟨rfl, by assumption⟩
          · exact Or.inr rfl
        exact ⟨by omega, fun z => by omega, fun z => by omega, Or.inr (Or.inl (by omega))⟩
theorem tz_t.f {b : Nat → Int} {L p s e : Nat} {k v : Int} (hb : tz_r b) (t : tz_t b L p s e k v) : p ≤ s ∧ s ≤ e ∧ e ≤ L ∧ 0 ≤ k ∧ k ≤ 59 ∧ (k = 2 → 0 ≤ v ∧ v ≤ 99999) ∧ (k = 0 ∨ s < e) := by
  obtain ⟨hp, rfl, rfl, rfl, rfl⟩ := t
  have a1 := tS_le b hp
  have a2 := tE_le b a1.2
  obtain ⟨b1, b2, b3, b4⟩ := tK_b (L := L) (s := tS b L p) hb
  refine ⟨a1.1, a2.1, a2.2, b1.1, b1.2, fun z => ?_, ?_⟩
  · obtain ⟨g1, g2⟩ := b2 z
    have k := tz_nu_b (b := b) (tE b L (tS b L p) - tS b L p) (tS b L p) 0 0 (by omega) (by omega) (by omega) (fun i h1 h2 => g2 i h1 (by omega))
    have m : (10 : Int) ^ (tE b L (tS b L p) - tS b L p) ≤ 10 ^ 5 := by
      have : tE b L (tS b L p) - tS b L p ≤ 5 := by omega
      exact_mod_cast Nat.pow_le_pow_right (by decide : 0 < 10) this
    omega
  · rcases b4 with z | z | z
    · exact Or.inl z
    · exact Or.inr z
    · exact Or.inl (if_pos z)
theorem tz_wx {b : Nat → Int} {s e : Nat} {k : Int} {i j : Nat} (hi : i < 16) (hj : j < 16) (a : tz_w b s e k i) (c : tz_w b s e k j) : i = j := by
  have key : ∀ i, i < 16 → ∀ j, j < 16 → am_slen i = am_slen j → (∀ q, q < am_slen i → am_sch i q = am_sch j q) → i = j := by decide +kernel
  have el : am_slen i = am_slen j := by
    have := a.2.1
    have := c.2.1
    omega
  refine key i hi j hj el fun q hq => ?_
  have x1 := a.2.2 q hq
  have x2 := c.2.2 q (by omega)
  omega
abbrev FL (h : am_H) (f : Int) (s : Nat) : am_H := am_put (am_put h 41 3 (iv f)) 41 4 (iv s)
/-- the places of the program's tape -/
def tp (h : am_H) (b : Nat → Int) (L : Nat) : Prop := fS h ∧ tb h 42 b L ∧ h.2.2.2 41 1 = iv L
section TKE
variable {d : Nat} {h : am_H} {b : Nat → Int} {L p s e : Nat} {k v : Int}
theorem tk_21w (S : fS h) (B : tb h 42 b L) (hb : tz_r b) (hL : L ≤ 1600) (v1 : h.2.2.2 41 1 = iv L) (v6 : h.2.2.2 41 6 = iv p) (t : tz_t b L p s e k v) : am_ev (d + 1) 21 0 (am_ent [.ref 41] 2) [] h (none, T1 h s e k) := by
  obtain ⟨hp, rfl, rfl, rfl, -⟩ := t
  exact tk_21 S B hb hL v1 v6 hp
theorem tk_29 {f : Int} (S : fS h) (v5 : h.2.2.2 41 5 = iv s) : am_ev d 29 0 (am_ent [.ref 41, iv f] 2) [] h (some (iv 0), FL h f s) := by
  show am_ev d 29 0 [.ref 41, iv f] [] h _
  refine am_ev.step (pc' := 1) rfl rfl ?_
  refine am_ev.step (pc' := 2) rfl rfl ?_
  refine ax_pf (p' := 5) rfl rfl (S.ob rfl) rfl ?_
  refine am_ev.step (pc' := 6) rfl rfl ?_
  refine am_ev.step (pc' := 7) rfl rfl ?_
  refine ax_gf (p' := 10) rfl rfl (fO (S.ob rfl)) (ax_put_o (Or.inr (by decide)) v5) ?_
  refine ax_pf (p' := 13) rfl rfl (fO (S.ob rfl)) rfl ?_
  refine am_ev.step (pc' := 14) rfl rfl ?_
  exact fx_reti rfl rfl rfl
theorem tk_30w (S : fS h) (B : tb h 42 b L) (hb : tz_r b) (hL : L ≤ 1600) (v1 : h.2.2.2 41 1 = iv L) (v5 : h.2.2.2 41 5 = iv s) (v6 : h.2.2.2 41 6 = iv e) (t : tz_t b L p s e k v) : am_ev d 30 0 (am_ent [.ref 41] 3) [] h (some (iv v), h) := by
  have f := t.f hb
  obtain ⟨hp, rfl, rfl, rfl, rfl⟩ := t
  exact tk_30 S B hL v1 v5 v6 ⟨f.2.1, f.2.2.1⟩
theorem tk_28a {lo hi : Int} (r : -100 ≤ lo ∧ lo ≤ 100000 ∧ -100 ≤ hi ∧ hi ≤ 100000) (S : fS h) (B : tb h 42 b L) (hb : tz_r b) (hL : L ≤ 1600) (v1 : h.2.2.2 41 1 = iv L) (v6 : h.2.2.2 41 6 = iv p) (t : tz_t b L p s e k v) (q : k ≠ 2) : am_ev (d + 2) 28 0 (am_ent [.ref 41, iv lo, iv hi] 4) [] h (some (iv 0), FL (T1 h s e k) 1 s) := by
  have f := t.f hb
  show am_ev (d + 2) 28 0 [.ref 41, iv lo, iv hi, am_ph] [] h _
  refine am_ev.step (pc' := 1) rfl rfl ?_
  refine ax_call (z := 21) (p' := 4) (as := [_]) rfl (Or.inr (Or.inl ⟨_, rfl⟩)) rfl rfl rfl rfl rfl rfl (S.ob rfl) rfl (tk_21w S B hb hL v1 v6 t) rfl ?_
  refine am_ev.step (pc' := 5) rfl rfl ?_
  refine ax_gf (p' := 8) rfl rfl (fO (fO (fO (S.ob rfl)))) (ax_put_s _ _ _) ?_
  refine am_ev.step (pc' := 9) rfl rfl ?_
  refine fx_c_eq_F (pF := 12) rfl (by omega) (by omega) rfl (by omega) ?_
  refine am_ev.step (pc' := 13) rfl rfl ?_
  refine am_ev.step (pc' := 14) rfl rfl ?_
  refine ax_call (z := 29) (p' := 17) (as := [_, _]) rfl (Or.inr (Or.inl ⟨_, rfl⟩)) rfl rfl rfl rfl rfl rfl (fO (fO (fO (S.ob rfl)))) rfl (tk_29 (s := s) (((S.po rfl rfl).po rfl rfl).po rfl rfl) (ax_put_o (Or.inr (by decide)) (ax_put_o (Or.inr (by decide)) (ax_put_s _ _ _)))) rfl ?_
  exact fx_reti rfl rfl rfl
theorem tk_28b {lo hi : Int} (r : -100 ≤ lo ∧ lo ≤ 100000 ∧ -100 ≤ hi ∧ hi ≤ 100000) (S : fS h) (B : tb h 42 b L) (hb : tz_r b) (hL : L ≤ 1600) (v1 : h.2.2.2 41 1 = iv L) (v6 : h.2.2.2 41 6 = iv p) (t : tz_t b L p s e k v) (q : k = 2 ∧ ¬ (lo ≤ v ∧ v ≤ hi)) : am_ev (d + 2) 28 0 (am_ent [.ref 41, iv lo, iv hi] 4) [] h (some (iv 0), FL (T1 h s e k) 2 s) := by
  have f := t.f hb
  show am_ev (d + 2) 28 0 [.ref 41, iv lo, iv hi, am_ph] [] h _
  refine am_ev.step (pc' := 1) rfl rfl ?_
  refine ax_call (z := 21) (p' := 4) (as := [_]) rfl (Or.inr (Or.inl ⟨_, rfl⟩)) rfl rfl rfl rfl rfl rfl (S.ob rfl) rfl (tk_21w S B hb hL v1 v6 t) rfl ?_
  refine am_ev.step (pc' := 5) rfl rfl ?_
  refine ax_gf (p' := 8) rfl rfl (fO (fO (fO (S.ob rfl)))) (ax_put_s _ _ _) ?_
  refine am_ev.step (pc' := 9) rfl rfl ?_
  refine fx_c_eq_T (pT := 18) rfl (by omega) (by omega) rfl (by omega) ?_
  refine am_ev.step (pc' := 19) rfl rfl ?_
  refine ax_call (z := 30) (p' := 22) (as := [_]) rfl (Or.inr (Or.inl ⟨_, rfl⟩)) rfl rfl rfl rfl rfl rfl (fO (fO (fO (S.ob rfl)))) rfl (tk_30w (((S.po rfl rfl).po rfl rfl).po rfl rfl) (((B.put (by decide)).put (by decide)).put (by decide)) hb hL (ax_put_o (Or.inr (by decide)) (ax_put_o (Or.inr (by decide)) (ax_put_o (Or.inr (by decide)) v1))) (ax_put_o (Or.inr (by decide)) (ax_put_o (Or.inr (by decide)) (ax_put_s _ _ _))) (ax_put_o (Or.inr (by decide)) (ax_put_s _ _ _)) t) rfl ?_
  refine am_ev.step (pc' := 23) (ls' := [.ref 41, iv (lo), iv (hi), iv (v)]) rfl rfl ?_
  refine am_ev.step (pc' := 24) rfl rfl ?_
  refine am_ev.step (pc' := 25) rfl rfl ?_
  refine fx_c_lt (pT := 33) (pF := 28) rfl (by omega) (by omega) rfl rfl (fun c1 => ?_) (fun c1 => ?_)
  · refine am_ev.step (pc' := 34) rfl rfl ?_
    refine am_ev.step (pc' := 35) rfl rfl ?_
    refine ax_call (z := 29) (p' := 38) (as := [_, _]) rfl (Or.inr (Or.inl ⟨_, rfl⟩)) rfl rfl rfl rfl rfl rfl (fO (fO (fO (S.ob rfl)))) rfl (tk_29 (s := s) (((S.po rfl rfl).po rfl rfl).po rfl rfl) (ax_put_o (Or.inr (by decide)) (ax_put_o (Or.inr (by decide)) (ax_put_s _ _ _)))) rfl ?_
    refine fx_z_eq_T (pT := 45) rfl (by omega) rfl (by omega) ?_
    refine am_ev.step (pc' := 46) rfl rfl ?_
    exact fx_reti rfl rfl rfl
  · refine am_ev.step (pc' := 29) rfl rfl ?_
    refine am_ev.step (pc' := 30) rfl rfl ?_
    refine fx_c_le (pT := 41) (pF := 33) rfl (by omega) (by omega) rfl rfl (fun c2 => ?_) (fun c2 => ?_)
    · refine am_ev.step (pc' := 42) rfl rfl ?_
      refine am_ev.step (pc' := 46) rfl rfl ?_
      exfalso
      omega
    · refine am_ev.step (pc' := 34) rfl rfl ?_
      refine am_ev.step (pc' := 35) rfl rfl ?_
      refine ax_call (z := 29) (p' := 38) (as := [_, _]) rfl (Or.inr (Or.inl ⟨_, rfl⟩)) rfl rfl rfl rfl rfl rfl (fO (fO (fO (S.ob rfl)))) rfl (tk_29 (s := s) (((S.po rfl rfl).po rfl rfl).po rfl rfl) (ax_put_o (Or.inr (by decide)) (ax_put_o (Or.inr (by decide)) (ax_put_s _ _ _)))) rfl ?_
      refine fx_z_eq_T (pT := 45) rfl (by omega) rfl (by omega) ?_
      refine am_ev.step (pc' := 46) rfl rfl ?_
      exact fx_reti rfl rfl rfl
theorem tk_28c {lo hi : Int} (r : -100 ≤ lo ∧ lo ≤ 100000 ∧ -100 ≤ hi ∧ hi ≤ 100000) (S : fS h) (B : tb h 42 b L) (hb : tz_r b) (hL : L ≤ 1600) (v1 : h.2.2.2 41 1 = iv L) (v6 : h.2.2.2 41 6 = iv p) (t : tz_t b L p s e k v) (q : k = 2 ∧ lo ≤ v ∧ v ≤ hi) : am_ev (d + 2) 28 0 (am_ent [.ref 41, iv lo, iv hi] 4) [] h (some (iv 1), T1 h s e k) := by
  have f := t.f hb
  show am_ev (d + 2) 28 0 [.ref 41, iv lo, iv hi, am_ph] [] h _
  refine am_ev.step (pc' := 1) rfl rfl ?_
  refine ax_call (z := 21) (p' := 4) (as := [_]) rfl (Or.inr (Or.inl ⟨_, rfl⟩)) rfl rfl rfl rfl rfl rfl (S.ob rfl) rfl (tk_21w S B hb hL v1 v6 t) rfl ?_
  refine am_ev.step (pc' := 5) rfl rfl ?_
  refine ax_gf (p' := 8) rfl rfl (fO (fO (fO (S.ob rfl)))) (ax_put_s _ _ _) ?_
  refine am_ev.step (pc' := 9) rfl rfl ?_
  refine fx_c_eq_T (pT := 18) rfl (by omega) (by omega) rfl (by omega) ?_
  refine am_ev.step (pc' := 19) rfl rfl ?_
  refine ax_call (z := 30) (p' := 22) (as := [_]) rfl (Or.inr (Or.inl ⟨_, rfl⟩)) rfl rfl rfl rfl rfl rfl (fO (fO (fO (S.ob rfl)))) rfl (tk_30w (((S.po rfl rfl).po rfl rfl).po rfl rfl) (((B.put (by decide)).put (by decide)).put (by decide)) hb hL (ax_put_o (Or.inr (by decide)) (ax_put_o (Or.inr (by decide)) (ax_put_o (Or.inr (by decide)) v1))) (ax_put_o (Or.inr (by decide)) (ax_put_o (Or.inr (by decide)) (ax_put_s _ _ _))) (ax_put_o (Or.inr (by decide)) (ax_put_s _ _ _)) t) rfl ?_
  refine am_ev.step (pc' := 23) (ls' := [.ref 41, iv (lo), iv (hi), iv (v)]) rfl rfl ?_
  refine am_ev.step (pc' := 24) rfl rfl ?_
  refine am_ev.step (pc' := 25) rfl rfl ?_
  refine fx_c_lt_F (pF := 28) rfl (by omega) (by omega) rfl (by omega) ?_
  refine am_ev.step (pc' := 29) rfl rfl ?_
  refine am_ev.step (pc' := 30) rfl rfl ?_
  refine fx_c_le_T (pT := 41) rfl (by omega) (by omega) rfl (by omega) ?_
  refine am_ev.step (pc' := 42) rfl rfl ?_
  refine am_ev.step (pc' := 46) rfl rfl ?_
  exact fx_reti rfl rfl rfl
theorem tk_32a (S : fS h) (B : tb h 42 b L) (hb : tz_r b) (hL : L ≤ 1600) (v1 : h.2.2.2 41 1 = iv L) (v6 : h.2.2.2 41 6 = iv p) (t : tz_t b L p s e k v) (q : k ≠ 59) : am_ev (d + 2) 32 0 (am_ent [.ref 41] 1) [] h (some (iv 0), FL (T1 h s e k) 1 s) := by
  have f := t.f hb
  show am_ev (d + 2) 32 0 [.ref 41] [] h _
  refine am_ev.step (pc' := 1) rfl rfl ?_
  refine ax_call (z := 21) (p' := 4) (as := [_]) rfl (Or.inr (Or.inl ⟨_, rfl⟩)) rfl rfl rfl rfl rfl rfl (S.ob rfl) rfl (tk_21w S B hb hL v1 v6 t) rfl ?_
  refine am_ev.step (pc' := 5) rfl rfl ?_
  refine ax_gf (p' := 8) rfl rfl (fO (fO (fO (S.ob rfl)))) (ax_put_s _ _ _) ?_
  refine fx_bip (p' := 10) rfl rfl rfl ?_
  refine fx_c_eq_F (pF := 13) rfl (by omega) (by omega) rfl (by omega) ?_
  refine am_ev.step (pc' := 14) rfl rfl ?_
  refine am_ev.step (pc' := 15) rfl rfl ?_
  refine ax_call (z := 29) (p' := 18) (as := [_, _]) rfl (Or.inr (Or.inl ⟨_, rfl⟩)) rfl rfl rfl rfl rfl rfl (fO (fO (fO (S.ob rfl)))) rfl (tk_29 (s := s) (((S.po rfl rfl).po rfl rfl).po rfl rfl) (ax_put_o (Or.inr (by decide)) (ax_put_o (Or.inr (by decide)) (ax_put_s _ _ _)))) rfl ?_
  refine fx_z_eq_T (pT := 25) rfl (by omega) rfl (by omega) ?_
  refine am_ev.step (pc' := 26) rfl rfl ?_
  exact fx_reti rfl rfl rfl
theorem tk_32b (S : fS h) (B : tb h 42 b L) (hb : tz_r b) (hL : L ≤ 1600) (v1 : h.2.2.2 41 1 = iv L) (v6 : h.2.2.2 41 6 = iv p) (t : tz_t b L p s e k v) (q : k = 59) : am_ev (d + 2) 32 0 (am_ent [.ref 41] 1) [] h (some (iv 1), T1 h s e k) := by
  have f := t.f hb
  show am_ev (d + 2) 32 0 [.ref 41] [] h _
  refine am_ev.step (pc' := 1) rfl rfl ?_
  refine ax_call (z := 21) (p' := 4) (as := [_]) rfl (Or.inr (Or.inl ⟨_, rfl⟩)) rfl rfl rfl rfl rfl rfl (S.ob rfl) rfl (tk_21w S B hb hL v1 v6 t) rfl ?_
  refine am_ev.step (pc' := 5) rfl rfl ?_
  refine ax_gf (p' := 8) rfl rfl (fO (fO (fO (S.ob rfl)))) (ax_put_s _ _ _) ?_
  refine fx_bip (p' := 10) rfl rfl rfl ?_
  refine fx_c_eq_T (pT := 21) rfl (by omega) (by omega) rfl (by omega) ?_
  refine am_ev.step (pc' := 22) rfl rfl ?_
  refine am_ev.step (pc' := 26) rfl rfl ?_
  exact fx_reti rfl rfl rfl
def tx_r (c : Nat) : Nat := match c with
  | 0 => 10
  | 1 => 11
  | 2 => 14
  | 3 => 6
  | 4 => 12
  | 5 => 13
  | 6 => 9
  | _ => 5
theorem tx_r_lt (c : Nat) : tx_r c < 16 := by
  unfold tx_r
  split <;> decide
/-- which clause of the rules a token begins: 0 to 6, 7 free, -1 none -/
def cl_r (b : Nat → Int) (s e : Nat) (k c : Int) : Prop := (∃ n : Nat, n < 8 ∧ c = n ∧ tz_w b s e k (tx_r n)) ∨ (c = -1 ∧ ∀ n, n < 8 → ¬ tz_w b s e k (tx_r n))
theorem cl_r_ex (b : Nat → Int) (s e : Nat) (k : Int) : ∃ c, cl_r b s e k c := by
  by_cases q : ∃ n : Nat, n < 8 ∧ tz_w b s e k (tx_r n)
  · obtain ⟨n, a, c⟩ := q
    exact ⟨n, Or.inl ⟨n, a, rfl, c⟩⟩
  · exact ⟨-1, Or.inr ⟨rfl, fun n a c => q ⟨n, a, c⟩⟩⟩
theorem cl_r_w {b : Nat → Int} {s e : Nat} {k c : Int} (q : cl_r b s e k c) {n : Nat} (hn : n < 8) : (c = n → tz_w b s e k (tx_r n)) ∧ (c ≠ n → ¬ tz_w b s e k (tx_r n)) := by
  have inj : ∀ n, n < 8 → ∀ m, m < 8 → tx_r n = tx_r m → n = m := by decide +kernel
  rcases q with ⟨m, a, e1, w⟩ | ⟨e1, w⟩
  · refine ⟨fun z => ?_, fun z y => ?_⟩
    · have : n = m := by omega
      rw [this]
      exact w
    · have := inj n hn m a (tz_wx (tx_r_lt n) (tx_r_lt m) y w)
      omega
  · exact ⟨fun z => by omega, fun z => w n hn⟩
theorem tk_25 (S : fS h) (B : tb h 42 b L) (hb : tz_r b) (hL : L ≤ 1600) (v1 : h.2.2.2 41 1 = iv L) (v2 : h.2.2.2 41 2 = iv k) (v5 : h.2.2.2 41 5 = iv s) (v6 : h.2.2.2 41 6 = iv e) (hse : s ≤ e ∧ e ≤ L) (hk : 0 ≤ k ∧ k ≤ 100) {c : Int} (q : cl_r b s e k c) : am_ev (d + 6) 25 0 (am_ent [.ref 41] 1) [] h (some (iv c), h) := by
  show am_ev (d + 6) 25 0 [.ref 41] [] h _
  have q0 := q
  rcases q with ⟨n, hn, rfl, -⟩ | ⟨rfl, -⟩
  · have w : ∀ m : Nat, m < 8 → (n = m → tz_w b s e k (tx_r m)) ∧ (n ≠ m → ¬ tz_w b s e k (tx_r m)) := fun m hm => ⟨fun z => (cl_r_w q0 hm).1 (by omega), fun z => (cl_r_w q0 hm).2 (by omega)⟩
    have hn2 : n = 0 ∨ n = 1 ∨ n = 2 ∨ n = 3 ∨ n = 4 ∨ n = 5 ∨ n = 6 ∨ n = 7 := by omega
    rcases hn2 with rfl | rfl | rfl | rfl | rfl | rfl | rfl | rfl
    · refine am_ev.step (pc' := 1) rfl rfl ?_
      refine am_ev.ldc rfl rfl rfl rfl ?_
      refine ax_call (z := 26) (p' := 6) (as := [_, _]) rfl (Or.inr (Or.inl ⟨_, rfl⟩)) rfl rfl rfl rfl rfl rfl (S.ob rfl) rfl ((tk_26 (i := 10) (by decide) S B hb hL v1 v2 v5 v6 hse hk).1 ((w 0 (by decide)).1 rfl)) rfl ?_
      refine fx_z_eq_F (pF := 9) rfl (by omega) rfl (by omega) ?_
      refine am_ev.step (pc' := 10) rfl rfl ?_
      exact fx_reti rfl rfl rfl
    · refine am_ev.step (pc' := 1) rfl rfl ?_
      refine am_ev.ldc rfl rfl rfl rfl ?_
      refine ax_call (z := 26) (p' := 6) (as := [_, _]) rfl (Or.inr (Or.inl ⟨_, rfl⟩)) rfl rfl rfl rfl rfl rfl (S.ob rfl) rfl ((tk_26 (i := 10) (by decide) S B hb hL v1 v2 v5 v6 hse hk).2 ((w 0 (by decide)).2 (by decide))) rfl ?_
      refine fx_z_eq_T (pT := 11) rfl (by omega) rfl (by omega) ?_
      refine am_ev.step (pc' := 12) rfl rfl ?_
      refine am_ev.ldc rfl rfl rfl rfl ?_
      refine ax_call (z := 26) (p' := 17) (as := [_, _]) rfl (Or.inr (Or.inl ⟨_, rfl⟩)) rfl rfl rfl rfl rfl rfl (S.ob rfl) rfl ((tk_26 (i := 11) (by decide) S B hb hL v1 v2 v5 v6 hse hk).1 ((w 1 (by decide)).1 rfl)) rfl ?_
      refine fx_z_eq_F (pF := 20) rfl (by omega) rfl (by omega) ?_
      refine am_ev.step (pc' := 21) rfl rfl ?_
      exact fx_reti rfl rfl rfl
    · refine am_ev.step (pc' := 1) rfl rfl ?_
      refine am_ev.ldc rfl rfl rfl rfl ?_
      refine ax_call (z := 26) (p' := 6) (as := [_, _]) rfl (Or.inr (Or.inl ⟨_, rfl⟩)) rfl rfl rfl rfl rfl rfl (S.ob rfl) rfl ((tk_26 (i := 10) (by decide) S B hb hL v1 v2 v5 v6 hse hk).2 ((w 0 (by decide)).2 (by decide))) rfl ?_
      refine fx_z_eq_T (pT := 11) rfl (by omega) rfl (by omega) ?_
      refine am_ev.step (pc' := 12) rfl rfl ?_
      refine am_ev.ldc rfl rfl rfl rfl ?_
      refine ax_call (z := 26) (p' := 17) (as := [_, _]) rfl (Or.inr (Or.inl ⟨_, rfl⟩)) rfl rfl rfl rfl rfl rfl (S.ob rfl) rfl ((tk_26 (i := 11) (by decide) S B hb hL v1 v2 v5 v6 hse hk).2 ((w 1 (by decide)).2 (by decide))) rfl ?_
      refine fx_z_eq_T (pT := 22) rfl (by omega) rfl (by omega) ?_
      refine am_ev.step (pc' := 23) rfl rfl ?_
      refine am_ev.ldc rfl rfl rfl rfl ?_
      refine ax_call (z := 26) (p' := 28) (as := [_, _]) rfl (Or.inr (Or.inl ⟨_, rfl⟩)) rfl rfl rfl rfl rfl rfl (S.ob rfl) rfl ((tk_26 (i := 14) (by decide) S B hb hL v1 v2 v5 v6 hse hk).1 ((w 2 (by decide)).1 rfl)) rfl ?_
      refine fx_z_eq_F (pF := 31) rfl (by omega) rfl (by omega) ?_
      refine am_ev.step (pc' := 32) rfl rfl ?_
      exact fx_reti rfl rfl rfl
    · refine am_ev.step (pc' := 1) rfl rfl ?_
      refine am_ev.ldc rfl rfl rfl rfl ?_
      refine ax_call (z := 26) (p' := 6) (as := [_, _]) rfl (Or.inr (Or.inl ⟨_, rfl⟩)) rfl rfl rfl rfl rfl rfl (S.ob rfl) rfl ((tk_26 (i := 10) (by decide) S B hb hL v1 v2 v5 v6 hse hk).2 ((w 0 (by decide)).2 (by decide))) rfl ?_
      refine fx_z_eq_T (pT := 11) rfl (by omega) rfl (by omega) ?_
      refine am_ev.step (pc' := 12) rfl rfl ?_
      refine am_ev.ldc rfl rfl rfl rfl ?_
      refine ax_call (z := 26) (p' := 17) (as := [_, _]) rfl (Or.inr (Or.inl ⟨_, rfl⟩)) rfl rfl rfl rfl rfl rfl (S.ob rfl) rfl ((tk_26 (i := 11) (by decide) S B hb hL v1 v2 v5 v6 hse hk).2 ((w 1 (by decide)).2 (by decide))) rfl ?_
      refine fx_z_eq_T (pT := 22) rfl (by omega) rfl (by omega) ?_
      refine am_ev.step (pc' := 23) rfl rfl ?_
      refine am_ev.ldc rfl rfl rfl rfl ?_
      refine ax_call (z := 26) (p' := 28) (as := [_, _]) rfl (Or.inr (Or.inl ⟨_, rfl⟩)) rfl rfl rfl rfl rfl rfl (S.ob rfl) rfl ((tk_26 (i := 14) (by decide) S B hb hL v1 v2 v5 v6 hse hk).2 ((w 2 (by decide)).2 (by decide))) rfl ?_
      refine fx_z_eq_T (pT := 33) rfl (by omega) rfl (by omega) ?_
      refine am_ev.step (pc' := 34) rfl rfl ?_
      refine am_ev.ldc rfl rfl rfl rfl ?_
      refine ax_call (z := 26) (p' := 39) (as := [_, _]) rfl (Or.inr (Or.inl ⟨_, rfl⟩)) rfl rfl rfl rfl rfl rfl (S.ob rfl) rfl ((tk_26 (i := 6) (by decide) S B hb hL v1 v2 v5 v6 hse hk).1 ((w 3 (by decide)).1 rfl)) rfl ?_
      refine fx_z_eq_F (pF := 42) rfl (by omega) rfl (by omega) ?_
      refine am_ev.step (pc' := 43) rfl rfl ?_
      exact fx_reti rfl rfl rfl
    · refine am_ev.step (pc' := 1) rfl rfl ?_
      refine am_ev.ldc rfl rfl rfl rfl ?_
      refine ax_call (z := 26) (p' := 6) (as := [_, _]) rfl (Or.inr (Or.inl ⟨_, rfl⟩)) rfl rfl rfl rfl rfl rfl (S.ob rfl) rfl ((tk_26 (i := 10) (by decide) S B hb hL v1 v2 v5 v6 hse hk).2 ((w 0 (by decide)).2 (by decide))) rfl ?_
      refine fx_z_eq_T (pT := 11) rfl (by omega) rfl (by omega) ?_
      refine am_ev.step (pc' := 12) rfl rfl ?_
      refine am_ev.ldc rfl rfl rfl rfl ?_
      refine ax_call (z := 26) (p' := 17) (as := [_, _]) rfl (Or.inr (Or.inl ⟨_, rfl⟩)) rfl rfl rfl rfl rfl rfl (S.ob rfl) rfl ((tk_26 (i := 11) (by decide) S B hb hL v1 v2 v5 v6 hse hk).2 ((w 1 (by decide)).2 (by decide))) rfl ?_
      refine fx_z_eq_T (pT := 22) rfl (by omega) rfl (by omega) ?_
      refine am_ev.step (pc' := 23) rfl rfl ?_
      refine am_ev.ldc rfl rfl rfl rfl ?_
      refine ax_call (z := 26) (p' := 28) (as := [_, _]) rfl (Or.inr (Or.inl ⟨_, rfl⟩)) rfl rfl rfl rfl rfl rfl (S.ob rfl) rfl ((tk_26 (i := 14) (by decide) S B hb hL v1 v2 v5 v6 hse hk).2 ((w 2 (by decide)).2 (by decide))) rfl ?_
      refine fx_z_eq_T (pT := 33) rfl (by omega) rfl (by omega) ?_
      refine am_ev.step (pc' := 34) rfl rfl ?_
      refine am_ev.ldc rfl rfl rfl rfl ?_
      refine ax_call (z := 26) (p' := 39) (as := [_, _]) rfl (Or.inr (Or.inl ⟨_, rfl⟩)) rfl rfl rfl rfl rfl rfl (S.ob rfl) rfl ((tk_26 (i := 6) (by decide) S B hb hL v1 v2 v5 v6 hse hk).2 ((w 3 (by decide)).2 (by decide))) rfl ?_
      refine fx_z_eq_T (pT := 44) rfl (by omega) rfl (by omega) ?_
      refine am_ev.step (pc' := 45) rfl rfl ?_
      refine am_ev.ldc rfl rfl rfl rfl ?_
      refine ax_call (z := 26) (p' := 50) (as := [_, _]) rfl (Or.inr (Or.inl ⟨_, rfl⟩)) rfl rfl rfl rfl rfl rfl (S.ob rfl) rfl ((tk_26 (i := 12) (by decide) S B hb hL v1 v2 v5 v6 hse hk).1 ((w 4 (by decide)).1 rfl)) rfl ?_
      refine fx_z_eq_F (pF := 53) rfl (by omega) rfl (by omega) ?_
      refine am_ev.step (pc' := 54) rfl rfl ?_
      exact fx_reti rfl rfl rfl
    · refine am_ev.step (pc' := 1) rfl rfl ?_
      refine am_ev.ldc rfl rfl rfl rfl ?_
      refine ax_call (z := 26) (p' := 6) (as := [_, _]) rfl (Or.inr (Or.inl ⟨_, rfl⟩)) rfl rfl rfl rfl rfl rfl (S.ob rfl) rfl ((tk_26 (i := 10) (by decide) S B hb hL v1 v2 v5 v6 hse hk).2 ((w 0 (by decide)).2 (by decide))) rfl ?_
      refine fx_z_eq_T (pT := 11) rfl (by omega) rfl (by omega) ?_
      refine am_ev.step (pc' := 12) rfl rfl ?_
      refine am_ev.ldc rfl rfl rfl rfl ?_
      refine ax_call (z := 26) (p' := 17) (as := [_, _]) rfl (Or.inr (Or.inl ⟨_, rfl⟩)) rfl rfl rfl rfl rfl rfl (S.ob rfl) rfl ((tk_26 (i := 11) (by decide) S B hb hL v1 v2 v5 v6 hse hk).2 ((w 1 (by decide)).2 (by decide))) rfl ?_
      refine fx_z_eq_T (pT := 22) rfl (by omega) rfl (by omega) ?_
      refine am_ev.step (pc' := 23) rfl rfl ?_
      refine am_ev.ldc rfl rfl rfl rfl ?_
      refine ax_call (z := 26) (p' := 28) (as := [_, _]) rfl (Or.inr (Or.inl ⟨_, rfl⟩)) rfl rfl rfl rfl rfl rfl (S.ob rfl) rfl ((tk_26 (i := 14) (by decide) S B hb hL v1 v2 v5 v6 hse hk).2 ((w 2 (by decide)).2 (by decide))) rfl ?_
      refine fx_z_eq_T (pT := 33) rfl (by omega) rfl (by omega) ?_
      refine am_ev.step (pc' := 34) rfl rfl ?_
      refine am_ev.ldc rfl rfl rfl rfl ?_
      refine ax_call (z := 26) (p' := 39) (as := [_, _]) rfl (Or.inr (Or.inl ⟨_, rfl⟩)) rfl rfl rfl rfl rfl rfl (S.ob rfl) rfl ((tk_26 (i := 6) (by decide) S B hb hL v1 v2 v5 v6 hse hk).2 ((w 3 (by decide)).2 (by decide))) rfl ?_
      refine fx_z_eq_T (pT := 44) rfl (by omega) rfl (by omega) ?_
      refine am_ev.step (pc' := 45) rfl rfl ?_
      refine am_ev.ldc rfl rfl rfl rfl ?_
      refine ax_call (z := 26) (p' := 50) (as := [_, _]) rfl (Or.inr (Or.inl ⟨_, rfl⟩)) rfl rfl rfl rfl rfl rfl (S.ob rfl) rfl ((tk_26 (i := 12) (by decide) S B hb hL v1 v2 v5 v6 hse hk).2 ((w 4 (by decide)).2 (by decide))) rfl ?_
      refine fx_z_eq_T (pT := 55) rfl (by omega) rfl (by omega) ?_
      refine am_ev.step (pc' := 56) rfl rfl ?_
      refine am_ev.ldc rfl rfl rfl rfl ?_
      refine ax_call (z := 26) (p' := 61) (as := [_, _]) rfl (Or.inr (Or.inl ⟨_, rfl⟩)) rfl rfl rfl rfl rfl rfl (S.ob rfl) rfl ((tk_26 (i := 13) (by decide) S B hb hL v1 v2 v5 v6 hse hk).1 ((w 5 (by decide)).1 rfl)) rfl ?_
      refine fx_z_eq_F (pF := 64) rfl (by omega) rfl (by omega) ?_
      refine am_ev.step (pc' := 65) rfl rfl ?_
      exact fx_reti rfl rfl rfl
    · refine am_ev.step (pc' := 1) rfl rfl ?_
      refine am_ev.ldc rfl rfl rfl rfl ?_
      refine ax_call (z := 26) (p' := 6) (as := [_, _]) rfl (Or.inr (Or.inl ⟨_, rfl⟩)) rfl rfl rfl rfl rfl rfl (S.ob rfl) rfl ((tk_26 (i := 10) (by decide) S B hb hL v1 v2 v5 v6 hse hk).2 ((w 0 (by decide)).2 (by decide))) rfl ?_
      refine fx_z_eq_T (pT := 11) rfl (by omega) rfl (by omega) ?_
      refine am_ev.step (pc' := 12) rfl rfl ?_
      refine am_ev.ldc rfl rfl rfl rfl ?_
      refine ax_call (z := 26) (p' := 17) (as := [_, _]) rfl (Or.inr (Or.inl ⟨_, rfl⟩)) rfl rfl rfl rfl rfl rfl (S.ob rfl) rfl ((tk_26 (i := 11) (by decide) S B hb hL v1 v2 v5 v6 hse hk).2 ((w 1 (by decide)).2 (by decide))) rfl ?_
      refine fx_z_eq_T (pT := 22) rfl (by omega) rfl (by omega) ?_
      refine am_ev.step (pc' := 23) rfl rfl ?_
      refine am_ev.ldc rfl rfl rfl rfl ?_
      refine ax_call (z := 26) (p' := 28) (as := [_, _]) rfl (Or.inr (Or.inl ⟨_, rfl⟩)) rfl rfl rfl rfl rfl rfl (S.ob rfl) rfl ((tk_26 (i := 14) (by decide) S B hb hL v1 v2 v5 v6 hse hk).2 ((w 2 (by decide)).2 (by decide))) rfl ?_
      refine fx_z_eq_T (pT := 33) rfl (by omega) rfl (by omega) ?_
      refine am_ev.step (pc' := 34) rfl rfl ?_
      refine am_ev.ldc rfl rfl rfl rfl ?_
      refine ax_call (z := 26) (p' := 39) (as := [_, _]) rfl (Or.inr (Or.inl ⟨_, rfl⟩)) rfl rfl rfl rfl rfl rfl (S.ob rfl) rfl ((tk_26 (i := 6) (by decide) S B hb hL v1 v2 v5 v6 hse hk).2 ((w 3 (by decide)).2 (by decide))) rfl ?_
      refine fx_z_eq_T (pT := 44) rfl (by omega) rfl (by omega) ?_
      refine am_ev.step (pc' := 45) rfl rfl ?_
      refine am_ev.ldc rfl rfl rfl rfl ?_
      refine ax_call (z := 26) (p' := 50) (as := [_, _]) rfl (Or.inr (Or.inl ⟨_, rfl⟩)) rfl rfl rfl rfl rfl rfl (S.ob rfl) rfl ((tk_26 (i := 12) (by decide) S B hb hL v1 v2 v5 v6 hse hk).2 ((w 4 (by decide)).2 (by decide))) rfl ?_
      refine fx_z_eq_T (pT := 55) rfl (by omega) rfl (by omega) ?_
      refine am_ev.step (pc' := 56) rfl rfl ?_
      refine am_ev.ldc rfl rfl rfl rfl ?_
      refine ax_call (z := 26) (p' := 61) (as := [_, _]) rfl (Or.inr (Or.inl ⟨_, rfl⟩)) rfl rfl rfl rfl rfl rfl (S.ob rfl) rfl ((tk_26 (i := 13) (by decide) S B hb hL v1 v2 v5 v6 hse hk).2 ((w 5 (by decide)).2 (by decide))) rfl ?_
      refine fx_z_eq_T (pT := 66) rfl (by omega) rfl (by omega) ?_
      refine am_ev.step (pc' := 67) rfl rfl ?_
      refine am_ev.ldc rfl rfl rfl rfl ?_
      refine ax_call (z := 26) (p' := 72) (as := [_, _]) rfl (Or.inr (Or.inl ⟨_, rfl⟩)) rfl rfl rfl rfl rfl rfl (S.ob rfl) rfl ((tk_26 (i := 9) (by decide) S B hb hL v1 v2 v5 v6 hse hk).1 ((w 6 (by decide)).1 rfl)) rfl ?_
      refine fx_z_eq_F (pF := 75) rfl (by omega) rfl (by omega) ?_
      refine fx_bip (p' := 77) rfl rfl rfl ?_
      exact fx_reti rfl rfl rfl
    · refine am_ev.step (pc' := 1) rfl rfl ?_
      refine am_ev.ldc rfl rfl rfl rfl ?_
      refine ax_call (z := 26) (p' := 6) (as := [_, _]) rfl (Or.inr (Or.inl ⟨_, rfl⟩)) rfl rfl rfl rfl rfl rfl (S.ob rfl) rfl ((tk_26 (i := 10) (by decide) S B hb hL v1 v2 v5 v6 hse hk).2 ((w 0 (by decide)).2 (by decide))) rfl ?_
      refine fx_z_eq_T (pT := 11) rfl (by omega) rfl (by omega) ?_
      refine am_ev.step (pc' := 12) rfl rfl ?_
      refine am_ev.ldc rfl rfl rfl rfl ?_
      refine ax_call (z := 26) (p' := 17) (as := [_, _]) rfl (Or.inr (Or.inl ⟨_, rfl⟩)) rfl rfl rfl rfl rfl rfl (S.ob rfl) rfl ((tk_26 (i := 11) (by decide) S B hb hL v1 v2 v5 v6 hse hk).2 ((w 1 (by decide)).2 (by decide))) rfl ?_
      refine fx_z_eq_T (pT := 22) rfl (by omega) rfl (by omega) ?_
      refine am_ev.step (pc' := 23) rfl rfl ?_
      refine am_ev.ldc rfl rfl rfl rfl ?_
      refine ax_call (z := 26) (p' := 28) (as := [_, _]) rfl (Or.inr (Or.inl ⟨_, rfl⟩)) rfl rfl rfl rfl rfl rfl (S.ob rfl) rfl ((tk_26 (i := 14) (by decide) S B hb hL v1 v2 v5 v6 hse hk).2 ((w 2 (by decide)).2 (by decide))) rfl ?_
      refine fx_z_eq_T (pT := 33) rfl (by omega) rfl (by omega) ?_
      refine am_ev.step (pc' := 34) rfl rfl ?_
      refine am_ev.ldc rfl rfl rfl rfl ?_
      refine ax_call (z := 26) (p' := 39) (as := [_, _]) rfl (Or.inr (Or.inl ⟨_, rfl⟩)) rfl rfl rfl rfl rfl rfl (S.ob rfl) rfl ((tk_26 (i := 6) (by decide) S B hb hL v1 v2 v5 v6 hse hk).2 ((w 3 (by decide)).2 (by decide))) rfl ?_
      refine fx_z_eq_T (pT := 44) rfl (by omega) rfl (by omega) ?_
      refine am_ev.step (pc' := 45) rfl rfl ?_
      refine am_ev.ldc rfl rfl rfl rfl ?_
      refine ax_call (z := 26) (p' := 50) (as := [_, _]) rfl (Or.inr (Or.inl ⟨_, rfl⟩)) rfl rfl rfl rfl rfl rfl (S.ob rfl) rfl ((tk_26 (i := 12) (by decide) S B hb hL v1 v2 v5 v6 hse hk).2 ((w 4 (by decide)).2 (by decide))) rfl ?_
      refine fx_z_eq_T (pT := 55) rfl (by omega) rfl (by omega) ?_
      refine am_ev.step (pc' := 56) rfl rfl ?_
      refine am_ev.ldc rfl rfl rfl rfl ?_
      refine ax_call (z := 26) (p' := 61) (as := [_, _]) rfl (Or.inr (Or.inl ⟨_, rfl⟩)) rfl rfl rfl rfl rfl rfl (S.ob rfl) rfl ((tk_26 (i := 13) (by decide) S B hb hL v1 v2 v5 v6 hse hk).2 ((w 5 (by decide)).2 (by decide))) rfl ?_
      refine fx_z_eq_T (pT := 66) rfl (by omega) rfl (by omega) ?_
      refine am_ev.step (pc' := 67) rfl rfl ?_
      refine am_ev.ldc rfl rfl rfl rfl ?_
      refine ax_call (z := 26) (p' := 72) (as := [_, _]) rfl (Or.inr (Or.inl ⟨_, rfl⟩)) rfl rfl rfl rfl rfl rfl (S.ob rfl) rfl ((tk_26 (i := 9) (by decide) S B hb hL v1 v2 v5 v6 hse hk).2 ((w 6 (by decide)).2 (by decide))) rfl ?_
      refine fx_z_eq_T (pT := 78) rfl (by omega) rfl (by omega) ?_
      refine am_ev.step (pc' := 79) rfl rfl ?_
      refine am_ev.ldc rfl rfl rfl rfl ?_
      refine ax_call (z := 26) (p' := 84) (as := [_, _]) rfl (Or.inr (Or.inl ⟨_, rfl⟩)) rfl rfl rfl rfl rfl rfl (S.ob rfl) rfl ((tk_26 (i := 5) (by decide) S B hb hL v1 v2 v5 v6 hse hk).1 ((w 7 (by decide)).1 rfl)) rfl ?_
      refine fx_z_eq_F (pF := 87) rfl (by omega) rfl (by omega) ?_
      refine fx_bip (p' := 89) rfl rfl rfl ?_
      refine am_ev.step (pc' := 93) rfl rfl ?_
      exact fx_reti rfl rfl rfl
  · refine am_ev.step (pc' := 1) rfl rfl ?_
    refine am_ev.ldc rfl rfl rfl rfl ?_
    refine ax_call (z := 26) (p' := 6) (as := [_, _]) rfl (Or.inr (Or.inl ⟨_, rfl⟩)) rfl rfl rfl rfl rfl rfl (S.ob rfl) rfl ((tk_26 (i := 10) (by decide) S B hb hL v1 v2 v5 v6 hse hk).2 ((cl_r_w q0 (n := 0) (by decide)).2 (by decide))) rfl ?_
    refine fx_z_eq_T (pT := 11) rfl (by omega) rfl (by omega) ?_
    refine am_ev.step (pc' := 12) rfl rfl ?_
    refine am_ev.ldc rfl rfl rfl rfl ?_
    refine ax_call (z := 26) (p' := 17) (as := [_, _]) rfl (Or.inr (Or.inl ⟨_, rfl⟩)) rfl rfl rfl rfl rfl rfl (S.ob rfl) rfl ((tk_26 (i := 11) (by decide) S B hb hL v1 v2 v5 v6 hse hk).2 ((cl_r_w q0 (n := 1) (by decide)).2 (by decide))) rfl ?_
    refine fx_z_eq_T (pT := 22) rfl (by omega) rfl (by omega) ?_
    refine am_ev.step (pc' := 23) rfl rfl ?_
    refine am_ev.ldc rfl rfl rfl rfl ?_
    refine ax_call (z := 26) (p' := 28) (as := [_, _]) rfl (Or.inr (Or.inl ⟨_, rfl⟩)) rfl rfl rfl rfl rfl rfl (S.ob rfl) rfl ((tk_26 (i := 14) (by decide) S B hb hL v1 v2 v5 v6 hse hk).2 ((cl_r_w q0 (n := 2) (by decide)).2 (by decide))) rfl ?_
    refine fx_z_eq_T (pT := 33) rfl (by omega) rfl (by omega) ?_
    refine am_ev.step (pc' := 34) rfl rfl ?_
    refine am_ev.ldc rfl rfl rfl rfl ?_
    refine ax_call (z := 26) (p' := 39) (as := [_, _]) rfl (Or.inr (Or.inl ⟨_, rfl⟩)) rfl rfl rfl rfl rfl rfl (S.ob rfl) rfl ((tk_26 (i := 6) (by decide) S B hb hL v1 v2 v5 v6 hse hk).2 ((cl_r_w q0 (n := 3) (by decide)).2 (by decide))) rfl ?_
    refine fx_z_eq_T (pT := 44) rfl (by omega) rfl (by omega) ?_
    refine am_ev.step (pc' := 45) rfl rfl ?_
    refine am_ev.ldc rfl rfl rfl rfl ?_
    refine ax_call (z := 26) (p' := 50) (as := [_, _]) rfl (Or.inr (Or.inl ⟨_, rfl⟩)) rfl rfl rfl rfl rfl rfl (S.ob rfl) rfl ((tk_26 (i := 12) (by decide) S B hb hL v1 v2 v5 v6 hse hk).2 ((cl_r_w q0 (n := 4) (by decide)).2 (by decide))) rfl ?_
    refine fx_z_eq_T (pT := 55) rfl (by omega) rfl (by omega) ?_
    refine am_ev.step (pc' := 56) rfl rfl ?_
    refine am_ev.ldc rfl rfl rfl rfl ?_
    refine ax_call (z := 26) (p' := 61) (as := [_, _]) rfl (Or.inr (Or.inl ⟨_, rfl⟩)) rfl rfl rfl rfl rfl rfl (S.ob rfl) rfl ((tk_26 (i := 13) (by decide) S B hb hL v1 v2 v5 v6 hse hk).2 ((cl_r_w q0 (n := 5) (by decide)).2 (by decide))) rfl ?_
    refine fx_z_eq_T (pT := 66) rfl (by omega) rfl (by omega) ?_
    refine am_ev.step (pc' := 67) rfl rfl ?_
    refine am_ev.ldc rfl rfl rfl rfl ?_
    refine ax_call (z := 26) (p' := 72) (as := [_, _]) rfl (Or.inr (Or.inl ⟨_, rfl⟩)) rfl rfl rfl rfl rfl rfl (S.ob rfl) rfl ((tk_26 (i := 9) (by decide) S B hb hL v1 v2 v5 v6 hse hk).2 ((cl_r_w q0 (n := 6) (by decide)).2 (by decide))) rfl ?_
    refine fx_z_eq_T (pT := 78) rfl (by omega) rfl (by omega) ?_
    refine am_ev.step (pc' := 79) rfl rfl ?_
    refine am_ev.ldc rfl rfl rfl rfl ?_
    refine ax_call (z := 26) (p' := 84) (as := [_, _]) rfl (Or.inr (Or.inl ⟨_, rfl⟩)) rfl rfl rfl rfl rfl rfl (S.ob rfl) rfl ((tk_26 (i := 5) (by decide) S B hb hL v1 v2 v5 v6 hse hk).2 ((cl_r_w q0 (n := 7) (by decide)).2 (by decide))) rfl ?_
    refine fx_z_eq_T (pT := 92) rfl (by omega) rfl (by omega) ?_
    refine am_ev.step (pc' := 93) rfl rfl ?_
    exact fx_reti rfl rfl rfl
end TKE
