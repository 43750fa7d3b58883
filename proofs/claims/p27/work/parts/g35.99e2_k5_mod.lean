section
/-! THE RULES, the other side -/
section MDA
variable {d : Nat} {h : am_H}
theorem md_165t {a b c : Int64} (q : b.toInt ≤ a.toInt ∧ a.toInt ≤ c.toInt) : am_ev d 165 0 (am_ent [.long a, .long b, .long c] 6) [] h (some (iv 1), h) := by
  have c1 : ¬ lg_cmp a b < 0 := fun z => by
    have := (cq_cmp_s a b).1.1 (Int32.lt_iff_toInt_lt.1 z)
    omega
  have c2 : ¬ 0 < lg_cmp a c := fun z => by
    have z := Int32.lt_iff_toInt_lt.1 z
    rw [show (0 : Int32).toInt = 0 by decide] at z
    have k1 := (cq_cmp_s a c).1
    have k2 := (cq_cmp_s a c).2
    omega
  refine am_ev.step (pc' := 1) rfl rfl ?_
  refine am_ev.step (pc' := 2) rfl rfl ?_
  refine am_ev.step (pc' := 3) rfl rfl ?_
  refine ax_z_lt_N (p' := 6) rfl rfl c1 ?_
  refine am_ev.step (pc' := 7) rfl rfl ?_
  refine am_ev.step (pc' := 9) rfl rfl ?_
  refine am_ev.step (pc' := 10) rfl rfl ?_
  refine ax_z_gt_N (p' := 13) rfl rfl c2 ?_
  refine am_ev.step (pc' := 14) rfl rfl ?_
  refine am_ev.step (pc' := 18) rfl rfl ?_
  exact am_ev.reti rfl rfl rfl
theorem md_165f {a b c : Int64} (q : ¬ (b.toInt ≤ a.toInt ∧ a.toInt ≤ c.toInt)) : am_ev d 165 0 (am_ent [.long a, .long b, .long c] 6) [] h (some (iv 0), h) := by
  by_cases c1 : lg_cmp a b < 0
  · refine am_ev.step (pc' := 1) rfl rfl ?_
    refine am_ev.step (pc' := 2) rfl rfl ?_
    refine am_ev.step (pc' := 3) rfl rfl ?_
    refine ax_z_lt_T (p' := 17) rfl rfl c1 ?_
    refine am_ev.step (pc' := 18) rfl rfl ?_
    exact am_ev.reti rfl rfl rfl
  · have c2 : 0 < lg_cmp a c := Int32.lt_iff_toInt_lt.2 (by
      rw [show (0 : Int32).toInt = 0 by decide]
      have k0 := mt Int32.lt_iff_toInt_lt.2 c1
      rw [show (0 : Int32).toInt = 0 by decide] at k0
      have k1 := (cq_cmp_s a c).1
      have k2 := (cq_cmp_s a c).2
      have k3 := (cq_cmp_s a b).1
      omega)
    refine am_ev.step (pc' := 1) rfl rfl ?_
    refine am_ev.step (pc' := 2) rfl rfl ?_
    refine am_ev.step (pc' := 3) rfl rfl ?_
    refine ax_z_lt_N (p' := 6) rfl rfl c1 ?_
    refine am_ev.step (pc' := 7) rfl rfl ?_
    refine am_ev.step (pc' := 9) rfl rfl ?_
    refine am_ev.step (pc' := 10) rfl rfl ?_
    refine ax_z_gt_T (p' := 17) rfl rfl c2 ?_
    refine am_ev.step (pc' := 18) rfl rfl ?_
    exact am_ev.reti rfl rfl rfl
theorem md_l {x : Int} (r : -2147483648 ≤ x ∧ x ≤ 2147483647) : (Int32.ofInt x).toInt64.toInt = x := by rw [Int32.toInt_toInt64, fx_ti r]
/-- in, of ints -/
theorem md_in {x lo hi : Int} (r1 : -2147483648 ≤ x ∧ x ≤ 2147483647) (r2 : -2147483648 ≤ lo ∧ lo ≤ 2147483647) (r3 : -2147483648 ≤ hi ∧ hi ≤ 2147483647) : (lo ≤ x ∧ x ≤ hi → am_ev d 165 0 (am_ent [.long (Int32.ofInt x).toInt64, .long (Int32.ofInt lo).toInt64, .long (Int32.ofInt hi).toInt64] 6) [] h (some (iv 1), h)) ∧ (¬ (lo ≤ x ∧ x ≤ hi) → am_ev d 165 0 (am_ent [.long (Int32.ofInt x).toInt64, .long (Int32.ofInt lo).toInt64, .long (Int32.ofInt hi).toInt64] 6) [] h (some (iv 0), h)) := ⟨fun q => md_165t (by rw [md_l r1, md_l r2, md_l r3]; exact q), fun q => md_165f (by rw [md_l r1, md_l r2, md_l r3]; exact q)⟩
end MDA
theorem tH_c {k : Int} (h : 0 ≤ k ∧ k ≤ 59) : (k = 0 ∧ tH k = 0) ∨ (k = 1 ∧ tH k = 1) ∨ (k = 2 ∧ tH k = 2) ∨ (k = 3 ∧ tH k = 4) ∨ (4 ≤ k ∧ tH k = 3) := by
  by_cases a0 : k = 0
  · rw [a0]
    exact Or.inl ⟨rfl, rfl⟩
  · by_cases a1 : k = 1
    · rw [a1]
      exact Or.inr (Or.inl ⟨rfl, rfl⟩)
    · by_cases a2 : k = 2
      · rw [a2]
        exact Or.inr (Or.inr (Or.inl ⟨rfl, rfl⟩))
      · by_cases a3 : k = 3
        · rw [a3]
          exact Or.inr (Or.inr (Or.inr (Or.inl ⟨rfl, rfl⟩)))
        · refine Or.inr (Or.inr (Or.inr (Or.inr ⟨by omega, ?_⟩)))
          unfold tH
          rw [if_neg a0, if_neg a1, if_neg a2, if_neg a3]
theorem tH_r {k : Int} (h : 0 ≤ k ∧ k ≤ 59) : 0 ≤ tH k ∧ tH k ≤ 4 := by
  have := tH_c h
  omega
theorem tH_0 {k : Int} (h : 0 ≤ k ∧ k ≤ 59) (n : k ≠ 0) : tH k ≠ 0 := by
  have := tH_c h
  omega
theorem tz_t.f5 {b : Nat → Int} {L p s e : Nat} {k v : Int} (hb : tz_r b) (t : tz_t b L p s e k v) : p ≤ s ∧ s ≤ e ∧ e ≤ L ∧ 0 ≤ k ∧ k ≤ 59 := by
  have f := t.f hb
  exact ⟨f.1, f.2.1, f.2.2.1, f.2.2.2.1, f.2.2.2.2.1⟩
theorem tz_t.bd {b : Nat → Int} {L p s e : Nat} {k v : Int} (hb : tz_r b) (t : tz_t b L p s e k v) (q : k = 2) : 0 ≤ v ∧ v ≤ 99999 := (t.f hb).2.2.2.2.2.1 q
theorem tz_t.h4 {b : Nat → Int} {L p s e : Nat} {k v : Int} (hb : tz_r b) (t : tz_t b L p s e k v) : tH k = 3 → 43 ≤ k := fun z => by
  have f := t.f5 hb
  have hh := tH_c (k := k) ⟨f.2.2.2.1, f.2.2.2.2⟩
  have g : k ≤ 3 ∨ 43 ≤ k := by
    obtain ⟨hp, rfl, rfl, rfl, rfl⟩ := t
    unfold tK
    repeat' split
    all_goals omega
  omega
theorem tz_t.v {b : Nat → Int} {L p s e : Nat} {k v : Int} (t : tz_t b L p s e k v) (v0 : Int) : (k = 2 → tV b L s v0 = v) ∧ (43 ≤ k → tV b L s v0 = k) := by
  obtain ⟨hp, rfl, rfl, rfl, rfl⟩ := t
  exact tV_c b L _ v0
section MDB
variable {d : Nat} {h : am_H} {b : Nat → Int} {L p s e s1 e1 : Nat} {k v k1 v1 w f lo hi : Int}
theorem md_170 (S : fS h) (B : tb h 80 b L) (hb : tz_r b) (hL : L ≤ 1600) (v3 : h.2.2.2 78 3 = iv L) (v5 : h.2.2.2 78 5 = iv p) (v7 : h.2.2.2 78 7 = iv w) (t : tz_t b L p s e k v) : am_ev (d + 1) 170 0 (am_ent [.ref 78] 2) [] h (none, M1 h s e (tH k) (tV b L s w)) := by
  obtain ⟨hp, rfl, rfl, rfl, -⟩ := t
  exact tk_170 S B hb hL v3 v5 hp v7
theorem md_178 (S : fS h) (w4 : h.2.2.2 78 4 = iv s) : am_ev d 178 0 (am_ent [.ref 78, iv (f)] 2) [] h (some (.ref 79), (am_put (am_put h 78 8 (iv (f))) 78 9 (iv ((s : Int))))) := by
  show am_ev d 178 0 [.ref 78, iv (f)] [] h _
  refine am_ev.step (pc' := 1) rfl rfl ?_
  refine am_ev.step (pc' := 2) rfl rfl ?_
  refine ax_pf (p' := 5) rfl rfl (S.ob rfl) rfl ?_
  refine am_ev.step (pc' := 6) rfl rfl ?_
  refine am_ev.step (pc' := 7) rfl rfl ?_
  refine ax_gf (p' := 10) rfl rfl (fO (S.ob rfl)) (ax_put_o (Or.inr (by decide)) w4) ?_
  refine ax_pf (p' := 13) rfl rfl (fO (S.ob rfl)) rfl ?_
  refine am_ev.step (pc' := 14) rfl rfl ?_
  refine ax_gf (p' := 17) rfl rfl (fO (fO (S.ob rfl))) (ax_put_o (Or.inr (by decide)) (ax_put_o (Or.inr (by decide)) (S.rf rfl rfl))) ?_
  exact am_ev.reta rfl rfl
theorem md_177f (S : fS h) (w4 : h.2.2.2 78 4 = iv s) : am_ev (d + 1) 177 0 (am_ent [.ref 78, iv 0, iv (f)] 3) [] h (some (.retAddr (79 + 1)), (am_put (am_put h 78 8 (iv (f))) 78 9 (iv ((s : Int))))) := by
  show am_ev (d + 1) 177 0 [.ref 78, iv 0, iv (f)] [] h _
  refine am_ev.step (pc' := 1) rfl rfl ?_
  refine fx_z_ne_F (pF := 4) rfl (by omega) rfl (by omega) ?_
  refine am_ev.step (pc' := 5) rfl rfl ?_
  refine am_ev.step (pc' := 6) rfl rfl ?_
  refine ax_call (z := 178) (p' := 9) (as := [_, _]) rfl (Or.inr (Or.inl ⟨_, rfl⟩)) rfl rfl rfl rfl rfl rfl (S.ob rfl) rfl (md_178 (s := s) S w4) rfl ?_
  exact am_ev.thrT rfl rfl (by decide) (fO (fO (S.ob rfl))) rfl
theorem md_177t  : am_ev d 177 0 (am_ent [.ref 78, iv 1, iv (f)] 3) [] h (none, h) := by
  show am_ev d 177 0 [.ref 78, iv 1, iv (f)] [] h _
  refine am_ev.step (pc' := 1) rfl rfl ?_
  refine fx_z_ne_T (pT := 10) rfl (by omega) rfl (by omega) ?_
  exact am_ev.retv rfl rfl
theorem md_176a (S : fS h) (w4 : h.2.2.2 78 4 = iv s) (w6 : h.2.2.2 78 6 = iv (tH k)) (hk : 0 ≤ k ∧ k ≤ 59) (r : -100 ≤ lo ∧ lo ≤ 100000 ∧ -100 ≤ hi ∧ hi ≤ 100000) (q : k ≠ 2) : am_ev (d + 2) 176 0 (am_ent [.ref 78, iv (lo), iv (hi)] 3) [] h (some (.retAddr (79 + 1)), (am_put (am_put h 78 8 (iv 1)) 78 9 (iv ((s : Int))))) := by
  have hh := tH_c hk
  show am_ev (d + 2) 176 0 [.ref 78, iv (lo), iv (hi)] [] h _
  refine am_ev.step (pc' := 1) rfl rfl ?_
  refine am_ev.step (pc' := 2) rfl rfl ?_
  refine ax_gf (p' := 5) rfl rfl (S.ob rfl) w6 ?_
  refine am_ev.step (pc' := 6) rfl rfl ?_
  refine fx_c_ne_T (pT := 13) rfl (by omega) (by omega) rfl (by omega) ?_
  refine am_ev.step (pc' := 14) rfl rfl ?_
  refine am_ev.step (pc' := 15) rfl rfl ?_
  refine ax_callT (a := 79) (z := 177) (as := [_, _, _]) rfl (Or.inr (Or.inl ⟨_, rfl⟩)) rfl rfl rfl rfl rfl rfl (S.ob rfl) (md_177f (s := s) S w4) rfl rfl (fO (fO (S.ob rfl))) rfl
theorem md_176b (S : fS h) (w4 : h.2.2.2 78 4 = iv s) (w6 : h.2.2.2 78 6 = iv (tH k)) (hk : 0 ≤ k ∧ k ≤ 59) (r : -100 ≤ lo ∧ lo ≤ 100000 ∧ -100 ≤ hi ∧ hi ≤ 100000) (w7 : h.2.2.2 78 7 = iv w) (rw : 0 ≤ w ∧ w ≤ 99999) (q : k = 2 ∧ ¬ (lo ≤ w ∧ w ≤ hi)) : am_ev (d + 2) 176 0 (am_ent [.ref 78, iv (lo), iv (hi)] 3) [] h (some (.retAddr (79 + 1)), (am_put (am_put h 78 8 (iv 2)) 78 9 (iv ((s : Int))))) := by
  have hh := tH_c hk
  show am_ev (d + 2) 176 0 [.ref 78, iv (lo), iv (hi)] [] h _
  refine am_ev.step (pc' := 1) rfl rfl ?_
  refine am_ev.step (pc' := 2) rfl rfl ?_
  refine ax_gf (p' := 5) rfl rfl (S.ob rfl) w6 ?_
  refine am_ev.step (pc' := 6) rfl rfl ?_
  refine fx_c_ne_F (pF := 9) rfl (by omega) (by omega) rfl (by omega) ?_
  refine am_ev.step (pc' := 10) rfl rfl ?_
  refine am_ev.step (pc' := 14) rfl rfl ?_
  refine am_ev.step (pc' := 15) rfl rfl ?_
  refine ax_call (z := 177) (p' := 18) (as := [_, _, _]) rfl (Or.inr (Or.inl ⟨_, rfl⟩)) rfl rfl rfl rfl rfl rfl (S.ob rfl) rfl md_177t rfl ?_
  refine am_ev.step (pc' := 19) rfl rfl ?_
  refine am_ev.step (pc' := 20) rfl rfl ?_
  refine ax_gf (p' := 23) rfl rfl (S.ob rfl) w7 ?_
  refine am_ev.step (pc' := 24) rfl rfl ?_
  refine am_ev.step (pc' := 25) rfl rfl ?_
  refine am_ev.step (pc' := 26) rfl rfl ?_
  refine am_ev.step (pc' := 27) rfl rfl ?_
  refine am_ev.step (pc' := 28) rfl rfl ?_
  refine ax_call (z := 165) (p' := 31) (as := [_, _, _]) rfl (Or.inl ⟨_, rfl⟩) rfl rfl rfl rfl rfl rfl rfl rfl ((md_in (by omega) (by omega) (by omega)).2 q.2) rfl ?_
  refine am_ev.step (pc' := 32) rfl rfl ?_
  refine ax_callT (a := 79) (z := 177) (as := [_, _, _]) rfl (Or.inr (Or.inl ⟨_, rfl⟩)) rfl rfl rfl rfl rfl rfl (S.ob rfl) (md_177f (s := s) S w4) rfl rfl (fO (fO (S.ob rfl))) rfl
theorem md_176c (S : fS h) (w4 : h.2.2.2 78 4 = iv s) (w6 : h.2.2.2 78 6 = iv (tH k)) (hk : 0 ≤ k ∧ k ≤ 59) (r : -100 ≤ lo ∧ lo ≤ 100000 ∧ -100 ≤ hi ∧ hi ≤ 100000) (w7 : h.2.2.2 78 7 = iv w) (rw : 0 ≤ w ∧ w ≤ 99999) (q : k = 2 ∧ lo ≤ w ∧ w ≤ hi) : am_ev (d + 2) 176 0 (am_ent [.ref 78, iv (lo), iv (hi)] 3) [] h (some (iv (w)), h) := by
  have hh := tH_c hk
  show am_ev (d + 2) 176 0 [.ref 78, iv (lo), iv (hi)] [] h _
  refine am_ev.step (pc' := 1) rfl rfl ?_
  refine am_ev.step (pc' := 2) rfl rfl ?_
  refine ax_gf (p' := 5) rfl rfl (S.ob rfl) w6 ?_
  refine am_ev.step (pc' := 6) rfl rfl ?_
  refine fx_c_ne_F (pF := 9) rfl (by omega) (by omega) rfl (by omega) ?_
  refine am_ev.step (pc' := 10) rfl rfl ?_
  refine am_ev.step (pc' := 14) rfl rfl ?_
  refine am_ev.step (pc' := 15) rfl rfl ?_
  refine ax_call (z := 177) (p' := 18) (as := [_, _, _]) rfl (Or.inr (Or.inl ⟨_, rfl⟩)) rfl rfl rfl rfl rfl rfl (S.ob rfl) rfl md_177t rfl ?_
  refine am_ev.step (pc' := 19) rfl rfl ?_
  refine am_ev.step (pc' := 20) rfl rfl ?_
  refine ax_gf (p' := 23) rfl rfl (S.ob rfl) w7 ?_
  refine am_ev.step (pc' := 24) rfl rfl ?_
  refine am_ev.step (pc' := 25) rfl rfl ?_
  refine am_ev.step (pc' := 26) rfl rfl ?_
  refine am_ev.step (pc' := 27) rfl rfl ?_
  refine am_ev.step (pc' := 28) rfl rfl ?_
  refine ax_call (z := 165) (p' := 31) (as := [_, _, _]) rfl (Or.inl ⟨_, rfl⟩) rfl rfl rfl rfl rfl rfl rfl rfl ((md_in (by omega) (by omega) (by omega)).1 q.2) rfl ?_
  refine am_ev.step (pc' := 32) rfl rfl ?_
  refine ax_call (z := 177) (p' := 35) (as := [_, _, _]) rfl (Or.inr (Or.inl ⟨_, rfl⟩)) rfl rfl rfl rfl rfl rfl (S.ob rfl) rfl md_177t rfl ?_
  refine am_ev.step (pc' := 36) rfl rfl ?_
  refine ax_gf (p' := 39) rfl rfl (S.ob rfl) w7 ?_
  exact fx_reti rfl rfl rfl
theorem md_176d (S : fS h) (w4 : h.2.2.2 78 4 = iv s) (w6 : h.2.2.2 78 6 = iv (tH k)) (hk : 0 ≤ k ∧ k ≤ 59) (r : -100 ≤ lo ∧ lo ≤ 100000 ∧ -100 ≤ hi ∧ hi ≤ 100000) (w7 : h.2.2.2 78 7 = iv w) (rw : 0 ≤ w ∧ w ≤ 99999) {w' : Int} (hv : w = w') (q : k = 2 ∧ lo ≤ w ∧ w ≤ hi) : am_ev (d + 2) 176 0 (am_ent [.ref 78, iv lo, iv hi] 3) [] h (some (iv w'), h) := by
  subst hv
  exact md_176c S w4 w6 hk r w7 rw q
theorem md_179a (S : fS h) (w4 : h.2.2.2 78 4 = iv s) (w6 : h.2.2.2 78 6 = iv (tH k)) (hk : 0 ≤ k ∧ k ≤ 59) (r : -100 ≤ lo ∧ lo ≤ 100000 ∧ -100 ≤ hi ∧ hi ≤ 100000) (q : k ≠ 2) : am_ev (d + 3) 179 0 (am_ent [.ref 78, iv (lo), iv (hi)] 4) [] h (some (.retAddr (79 + 1)), (am_put (am_put h 78 8 (iv 1)) 78 9 (iv ((s : Int))))) := by
  show am_ev (d + 3) 179 0 [.ref 78, iv (lo), iv (hi), am_ph] [] h _
  refine am_ev.step (pc' := 1) rfl rfl ?_
  refine am_ev.step (pc' := 2) rfl rfl ?_
  refine am_ev.step (pc' := 3) rfl rfl ?_
  refine ax_callT (a := 79) (z := 176) (as := [_, _, _]) rfl (Or.inr (Or.inl ⟨_, rfl⟩)) rfl rfl rfl rfl rfl rfl (S.ob rfl) (md_176a (lo := (lo)) (hi := (hi)) (k := k) (s := s) S w4 w6 hk (by omega) q) rfl rfl (fO (fO (S.ob rfl))) rfl
theorem md_179b (S : fS h) (w4 : h.2.2.2 78 4 = iv s) (w6 : h.2.2.2 78 6 = iv (tH k)) (hk : 0 ≤ k ∧ k ≤ 59) (r : -100 ≤ lo ∧ lo ≤ 100000 ∧ -100 ≤ hi ∧ hi ≤ 100000) (w7 : h.2.2.2 78 7 = iv w) (rw : 0 ≤ w ∧ w ≤ 99999) (q : k = 2 ∧ ¬ (lo ≤ w ∧ w ≤ hi)) : am_ev (d + 3) 179 0 (am_ent [.ref 78, iv (lo), iv (hi)] 4) [] h (some (.retAddr (79 + 1)), (am_put (am_put h 78 8 (iv 2)) 78 9 (iv ((s : Int))))) := by
  show am_ev (d + 3) 179 0 [.ref 78, iv (lo), iv (hi), am_ph] [] h _
  refine am_ev.step (pc' := 1) rfl rfl ?_
  refine am_ev.step (pc' := 2) rfl rfl ?_
  refine am_ev.step (pc' := 3) rfl rfl ?_
  refine ax_callT (a := 79) (z := 176) (as := [_, _, _]) rfl (Or.inr (Or.inl ⟨_, rfl⟩)) rfl rfl rfl rfl rfl rfl (S.ob rfl) (md_176b (lo := (lo)) (hi := (hi)) (k := k) (s := s) S w4 w6 hk (by omega) w7 rw q) rfl rfl (fO (fO (S.ob rfl))) rfl
theorem md_179c (S : fS h) (w4 : h.2.2.2 78 4 = iv s) (w6 : h.2.2.2 78 6 = iv (tH k)) (hk : 0 ≤ k ∧ k ≤ 59) (r : -100 ≤ lo ∧ lo ≤ 100000 ∧ -100 ≤ hi ∧ hi ≤ 100000) (w7 : h.2.2.2 78 7 = iv w) (rw : 0 ≤ w ∧ w ≤ 99999) (B : tb h 80 b L) (hb : tz_r b) (hL : L ≤ 1600) (w3 : h.2.2.2 78 3 = iv L) (w5 : h.2.2.2 78 5 = iv e) (t1 : tz_t b L e s1 e1 k1 v1) (q : k = 2 ∧ lo ≤ w ∧ w ≤ hi) : am_ev (d + 3) 179 0 (am_ent [.ref 78, iv (lo), iv (hi)] 4) [] h (some (iv (w)), (am_put (am_put (am_put (am_put h 78 4 (iv ((s1 : Int)))) 78 7 (iv ((tV b L s1 (w))))) 78 5 (iv ((e1 : Int)))) 78 6 (iv ((tH k1))))) := by
  show am_ev (d + 3) 179 0 [.ref 78, iv (lo), iv (hi), am_ph] [] h _
  refine am_ev.step (pc' := 1) rfl rfl ?_
  refine am_ev.step (pc' := 2) rfl rfl ?_
  refine am_ev.step (pc' := 3) rfl rfl ?_
  refine ax_call (z := 176) (p' := 6) (as := [_, _, _]) rfl (Or.inr (Or.inl ⟨_, rfl⟩)) rfl rfl rfl rfl rfl rfl (S.ob rfl) rfl (md_176c (lo := (lo)) (hi := (hi)) (k := k) (s := s) S w4 w6 hk (by omega) w7 rw q) rfl ?_
  refine am_ev.step (pc' := 7) (ls' := [.ref 78, iv (lo), iv (hi), iv (w)]) rfl rfl ?_
  refine am_ev.step (pc' := 8) rfl rfl ?_
  refine ax_call (z := 170) (p' := 11) (as := [_]) rfl (Or.inr (Or.inl ⟨_, rfl⟩)) rfl rfl rfl rfl rfl rfl (S.ob rfl) rfl (md_170 S B hb hL w3 w5 w7 t1) rfl ?_
  refine am_ev.step (pc' := 12) rfl rfl ?_
  exact fx_reti rfl rfl rfl
theorem md_182t (S : fS h) (w4 : h.2.2.2 78 4 = iv s) (w6 : h.2.2.2 78 6 = iv (tH k)) (hk : 0 ≤ k ∧ k ≤ 59) (w7 : h.2.2.2 78 7 = iv w) (hw : 43 ≤ k → w = k) (hc : 43 ≤ f ∧ f ≤ 59) (q : k = f) : am_ev d 182 0 (am_ent [.ref 78, iv (f)] 2) [] h (some (iv 1), h) := by
  have hh := tH_c hk
  show am_ev d 182 0 [.ref 78, iv (f)] [] h _
  refine am_ev.step (pc' := 1) rfl rfl ?_
  refine ax_gf (p' := 4) rfl rfl (S.ob rfl) w6 ?_
  refine am_ev.step (pc' := 5) rfl rfl ?_
  refine fx_c_ne_F (pF := 8) rfl (by omega) (by omega) rfl (by omega) ?_
  refine am_ev.step (pc' := 9) rfl rfl ?_
  refine ax_gf (p' := 12) rfl rfl (S.ob rfl) w7 ?_
  refine am_ev.step (pc' := 13) rfl rfl ?_
  refine fx_c_ne_F (pF := 16) rfl (by omega) (by omega) rfl (by omega) ?_
  refine am_ev.step (pc' := 17) rfl rfl ?_
  refine am_ev.step (pc' := 21) rfl rfl ?_
  exact fx_reti rfl rfl rfl
theorem md_182f (S : fS h) (w4 : h.2.2.2 78 4 = iv s) (w6 : h.2.2.2 78 6 = iv (tH k)) (hk : 0 ≤ k ∧ k ≤ 59) (w7 : h.2.2.2 78 7 = iv w) (hw : 43 ≤ k → w = k) (hc : 43 ≤ f ∧ f ≤ 59) (hk4 : tH k = 3 → 43 ≤ k) (q : k ≠ f) : am_ev d 182 0 (am_ent [.ref 78, iv f] 2) [] h (some (iv 0), h) := by
  have hh := tH_c hk
  by_cases c : tH k = 3
  · have rw_ : 43 ≤ k ∨ k < 43 := by omega
    by_cases c43 : 43 ≤ k
    · have e := hw c43
      show am_ev d 182 0 [.ref 78, iv f] [] h _
      refine am_ev.step (pc' := 1) rfl rfl ?_
      refine ax_gf (p' := 4) rfl rfl (S.ob rfl) w6 ?_
      refine am_ev.step (pc' := 5) rfl rfl ?_
      refine fx_c_ne_F (pF := 8) rfl (by omega) (by omega) rfl (by omega) ?_
      refine am_ev.step (pc' := 9) rfl rfl ?_
      refine ax_gf (p' := 12) rfl rfl (S.ob rfl) w7 ?_
      refine am_ev.step (pc' := 13) rfl rfl ?_
      refine fx_c_ne_T (pT := 20) rfl (by omega) (by omega) rfl (by omega) ?_
      refine am_ev.step (pc' := 21) rfl rfl ?_
      exact fx_reti rfl rfl rfl
    · exact absurd (hk4 c) (by omega)
  · show am_ev d 182 0 [.ref 78, iv f] [] h _
    refine am_ev.step (pc' := 1) rfl rfl ?_
    refine ax_gf (p' := 4) rfl rfl (S.ob rfl) w6 ?_
    refine am_ev.step (pc' := 5) rfl rfl ?_
    refine fx_c_ne_T (pT := 20) rfl (by omega) (by omega) rfl (by omega) ?_
    refine am_ev.step (pc' := 21) rfl rfl ?_
    exact fx_reti rfl rfl rfl
theorem md_181a (S : fS h) (w4 : h.2.2.2 78 4 = iv s) (w6 : h.2.2.2 78 6 = iv (tH k)) (hk : 0 ≤ k ∧ k ≤ 59) (w7 : h.2.2.2 78 7 = iv w) (hw : 43 ≤ k → w = k) (hk4 : tH k = 3 → 43 ≤ k) (q : k ≠ 59) : am_ev (d + 2) 181 0 (am_ent [.ref 78] 1) [] h (some (.retAddr (79 + 1)), (am_put (am_put h 78 8 (iv 1)) 78 9 (iv ((s : Int))))) := by
  show am_ev (d + 2) 181 0 [.ref 78] [] h _
  refine am_ev.step (pc' := 1) rfl rfl ?_
  refine am_ev.step (pc' := 2) rfl rfl ?_
  refine fx_bip (p' := 4) rfl rfl rfl ?_
  refine ax_call (z := 182) (p' := 7) (as := [_, _]) rfl (Or.inr (Or.inl ⟨_, rfl⟩)) rfl rfl rfl rfl rfl rfl (S.ob rfl) rfl (md_182f (s := s) (k := k) (f := 59) S w4 w6 hk w7 hw (by omega) hk4 q) rfl ?_
  refine am_ev.step (pc' := 8) rfl rfl ?_
  refine ax_callT (a := 79) (z := 177) (as := [_, _, _]) rfl (Or.inr (Or.inl ⟨_, rfl⟩)) rfl rfl rfl rfl rfl rfl (S.ob rfl) (md_177f (s := s) S w4) rfl rfl (fO (fO (S.ob rfl))) rfl
theorem md_181b (S : fS h) (w4 : h.2.2.2 78 4 = iv s) (w6 : h.2.2.2 78 6 = iv (tH k)) (hk : 0 ≤ k ∧ k ≤ 59) (w7 : h.2.2.2 78 7 = iv w) (hw : 43 ≤ k → w = k) (B : tb h 80 b L) (hb : tz_r b) (hL : L ≤ 1600) (w3 : h.2.2.2 78 3 = iv L) (w5 : h.2.2.2 78 5 = iv e) (t1 : tz_t b L e s1 e1 k1 v1) (q : k = 59) : am_ev (d + 2) 181 0 (am_ent [.ref 78] 1) [] h (none, (am_put (am_put (am_put (am_put h 78 4 (iv ((s1 : Int)))) 78 7 (iv ((tV b L s1 (w))))) 78 5 (iv ((e1 : Int)))) 78 6 (iv ((tH k1))))) := by
  show am_ev (d + 2) 181 0 [.ref 78] [] h _
  refine am_ev.step (pc' := 1) rfl rfl ?_
  refine am_ev.step (pc' := 2) rfl rfl ?_
  refine fx_bip (p' := 4) rfl rfl rfl ?_
  refine ax_call (z := 182) (p' := 7) (as := [_, _]) rfl (Or.inr (Or.inl ⟨_, rfl⟩)) rfl rfl rfl rfl rfl rfl (S.ob rfl) rfl (md_182t (s := s) (k := k) (f := 59) S w4 w6 hk w7 hw (by omega) q) rfl ?_
  refine am_ev.step (pc' := 8) rfl rfl ?_
  refine ax_call (z := 177) (p' := 11) (as := [_, _, _]) rfl (Or.inr (Or.inl ⟨_, rfl⟩)) rfl rfl rfl rfl rfl rfl (S.ob rfl) rfl md_177t rfl ?_
  refine am_ev.step (pc' := 12) rfl rfl ?_
  refine ax_call (z := 170) (p' := 15) (as := [_]) rfl (Or.inr (Or.inl ⟨_, rfl⟩)) rfl rfl rfl rfl rfl rfl (S.ob rfl) rfl (md_170 S B hb hL w3 w5 w7 t1) rfl ?_
  exact am_ev.retv rfl rfl
theorem md_180 (S : fS h) (B : tb h 80 b L) (hb : tz_r b) (hL : L ≤ 1600) (w4 : h.2.2.2 78 4 = iv s) (w5 : h.2.2.2 78 5 = iv e) (w6 : h.2.2.2 78 6 = iv (tH k)) (hse : s ≤ e ∧ e ≤ L) (hk : 0 ≤ k ∧ k ≤ 100) {c : Int} (q : cl_r b s e k c) (q7 : c ≠ 7) : am_ev (d + 6) 180 0 (am_ent [.ref 78] 1) [] h (some (iv c), h) := by
  show am_ev (d + 6) 180 0 [.ref 78] [] h _
  have q0 := q
  rcases q with ⟨n, hn, rfl, -⟩ | ⟨rfl, -⟩
  · have w : ∀ m : Nat, m < 8 → (n = m → tz_w b s e k (tx_r m)) ∧ (n ≠ m → ¬ tz_w b s e k (tx_r m)) := fun m hm => ⟨fun z => (cl_r_w q0 hm).1 (by omega), fun z => (cl_r_w q0 hm).2 (by omega)⟩
    have hn2 : n = 0 ∨ n = 1 ∨ n = 2 ∨ n = 3 ∨ n = 4 ∨ n = 5 ∨ n = 6 := by omega
    rcases hn2 with rfl | rfl | rfl | rfl | rfl | rfl | rfl
    · refine am_ev.step (pc' := 1) rfl rfl ?_
      refine am_ev.ldc rfl rfl rfl rfl ?_
      refine ax_call (z := 175) (p' := 6) (as := [_, _]) rfl (Or.inr (Or.inl ⟨_, rfl⟩)) rfl rfl rfl rfl rfl rfl (S.ob rfl) rfl ((tk_175 (i := 10) (k := k) (s := s) (e := e) (by decide) S B hb hL w6 w4 w5 hse hk).1 ((w 0 (by decide)).1 rfl)) rfl ?_
      refine fx_z_eq_F (pF := 9) rfl (by omega) rfl (by omega) ?_
      refine am_ev.step (pc' := 10) rfl rfl ?_
      exact fx_reti rfl rfl rfl
    · refine am_ev.step (pc' := 1) rfl rfl ?_
      refine am_ev.ldc rfl rfl rfl rfl ?_
      refine ax_call (z := 175) (p' := 6) (as := [_, _]) rfl (Or.inr (Or.inl ⟨_, rfl⟩)) rfl rfl rfl rfl rfl rfl (S.ob rfl) rfl ((tk_175 (i := 10) (k := k) (s := s) (e := e) (by decide) S B hb hL w6 w4 w5 hse hk).2 ((w 0 (by decide)).2 (by decide))) rfl ?_
      refine fx_z_eq_T (pT := 11) rfl (by omega) rfl (by omega) ?_
      refine am_ev.step (pc' := 12) rfl rfl ?_
      refine am_ev.ldc rfl rfl rfl rfl ?_
      refine ax_call (z := 175) (p' := 17) (as := [_, _]) rfl (Or.inr (Or.inl ⟨_, rfl⟩)) rfl rfl rfl rfl rfl rfl (S.ob rfl) rfl ((tk_175 (i := 11) (k := k) (s := s) (e := e) (by decide) S B hb hL w6 w4 w5 hse hk).1 ((w 1 (by decide)).1 rfl)) rfl ?_
      refine fx_z_eq_F (pF := 20) rfl (by omega) rfl (by omega) ?_
      refine am_ev.step (pc' := 21) rfl rfl ?_
      exact fx_reti rfl rfl rfl
    · refine am_ev.step (pc' := 1) rfl rfl ?_
      refine am_ev.ldc rfl rfl rfl rfl ?_
      refine ax_call (z := 175) (p' := 6) (as := [_, _]) rfl (Or.inr (Or.inl ⟨_, rfl⟩)) rfl rfl rfl rfl rfl rfl (S.ob rfl) rfl ((tk_175 (i := 10) (k := k) (s := s) (e := e) (by decide) S B hb hL w6 w4 w5 hse hk).2 ((w 0 (by decide)).2 (by decide))) rfl ?_
      refine fx_z_eq_T (pT := 11) rfl (by omega) rfl (by omega) ?_
      refine am_ev.step (pc' := 12) rfl rfl ?_
      refine am_ev.ldc rfl rfl rfl rfl ?_
      refine ax_call (z := 175) (p' := 17) (as := [_, _]) rfl (Or.inr (Or.inl ⟨_, rfl⟩)) rfl rfl rfl rfl rfl rfl (S.ob rfl) rfl ((tk_175 (i := 11) (k := k) (s := s) (e := e) (by decide) S B hb hL w6 w4 w5 hse hk).2 ((w 1 (by decide)).2 (by decide))) rfl ?_
      refine fx_z_eq_T (pT := 22) rfl (by omega) rfl (by omega) ?_
      refine am_ev.step (pc' := 23) rfl rfl ?_
      refine am_ev.ldc rfl rfl rfl rfl ?_
      refine ax_call (z := 175) (p' := 28) (as := [_, _]) rfl (Or.inr (Or.inl ⟨_, rfl⟩)) rfl rfl rfl rfl rfl rfl (S.ob rfl) rfl ((tk_175 (i := 14) (k := k) (s := s) (e := e) (by decide) S B hb hL w6 w4 w5 hse hk).1 ((w 2 (by decide)).1 rfl)) rfl ?_
      refine fx_z_eq_F (pF := 31) rfl (by omega) rfl (by omega) ?_
      refine am_ev.step (pc' := 32) rfl rfl ?_
      exact fx_reti rfl rfl rfl
    · refine am_ev.step (pc' := 1) rfl rfl ?_
      refine am_ev.ldc rfl rfl rfl rfl ?_
      refine ax_call (z := 175) (p' := 6) (as := [_, _]) rfl (Or.inr (Or.inl ⟨_, rfl⟩)) rfl rfl rfl rfl rfl rfl (S.ob rfl) rfl ((tk_175 (i := 10) (k := k) (s := s) (e := e) (by decide) S B hb hL w6 w4 w5 hse hk).2 ((w 0 (by decide)).2 (by decide))) rfl ?_
      refine fx_z_eq_T (pT := 11) rfl (by omega) rfl (by omega) ?_
      refine am_ev.step (pc' := 12) rfl rfl ?_
      refine am_ev.ldc rfl rfl rfl rfl ?_
      refine ax_call (z := 175) (p' := 17) (as := [_, _]) rfl (Or.inr (Or.inl ⟨_, rfl⟩)) rfl rfl rfl rfl rfl rfl (S.ob rfl) rfl ((tk_175 (i := 11) (k := k) (s := s) (e := e) (by decide) S B hb hL w6 w4 w5 hse hk).2 ((w 1 (by decide)).2 (by decide))) rfl ?_
      refine fx_z_eq_T (pT := 22) rfl (by omega) rfl (by omega) ?_
      refine am_ev.step (pc' := 23) rfl rfl ?_
      refine am_ev.ldc rfl rfl rfl rfl ?_
      refine ax_call (z := 175) (p' := 28) (as := [_, _]) rfl (Or.inr (Or.inl ⟨_, rfl⟩)) rfl rfl rfl rfl rfl rfl (S.ob rfl) rfl ((tk_175 (i := 14) (k := k) (s := s) (e := e) (by decide) S B hb hL w6 w4 w5 hse hk).2 ((w 2 (by decide)).2 (by decide))) rfl ?_
      refine fx_z_eq_T (pT := 33) rfl (by omega) rfl (by omega) ?_
      refine am_ev.step (pc' := 34) rfl rfl ?_
      refine am_ev.ldc rfl rfl rfl rfl ?_
      refine ax_call (z := 175) (p' := 39) (as := [_, _]) rfl (Or.inr (Or.inl ⟨_, rfl⟩)) rfl rfl rfl rfl rfl rfl (S.ob rfl) rfl ((tk_175 (i := 6) (k := k) (s := s) (e := e) (by decide) S B hb hL w6 w4 w5 hse hk).1 ((w 3 (by decide)).1 rfl)) rfl ?_
      refine fx_z_eq_F (pF := 42) rfl (by omega) rfl (by omega) ?_
      refine am_ev.step (pc' := 43) rfl rfl ?_
      exact fx_reti rfl rfl rfl
    · refine am_ev.step (pc' := 1) rfl rfl ?_
      refine am_ev.ldc rfl rfl rfl rfl ?_
      refine ax_call (z := 175) (p' := 6) (as := [_, _]) rfl (Or.inr (Or.inl ⟨_, rfl⟩)) rfl rfl rfl rfl rfl rfl (S.ob rfl) rfl ((tk_175 (i := 10) (k := k) (s := s) (e := e) (by decide) S B hb hL w6 w4 w5 hse hk).2 ((w 0 (by decide)).2 (by decide))) rfl ?_
      refine fx_z_eq_T (pT := 11) rfl (by omega) rfl (by omega) ?_
      refine am_ev.step (pc' := 12) rfl rfl ?_
      refine am_ev.ldc rfl rfl rfl rfl ?_
      refine ax_call (z := 175) (p' := 17) (as := [_, _]) rfl (Or.inr (Or.inl ⟨_, rfl⟩)) rfl rfl rfl rfl rfl rfl (S.ob rfl) rfl ((tk_175 (i := 11) (k := k) (s := s) (e := e) (by decide) S B hb hL w6 w4 w5 hse hk).2 ((w 1 (by decide)).2 (by decide))) rfl ?_
      refine fx_z_eq_T (pT := 22) rfl (by omega) rfl (by omega) ?_
      refine am_ev.step (pc' := 23) rfl rfl ?_
      refine am_ev.ldc rfl rfl rfl rfl ?_
      refine ax_call (z := 175) (p' := 28) (as := [_, _]) rfl (Or.inr (Or.inl ⟨_, rfl⟩)) rfl rfl rfl rfl rfl rfl (S.ob rfl) rfl ((tk_175 (i := 14) (k := k) (s := s) (e := e) (by decide) S B hb hL w6 w4 w5 hse hk).2 ((w 2 (by decide)).2 (by decide))) rfl ?_
      refine fx_z_eq_T (pT := 33) rfl (by omega) rfl (by omega) ?_
      refine am_ev.step (pc' := 34) rfl rfl ?_
      refine am_ev.ldc rfl rfl rfl rfl ?_
      refine ax_call (z := 175) (p' := 39) (as := [_, _]) rfl (Or.inr (Or.inl ⟨_, rfl⟩)) rfl rfl rfl rfl rfl rfl (S.ob rfl) rfl ((tk_175 (i := 6) (k := k) (s := s) (e := e) (by decide) S B hb hL w6 w4 w5 hse hk).2 ((w 3 (by decide)).2 (by decide))) rfl ?_
      refine fx_z_eq_T (pT := 44) rfl (by omega) rfl (by omega) ?_
      refine am_ev.step (pc' := 45) rfl rfl ?_
      refine am_ev.ldcw rfl rfl rfl rfl ?_
      refine ax_call (z := 175) (p' := 51) (as := [_, _]) rfl (Or.inr (Or.inl ⟨_, rfl⟩)) rfl rfl rfl rfl rfl rfl (S.ob rfl) rfl ((tk_175 (i := 12) (k := k) (s := s) (e := e) (by decide) S B hb hL w6 w4 w5 hse hk).1 ((w 4 (by decide)).1 rfl)) rfl ?_
      refine fx_z_eq_F (pF := 54) rfl (by omega) rfl (by omega) ?_
      refine am_ev.step (pc' := 55) rfl rfl ?_
      exact fx_reti rfl rfl rfl
    · refine am_ev.step (pc' := 1) rfl rfl ?_
      refine am_ev.ldc rfl rfl rfl rfl ?_
      refine ax_call (z := 175) (p' := 6) (as := [_, _]) rfl (Or.inr (Or.inl ⟨_, rfl⟩)) rfl rfl rfl rfl rfl rfl (S.ob rfl) rfl ((tk_175 (i := 10) (k := k) (s := s) (e := e) (by decide) S B hb hL w6 w4 w5 hse hk).2 ((w 0 (by decide)).2 (by decide))) rfl ?_
      refine fx_z_eq_T (pT := 11) rfl (by omega) rfl (by omega) ?_
      refine am_ev.step (pc' := 12) rfl rfl ?_
      refine am_ev.ldc rfl rfl rfl rfl ?_
      refine ax_call (z := 175) (p' := 17) (as := [_, _]) rfl (Or.inr (Or.inl ⟨_, rfl⟩)) rfl rfl rfl rfl rfl rfl (S.ob rfl) rfl ((tk_175 (i := 11) (k := k) (s := s) (e := e) (by decide) S B hb hL w6 w4 w5 hse hk).2 ((w 1 (by decide)).2 (by decide))) rfl ?_
      refine fx_z_eq_T (pT := 22) rfl (by omega) rfl (by omega) ?_
      refine am_ev.step (pc' := 23) rfl rfl ?_
      refine am_ev.ldc rfl rfl rfl rfl ?_
      refine ax_call (z := 175) (p' := 28) (as := [_, _]) rfl (Or.inr (Or.inl ⟨_, rfl⟩)) rfl rfl rfl rfl rfl rfl (S.ob rfl) rfl ((tk_175 (i := 14) (k := k) (s := s) (e := e) (by decide) S B hb hL w6 w4 w5 hse hk).2 ((w 2 (by decide)).2 (by decide))) rfl ?_
      refine fx_z_eq_T (pT := 33) rfl (by omega) rfl (by omega) ?_
      refine am_ev.step (pc' := 34) rfl rfl ?_
      refine am_ev.ldc rfl rfl rfl rfl ?_
      refine ax_call (z := 175) (p' := 39) (as := [_, _]) rfl (Or.inr (Or.inl ⟨_, rfl⟩)) rfl rfl rfl rfl rfl rfl (S.ob rfl) rfl ((tk_175 (i := 6) (k := k) (s := s) (e := e) (by decide) S B hb hL w6 w4 w5 hse hk).2 ((w 3 (by decide)).2 (by decide))) rfl ?_
      refine fx_z_eq_T (pT := 44) rfl (by omega) rfl (by omega) ?_
      refine am_ev.step (pc' := 45) rfl rfl ?_
      refine am_ev.ldcw rfl rfl rfl rfl ?_
      refine ax_call (z := 175) (p' := 51) (as := [_, _]) rfl (Or.inr (Or.inl ⟨_, rfl⟩)) rfl rfl rfl rfl rfl rfl (S.ob rfl) rfl ((tk_175 (i := 12) (k := k) (s := s) (e := e) (by decide) S B hb hL w6 w4 w5 hse hk).2 ((w 4 (by decide)).2 (by decide))) rfl ?_
      refine fx_z_eq_T (pT := 56) rfl (by omega) rfl (by omega) ?_
      refine am_ev.step (pc' := 57) rfl rfl ?_
      refine am_ev.ldcw rfl rfl rfl rfl ?_
      refine ax_call (z := 175) (p' := 63) (as := [_, _]) rfl (Or.inr (Or.inl ⟨_, rfl⟩)) rfl rfl rfl rfl rfl rfl (S.ob rfl) rfl ((tk_175 (i := 13) (k := k) (s := s) (e := e) (by decide) S B hb hL w6 w4 w5 hse hk).1 ((w 5 (by decide)).1 rfl)) rfl ?_
      refine fx_z_eq_F (pF := 66) rfl (by omega) rfl (by omega) ?_
      refine am_ev.step (pc' := 67) rfl rfl ?_
      exact fx_reti rfl rfl rfl
    · refine am_ev.step (pc' := 1) rfl rfl ?_
      refine am_ev.ldc rfl rfl rfl rfl ?_
      refine ax_call (z := 175) (p' := 6) (as := [_, _]) rfl (Or.inr (Or.inl ⟨_, rfl⟩)) rfl rfl rfl rfl rfl rfl (S.ob rfl) rfl ((tk_175 (i := 10) (k := k) (s := s) (e := e) (by decide) S B hb hL w6 w4 w5 hse hk).2 ((w 0 (by decide)).2 (by decide))) rfl ?_
      refine fx_z_eq_T (pT := 11) rfl (by omega) rfl (by omega) ?_
      refine am_ev.step (pc' := 12) rfl rfl ?_
      refine am_ev.ldc rfl rfl rfl rfl ?_
      refine ax_call (z := 175) (p' := 17) (as := [_, _]) rfl (Or.inr (Or.inl ⟨_, rfl⟩)) rfl rfl rfl rfl rfl rfl (S.ob rfl) rfl ((tk_175 (i := 11) (k := k) (s := s) (e := e) (by decide) S B hb hL w6 w4 w5 hse hk).2 ((w 1 (by decide)).2 (by decide))) rfl ?_
      refine fx_z_eq_T (pT := 22) rfl (by omega) rfl (by omega) ?_
      refine am_ev.step (pc' := 23) rfl rfl ?_
      refine am_ev.ldc rfl rfl rfl rfl ?_
      refine ax_call (z := 175) (p' := 28) (as := [_, _]) rfl (Or.inr (Or.inl ⟨_, rfl⟩)) rfl rfl rfl rfl rfl rfl (S.ob rfl) rfl ((tk_175 (i := 14) (k := k) (s := s) (e := e) (by decide) S B hb hL w6 w4 w5 hse hk).2 ((w 2 (by decide)).2 (by decide))) rfl ?_
      refine fx_z_eq_T (pT := 33) rfl (by omega) rfl (by omega) ?_
      refine am_ev.step (pc' := 34) rfl rfl ?_
      refine am_ev.ldc rfl rfl rfl rfl ?_
      refine ax_call (z := 175) (p' := 39) (as := [_, _]) rfl (Or.inr (Or.inl ⟨_, rfl⟩)) rfl rfl rfl rfl rfl rfl (S.ob rfl) rfl ((tk_175 (i := 6) (k := k) (s := s) (e := e) (by decide) S B hb hL w6 w4 w5 hse hk).2 ((w 3 (by decide)).2 (by decide))) rfl ?_
      refine fx_z_eq_T (pT := 44) rfl (by omega) rfl (by omega) ?_
      refine am_ev.step (pc' := 45) rfl rfl ?_
      refine am_ev.ldcw rfl rfl rfl rfl ?_
      refine ax_call (z := 175) (p' := 51) (as := [_, _]) rfl (Or.inr (Or.inl ⟨_, rfl⟩)) rfl rfl rfl rfl rfl rfl (S.ob rfl) rfl ((tk_175 (i := 12) (k := k) (s := s) (e := e) (by decide) S B hb hL w6 w4 w5 hse hk).2 ((w 4 (by decide)).2 (by decide))) rfl ?_
      refine fx_z_eq_T (pT := 56) rfl (by omega) rfl (by omega) ?_
      refine am_ev.step (pc' := 57) rfl rfl ?_
      refine am_ev.ldcw rfl rfl rfl rfl ?_
      refine ax_call (z := 175) (p' := 63) (as := [_, _]) rfl (Or.inr (Or.inl ⟨_, rfl⟩)) rfl rfl rfl rfl rfl rfl (S.ob rfl) rfl ((tk_175 (i := 13) (k := k) (s := s) (e := e) (by decide) S B hb hL w6 w4 w5 hse hk).2 ((w 5 (by decide)).2 (by decide))) rfl ?_
      refine fx_z_eq_T (pT := 68) rfl (by omega) rfl (by omega) ?_
      refine am_ev.step (pc' := 69) rfl rfl ?_
      refine am_ev.ldcw rfl rfl rfl rfl ?_
      refine ax_call (z := 175) (p' := 75) (as := [_, _]) rfl (Or.inr (Or.inl ⟨_, rfl⟩)) rfl rfl rfl rfl rfl rfl (S.ob rfl) rfl ((tk_175 (i := 9) (k := k) (s := s) (e := e) (by decide) S B hb hL w6 w4 w5 hse hk).1 ((w 6 (by decide)).1 rfl)) rfl ?_
      refine fx_z_eq_F (pF := 78) rfl (by omega) rfl (by omega) ?_
      refine fx_bip (p' := 80) rfl rfl rfl ?_
      refine am_ev.step (pc' := 84) rfl rfl ?_
      exact fx_reti rfl rfl rfl
  · refine am_ev.step (pc' := 1) rfl rfl ?_
    refine am_ev.ldc rfl rfl rfl rfl ?_
    refine ax_call (z := 175) (p' := 6) (as := [_, _]) rfl (Or.inr (Or.inl ⟨_, rfl⟩)) rfl rfl rfl rfl rfl rfl (S.ob rfl) rfl ((tk_175 (i := 10) (k := k) (s := s) (e := e) (by decide) S B hb hL w6 w4 w5 hse hk).2 ((cl_r_w q0 (n := 0) (by decide)).2 (by decide))) rfl ?_
    refine fx_z_eq_T (pT := 11) rfl (by omega) rfl (by omega) ?_
    refine am_ev.step (pc' := 12) rfl rfl ?_
    refine am_ev.ldc rfl rfl rfl rfl ?_
    refine ax_call (z := 175) (p' := 17) (as := [_, _]) rfl (Or.inr (Or.inl ⟨_, rfl⟩)) rfl rfl rfl rfl rfl rfl (S.ob rfl) rfl ((tk_175 (i := 11) (k := k) (s := s) (e := e) (by decide) S B hb hL w6 w4 w5 hse hk).2 ((cl_r_w q0 (n := 1) (by decide)).2 (by decide))) rfl ?_
    refine fx_z_eq_T (pT := 22) rfl (by omega) rfl (by omega) ?_
    refine am_ev.step (pc' := 23) rfl rfl ?_
    refine am_ev.ldc rfl rfl rfl rfl ?_
    refine ax_call (z := 175) (p' := 28) (as := [_, _]) rfl (Or.inr (Or.inl ⟨_, rfl⟩)) rfl rfl rfl rfl rfl rfl (S.ob rfl) rfl ((tk_175 (i := 14) (k := k) (s := s) (e := e) (by decide) S B hb hL w6 w4 w5 hse hk).2 ((cl_r_w q0 (n := 2) (by decide)).2 (by decide))) rfl ?_
    refine fx_z_eq_T (pT := 33) rfl (by omega) rfl (by omega) ?_
    refine am_ev.step (pc' := 34) rfl rfl ?_
    refine am_ev.ldc rfl rfl rfl rfl ?_
    refine ax_call (z := 175) (p' := 39) (as := [_, _]) rfl (Or.inr (Or.inl ⟨_, rfl⟩)) rfl rfl rfl rfl rfl rfl (S.ob rfl) rfl ((tk_175 (i := 6) (k := k) (s := s) (e := e) (by decide) S B hb hL w6 w4 w5 hse hk).2 ((cl_r_w q0 (n := 3) (by decide)).2 (by decide))) rfl ?_
    refine fx_z_eq_T (pT := 44) rfl (by omega) rfl (by omega) ?_
    refine am_ev.step (pc' := 45) rfl rfl ?_
    refine am_ev.ldcw rfl rfl rfl rfl ?_
    refine ax_call (z := 175) (p' := 51) (as := [_, _]) rfl (Or.inr (Or.inl ⟨_, rfl⟩)) rfl rfl rfl rfl rfl rfl (S.ob rfl) rfl ((tk_175 (i := 12) (k := k) (s := s) (e := e) (by decide) S B hb hL w6 w4 w5 hse hk).2 ((cl_r_w q0 (n := 4) (by decide)).2 (by decide))) rfl ?_
    refine fx_z_eq_T (pT := 56) rfl (by omega) rfl (by omega) ?_
    refine am_ev.step (pc' := 57) rfl rfl ?_
    refine am_ev.ldcw rfl rfl rfl rfl ?_
    refine ax_call (z := 175) (p' := 63) (as := [_, _]) rfl (Or.inr (Or.inl ⟨_, rfl⟩)) rfl rfl rfl rfl rfl rfl (S.ob rfl) rfl ((tk_175 (i := 13) (k := k) (s := s) (e := e) (by decide) S B hb hL w6 w4 w5 hse hk).2 ((cl_r_w q0 (n := 5) (by decide)).2 (by decide))) rfl ?_
    refine fx_z_eq_T (pT := 68) rfl (by omega) rfl (by omega) ?_
    refine am_ev.step (pc' := 69) rfl rfl ?_
    refine am_ev.ldcw rfl rfl rfl rfl ?_
    refine ax_call (z := 175) (p' := 75) (as := [_, _]) rfl (Or.inr (Or.inl ⟨_, rfl⟩)) rfl rfl rfl rfl rfl rfl (S.ob rfl) rfl ((tk_175 (i := 9) (k := k) (s := s) (e := e) (by decide) S B hb hL w6 w4 w5 hse hk).2 ((cl_r_w q0 (n := 6) (by decide)).2 (by decide))) rfl ?_
    refine fx_z_eq_T (pT := 83) rfl (by omega) rfl (by omega) ?_
    refine am_ev.step (pc' := 84) rfl rfl ?_
    exact fx_reti rfl rfl rfl
end MDB
end
section
/-! RULES, the program's side: drafts, the loop over clauses -/
section RLA
variable {d : Nat} {h : am_H} {b : Nat → Int} {L p s e s1 e1 s2 e2 s3 e3 l n : Nat} {k v k1 k2 k3 v1 v2 v3 w c : Int} {t u : Int32} {V Y : Nat → Int} {a3 a4 : Value}
theorem rl_5 (S : fS h) : am_ev d 5 0 (am_ent [.ref 47, iv 70] 4) [] h (none, (am_put (am_put (am_put (am_put (am_put (am_put h 47 0 (iv 70)) 47 1 (iv 70)) 47 2 (iv 70)) 47 3 (iv 70)) 47 4 (iv 70)) 47 5 (iv 70))) := by
  show am_ev d 5 0 [.ref 47, iv 70, am_ph, am_ph] [] h _
  refine am_ev.step (pc' := 1) rfl rfl ?_
  refine am_ev.step (pc' := 2) (ls' := [.ref 47, iv 70, iv 0, am_ph]) rfl rfl ?_
  refine am_ev.step (pc' := 3) rfl rfl ?_
  refine fx_alen (p' := 4) (n := 6) rfl rfl (S.al rfl rfl) ?_
  refine am_ev.step (pc' := 5) (ls' := [.ref 47, iv 70, iv 0, iv 6]) rfl rfl ?_
  refine am_ev.step (pc' := 6) rfl rfl ?_
  refine am_ev.step (pc' := 7) rfl rfl ?_
  refine fx_c_ge_F (pF := 10) rfl (by omega) (by omega) rfl (by omega) ?_
  refine am_ev.step (pc' := 11) rfl rfl ?_
  refine am_ev.step (pc' := 12) rfl rfl ?_
  refine am_ev.step (pc' := 13) rfl rfl ?_
  refine ax_iastore (p' := 14) rfl rfl (S.wr (k := 0) rfl rfl rfl rfl (by decide)) ?_
  refine fx_inc (p' := 17) (e := 1) (ls' := [.ref 47, iv 70, iv 1, iv 6]) rfl rfl rfl (by omega) rfl ?_
  refine am_ev.step (pc' := 5) rfl rfl ?_
  refine am_ev.step (pc' := 6) rfl rfl ?_
  refine am_ev.step (pc' := 7) rfl rfl ?_
  refine fx_c_ge_F (pF := 10) rfl (by omega) (by omega) rfl (by omega) ?_
  refine am_ev.step (pc' := 11) rfl rfl ?_
  refine am_ev.step (pc' := 12) rfl rfl ?_
  refine am_ev.step (pc' := 13) rfl rfl ?_
  refine ax_iastore (p' := 14) rfl rfl ((S.pa rfl).wr (k := 1) rfl rfl rfl rfl (by decide)) ?_
  refine fx_inc (p' := 17) (e := 2) (ls' := [.ref 47, iv 70, iv 2, iv 6]) rfl rfl rfl (by omega) rfl ?_
  refine am_ev.step (pc' := 5) rfl rfl ?_
  refine am_ev.step (pc' := 6) rfl rfl ?_
  refine am_ev.step (pc' := 7) rfl rfl ?_
  refine fx_c_ge_F (pF := 10) rfl (by omega) (by omega) rfl (by omega) ?_
  refine am_ev.step (pc' := 11) rfl rfl ?_
  refine am_ev.step (pc' := 12) rfl rfl ?_
  refine am_ev.step (pc' := 13) rfl rfl ?_
  refine ax_iastore (p' := 14) rfl rfl (((S.pa rfl).pa rfl).wr (k := 2) rfl rfl rfl rfl (by decide)) ?_
  refine fx_inc (p' := 17) (e := 3) (ls' := [.ref 47, iv 70, iv 3, iv 6]) rfl rfl rfl (by omega) rfl ?_
  refine am_ev.step (pc' := 5) rfl rfl ?_
  refine am_ev.step (pc' := 6) rfl rfl ?_
  refine am_ev.step (pc' := 7) rfl rfl ?_
  refine fx_c_ge_F (pF := 10) rfl (by omega) (by omega) rfl (by omega) ?_
  refine am_ev.step (pc' := 11) rfl rfl ?_
  refine am_ev.step (pc' := 12) rfl rfl ?_
  refine am_ev.step (pc' := 13) rfl rfl ?_
  refine ax_iastore (p' := 14) rfl rfl ((((S.pa rfl).pa rfl).pa rfl).wr (k := 3) rfl rfl rfl rfl (by decide)) ?_
  refine fx_inc (p' := 17) (e := 4) (ls' := [.ref 47, iv 70, iv 4, iv 6]) rfl rfl rfl (by omega) rfl ?_
  refine am_ev.step (pc' := 5) rfl rfl ?_
  refine am_ev.step (pc' := 6) rfl rfl ?_
  refine am_ev.step (pc' := 7) rfl rfl ?_
  refine fx_c_ge_F (pF := 10) rfl (by omega) (by omega) rfl (by omega) ?_
  refine am_ev.step (pc' := 11) rfl rfl ?_
  refine am_ev.step (pc' := 12) rfl rfl ?_
  refine am_ev.step (pc' := 13) rfl rfl ?_
  refine ax_iastore (p' := 14) rfl rfl (((((S.pa rfl).pa rfl).pa rfl).pa rfl).wr (k := 4) rfl rfl rfl rfl (by decide)) ?_
  refine fx_inc (p' := 17) (e := 5) (ls' := [.ref 47, iv 70, iv 5, iv 6]) rfl rfl rfl (by omega) rfl ?_
  refine am_ev.step (pc' := 5) rfl rfl ?_
  refine am_ev.step (pc' := 6) rfl rfl ?_
  refine am_ev.step (pc' := 7) rfl rfl ?_
  refine fx_c_ge_F (pF := 10) rfl (by omega) (by omega) rfl (by omega) ?_
  refine am_ev.step (pc' := 11) rfl rfl ?_
  refine am_ev.step (pc' := 12) rfl rfl ?_
  refine am_ev.step (pc' := 13) rfl rfl ?_
  refine ax_iastore (p' := 14) rfl rfl ((((((S.pa rfl).pa rfl).pa rfl).pa rfl).pa rfl).wr (k := 5) rfl rfl rfl rfl (by decide)) ?_
  refine fx_inc (p' := 17) (e := 6) (ls' := [.ref 47, iv 70, iv 6, iv 6]) rfl rfl rfl (by omega) rfl ?_
  refine am_ev.step (pc' := 5) rfl rfl ?_
  refine am_ev.step (pc' := 6) rfl rfl ?_
  refine am_ev.step (pc' := 7) rfl rfl ?_
  refine fx_c_ge_T (pT := 20) rfl (by omega) (by omega) rfl (by omega) ?_
  exact am_ev.retv rfl rfl
theorem rl_4 (S : fS h) : am_ev (d + 1) 4 0 (am_ent [.ref 43] 1) [] h (none, (am_put (am_put (am_put (am_put (am_put (am_put (am_put (am_put (am_put (am_put (am_put (am_put (am_put (am_put (am_put h 46 0 (iv ((cq_sv 1 0)))) 46 1 (iv ((cq_sv 1 1)))) 46 2 (iv ((cq_sv 1 2)))) 46 3 (iv ((cq_sv 1 3)))) 46 4 (iv ((cq_sv 1 4)))) 46 5 (iv ((cq_sv 1 5)))) 46 6 (iv ((cq_sv 1 6)))) 47 0 (iv 70)) 47 1 (iv 70)) 47 2 (iv 70)) 47 3 (iv 70)) 47 4 (iv 70)) 47 5 (iv 70)) 43 4 (iv 0)) 43 5 (iv 0))) := by
  show am_ev (d + 1) 4 0 [.ref 43] [] h _
  refine am_ev.step (pc' := 3) rfl rfl ?_
  refine am_ev.step (pc' := 4) rfl rfl ?_
  refine am_ev.step (pc' := 5) rfl rfl ?_
  refine ax_gf (p' := 8) rfl rfl (S.ob rfl) (S.rf rfl rfl) ?_
  refine am_ev.step (pc' := 9) rfl rfl ?_
  refine fx_bip (p' := 11) rfl rfl rfl ?_
  refine fx_cpy7 (p' := 14) (fun i => (cq_sv 1 i)) rfl (Or.inl ⟨_, rfl⟩) rfl rfl rfl (S.lt rfl) (S.lt rfl) (S.ss rfl) rfl (S.sh rfl rfl) rfl (S.sv rfl) ?_
  refine am_ev.step (pc' := 15) rfl rfl ?_
  refine ax_gf (p' := 18) rfl rfl (fO (fO (fO (fO (fO (fO (fO (S.ob rfl)))))))) (ax_put_o (Or.inl (by decide)) (ax_put_o (Or.inl (by decide)) (ax_put_o (Or.inl (by decide)) (ax_put_o (Or.inl (by decide)) (ax_put_o (Or.inl (by decide)) (ax_put_o (Or.inl (by decide)) (ax_put_o (Or.inl (by decide)) (S.rf rfl rfl)))))))) ?_
  refine fx_bip (p' := 20) rfl rfl rfl ?_
  refine ax_call (z := 5) (p' := 23) (as := [_, _]) rfl (Or.inl ⟨_, rfl⟩) rfl rfl rfl rfl rfl rfl rfl rfl (rl_5 (((((((S.pa rfl).pa rfl).pa rfl).pa rfl).pa rfl).pa rfl).pa rfl)) rfl ?_
  refine am_ev.step (pc' := 24) rfl rfl ?_
  refine am_ev.step (pc' := 25) rfl rfl ?_
  refine ax_pf (p' := 28) rfl rfl (fO (fO (fO (fO (fO (fO (fO (fO (fO (fO (fO (fO (fO (S.ob rfl)))))))))))))) rfl ?_
  refine am_ev.step (pc' := 29) rfl rfl ?_
  refine am_ev.step (pc' := 30) rfl rfl ?_
  refine ax_pf (p' := 33) rfl rfl (fO (fO (fO (fO (fO (fO (fO (fO (fO (fO (fO (fO (fO (fO (S.ob rfl))))))))))))))) rfl ?_
  exact am_ev.retv rfl rfl
theorem rl_20 (S : fS h) : am_ev d 20 0 (am_ent [.ref 41] 1) [] h (none, (am_put (am_put (am_put h 41 6 (iv 0)) 41 3 (iv 0)) 41 4 (iv (-1)))) := by
  show am_ev d 20 0 [.ref 41] [] h _
  refine am_ev.step (pc' := 1) rfl rfl ?_
  refine am_ev.step (pc' := 2) rfl rfl ?_
  refine ax_pf (p' := 5) rfl rfl (S.ob rfl) rfl ?_
  refine am_ev.step (pc' := 6) rfl rfl ?_
  refine am_ev.step (pc' := 7) rfl rfl ?_
  refine ax_pf (p' := 10) rfl rfl (fO (S.ob rfl)) rfl ?_
  refine am_ev.step (pc' := 11) rfl rfl ?_
  refine am_ev.step (pc' := 12) rfl rfl ?_
  refine ax_pf (p' := 15) rfl rfl (fO (fO (S.ob rfl))) rfl ?_
  exact am_ev.retv rfl rfl
theorem rl_6 (S : fS h) (dV : ∀ i, i < 7 → h.2.2.2 46 i = iv (V i)) (dY : ∀ i, i < 6 → h.2.2.2 47 i = iv (Y i)) : am_ev (d + 1) 6 0 (am_ent [.ref 43] 1) [] h (none, (am_put (am_put (am_put (am_put (am_put (am_put (am_put (am_put (am_put (am_put (am_put (am_put (am_put h 44 0 (iv ((V 0)))) 44 1 (iv ((V 1)))) 44 2 (iv ((V 2)))) 44 3 (iv ((V 3)))) 44 4 (iv ((V 4)))) 44 5 (iv ((V 5)))) 44 6 (iv ((V 6)))) 45 0 (iv ((Y 0)))) 45 1 (iv ((Y 1)))) 45 2 (iv ((Y 2)))) 45 3 (iv ((Y 3)))) 45 4 (iv ((Y 4)))) 45 5 (iv ((Y 5))))) := by
  show am_ev (d + 1) 6 0 [.ref 43] [] h _
  refine am_ev.step (pc' := 1) rfl rfl ?_
  refine ax_gf (p' := 4) rfl rfl (S.ob rfl) (S.rf rfl rfl) ?_
  refine am_ev.step (pc' := 5) rfl rfl ?_
  refine am_ev.step (pc' := 6) rfl rfl ?_
  refine ax_gf (p' := 9) rfl rfl (S.ob rfl) (S.rf rfl rfl) ?_
  refine am_ev.step (pc' := 10) rfl rfl ?_
  refine fx_bip (p' := 12) rfl rfl rfl ?_
  refine fx_cpy7 (p' := 15) (fun i => (V i)) rfl (Or.inl ⟨_, rfl⟩) rfl rfl rfl (S.lt rfl) (S.lt rfl) (S.sh rfl rfl) rfl (S.sh rfl rfl) rfl (fun i hi => (dV i hi)) ?_
  refine am_ev.step (pc' := 16) rfl rfl ?_
  refine ax_gf (p' := 19) rfl rfl (fO (fO (fO (fO (fO (fO (fO (S.ob rfl)))))))) (ax_put_o (Or.inl (by decide)) (ax_put_o (Or.inl (by decide)) (ax_put_o (Or.inl (by decide)) (ax_put_o (Or.inl (by decide)) (ax_put_o (Or.inl (by decide)) (ax_put_o (Or.inl (by decide)) (ax_put_o (Or.inl (by decide)) (S.rf rfl rfl)))))))) ?_
  refine am_ev.step (pc' := 20) rfl rfl ?_
  refine am_ev.step (pc' := 21) rfl rfl ?_
  refine ax_gf (p' := 24) rfl rfl (fO (fO (fO (fO (fO (fO (fO (S.ob rfl)))))))) (ax_put_o (Or.inl (by decide)) (ax_put_o (Or.inl (by decide)) (ax_put_o (Or.inl (by decide)) (ax_put_o (Or.inl (by decide)) (ax_put_o (Or.inl (by decide)) (ax_put_o (Or.inl (by decide)) (ax_put_o (Or.inl (by decide)) (S.rf rfl rfl)))))))) ?_
  refine am_ev.step (pc' := 25) rfl rfl ?_
  refine fx_bip (p' := 27) rfl rfl rfl ?_
  refine fx_cpy6 (p' := 30) (fun i => (Y i)) rfl (Or.inl ⟨_, rfl⟩) rfl rfl rfl ((((((((S.pa rfl).pa rfl).pa rfl).pa rfl).pa rfl).pa rfl).pa rfl).lt rfl) ((((((((S.pa rfl).pa rfl).pa rfl).pa rfl).pa rfl).pa rfl).pa rfl).lt rfl) ((((((((S.pa rfl).pa rfl).pa rfl).pa rfl).pa rfl).pa rfl).pa rfl).sh rfl rfl) rfl ((((((((S.pa rfl).pa rfl).pa rfl).pa rfl).pa rfl).pa rfl).pa rfl).sh rfl rfl) rfl (fun i hi => (ax_put_o (Or.inl (by decide)) (ax_put_o (Or.inl (by decide)) (ax_put_o (Or.inl (by decide)) (ax_put_o (Or.inl (by decide)) (ax_put_o (Or.inl (by decide)) (ax_put_o (Or.inl (by decide)) (ax_put_o (Or.inl (by decide)) (dY i hi))))))))) ?_
  exact am_ev.retv rfl rfl
end RLA
/-- what holds of the program's side where a clause is to be read -/
def CS (h h0 : am_H) (b : Nat → Int) (L p : Nat) (t u : Int32) (V Y : Nat → Int) : Prop := fS h ∧ tb h 42 b L ∧ h.2.2.2 41 1 = iv L ∧ h.2.2.2 41 6 = iv p ∧ h.2.2.2 41 3 = iv 0 ∧ h.2.2.2 41 4 = iv (-1) ∧ h.2.2.2 43 4 = .int t ∧ h.2.2.2 43 5 = .int u ∧ (∀ i, i < 7 → h.2.2.2 46 i = iv (V i)) ∧ (∀ i, i < 6 → h.2.2.2 47 i = iv (Y i)) ∧ (∀ j, h.2.2.2 44 j = h0.2.2.2 44 j) ∧ (∀ j, h.2.2.2 45 j = h0.2.2.2 45 j)
/-- and of the other side -/
def MS (h h0 : am_H) (b : Nat → Int) (L p s e : Nat) (k v w : Int) (τ V Y : Nat → Int) : Prop := fS h ∧ tb h 80 b L ∧ h.2.2.2 78 3 = iv L ∧ tz_t b L p s e k v ∧ h.2.2.2 78 4 = iv s ∧ h.2.2.2 78 5 = iv e ∧ h.2.2.2 78 6 = iv (tH k) ∧ h.2.2.2 78 7 = iv w ∧ (k = 2 → w = v) ∧ (43 ≤ k → w = k) ∧ h.2.2.2 78 8 = iv 0 ∧ h.2.2.2 78 9 = iv (-1) ∧ (∀ i, i < 13 → h.2.2.2 85 i = iv (τ i)) ∧ (∀ i, i < 7 → h.2.2.2 83 i = iv (V i)) ∧ (∀ i, i < 6 → h.2.2.2 84 i = iv (Y i)) ∧ (∀ j, h.2.2.2 81 j = h0.2.2.2 81 j) ∧ (∀ j, h.2.2.2 82 j = h0.2.2.2 82 j) ∧ h.2.2.2 78 2 = iv 0
def up1 (V : Nat → Int) (c : Nat) (v : Int) : Nat → Int := fun i => if i = c then v else V i
theorem tz_t.k3 {b : Nat → Int} {L p s e : Nat} {k v : Int} (t : tz_t b L p s e k v) : k ≤ 3 ∨ 43 ≤ k := by
  obtain ⟨hp, rfl, rfl, rfl, rfl⟩ := t
  unfold tK
  repeat' split
  all_goals omega
section RLB
variable {d : Nat} {h h0 : am_H} {b : Nat → Int} {L p s e s1 e1 s2 e2 s3 e3 l n : Nat} {k v k1 k2 k3 v1 v2 v3 w c : Int} {t u : Int32} {V Y τ : Nat → Int} {a3 a4 : Value}
theorem rl_E (hb : tz_r b) (hL : L ≤ 1600) (C : CS h h0 b L p t u V Y) (hn : n ≤ 13) (t0 : tz_t b L p s e k v) (q : k = 0) : ∃ H : am_H, am_ev (d + 7) 19 10 [.ref 43, .ref 41, iv ((n : Int)), a3, a4] [] h  (some (iv n), H) ∧ H.2.2.2 41 3 = iv 0 ∧ H.2.2.2 41 4 = iv (-1) ∧ (∀ j, j < 7 → H.2.2.2 44 j = iv (V j)) ∧ (∀ j, j < 6 → H.2.2.2 45 j = iv (Y j)) ∧ fS H := by
  obtain ⟨S, B, w1, v6, f3, f4, g4, g5, dV, dY, z44, z45⟩ := C
  have f0 := t0.f hb
  refine ⟨(am_put (am_put (am_put (am_put (am_put (am_put (am_put (am_put (am_put (am_put (am_put (am_put (am_put (am_put (am_put (am_put h 41 5 (iv ((s : Int)))) 41 6 (iv ((e : Int)))) 41 2 (iv (k))) 44 0 (iv ((V 0)))) 44 1 (iv ((V 1)))) 44 2 (iv ((V 2)))) 44 3 (iv ((V 3)))) 44 4 (iv ((V 4)))) 44 5 (iv ((V 5)))) 44 6 (iv ((V 6)))) 45 0 (iv ((Y 0)))) 45 1 (iv ((Y 1)))) 45 2 (iv ((Y 2)))) 45 3 (iv ((Y 3)))) 45 4 (iv ((Y 4)))) 45 5 (iv ((Y 5)))), ?_, (ax_put_o (Or.inl (by decide)) (ax_put_o (Or.inl (by decide)) (ax_put_o (Or.inl (by decide)) (ax_put_o (Or.inl (by decide)) (ax_put_o (Or.inl (by decide)) (ax_put_o (Or.inl (by decide)) (ax_put_o (Or.inl (by decide)) (ax_put_o (Or.inl (by decide)) (ax_put_o (Or.inl (by decide)) (ax_put_o (Or.inl (by decide)) (ax_put_o (Or.inl (by decide)) (ax_put_o (Or.inl (by decide)) (ax_put_o (Or.inl (by decide)) (ax_put_o (Or.inr (by decide)) (ax_put_o (Or.inr (by decide)) (ax_put_o (Or.inr (by decide)) f3)))))))))))))))), (ax_put_o (Or.inl (by decide)) (ax_put_o (Or.inl (by decide)) (ax_put_o (Or.inl (by decide)) (ax_put_o (Or.inl (by decide)) (ax_put_o (Or.inl (by decide)) (ax_put_o (Or.inl (by decide)) (ax_put_o (Or.inl (by decide)) (ax_put_o (Or.inl (by decide)) (ax_put_o (Or.inl (by decide)) (ax_put_o (Or.inl (by decide)) (ax_put_o (Or.inl (by decide)) (ax_put_o (Or.inl (by decide)) (ax_put_o (Or.inl (by decide)) (ax_put_o (Or.inr (by decide)) (ax_put_o (Or.inr (by decide)) (ax_put_o (Or.inr (by decide)) f4)))))))))))))))), (fun j hj => by
      have hj2 : j = 0 ∨ j = 1 ∨ j = 2 ∨ j = 3 ∨ j = 4 ∨ j = 5 ∨ j = 6 := by omega
      rcases hj2 with rfl | rfl | rfl | rfl | rfl | rfl | rfl
      · exact (ax_put_o (Or.inl (by decide)) (ax_put_o (Or.inl (by decide)) (ax_put_o (Or.inl (by decide)) (ax_put_o (Or.inl (by decide)) (ax_put_o (Or.inl (by decide)) (ax_put_o (Or.inl (by decide)) (ax_put_o (Or.inr (by decide)) (ax_put_o (Or.inr (by decide)) (ax_put_o (Or.inr (by decide)) (ax_put_o (Or.inr (by decide)) (ax_put_o (Or.inr (by decide)) (ax_put_o (Or.inr (by decide)) (ax_put_s _ _ _)))))))))))))
      · exact (ax_put_o (Or.inl (by decide)) (ax_put_o (Or.inl (by decide)) (ax_put_o (Or.inl (by decide)) (ax_put_o (Or.inl (by decide)) (ax_put_o (Or.inl (by decide)) (ax_put_o (Or.inl (by decide)) (ax_put_o (Or.inr (by decide)) (ax_put_o (Or.inr (by decide)) (ax_put_o (Or.inr (by decide)) (ax_put_o (Or.inr (by decide)) (ax_put_o (Or.inr (by decide)) (ax_put_s _ _ _))))))))))))
      · exact (ax_put_o (Or.inl (by decide)) (ax_put_o (Or.inl (by decide)) (ax_put_o (Or.inl (by decide)) (ax_put_o (Or.inl (by decide)) (ax_put_o (Or.inl (by decide)) (ax_put_o (Or.inl (by decide)) (ax_put_o (Or.inr (by decide)) (ax_put_o (Or.inr (by decide)) (ax_put_o (Or.inr (by decide)) (ax_put_o (Or.inr (by decide)) (ax_put_s _ _ _)))))))))))
      · exact (ax_put_o (Or.inl (by decide)) (ax_put_o (Or.inl (by decide)) (ax_put_o (Or.inl (by decide)) (ax_put_o (Or.inl (by decide)) (ax_put_o (Or.inl (by decide)) (ax_put_o (Or.inl (by decide)) (ax_put_o (Or.inr (by decide)) (ax_put_o (Or.inr (by decide)) (ax_put_o (Or.inr (by decide)) (ax_put_s _ _ _))))))))))
      · exact (ax_put_o (Or.inl (by decide)) (ax_put_o (Or.inl (by decide)) (ax_put_o (Or.inl (by decide)) (ax_put_o (Or.inl (by decide)) (ax_put_o (Or.inl (by decide)) (ax_put_o (Or.inl (by decide)) (ax_put_o (Or.inr (by decide)) (ax_put_o (Or.inr (by decide)) (ax_put_s _ _ _)))))))))
      · exact (ax_put_o (Or.inl (by decide)) (ax_put_o (Or.inl (by decide)) (ax_put_o (Or.inl (by decide)) (ax_put_o (Or.inl (by decide)) (ax_put_o (Or.inl (by decide)) (ax_put_o (Or.inl (by decide)) (ax_put_o (Or.inr (by decide)) (ax_put_s _ _ _))))))))
      · exact (ax_put_o (Or.inl (by decide)) (ax_put_o (Or.inl (by decide)) (ax_put_o (Or.inl (by decide)) (ax_put_o (Or.inl (by decide)) (ax_put_o (Or.inl (by decide)) (ax_put_o (Or.inl (by decide)) (ax_put_s _ _ _)))))))), (fun j hj => by
      have hj2 : j = 0 ∨ j = 1 ∨ j = 2 ∨ j = 3 ∨ j = 4 ∨ j = 5 := by omega
      rcases hj2 with rfl | rfl | rfl | rfl | rfl | rfl
      · exact (ax_put_o (Or.inr (by decide)) (ax_put_o (Or.inr (by decide)) (ax_put_o (Or.inr (by decide)) (ax_put_o (Or.inr (by decide)) (ax_put_o (Or.inr (by decide)) (ax_put_s _ _ _))))))
      · exact (ax_put_o (Or.inr (by decide)) (ax_put_o (Or.inr (by decide)) (ax_put_o (Or.inr (by decide)) (ax_put_o (Or.inr (by decide)) (ax_put_s _ _ _)))))
      · exact (ax_put_o (Or.inr (by decide)) (ax_put_o (Or.inr (by decide)) (ax_put_o (Or.inr (by decide)) (ax_put_s _ _ _))))
      · exact (ax_put_o (Or.inr (by decide)) (ax_put_o (Or.inr (by decide)) (ax_put_s _ _ _)))
      · exact (ax_put_o (Or.inr (by decide)) (ax_put_s _ _ _))
      · exact (ax_put_s _ _ _)), ((((((((((((((((S.po rfl rfl).po rfl rfl).po rfl rfl).pa rfl).pa rfl).pa rfl).pa rfl).pa rfl).pa rfl).pa rfl).pa rfl).pa rfl).pa rfl).pa rfl).pa rfl).pa rfl)⟩
  refine am_ev.step (pc' := 11) rfl rfl ?_
  refine fx_bip (p' := 13) rfl rfl rfl ?_
  refine fx_c_gt_F (pF := 16) rfl (by omega) (by omega) rfl (by omega) ?_
  refine am_ev.step (pc' := 17) rfl rfl ?_
  refine ax_call (z := 21) (p' := 20) (as := [_]) rfl (Or.inr (Or.inl ⟨_, rfl⟩)) rfl rfl rfl rfl rfl rfl (S.ob rfl) rfl (tk_21w S B hb hL w1 v6 t0) rfl ?_
  refine am_ev.step (pc' := 21) rfl rfl ?_
  refine ax_gf (p' := 24) rfl rfl (fO (fO (fO (S.ob rfl)))) (ax_put_s _ _ _) ?_
  refine fx_z_ne_F (pF := 27) rfl (by omega) rfl (by omega) ?_
  refine am_ev.step (pc' := 28) rfl rfl ?_
  refine ax_call (z := 6) (p' := 31) (as := [_]) rfl (Or.inr (Or.inl ⟨_, rfl⟩)) rfl rfl rfl rfl rfl rfl (fO (fO (fO (S.ob rfl)))) rfl (rl_6 (V := V) (Y := Y) (((S.po rfl rfl).po rfl rfl).po rfl rfl) (fun i hi => (ax_put_o (Or.inl (by decide)) (ax_put_o (Or.inl (by decide)) (ax_put_o (Or.inl (by decide)) (dV i hi))))) (fun i hi => (ax_put_o (Or.inl (by decide)) (ax_put_o (Or.inl (by decide)) (ax_put_o (Or.inl (by decide)) (dY i hi)))))) rfl ?_
  refine am_ev.step (pc' := 32) rfl rfl ?_
  exact fx_reti rfl rfl rfl
theorem rl_Fx (hb : tz_r b) (hL : L ≤ 1600) (C : CS h h0 b L p t u V Y) (hn : n ≤ 13) (t0 : tz_t b L p s e k v) (kn : k ≠ 0) (q : cl_r b s e k (-1)) : ∃ H : am_H, am_ev (d + 7) 19 10 [.ref 43, .ref 41, iv ((n : Int)), a3, a4] [] h  (some (iv (-1)), H) ∧ H.2.2.2 41 3 = iv 1 ∧ H.2.2.2 41 4 = iv s ∧ (∀ j, H.2.2.2 44 j = h0.2.2.2 44 j) ∧ (∀ j, H.2.2.2 45 j = h0.2.2.2 45 j) ∧ fS H := by
  obtain ⟨S, B, w1, v6, f3, f4, g4, g5, dV, dY, z44, z45⟩ := C
  have f0 := t0.f hb
  refine ⟨(am_put (am_put (am_put (am_put (am_put h 41 5 (iv ((s : Int)))) 41 6 (iv ((e : Int)))) 41 2 (iv (k))) 41 3 (iv 1)) 41 4 (iv ((s : Int)))), ?_, (ax_put_o (Or.inr (by decide)) (ax_put_s _ _ _)), (ax_put_s _ _ _), fun j => (ax_put_o (Or.inl (by decide)) (ax_put_o (Or.inl (by decide)) (ax_put_o (Or.inl (by decide)) (ax_put_o (Or.inl (by decide)) (ax_put_o (Or.inl (by decide)) (z44 j)))))), fun j => (ax_put_o (Or.inl (by decide)) (ax_put_o (Or.inl (by decide)) (ax_put_o (Or.inl (by decide)) (ax_put_o (Or.inl (by decide)) (ax_put_o (Or.inl (by decide)) (z45 j)))))), (((((S.po rfl rfl).po rfl rfl).po rfl rfl).po rfl rfl).po rfl rfl)⟩
  refine am_ev.step (pc' := 11) rfl rfl ?_
  refine fx_bip (p' := 13) rfl rfl rfl ?_
  refine fx_c_gt_F (pF := 16) rfl (by omega) (by omega) rfl (by omega) ?_
  refine am_ev.step (pc' := 17) rfl rfl ?_
  refine ax_call (z := 21) (p' := 20) (as := [_]) rfl (Or.inr (Or.inl ⟨_, rfl⟩)) rfl rfl rfl rfl rfl rfl (S.ob rfl) rfl (tk_21w S B hb hL w1 v6 t0) rfl ?_
  refine am_ev.step (pc' := 21) rfl rfl ?_
  refine ax_gf (p' := 24) rfl rfl (fO (fO (fO (S.ob rfl)))) (ax_put_s _ _ _) ?_
  refine fx_z_ne_T (pT := 33) rfl (by omega) rfl (by omega) ?_
  refine am_ev.step (pc' := 34) rfl rfl ?_
  refine ax_call (z := 25) (p' := 37) (as := [_]) rfl (Or.inl ⟨_, rfl⟩) rfl rfl rfl rfl rfl rfl rfl rfl (tk_25 (((S.po rfl rfl).po rfl rfl).po rfl rfl) (((B.put (by decide)).put (by decide)).put (by decide)) hb hL (ax_put_o (Or.inr (by decide)) (ax_put_o (Or.inr (by decide)) (ax_put_o (Or.inr (by decide)) w1))) (ax_put_s _ _ _) (ax_put_o (Or.inr (by decide)) (ax_put_o (Or.inr (by decide)) (ax_put_s _ _ _))) (ax_put_o (Or.inr (by decide)) (ax_put_s _ _ _)) ⟨f0.2.1, f0.2.2.1⟩ ⟨f0.2.2.2.1, by omega⟩ q) rfl ?_
  refine am_ev.step (pc' := 38) (ls' := [.ref 43, .ref 41, iv ((n : Int)), iv (-1), a4]) rfl rfl ?_
  refine am_ev.step (pc' := 39) rfl rfl ?_
  refine fx_bip (p' := 41) rfl rfl rfl ?_
  refine fx_c_ne_T (pT := 52) rfl (by omega) (by omega) rfl (by omega) ?_
  refine am_ev.step (pc' := 53) rfl rfl ?_
  refine am_ev.step (pc' := 54) rfl rfl ?_
  refine am_ev.step (pc' := 55) rfl rfl ?_
  refine ax_call (z := 33) (p' := 58) (as := [_, _, _]) rfl (Or.inr (Or.inl ⟨_, rfl⟩)) rfl rfl rfl rfl rfl rfl (fO (fO (fO (S.ob rfl)))) rfl (tk_33x (((S.po rfl rfl).po rfl rfl).po rfl rfl) (((B.put (by decide)).put (by decide)).put (by decide)) hb hL (ax_put_o (Or.inr (by decide)) (ax_put_o (Or.inr (by decide)) (ax_put_o (Or.inr (by decide)) w1))) (ax_put_o (Or.inr (by decide)) (ax_put_o (Or.inr (by decide)) (ax_put_s _ _ _))) (ax_put_o (Or.inr (by decide)) (ax_put_s _ _ _)) ) rfl ?_
  refine am_ev.step (pc' := 60) (ls' := [.ref 43, .ref 41, iv ((n : Int)), iv (-1), iv 0]) rfl rfl ?_
  refine am_ev.step (pc' := 62) rfl rfl ?_
  refine fx_z_ne_F (pF := 65) rfl (by omega) rfl (by omega) ?_
  refine am_ev.step (pc' := 66) rfl rfl ?_
  exact fx_reti rfl rfl rfl
theorem rl_Fa (hb : tz_r b) (hL : L ≤ 1600) (C : CS h h0 b L p t u V Y) (hn : n ≤ 13) (t0 : tz_t b L p s e k v) (kn : k ≠ 0) (hl : l < 7) (q : cl_r b s e k l) (q0 : bt t l = true) : ∃ H : am_H, am_ev (d + 7) 19 10 [.ref 43, .ref 41, iv ((n : Int)), a3, a4] [] h  (some (iv (-1)), H) ∧ H.2.2.2 41 3 = iv 3 ∧ H.2.2.2 41 4 = iv s ∧ (∀ j, H.2.2.2 44 j = h0.2.2.2 44 j) ∧ (∀ j, H.2.2.2 45 j = h0.2.2.2 45 j) ∧ fS H := by
  obtain ⟨S, B, w1, v6, f3, f4, g4, g5, dV, dY, z44, z45⟩ := C
  have f0 := t0.f hb
  refine ⟨(am_put (am_put (am_put (am_put (am_put h 41 5 (iv ((s : Int)))) 41 6 (iv ((e : Int)))) 41 2 (iv (k))) 41 3 (iv 3)) 41 4 (iv ((s : Int)))), ?_, (ax_put_o (Or.inr (by decide)) (ax_put_s _ _ _)), (ax_put_s _ _ _), fun j => (ax_put_o (Or.inl (by decide)) (ax_put_o (Or.inl (by decide)) (ax_put_o (Or.inl (by decide)) (ax_put_o (Or.inl (by decide)) (ax_put_o (Or.inl (by decide)) (z44 j)))))), fun j => (ax_put_o (Or.inl (by decide)) (ax_put_o (Or.inl (by decide)) (ax_put_o (Or.inl (by decide)) (ax_put_o (Or.inl (by decide)) (ax_put_o (Or.inl (by decide)) (z45 j)))))), (((((S.po rfl rfl).po rfl rfl).po rfl rfl).po rfl rfl).po rfl rfl)⟩
  refine am_ev.step (pc' := 11) rfl rfl ?_
  refine fx_bip (p' := 13) rfl rfl rfl ?_
  refine fx_c_gt_F (pF := 16) rfl (by omega) (by omega) rfl (by omega) ?_
  refine am_ev.step (pc' := 17) rfl rfl ?_
  refine ax_call (z := 21) (p' := 20) (as := [_]) rfl (Or.inr (Or.inl ⟨_, rfl⟩)) rfl rfl rfl rfl rfl rfl (S.ob rfl) rfl (tk_21w S B hb hL w1 v6 t0) rfl ?_
  refine am_ev.step (pc' := 21) rfl rfl ?_
  refine ax_gf (p' := 24) rfl rfl (fO (fO (fO (S.ob rfl)))) (ax_put_s _ _ _) ?_
  refine fx_z_ne_T (pT := 33) rfl (by omega) rfl (by omega) ?_
  refine am_ev.step (pc' := 34) rfl rfl ?_
  refine ax_call (z := 25) (p' := 37) (as := [_]) rfl (Or.inl ⟨_, rfl⟩) rfl rfl rfl rfl rfl rfl rfl rfl (tk_25 (((S.po rfl rfl).po rfl rfl).po rfl rfl) (((B.put (by decide)).put (by decide)).put (by decide)) hb hL (ax_put_o (Or.inr (by decide)) (ax_put_o (Or.inr (by decide)) (ax_put_o (Or.inr (by decide)) w1))) (ax_put_s _ _ _) (ax_put_o (Or.inr (by decide)) (ax_put_o (Or.inr (by decide)) (ax_put_s _ _ _))) (ax_put_o (Or.inr (by decide)) (ax_put_s _ _ _)) ⟨f0.2.1, f0.2.2.1⟩ ⟨f0.2.2.2.1, by omega⟩ q) rfl ?_
  refine am_ev.step (pc' := 38) (ls' := [.ref 43, .ref 41, iv ((n : Int)), iv ((l : Int)), a4]) rfl rfl ?_
  refine am_ev.step (pc' := 39) rfl rfl ?_
  refine fx_bip (p' := 41) rfl rfl rfl ?_
  refine fx_c_ne_T (pT := 52) rfl (by omega) (by omega) rfl (by omega) ?_
  refine am_ev.step (pc' := 53) rfl rfl ?_
  refine am_ev.step (pc' := 54) rfl rfl ?_
  refine am_ev.step (pc' := 55) rfl rfl ?_
  refine ax_call (z := 33) (p' := 58) (as := [_, _, _]) rfl (Or.inr (Or.inl ⟨_, rfl⟩)) rfl rfl rfl rfl rfl rfl (fO (fO (fO (S.ob rfl)))) rfl (tk_33a (((S.po rfl rfl).po rfl rfl).po rfl rfl) (((B.put (by decide)).put (by decide)).put (by decide)) hb hL (ax_put_o (Or.inr (by decide)) (ax_put_o (Or.inr (by decide)) (ax_put_o (Or.inr (by decide)) w1))) (ax_put_o (Or.inr (by decide)) (ax_put_o (Or.inr (by decide)) (ax_put_s _ _ _))) (ax_put_o (Or.inr (by decide)) (ax_put_s _ _ _)) hl (ax_put_o (Or.inl (by decide)) (ax_put_o (Or.inl (by decide)) (ax_put_o (Or.inl (by decide)) g4))) q0) rfl ?_
  refine am_ev.step (pc' := 60) (ls' := [.ref 43, .ref 41, iv ((n : Int)), iv ((l : Int)), iv 0]) rfl rfl ?_
  refine am_ev.step (pc' := 62) rfl rfl ?_
  refine fx_z_ne_F (pF := 65) rfl (by omega) rfl (by omega) ?_
  refine am_ev.step (pc' := 66) rfl rfl ?_
  exact fx_reti rfl rfl rfl
theorem rl_Fb (hb : tz_r b) (hL : L ≤ 1600) (C : CS h h0 b L p t u V Y) (hn : n ≤ 13) (t0 : tz_t b L p s e k v) (kn : k ≠ 0) (hl : l < 7) (q : cl_r b s e k l) (q0 : bt t l = false) (t1 : tz_t b L e s1 e1 k1 v1) (q1 : k1 ≠ 2) : ∃ H : am_H, am_ev (d + 7) 19 10 [.ref 43, .ref 41, iv ((n : Int)), a3, a4] [] h  (some (iv (-1)), H) ∧ H.2.2.2 41 3 = iv 1 ∧ H.2.2.2 41 4 = iv s1 ∧ (∀ j, H.2.2.2 44 j = h0.2.2.2 44 j) ∧ (∀ j, H.2.2.2 45 j = h0.2.2.2 45 j) ∧ fS H := by
  obtain ⟨S, B, w1, v6, f3, f4, g4, g5, dV, dY, z44, z45⟩ := C
  have f0 := t0.f hb
  refine ⟨(am_put (am_put (am_put (am_put (am_put (am_put (am_put (am_put (am_put h 41 5 (iv ((s : Int)))) 41 6 (iv ((e : Int)))) 41 2 (iv (k))) 43 4 (.int (t ||| ((Int32.ofInt 1) <<< ((Int32.ofInt ((l : Int))) &&& 31))))) 41 5 (iv ((s1 : Int)))) 41 6 (iv ((e1 : Int)))) 41 2 (iv (k1))) 41 3 (iv 1)) 41 4 (iv ((s1 : Int)))), ?_, (ax_put_o (Or.inr (by decide)) (ax_put_s _ _ _)), (ax_put_s _ _ _), fun j => (ax_put_o (Or.inl (by decide)) (ax_put_o (Or.inl (by decide)) (ax_put_o (Or.inl (by decide)) (ax_put_o (Or.inl (by decide)) (ax_put_o (Or.inl (by decide)) (ax_put_o (Or.inl (by decide)) (ax_put_o (Or.inl (by decide)) (ax_put_o (Or.inl (by decide)) (ax_put_o (Or.inl (by decide)) (z44 j)))))))))), fun j => (ax_put_o (Or.inl (by decide)) (ax_put_o (Or.inl (by decide)) (ax_put_o (Or.inl (by decide)) (ax_put_o (Or.inl (by decide)) (ax_put_o (Or.inl (by decide)) (ax_put_o (Or.inl (by decide)) (ax_put_o (Or.inl (by decide)) (ax_put_o (Or.inl (by decide)) (ax_put_o (Or.inl (by decide)) (z45 j)))))))))), (((((((((S.po rfl rfl).po rfl rfl).po rfl rfl).po rfl rfl).po rfl rfl).po rfl rfl).po rfl rfl).po rfl rfl).po rfl rfl)⟩
  refine am_ev.step (pc' := 11) rfl rfl ?_
  refine fx_bip (p' := 13) rfl rfl rfl ?_
  refine fx_c_gt_F (pF := 16) rfl (by omega) (by omega) rfl (by omega) ?_
  refine am_ev.step (pc' := 17) rfl rfl ?_
  refine ax_call (z := 21) (p' := 20) (as := [_]) rfl (Or.inr (Or.inl ⟨_, rfl⟩)) rfl rfl rfl rfl rfl rfl (S.ob rfl) rfl (tk_21w S B hb hL w1 v6 t0) rfl ?_
  refine am_ev.step (pc' := 21) rfl rfl ?_
  refine ax_gf (p' := 24) rfl rfl (fO (fO (fO (S.ob rfl)))) (ax_put_s _ _ _) ?_
  refine fx_z_ne_T (pT := 33) rfl (by omega) rfl (by omega) ?_
  refine am_ev.step (pc' := 34) rfl rfl ?_
  refine ax_call (z := 25) (p' := 37) (as := [_]) rfl (Or.inl ⟨_, rfl⟩) rfl rfl rfl rfl rfl rfl rfl rfl (tk_25 (((S.po rfl rfl).po rfl rfl).po rfl rfl) (((B.put (by decide)).put (by decide)).put (by decide)) hb hL (ax_put_o (Or.inr (by decide)) (ax_put_o (Or.inr (by decide)) (ax_put_o (Or.inr (by decide)) w1))) (ax_put_s _ _ _) (ax_put_o (Or.inr (by decide)) (ax_put_o (Or.inr (by decide)) (ax_put_s _ _ _))) (ax_put_o (Or.inr (by decide)) (ax_put_s _ _ _)) ⟨f0.2.1, f0.2.2.1⟩ ⟨f0.2.2.2.1, by omega⟩ q) rfl ?_
  refine am_ev.step (pc' := 38) (ls' := [.ref 43, .ref 41, iv ((n : Int)), iv ((l : Int)), a4]) rfl rfl ?_
  refine am_ev.step (pc' := 39) rfl rfl ?_
  refine fx_bip (p' := 41) rfl rfl rfl ?_
  refine fx_c_ne_T (pT := 52) rfl (by omega) (by omega) rfl (by omega) ?_
  refine am_ev.step (pc' := 53) rfl rfl ?_
  refine am_ev.step (pc' := 54) rfl rfl ?_
  refine am_ev.step (pc' := 55) rfl rfl ?_
  refine ax_call (z := 33) (p' := 58) (as := [_, _, _]) rfl (Or.inr (Or.inl ⟨_, rfl⟩)) rfl rfl rfl rfl rfl rfl (fO (fO (fO (S.ob rfl)))) rfl (tk_33b (((S.po rfl rfl).po rfl rfl).po rfl rfl) (((B.put (by decide)).put (by decide)).put (by decide)) hb hL (ax_put_o (Or.inr (by decide)) (ax_put_o (Or.inr (by decide)) (ax_put_o (Or.inr (by decide)) w1))) (ax_put_o (Or.inr (by decide)) (ax_put_o (Or.inr (by decide)) (ax_put_s _ _ _))) (ax_put_o (Or.inr (by decide)) (ax_put_s _ _ _)) hl (ax_put_o (Or.inl (by decide)) (ax_put_o (Or.inl (by decide)) (ax_put_o (Or.inl (by decide)) g4))) q0 t1 q1) rfl ?_
  refine am_ev.step (pc' := 60) (ls' := [.ref 43, .ref 41, iv ((n : Int)), iv ((l : Int)), iv 0]) rfl rfl ?_
  refine am_ev.step (pc' := 62) rfl rfl ?_
  refine fx_z_ne_F (pF := 65) rfl (by omega) rfl (by omega) ?_
  refine am_ev.step (pc' := 66) rfl rfl ?_
  exact fx_reti rfl rfl rfl
theorem rl_Fc (hb : tz_r b) (hL : L ≤ 1600) (C : CS h h0 b L p t u V Y) (hn : n ≤ 13) (t0 : tz_t b L p s e k v) (kn : k ≠ 0) (hl : l < 7) (q : cl_r b s e k l) (q0 : bt t l = false) (t1 : tz_t b L e s1 e1 k1 v1) (q1 : k1 = 2 ∧ ¬ (cq_sv 2 l ≤ v1 ∧ v1 ≤ cq_sv 3 l)) : ∃ H : am_H, am_ev (d + 7) 19 10 [.ref 43, .ref 41, iv ((n : Int)), a3, a4] [] h  (some (iv (-1)), H) ∧ H.2.2.2 41 3 = iv 2 ∧ H.2.2.2 41 4 = iv s1 ∧ (∀ j, H.2.2.2 44 j = h0.2.2.2 44 j) ∧ (∀ j, H.2.2.2 45 j = h0.2.2.2 45 j) ∧ fS H := by
  obtain ⟨S, B, w1, v6, f3, f4, g4, g5, dV, dY, z44, z45⟩ := C
  have f0 := t0.f hb
  refine ⟨(am_put (am_put (am_put (am_put (am_put (am_put (am_put (am_put (am_put h 41 5 (iv ((s : Int)))) 41 6 (iv ((e : Int)))) 41 2 (iv (k))) 43 4 (.int (t ||| ((Int32.ofInt 1) <<< ((Int32.ofInt ((l : Int))) &&& 31))))) 41 5 (iv ((s1 : Int)))) 41 6 (iv ((e1 : Int)))) 41 2 (iv (k1))) 41 3 (iv 2)) 41 4 (iv ((s1 : Int)))), ?_, (ax_put_o (Or.inr (by decide)) (ax_put_s _ _ _)), (ax_put_s _ _ _), fun j => (ax_put_o (Or.inl (by decide)) (ax_put_o (Or.inl (by decide)) (ax_put_o (Or.inl (by decide)) (ax_put_o (Or.inl (by decide)) (ax_put_o (Or.inl (by decide)) (ax_put_o (Or.inl (by decide)) (ax_put_o (Or.inl (by decide)) (ax_put_o (Or.inl (by decide)) (ax_put_o (Or.inl (by decide)) (z44 j)))))))))), fun j => (ax_put_o (Or.inl (by decide)) (ax_put_o (Or.inl (by decide)) (ax_put_o (Or.inl (by decide)) (ax_put_o (Or.inl (by decide)) (ax_put_o (Or.inl (by decide)) (ax_put_o (Or.inl (by decide)) (ax_put_o (Or.inl (by decide)) (ax_put_o (Or.inl (by decide)) (ax_put_o (Or.inl (by decide)) (z45 j)))))))))), (((((((((S.po rfl rfl).po rfl rfl).po rfl rfl).po rfl rfl).po rfl rfl).po rfl rfl).po rfl rfl).po rfl rfl).po rfl rfl)⟩
  refine am_ev.step (pc' := 11) rfl rfl ?_
  refine fx_bip (p' := 13) rfl rfl rfl ?_
  refine fx_c_gt_F (pF := 16) rfl (by omega) (by omega) rfl (by omega) ?_
  refine am_ev.step (pc' := 17) rfl rfl ?_
  refine ax_call (z := 21) (p' := 20) (as := [_]) rfl (Or.inr (Or.inl ⟨_, rfl⟩)) rfl rfl rfl rfl rfl rfl (S.ob rfl) rfl (tk_21w S B hb hL w1 v6 t0) rfl ?_
  refine am_ev.step (pc' := 21) rfl rfl ?_
  refine ax_gf (p' := 24) rfl rfl (fO (fO (fO (S.ob rfl)))) (ax_put_s _ _ _) ?_
  refine fx_z_ne_T (pT := 33) rfl (by omega) rfl (by omega) ?_
  refine am_ev.step (pc' := 34) rfl rfl ?_
  refine ax_call (z := 25) (p' := 37) (as := [_]) rfl (Or.inl ⟨_, rfl⟩) rfl rfl rfl rfl rfl rfl rfl rfl (tk_25 (((S.po rfl rfl).po rfl rfl).po rfl rfl) (((B.put (by decide)).put (by decide)).put (by decide)) hb hL (ax_put_o (Or.inr (by decide)) (ax_put_o (Or.inr (by decide)) (ax_put_o (Or.inr (by decide)) w1))) (ax_put_s _ _ _) (ax_put_o (Or.inr (by decide)) (ax_put_o (Or.inr (by decide)) (ax_put_s _ _ _))) (ax_put_o (Or.inr (by decide)) (ax_put_s _ _ _)) ⟨f0.2.1, f0.2.2.1⟩ ⟨f0.2.2.2.1, by omega⟩ q) rfl ?_
  refine am_ev.step (pc' := 38) (ls' := [.ref 43, .ref 41, iv ((n : Int)), iv ((l : Int)), a4]) rfl rfl ?_
  refine am_ev.step (pc' := 39) rfl rfl ?_
  refine fx_bip (p' := 41) rfl rfl rfl ?_
  refine fx_c_ne_T (pT := 52) rfl (by omega) (by omega) rfl (by omega) ?_
  refine am_ev.step (pc' := 53) rfl rfl ?_
  refine am_ev.step (pc' := 54) rfl rfl ?_
  refine am_ev.step (pc' := 55) rfl rfl ?_
  refine ax_call (z := 33) (p' := 58) (as := [_, _, _]) rfl (Or.inr (Or.inl ⟨_, rfl⟩)) rfl rfl rfl rfl rfl rfl (fO (fO (fO (S.ob rfl)))) rfl (tk_33c (((S.po rfl rfl).po rfl rfl).po rfl rfl) (((B.put (by decide)).put (by decide)).put (by decide)) hb hL (ax_put_o (Or.inr (by decide)) (ax_put_o (Or.inr (by decide)) (ax_put_o (Or.inr (by decide)) w1))) (ax_put_o (Or.inr (by decide)) (ax_put_o (Or.inr (by decide)) (ax_put_s _ _ _))) (ax_put_o (Or.inr (by decide)) (ax_put_s _ _ _)) hl (ax_put_o (Or.inl (by decide)) (ax_put_o (Or.inl (by decide)) (ax_put_o (Or.inl (by decide)) g4))) q0 t1 q1) rfl ?_
  refine am_ev.step (pc' := 60) (ls' := [.ref 43, .ref 41, iv ((n : Int)), iv ((l : Int)), iv 0]) rfl rfl ?_
  refine am_ev.step (pc' := 62) rfl rfl ?_
  refine fx_z_ne_F (pF := 65) rfl (by omega) rfl (by omega) ?_
  refine am_ev.step (pc' := 66) rfl rfl ?_
  exact fx_reti rfl rfl rfl
theorem rl_Fd (hb : tz_r b) (hL : L ≤ 1600) (C : CS h h0 b L p t u V Y) (hn : n ≤ 13) (t0 : tz_t b L p s e k v) (kn : k ≠ 0) (hl : l < 7) (q : cl_r b s e k l) (q0 : bt t l = false) (t1 : tz_t b L e s1 e1 k1 v1) (q1 : k1 = 2 ∧ cq_sv 2 l ≤ v1 ∧ v1 ≤ cq_sv 3 l) (t2 : tz_t b L e1 s2 e2 k2 v2) (q2 : k2 ≠ 59) : ∃ H : am_H, am_ev (d + 7) 19 10 [.ref 43, .ref 41, iv ((n : Int)), a3, a4] [] h  (some (iv (-1)), H) ∧ H.2.2.2 41 3 = iv 1 ∧ H.2.2.2 41 4 = iv s2 ∧ (∀ j, H.2.2.2 44 j = h0.2.2.2 44 j) ∧ (∀ j, H.2.2.2 45 j = h0.2.2.2 45 j) ∧ fS H := by
  obtain ⟨S, B, w1, v6, f3, f4, g4, g5, dV, dY, z44, z45⟩ := C
  have f0 := t0.f hb
  refine ⟨(am_put (am_put (am_put (am_put (am_put (am_put (am_put (am_put (am_put (am_put (am_put (am_put (am_put h 41 5 (iv ((s : Int)))) 41 6 (iv ((e : Int)))) 41 2 (iv (k))) 43 4 (.int (t ||| ((Int32.ofInt 1) <<< ((Int32.ofInt ((l : Int))) &&& 31))))) 41 5 (iv ((s1 : Int)))) 41 6 (iv ((e1 : Int)))) 41 2 (iv (k1))) 46 l (iv (v1))) 41 5 (iv ((s2 : Int)))) 41 6 (iv ((e2 : Int)))) 41 2 (iv (k2))) 41 3 (iv 1)) 41 4 (iv ((s2 : Int)))), ?_, (ax_put_o (Or.inr (by decide)) (ax_put_s _ _ _)), (ax_put_s _ _ _), fun j => (ax_put_o (Or.inl (by decide)) (ax_put_o (Or.inl (by decide)) (ax_put_o (Or.inl (by decide)) (ax_put_o (Or.inl (by decide)) (ax_put_o (Or.inl (by decide)) (ax_put_o (Or.inl (by decide)) (ax_put_o (Or.inl (by decide)) (ax_put_o (Or.inl (by decide)) (ax_put_o (Or.inl (by decide)) (ax_put_o (Or.inl (by decide)) (ax_put_o (Or.inl (by decide)) (ax_put_o (Or.inl (by decide)) (ax_put_o (Or.inl (by decide)) (z44 j)))))))))))))), fun j => (ax_put_o (Or.inl (by decide)) (ax_put_o (Or.inl (by decide)) (ax_put_o (Or.inl (by decide)) (ax_put_o (Or.inl (by decide)) (ax_put_o (Or.inl (by decide)) (ax_put_o (Or.inl (by decide)) (ax_put_o (Or.inl (by decide)) (ax_put_o (Or.inl (by decide)) (ax_put_o (Or.inl (by decide)) (ax_put_o (Or.inl (by decide)) (ax_put_o (Or.inl (by decide)) (ax_put_o (Or.inl (by decide)) (ax_put_o (Or.inl (by decide)) (z45 j)))))))))))))), (((((((((((((S.po rfl rfl).po rfl rfl).po rfl rfl).po rfl rfl).po rfl rfl).po rfl rfl).po rfl rfl).pa rfl).po rfl rfl).po rfl rfl).po rfl rfl).po rfl rfl).po rfl rfl)⟩
  refine am_ev.step (pc' := 11) rfl rfl ?_
  refine fx_bip (p' := 13) rfl rfl rfl ?_
  refine fx_c_gt_F (pF := 16) rfl (by omega) (by omega) rfl (by omega) ?_
  refine am_ev.step (pc' := 17) rfl rfl ?_
  refine ax_call (z := 21) (p' := 20) (as := [_]) rfl (Or.inr (Or.inl ⟨_, rfl⟩)) rfl rfl rfl rfl rfl rfl (S.ob rfl) rfl (tk_21w S B hb hL w1 v6 t0) rfl ?_
  refine am_ev.step (pc' := 21) rfl rfl ?_
  refine ax_gf (p' := 24) rfl rfl (fO (fO (fO (S.ob rfl)))) (ax_put_s _ _ _) ?_
  refine fx_z_ne_T (pT := 33) rfl (by omega) rfl (by omega) ?_
  refine am_ev.step (pc' := 34) rfl rfl ?_
  refine ax_call (z := 25) (p' := 37) (as := [_]) rfl (Or.inl ⟨_, rfl⟩) rfl rfl rfl rfl rfl rfl rfl rfl (tk_25 (((S.po rfl rfl).po rfl rfl).po rfl rfl) (((B.put (by decide)).put (by decide)).put (by decide)) hb hL (ax_put_o (Or.inr (by decide)) (ax_put_o (Or.inr (by decide)) (ax_put_o (Or.inr (by decide)) w1))) (ax_put_s _ _ _) (ax_put_o (Or.inr (by decide)) (ax_put_o (Or.inr (by decide)) (ax_put_s _ _ _))) (ax_put_o (Or.inr (by decide)) (ax_put_s _ _ _)) ⟨f0.2.1, f0.2.2.1⟩ ⟨f0.2.2.2.1, by omega⟩ q) rfl ?_
  refine am_ev.step (pc' := 38) (ls' := [.ref 43, .ref 41, iv ((n : Int)), iv ((l : Int)), a4]) rfl rfl ?_
  refine am_ev.step (pc' := 39) rfl rfl ?_
  refine fx_bip (p' := 41) rfl rfl rfl ?_
  refine fx_c_ne_T (pT := 52) rfl (by omega) (by omega) rfl (by omega) ?_
  refine am_ev.step (pc' := 53) rfl rfl ?_
  refine am_ev.step (pc' := 54) rfl rfl ?_
  refine am_ev.step (pc' := 55) rfl rfl ?_
  refine ax_call (z := 33) (p' := 58) (as := [_, _, _]) rfl (Or.inr (Or.inl ⟨_, rfl⟩)) rfl rfl rfl rfl rfl rfl (fO (fO (fO (S.ob rfl)))) rfl (tk_33d (((S.po rfl rfl).po rfl rfl).po rfl rfl) (((B.put (by decide)).put (by decide)).put (by decide)) hb hL (ax_put_o (Or.inr (by decide)) (ax_put_o (Or.inr (by decide)) (ax_put_o (Or.inr (by decide)) w1))) (ax_put_o (Or.inr (by decide)) (ax_put_o (Or.inr (by decide)) (ax_put_s _ _ _))) (ax_put_o (Or.inr (by decide)) (ax_put_s _ _ _)) hl (ax_put_o (Or.inl (by decide)) (ax_put_o (Or.inl (by decide)) (ax_put_o (Or.inl (by decide)) g4))) q0 t1 q1 t2 q2) rfl ?_
  refine am_ev.step (pc' := 60) (ls' := [.ref 43, .ref 41, iv ((n : Int)), iv ((l : Int)), iv 0]) rfl rfl ?_
  refine am_ev.step (pc' := 62) rfl rfl ?_
  refine fx_z_ne_F (pF := 65) rfl (by omega) rfl (by omega) ?_
  refine am_ev.step (pc' := 66) rfl rfl ?_
  exact fx_reti rfl rfl rfl
theorem rl_Ffa (hb : tz_r b) (hL : L ≤ 1600) (C : CS h h0 b L p t u V Y) (hn : n ≤ 13) (t0 : tz_t b L p s e k v) (kn : k ≠ 0) (q : cl_r b s e k 7) (t1 : tz_t b L e s1 e1 k1 v1) (q1 : k1 ≠ 2) : ∃ H : am_H, am_ev (d + 7) 19 10 [.ref 43, .ref 41, iv ((n : Int)), a3, a4] [] h  (some (iv (-1)), H) ∧ H.2.2.2 41 3 = iv 1 ∧ H.2.2.2 41 4 = iv s1 ∧ (∀ j, H.2.2.2 44 j = h0.2.2.2 44 j) ∧ (∀ j, H.2.2.2 45 j = h0.2.2.2 45 j) ∧ fS H := by
  obtain ⟨S, B, w1, v6, f3, f4, g4, g5, dV, dY, z44, z45⟩ := C
  have f0 := t0.f hb
  refine ⟨(am_put (am_put (am_put (am_put (am_put (am_put (am_put (am_put h 41 5 (iv ((s : Int)))) 41 6 (iv ((e : Int)))) 41 2 (iv (k))) 41 5 (iv ((s1 : Int)))) 41 6 (iv ((e1 : Int)))) 41 2 (iv (k1))) 41 3 (iv 1)) 41 4 (iv ((s1 : Int)))), ?_, (ax_put_o (Or.inr (by decide)) (ax_put_s _ _ _)), (ax_put_s _ _ _), fun j => (ax_put_o (Or.inl (by decide)) (ax_put_o (Or.inl (by decide)) (ax_put_o (Or.inl (by decide)) (ax_put_o (Or.inl (by decide)) (ax_put_o (Or.inl (by decide)) (ax_put_o (Or.inl (by decide)) (ax_put_o (Or.inl (by decide)) (ax_put_o (Or.inl (by decide)) (z44 j))))))))), fun j => (ax_put_o (Or.inl (by decide)) (ax_put_o (Or.inl (by decide)) (ax_put_o (Or.inl (by decide)) (ax_put_o (Or.inl (by decide)) (ax_put_o (Or.inl (by decide)) (ax_put_o (Or.inl (by decide)) (ax_put_o (Or.inl (by decide)) (ax_put_o (Or.inl (by decide)) (z45 j))))))))), ((((((((S.po rfl rfl).po rfl rfl).po rfl rfl).po rfl rfl).po rfl rfl).po rfl rfl).po rfl rfl).po rfl rfl)⟩
  refine am_ev.step (pc' := 11) rfl rfl ?_
  refine fx_bip (p' := 13) rfl rfl rfl ?_
  refine fx_c_gt_F (pF := 16) rfl (by omega) (by omega) rfl (by omega) ?_
  refine am_ev.step (pc' := 17) rfl rfl ?_
  refine ax_call (z := 21) (p' := 20) (as := [_]) rfl (Or.inr (Or.inl ⟨_, rfl⟩)) rfl rfl rfl rfl rfl rfl (S.ob rfl) rfl (tk_21w S B hb hL w1 v6 t0) rfl ?_
  refine am_ev.step (pc' := 21) rfl rfl ?_
  refine ax_gf (p' := 24) rfl rfl (fO (fO (fO (S.ob rfl)))) (ax_put_s _ _ _) ?_
  refine fx_z_ne_T (pT := 33) rfl (by omega) rfl (by omega) ?_
  refine am_ev.step (pc' := 34) rfl rfl ?_
  refine ax_call (z := 25) (p' := 37) (as := [_]) rfl (Or.inl ⟨_, rfl⟩) rfl rfl rfl rfl rfl rfl rfl rfl (tk_25 (((S.po rfl rfl).po rfl rfl).po rfl rfl) (((B.put (by decide)).put (by decide)).put (by decide)) hb hL (ax_put_o (Or.inr (by decide)) (ax_put_o (Or.inr (by decide)) (ax_put_o (Or.inr (by decide)) w1))) (ax_put_s _ _ _) (ax_put_o (Or.inr (by decide)) (ax_put_o (Or.inr (by decide)) (ax_put_s _ _ _))) (ax_put_o (Or.inr (by decide)) (ax_put_s _ _ _)) ⟨f0.2.1, f0.2.2.1⟩ ⟨f0.2.2.2.1, by omega⟩ q) rfl ?_
  refine am_ev.step (pc' := 38) (ls' := [.ref 43, .ref 41, iv ((n : Int)), iv 7, a4]) rfl rfl ?_
  refine am_ev.step (pc' := 39) rfl rfl ?_
  refine fx_bip (p' := 41) rfl rfl rfl ?_
  refine fx_c_ne_F (pF := 44) rfl (by omega) (by omega) rfl (by omega) ?_
  refine am_ev.step (pc' := 45) rfl rfl ?_
  refine am_ev.step (pc' := 46) rfl rfl ?_
  refine ax_call (z := 27) (p' := 49) (as := [_, _]) rfl (Or.inr (Or.inl ⟨_, rfl⟩)) rfl rfl rfl rfl rfl rfl (fO (fO (fO (S.ob rfl)))) rfl (tk_27a (((S.po rfl rfl).po rfl rfl).po rfl rfl) (((B.put (by decide)).put (by decide)).put (by decide)) hb hL (ax_put_o (Or.inr (by decide)) (ax_put_o (Or.inr (by decide)) (ax_put_o (Or.inr (by decide)) w1))) (ax_put_o (Or.inr (by decide)) (ax_put_s _ _ _)) (ax_put_o (Or.inl (by decide)) (ax_put_o (Or.inl (by decide)) (ax_put_o (Or.inl (by decide)) g5))) t1 q1) rfl ?_
  refine am_ev.step (pc' := 58) rfl rfl ?_
  refine am_ev.step (pc' := 60) (ls' := [.ref 43, .ref 41, iv ((n : Int)), iv 7, iv 0]) rfl rfl ?_
  refine am_ev.step (pc' := 62) rfl rfl ?_
  refine fx_z_ne_F (pF := 65) rfl (by omega) rfl (by omega) ?_
  refine am_ev.step (pc' := 66) rfl rfl ?_
  exact fx_reti rfl rfl rfl
theorem rl_Ffb (hb : tz_r b) (hL : L ≤ 1600) (C : CS h h0 b L p t u V Y) (hn : n ≤ 13) (t0 : tz_t b L p s e k v) (kn : k ≠ 0) (q : cl_r b s e k 7) (t1 : tz_t b L e s1 e1 k1 v1) (q1 : k1 = 2 ∧ ¬ (0 ≤ v1 ∧ v1 ≤ 5)) : ∃ H : am_H, am_ev (d + 7) 19 10 [.ref 43, .ref 41, iv ((n : Int)), a3, a4] [] h  (some (iv (-1)), H) ∧ H.2.2.2 41 3 = iv 2 ∧ H.2.2.2 41 4 = iv s1 ∧ (∀ j, H.2.2.2 44 j = h0.2.2.2 44 j) ∧ (∀ j, H.2.2.2 45 j = h0.2.2.2 45 j) ∧ fS H := by
  obtain ⟨S, B, w1, v6, f3, f4, g4, g5, dV, dY, z44, z45⟩ := C
  have f0 := t0.f hb
  refine ⟨(am_put (am_put (am_put (am_put (am_put (am_put (am_put (am_put h 41 5 (iv ((s : Int)))) 41 6 (iv ((e : Int)))) 41 2 (iv (k))) 41 5 (iv ((s1 : Int)))) 41 6 (iv ((e1 : Int)))) 41 2 (iv (k1))) 41 3 (iv 2)) 41 4 (iv ((s1 : Int)))), ?_, (ax_put_o (Or.inr (by decide)) (ax_put_s _ _ _)), (ax_put_s _ _ _), fun j => (ax_put_o (Or.inl (by decide)) (ax_put_o (Or.inl (by decide)) (ax_put_o (Or.inl (by decide)) (ax_put_o (Or.inl (by decide)) (ax_put_o (Or.inl (by decide)) (ax_put_o (Or.inl (by decide)) (ax_put_o (Or.inl (by decide)) (ax_put_o (Or.inl (by decide)) (z44 j))))))))), fun j => (ax_put_o (Or.inl (by decide)) (ax_put_o (Or.inl (by decide)) (ax_put_o (Or.inl (by decide)) (ax_put_o (Or.inl (by decide)) (ax_put_o (Or.inl (by decide)) (ax_put_o (Or.inl (by decide)) (ax_put_o (Or.inl (by decide)) (ax_put_o (Or.inl (by decide)) (z45 j))))))))), ((((((((S.po rfl rfl).po rfl rfl).po rfl rfl).po rfl rfl).po rfl rfl).po rfl rfl).po rfl rfl).po rfl rfl)⟩
  refine am_ev.step (pc' := 11) rfl rfl ?_
  refine fx_bip (p' := 13) rfl rfl rfl ?_
  refine fx_c_gt_F (pF := 16) rfl (by omega) (by omega) rfl (by omega) ?_
  refine am_ev.step (pc' := 17) rfl rfl ?_
  refine ax_call (z := 21) (p' := 20) (as := [_]) rfl (Or.inr (Or.inl ⟨_, rfl⟩)) rfl rfl rfl rfl rfl rfl (S.ob rfl) rfl (tk_21w S B hb hL w1 v6 t0) rfl ?_
  refine am_ev.step (pc' := 21) rfl rfl ?_
  refine ax_gf (p' := 24) rfl rfl (fO (fO (fO (S.ob rfl)))) (ax_put_s _ _ _) ?_
  refine fx_z_ne_T (pT := 33) rfl (by omega) rfl (by omega) ?_
  refine am_ev.step (pc' := 34) rfl rfl ?_
  refine ax_call (z := 25) (p' := 37) (as := [_]) rfl (Or.inl ⟨_, rfl⟩) rfl rfl rfl rfl rfl rfl rfl rfl (tk_25 (((S.po rfl rfl).po rfl rfl).po rfl rfl) (((B.put (by decide)).put (by decide)).put (by decide)) hb hL (ax_put_o (Or.inr (by decide)) (ax_put_o (Or.inr (by decide)) (ax_put_o (Or.inr (by decide)) w1))) (ax_put_s _ _ _) (ax_put_o (Or.inr (by decide)) (ax_put_o (Or.inr (by decide)) (ax_put_s _ _ _))) (ax_put_o (Or.inr (by decide)) (ax_put_s _ _ _)) ⟨f0.2.1, f0.2.2.1⟩ ⟨f0.2.2.2.1, by omega⟩ q) rfl ?_
  refine am_ev.step (pc' := 38) (ls' := [.ref 43, .ref 41, iv ((n : Int)), iv 7, a4]) rfl rfl ?_
  refine am_ev.step (pc' := 39) rfl rfl ?_
  refine fx_bip (p' := 41) rfl rfl rfl ?_
  refine fx_c_ne_F (pF := 44) rfl (by omega) (by omega) rfl (by omega) ?_
  refine am_ev.step (pc' := 45) rfl rfl ?_
  refine am_ev.step (pc' := 46) rfl rfl ?_
  refine ax_call (z := 27) (p' := 49) (as := [_, _]) rfl (Or.inr (Or.inl ⟨_, rfl⟩)) rfl rfl rfl rfl rfl rfl (fO (fO (fO (S.ob rfl)))) rfl (tk_27b (((S.po rfl rfl).po rfl rfl).po rfl rfl) (((B.put (by decide)).put (by decide)).put (by decide)) hb hL (ax_put_o (Or.inr (by decide)) (ax_put_o (Or.inr (by decide)) (ax_put_o (Or.inr (by decide)) w1))) (ax_put_o (Or.inr (by decide)) (ax_put_s _ _ _)) (ax_put_o (Or.inl (by decide)) (ax_put_o (Or.inl (by decide)) (ax_put_o (Or.inl (by decide)) g5))) t1 q1) rfl ?_
  refine am_ev.step (pc' := 58) rfl rfl ?_
  refine am_ev.step (pc' := 60) (ls' := [.ref 43, .ref 41, iv ((n : Int)), iv 7, iv 0]) rfl rfl ?_
  refine am_ev.step (pc' := 62) rfl rfl ?_
  refine fx_z_ne_F (pF := 65) rfl (by omega) rfl (by omega) ?_
  refine am_ev.step (pc' := 66) rfl rfl ?_
  exact fx_reti rfl rfl rfl
theorem rl_Ffc (hb : tz_r b) (hL : L ≤ 1600) (C : CS h h0 b L p t u V Y) (hn : n ≤ 13) (t0 : tz_t b L p s e k v) (kn : k ≠ 0) (q : cl_r b s e k 7) (hl : l < 6) (t1 : tz_t b L e s1 e1 k1 (l : Int)) (q1 : k1 = 2) (q0 : bt u l = true) : ∃ H : am_H, am_ev (d + 7) 19 10 [.ref 43, .ref 41, iv ((n : Int)), a3, a4] [] h  (some (iv (-1)), H) ∧ H.2.2.2 41 3 = iv 3 ∧ H.2.2.2 41 4 = iv s1 ∧ (∀ j, H.2.2.2 44 j = h0.2.2.2 44 j) ∧ (∀ j, H.2.2.2 45 j = h0.2.2.2 45 j) ∧ fS H := by
  obtain ⟨S, B, w1, v6, f3, f4, g4, g5, dV, dY, z44, z45⟩ := C
  have f0 := t0.f hb
  refine ⟨(am_put (am_put (am_put (am_put (am_put (am_put (am_put (am_put h 41 5 (iv ((s : Int)))) 41 6 (iv ((e : Int)))) 41 2 (iv (k))) 41 5 (iv ((s1 : Int)))) 41 6 (iv ((e1 : Int)))) 41 2 (iv (k1))) 41 3 (iv 3)) 41 4 (iv ((s1 : Int)))), ?_, (ax_put_o (Or.inr (by decide)) (ax_put_s _ _ _)), (ax_put_s _ _ _), fun j => (ax_put_o (Or.inl (by decide)) (ax_put_o (Or.inl (by decide)) (ax_put_o (Or.inl (by decide)) (ax_put_o (Or.inl (by decide)) (ax_put_o (Or.inl (by decide)) (ax_put_o (Or.inl (by decide)) (ax_put_o (Or.inl (by decide)) (ax_put_o (Or.inl (by decide)) (z44 j))))))))), fun j => (ax_put_o (Or.inl (by decide)) (ax_put_o (Or.inl (by decide)) (ax_put_o (Or.inl (by decide)) (ax_put_o (Or.inl (by decide)) (ax_put_o (Or.inl (by decide)) (ax_put_o (Or.inl (by decide)) (ax_put_o (Or.inl (by decide)) (ax_put_o (Or.inl (by decide)) (z45 j))))))))), ((((((((S.po rfl rfl).po rfl rfl).po rfl rfl).po rfl rfl).po rfl rfl).po rfl rfl).po rfl rfl).po rfl rfl)⟩
  refine am_ev.step (pc' := 11) rfl rfl ?_
  refine fx_bip (p' := 13) rfl rfl rfl ?_
  refine fx_c_gt_F (pF := 16) rfl (by omega) (by omega) rfl (by omega) ?_
  refine am_ev.step (pc' := 17) rfl rfl ?_
  refine ax_call (z := 21) (p' := 20) (as := [_]) rfl (Or.inr (Or.inl ⟨_, rfl⟩)) rfl rfl rfl rfl rfl rfl (S.ob rfl) rfl (tk_21w S B hb hL w1 v6 t0) rfl ?_
  refine am_ev.step (pc' := 21) rfl rfl ?_
  refine ax_gf (p' := 24) rfl rfl (fO (fO (fO (S.ob rfl)))) (ax_put_s _ _ _) ?_
  refine fx_z_ne_T (pT := 33) rfl (by omega) rfl (by omega) ?_
  refine am_ev.step (pc' := 34) rfl rfl ?_
  refine ax_call (z := 25) (p' := 37) (as := [_]) rfl (Or.inl ⟨_, rfl⟩) rfl rfl rfl rfl rfl rfl rfl rfl (tk_25 (((S.po rfl rfl).po rfl rfl).po rfl rfl) (((B.put (by decide)).put (by decide)).put (by decide)) hb hL (ax_put_o (Or.inr (by decide)) (ax_put_o (Or.inr (by decide)) (ax_put_o (Or.inr (by decide)) w1))) (ax_put_s _ _ _) (ax_put_o (Or.inr (by decide)) (ax_put_o (Or.inr (by decide)) (ax_put_s _ _ _))) (ax_put_o (Or.inr (by decide)) (ax_put_s _ _ _)) ⟨f0.2.1, f0.2.2.1⟩ ⟨f0.2.2.2.1, by omega⟩ q) rfl ?_
  refine am_ev.step (pc' := 38) (ls' := [.ref 43, .ref 41, iv ((n : Int)), iv 7, a4]) rfl rfl ?_
  refine am_ev.step (pc' := 39) rfl rfl ?_
  refine fx_bip (p' := 41) rfl rfl rfl ?_
  refine fx_c_ne_F (pF := 44) rfl (by omega) (by omega) rfl (by omega) ?_
  refine am_ev.step (pc' := 45) rfl rfl ?_
  refine am_ev.step (pc' := 46) rfl rfl ?_
  refine ax_call (z := 27) (p' := 49) (as := [_, _]) rfl (Or.inr (Or.inl ⟨_, rfl⟩)) rfl rfl rfl rfl rfl rfl (fO (fO (fO (S.ob rfl)))) rfl (tk_27c (((S.po rfl rfl).po rfl rfl).po rfl rfl) (((B.put (by decide)).put (by decide)).put (by decide)) hb hL (ax_put_o (Or.inr (by decide)) (ax_put_o (Or.inr (by decide)) (ax_put_o (Or.inr (by decide)) w1))) (ax_put_o (Or.inr (by decide)) (ax_put_s _ _ _)) (ax_put_o (Or.inl (by decide)) (ax_put_o (Or.inl (by decide)) (ax_put_o (Or.inl (by decide)) g5))) hl t1 q1 q0) rfl ?_
  refine am_ev.step (pc' := 58) rfl rfl ?_
  refine am_ev.step (pc' := 60) (ls' := [.ref 43, .ref 41, iv ((n : Int)), iv 7, iv 0]) rfl rfl ?_
  refine am_ev.step (pc' := 62) rfl rfl ?_
  refine fx_z_ne_F (pF := 65) rfl (by omega) rfl (by omega) ?_
  refine am_ev.step (pc' := 66) rfl rfl ?_
  exact fx_reti rfl rfl rfl
theorem rl_Ffd (hb : tz_r b) (hL : L ≤ 1600) (C : CS h h0 b L p t u V Y) (hn : n ≤ 13) (t0 : tz_t b L p s e k v) (kn : k ≠ 0) (q : cl_r b s e k 7) (hl : l < 6) (t1 : tz_t b L e s1 e1 k1 (l : Int)) (q1 : k1 = 2) (q0 : bt u l = false) (t2 : tz_t b L e1 s2 e2 k2 v2) (q2 : k2 ≠ 2) : ∃ H : am_H, am_ev (d + 7) 19 10 [.ref 43, .ref 41, iv ((n : Int)), a3, a4] [] h  (some (iv (-1)), H) ∧ H.2.2.2 41 3 = iv 1 ∧ H.2.2.2 41 4 = iv s2 ∧ (∀ j, H.2.2.2 44 j = h0.2.2.2 44 j) ∧ (∀ j, H.2.2.2 45 j = h0.2.2.2 45 j) ∧ fS H := by
  obtain ⟨S, B, w1, v6, f3, f4, g4, g5, dV, dY, z44, z45⟩ := C
  have f0 := t0.f hb
  refine ⟨(am_put (am_put (am_put (am_put (am_put (am_put (am_put (am_put (am_put (am_put (am_put (am_put h 41 5 (iv ((s : Int)))) 41 6 (iv ((e : Int)))) 41 2 (iv (k))) 41 5 (iv ((s1 : Int)))) 41 6 (iv ((e1 : Int)))) 41 2 (iv (k1))) 43 5 (.int (u ||| ((Int32.ofInt 1) <<< ((Int32.ofInt ((l : Int))) &&& 31))))) 41 5 (iv ((s2 : Int)))) 41 6 (iv ((e2 : Int)))) 41 2 (iv (k2))) 41 3 (iv 1)) 41 4 (iv ((s2 : Int)))), ?_, (ax_put_o (Or.inr (by decide)) (ax_put_s _ _ _)), (ax_put_s _ _ _), fun j => (ax_put_o (Or.inl (by decide)) (ax_put_o (Or.inl (by decide)) (ax_put_o (Or.inl (by decide)) (ax_put_o (Or.inl (by decide)) (ax_put_o (Or.inl (by decide)) (ax_put_o (Or.inl (by decide)) (ax_put_o (Or.inl (by decide)) (ax_put_o (Or.inl (by decide)) (ax_put_o (Or.inl (by decide)) (ax_put_o (Or.inl (by decide)) (ax_put_o (Or.inl (by decide)) (ax_put_o (Or.inl (by decide)) (z44 j))))))))))))), fun j => (ax_put_o (Or.inl (by decide)) (ax_put_o (Or.inl (by decide)) (ax_put_o (Or.inl (by decide)) (ax_put_o (Or.inl (by decide)) (ax_put_o (Or.inl (by decide)) (ax_put_o (Or.inl (by decide)) (ax_put_o (Or.inl (by decide)) (ax_put_o (Or.inl (by decide)) (ax_put_o (Or.inl (by decide)) (ax_put_o (Or.inl (by decide)) (ax_put_o (Or.inl (by decide)) (ax_put_o (Or.inl (by decide)) (z45 j))))))))))))), ((((((((((((S.po rfl rfl).po rfl rfl).po rfl rfl).po rfl rfl).po rfl rfl).po rfl rfl).po rfl rfl).po rfl rfl).po rfl rfl).po rfl rfl).po rfl rfl).po rfl rfl)⟩
  refine am_ev.step (pc' := 11) rfl rfl ?_
  refine fx_bip (p' := 13) rfl rfl rfl ?_
  refine fx_c_gt_F (pF := 16) rfl (by omega) (by omega) rfl (by omega) ?_
  refine am_ev.step (pc' := 17) rfl rfl ?_
  refine ax_call (z := 21) (p' := 20) (as := [_]) rfl (Or.inr (Or.inl ⟨_, rfl⟩)) rfl rfl rfl rfl rfl rfl (S.ob rfl) rfl (tk_21w S B hb hL w1 v6 t0) rfl ?_
  refine am_ev.step (pc' := 21) rfl rfl ?_
  refine ax_gf (p' := 24) rfl rfl (fO (fO (fO (S.ob rfl)))) (ax_put_s _ _ _) ?_
  refine fx_z_ne_T (pT := 33) rfl (by omega) rfl (by omega) ?_
  refine am_ev.step (pc' := 34) rfl rfl ?_
  refine ax_call (z := 25) (p' := 37) (as := [_]) rfl (Or.inl ⟨_, rfl⟩) rfl rfl rfl rfl rfl rfl rfl rfl (tk_25 (((S.po rfl rfl).po rfl rfl).po rfl rfl) (((B.put (by decide)).put (by decide)).put (by decide)) hb hL (ax_put_o (Or.inr (by decide)) (ax_put_o (Or.inr (by decide)) (ax_put_o (Or.inr (by decide)) w1))) (ax_put_s _ _ _) (ax_put_o (Or.inr (by decide)) (ax_put_o (Or.inr (by decide)) (ax_put_s _ _ _))) (ax_put_o (Or.inr (by decide)) (ax_put_s _ _ _)) ⟨f0.2.1, f0.2.2.1⟩ ⟨f0.2.2.2.1, by omega⟩ q) rfl ?_
  refine am_ev.step (pc' := 38) (ls' := [.ref 43, .ref 41, iv ((n : Int)), iv 7, a4]) rfl rfl ?_
  refine am_ev.step (pc' := 39) rfl rfl ?_
  refine fx_bip (p' := 41) rfl rfl rfl ?_
  refine fx_c_ne_F (pF := 44) rfl (by omega) (by omega) rfl (by omega) ?_
  refine am_ev.step (pc' := 45) rfl rfl ?_
  refine am_ev.step (pc' := 46) rfl rfl ?_
  refine ax_call (z := 27) (p' := 49) (as := [_, _]) rfl (Or.inr (Or.inl ⟨_, rfl⟩)) rfl rfl rfl rfl rfl rfl (fO (fO (fO (S.ob rfl)))) rfl (tk_27d (((S.po rfl rfl).po rfl rfl).po rfl rfl) (((B.put (by decide)).put (by decide)).put (by decide)) hb hL (ax_put_o (Or.inr (by decide)) (ax_put_o (Or.inr (by decide)) (ax_put_o (Or.inr (by decide)) w1))) (ax_put_o (Or.inr (by decide)) (ax_put_s _ _ _)) (ax_put_o (Or.inl (by decide)) (ax_put_o (Or.inl (by decide)) (ax_put_o (Or.inl (by decide)) g5))) hl t1 q1 q0 t2 q2) rfl ?_
  refine am_ev.step (pc' := 58) rfl rfl ?_
  refine am_ev.step (pc' := 60) (ls' := [.ref 43, .ref 41, iv ((n : Int)), iv 7, iv 0]) rfl rfl ?_
  refine am_ev.step (pc' := 62) rfl rfl ?_
  refine fx_z_ne_F (pF := 65) rfl (by omega) rfl (by omega) ?_
  refine am_ev.step (pc' := 66) rfl rfl ?_
  exact fx_reti rfl rfl rfl
theorem rl_Ffe (hb : tz_r b) (hL : L ≤ 1600) (C : CS h h0 b L p t u V Y) (hn : n ≤ 13) (t0 : tz_t b L p s e k v) (kn : k ≠ 0) (q : cl_r b s e k 7) (hl : l < 6) (t1 : tz_t b L e s1 e1 k1 (l : Int)) (q1 : k1 = 2) (q0 : bt u l = false) (t2 : tz_t b L e1 s2 e2 k2 v2) (q2 : k2 = 2 ∧ ¬ (0 ≤ v2 ∧ v2 ≤ 99)) : ∃ H : am_H, am_ev (d + 7) 19 10 [.ref 43, .ref 41, iv ((n : Int)), a3, a4] [] h  (some (iv (-1)), H) ∧ H.2.2.2 41 3 = iv 2 ∧ H.2.2.2 41 4 = iv s2 ∧ (∀ j, H.2.2.2 44 j = h0.2.2.2 44 j) ∧ (∀ j, H.2.2.2 45 j = h0.2.2.2 45 j) ∧ fS H := by
  obtain ⟨S, B, w1, v6, f3, f4, g4, g5, dV, dY, z44, z45⟩ := C
  have f0 := t0.f hb
  refine ⟨(am_put (am_put (am_put (am_put (am_put (am_put (am_put (am_put (am_put (am_put (am_put (am_put h 41 5 (iv ((s : Int)))) 41 6 (iv ((e : Int)))) 41 2 (iv (k))) 41 5 (iv ((s1 : Int)))) 41 6 (iv ((e1 : Int)))) 41 2 (iv (k1))) 43 5 (.int (u ||| ((Int32.ofInt 1) <<< ((Int32.ofInt ((l : Int))) &&& 31))))) 41 5 (iv ((s2 : Int)))) 41 6 (iv ((e2 : Int)))) 41 2 (iv (k2))) 41 3 (iv 2)) 41 4 (iv ((s2 : Int)))), ?_, (ax_put_o (Or.inr (by decide)) (ax_put_s _ _ _)), (ax_put_s _ _ _), fun j => (ax_put_o (Or.inl (by decide)) (ax_put_o (Or.inl (by decide)) (ax_put_o (Or.inl (by decide)) (ax_put_o (Or.inl (by decide)) (ax_put_o (Or.inl (by decide)) (ax_put_o (Or.inl (by decide)) (ax_put_o (Or.inl (by decide)) (ax_put_o (Or.inl (by decide)) (ax_put_o (Or.inl (by decide)) (ax_put_o (Or.inl (by decide)) (ax_put_o (Or.inl (by decide)) (ax_put_o (Or.inl (by decide)) (z44 j))))))))))))), fun j => (ax_put_o (Or.inl (by decide)) (ax_put_o (Or.inl (by decide)) (ax_put_o (Or.inl (by decide)) (ax_put_o (Or.inl (by decide)) (ax_put_o (Or.inl (by decide)) (ax_put_o (Or.inl (by decide)) (ax_put_o (Or.inl (by decide)) (ax_put_o (Or.inl (by decide)) (ax_put_o (Or.inl (by decide)) (ax_put_o (Or.inl (by decide)) (ax_put_o (Or.inl (by decide)) (ax_put_o (Or.inl (by decide)) (z45 j))))))))))))), ((((((((((((S.po rfl rfl).po rfl rfl).po rfl rfl).po rfl rfl).po rfl rfl).po rfl rfl).po rfl rfl).po rfl rfl).po rfl rfl).po rfl rfl).po rfl rfl).po rfl rfl)⟩
  refine am_ev.step (pc' := 11) rfl rfl ?_
  refine fx_bip (p' := 13) rfl rfl rfl ?_
  refine fx_c_gt_F (pF := 16) rfl (by omega) (by omega) rfl (by omega) ?_
  refine am_ev.step (pc' := 17) rfl rfl ?_
  refine ax_call (z := 21) (p' := 20) (as := [_]) rfl (Or.inr (Or.inl ⟨_, rfl⟩)) rfl rfl rfl rfl rfl rfl (S.ob rfl) rfl (tk_21w S B hb hL w1 v6 t0) rfl ?_
  refine am_ev.step (pc' := 21) rfl rfl ?_
  refine ax_gf (p' := 24) rfl rfl (fO (fO (fO (S.ob rfl)))) (ax_put_s _ _ _) ?_
  refine fx_z_ne_T (pT := 33) rfl (by omega) rfl (by omega) ?_
  refine am_ev.step (pc' := 34) rfl rfl ?_
  refine ax_call (z := 25) (p' := 37) (as := [_]) rfl (Or.inl ⟨_, rfl⟩) rfl rfl rfl rfl rfl rfl rfl rfl (tk_25 (((S.po rfl rfl).po rfl rfl).po rfl rfl) (((B.put (by decide)).put (by decide)).put (by decide)) hb hL (ax_put_o (Or.inr (by decide)) (ax_put_o (Or.inr (by decide)) (ax_put_o (Or.inr (by decide)) w1))) (ax_put_s _ _ _) (ax_put_o (Or.inr (by decide)) (ax_put_o (Or.inr (by decide)) (ax_put_s _ _ _))) (ax_put_o (Or.inr (by decide)) (ax_put_s _ _ _)) ⟨f0.2.1, f0.2.2.1⟩ ⟨f0.2.2.2.1, by omega⟩ q) rfl ?_
  refine am_ev.step (pc' := 38) (ls' := [.ref 43, .ref 41, iv ((n : Int)), iv 7, a4]) rfl rfl ?_
  refine am_ev.step (pc' := 39) rfl rfl ?_
  refine fx_bip (p' := 41) rfl rfl rfl ?_
  refine fx_c_ne_F (pF := 44) rfl (by omega) (by omega) rfl (by omega) ?_
  refine am_ev.step (pc' := 45) rfl rfl ?_
  refine am_ev.step (pc' := 46) rfl rfl ?_
  refine ax_call (z := 27) (p' := 49) (as := [_, _]) rfl (Or.inr (Or.inl ⟨_, rfl⟩)) rfl rfl rfl rfl rfl rfl (fO (fO (fO (S.ob rfl)))) rfl (tk_27e (((S.po rfl rfl).po rfl rfl).po rfl rfl) (((B.put (by decide)).put (by decide)).put (by decide)) hb hL (ax_put_o (Or.inr (by decide)) (ax_put_o (Or.inr (by decide)) (ax_put_o (Or.inr (by decide)) w1))) (ax_put_o (Or.inr (by decide)) (ax_put_s _ _ _)) (ax_put_o (Or.inl (by decide)) (ax_put_o (Or.inl (by decide)) (ax_put_o (Or.inl (by decide)) g5))) hl t1 q1 q0 t2 q2) rfl ?_
  refine am_ev.step (pc' := 58) rfl rfl ?_
  refine am_ev.step (pc' := 60) (ls' := [.ref 43, .ref 41, iv ((n : Int)), iv 7, iv 0]) rfl rfl ?_
  refine am_ev.step (pc' := 62) rfl rfl ?_
  refine fx_z_ne_F (pF := 65) rfl (by omega) rfl (by omega) ?_
  refine am_ev.step (pc' := 66) rfl rfl ?_
  exact fx_reti rfl rfl rfl
theorem rl_Fff (hb : tz_r b) (hL : L ≤ 1600) (C : CS h h0 b L p t u V Y) (hn : n ≤ 13) (t0 : tz_t b L p s e k v) (kn : k ≠ 0) (q : cl_r b s e k 7) (hl : l < 6) (t1 : tz_t b L e s1 e1 k1 (l : Int)) (q1 : k1 = 2) (q0 : bt u l = false) (t2 : tz_t b L e1 s2 e2 k2 v2) (q2 : k2 = 2 ∧ 0 ≤ v2 ∧ v2 ≤ 99) (t3 : tz_t b L e2 s3 e3 k3 v3) (q3 : k3 ≠ 59) : ∃ H : am_H, am_ev (d + 7) 19 10 [.ref 43, .ref 41, iv ((n : Int)), a3, a4] [] h  (some (iv (-1)), H) ∧ H.2.2.2 41 3 = iv 1 ∧ H.2.2.2 41 4 = iv s3 ∧ (∀ j, H.2.2.2 44 j = h0.2.2.2 44 j) ∧ (∀ j, H.2.2.2 45 j = h0.2.2.2 45 j) ∧ fS H := by
  obtain ⟨S, B, w1, v6, f3, f4, g4, g5, dV, dY, z44, z45⟩ := C
  have f0 := t0.f hb
  refine ⟨(am_put (am_put (am_put (am_put (am_put (am_put (am_put (am_put (am_put (am_put (am_put (am_put (am_put (am_put (am_put (am_put h 41 5 (iv ((s : Int)))) 41 6 (iv ((e : Int)))) 41 2 (iv (k))) 41 5 (iv ((s1 : Int)))) 41 6 (iv ((e1 : Int)))) 41 2 (iv (k1))) 43 5 (.int (u ||| ((Int32.ofInt 1) <<< ((Int32.ofInt ((l : Int))) &&& 31))))) 41 5 (iv ((s2 : Int)))) 41 6 (iv ((e2 : Int)))) 41 2 (iv (k2))) 47 l (iv (v2))) 41 5 (iv ((s3 : Int)))) 41 6 (iv ((e3 : Int)))) 41 2 (iv (k3))) 41 3 (iv 1)) 41 4 (iv ((s3 : Int)))), ?_, (ax_put_o (Or.inr (by decide)) (ax_put_s _ _ _)), (ax_put_s _ _ _), fun j => (ax_put_o (Or.inl (by decide)) (ax_put_o (Or.inl (by decide)) (ax_put_o (Or.inl (by decide)) (ax_put_o (Or.inl (by decide)) (ax_put_o (Or.inl (by decide)) (ax_put_o (Or.inl (by decide)) (ax_put_o (Or.inl (by decide)) (ax_put_o (Or.inl (by decide)) (ax_put_o (Or.inl (by decide)) (ax_put_o (Or.inl (by decide)) (ax_put_o (Or.inl (by decide)) (ax_put_o (Or.inl (by decide)) (ax_put_o (Or.inl (by decide)) (ax_put_o (Or.inl (by decide)) (ax_put_o (Or.inl (by decide)) (ax_put_o (Or.inl (by decide)) (z44 j))))))))))))))))), fun j => (ax_put_o (Or.inl (by decide)) (ax_put_o (Or.inl (by decide)) (ax_put_o (Or.inl (by decide)) (ax_put_o (Or.inl (by decide)) (ax_put_o (Or.inl (by decide)) (ax_put_o (Or.inl (by decide)) (ax_put_o (Or.inl (by decide)) (ax_put_o (Or.inl (by decide)) (ax_put_o (Or.inl (by decide)) (ax_put_o (Or.inl (by decide)) (ax_put_o (Or.inl (by decide)) (ax_put_o (Or.inl (by decide)) (ax_put_o (Or.inl (by decide)) (ax_put_o (Or.inl (by decide)) (ax_put_o (Or.inl (by decide)) (ax_put_o (Or.inl (by decide)) (z45 j))))))))))))))))), ((((((((((((((((S.po rfl rfl).po rfl rfl).po rfl rfl).po rfl rfl).po rfl rfl).po rfl rfl).po rfl rfl).po rfl rfl).po rfl rfl).po rfl rfl).pa rfl).po rfl rfl).po rfl rfl).po rfl rfl).po rfl rfl).po rfl rfl)⟩
  refine am_ev.step (pc' := 11) rfl rfl ?_
  refine fx_bip (p' := 13) rfl rfl rfl ?_
  refine fx_c_gt_F (pF := 16) rfl (by omega) (by omega) rfl (by omega) ?_
  refine am_ev.step (pc' := 17) rfl rfl ?_
  refine ax_call (z := 21) (p' := 20) (as := [_]) rfl (Or.inr (Or.inl ⟨_, rfl⟩)) rfl rfl rfl rfl rfl rfl (S.ob rfl) rfl (tk_21w S B hb hL w1 v6 t0) rfl ?_
  refine am_ev.step (pc' := 21) rfl rfl ?_
  refine ax_gf (p' := 24) rfl rfl (fO (fO (fO (S.ob rfl)))) (ax_put_s _ _ _) ?_
  refine fx_z_ne_T (pT := 33) rfl (by omega) rfl (by omega) ?_
  refine am_ev.step (pc' := 34) rfl rfl ?_
  refine ax_call (z := 25) (p' := 37) (as := [_]) rfl (Or.inl ⟨_, rfl⟩) rfl rfl rfl rfl rfl rfl rfl rfl (tk_25 (((S.po rfl rfl).po rfl rfl).po rfl rfl) (((B.put (by decide)).put (by decide)).put (by decide)) hb hL (ax_put_o (Or.inr (by decide)) (ax_put_o (Or.inr (by decide)) (ax_put_o (Or.inr (by decide)) w1))) (ax_put_s _ _ _) (ax_put_o (Or.inr (by decide)) (ax_put_o (Or.inr (by decide)) (ax_put_s _ _ _))) (ax_put_o (Or.inr (by decide)) (ax_put_s _ _ _)) ⟨f0.2.1, f0.2.2.1⟩ ⟨f0.2.2.2.1, by omega⟩ q) rfl ?_
  refine am_ev.step (pc' := 38) (ls' := [.ref 43, .ref 41, iv ((n : Int)), iv 7, a4]) rfl rfl ?_
  refine am_ev.step (pc' := 39) rfl rfl ?_
  refine fx_bip (p' := 41) rfl rfl rfl ?_
  refine fx_c_ne_F (pF := 44) rfl (by omega) (by omega) rfl (by omega) ?_
  refine am_ev.step (pc' := 45) rfl rfl ?_
  refine am_ev.step (pc' := 46) rfl rfl ?_
  refine ax_call (z := 27) (p' := 49) (as := [_, _]) rfl (Or.inr (Or.inl ⟨_, rfl⟩)) rfl rfl rfl rfl rfl rfl (fO (fO (fO (S.ob rfl)))) rfl (tk_27f (((S.po rfl rfl).po rfl rfl).po rfl rfl) (((B.put (by decide)).put (by decide)).put (by decide)) hb hL (ax_put_o (Or.inr (by decide)) (ax_put_o (Or.inr (by decide)) (ax_put_o (Or.inr (by decide)) w1))) (ax_put_o (Or.inr (by decide)) (ax_put_s _ _ _)) (ax_put_o (Or.inl (by decide)) (ax_put_o (Or.inl (by decide)) (ax_put_o (Or.inl (by decide)) g5))) hl t1 q1 q0 t2 q2 t3 q3) rfl ?_
  refine am_ev.step (pc' := 58) rfl rfl ?_
  refine am_ev.step (pc' := 60) (ls' := [.ref 43, .ref 41, iv ((n : Int)), iv 7, iv 0]) rfl rfl ?_
  refine am_ev.step (pc' := 62) rfl rfl ?_
  refine fx_z_ne_F (pF := 65) rfl (by omega) rfl (by omega) ?_
  refine am_ev.step (pc' := 66) rfl rfl ?_
  exact fx_reti rfl rfl rfl
theorem rl_Nv (hb : tz_r b) (hL : L ≤ 1600) (C : CS h h0 b L p t u V Y) (hn : n ≤ 13) (t0 : tz_t b L p s e k v) (kn : k ≠ 0) (hl : l < 7) (q : cl_r b s e k l) (q0 : bt t l = false) (t1 : tz_t b L e s1 e1 k1 v1) (q1 : k1 = 2 ∧ cq_sv 2 l ≤ v1 ∧ v1 ≤ cq_sv 3 l) (t2 : tz_t b L e1 s2 e2 k2 v2) (q2 : k2 = 59) : ∃ H : am_H, CS H h0 b L e2 (t ||| ((Int32.ofInt 1) <<< ((Int32.ofInt ((l : Int))) &&& 31))) u (up1 V l v1) Y ∧ ∀ x, am_ev (d + 7) 19 10 [.ref 43, .ref 41, iv ((n : Int) + 1), iv ((l : Int)), iv 1] [] H x → am_ev (d + 7) 19 10 [.ref 43, .ref 41, iv ((n : Int)), a3, a4] [] h  x := by
  obtain ⟨S, B, w1, v6, f3, f4, g4, g5, dV, dY, z44, z45⟩ := C
  have f0 := t0.f hb
  refine ⟨(am_put (am_put (am_put (am_put (am_put (am_put (am_put (am_put (am_put (am_put (am_put h 41 5 (iv ((s : Int)))) 41 6 (iv ((e : Int)))) 41 2 (iv (k))) 43 4 (.int (t ||| ((Int32.ofInt 1) <<< ((Int32.ofInt ((l : Int))) &&& 31))))) 41 5 (iv ((s1 : Int)))) 41 6 (iv ((e1 : Int)))) 41 2 (iv (k1))) 46 l (iv (v1))) 41 5 (iv ((s2 : Int)))) 41 6 (iv ((e2 : Int)))) 41 2 (iv (k2))), ⟨(((((((((((S.po rfl rfl).po rfl rfl).po rfl rfl).po rfl rfl).po rfl rfl).po rfl rfl).po rfl rfl).pa rfl).po rfl rfl).po rfl rfl).po rfl rfl), (((((((((((B.put (by decide)).put (by decide)).put (by decide)).put (by decide)).put (by decide)).put (by decide)).put (by decide)).put (by decide)).put (by decide)).put (by decide)).put (by decide)), (ax_put_o (Or.inr (by decide)) (ax_put_o (Or.inr (by decide)) (ax_put_o (Or.inr (by decide)) (ax_put_o (Or.inl (by decide)) (ax_put_o (Or.inr (by decide)) (ax_put_o (Or.inr (by decide)) (ax_put_o (Or.inr (by decide)) (ax_put_o (Or.inl (by decide)) (ax_put_o (Or.inr (by decide)) (ax_put_o (Or.inr (by decide)) (ax_put_o (Or.inr (by decide)) w1))))))))))), (ax_put_o (Or.inr (by decide)) (ax_put_s _ _ _)), (ax_put_o (Or.inr (by decide)) (ax_put_o (Or.inr (by decide)) (ax_put_o (Or.inr (by decide)) (ax_put_o (Or.inl (by decide)) (ax_put_o (Or.inr (by decide)) (ax_put_o (Or.inr (by decide)) (ax_put_o (Or.inr (by decide)) (ax_put_o (Or.inl (by decide)) (ax_put_o (Or.inr (by decide)) (ax_put_o (Or.inr (by decide)) (ax_put_o (Or.inr (by decide)) f3))))))))))), (ax_put_o (Or.inr (by decide)) (ax_put_o (Or.inr (by decide)) (ax_put_o (Or.inr (by decide)) (ax_put_o (Or.inl (by decide)) (ax_put_o (Or.inr (by decide)) (ax_put_o (Or.inr (by decide)) (ax_put_o (Or.inr (by decide)) (ax_put_o (Or.inl (by decide)) (ax_put_o (Or.inr (by decide)) (ax_put_o (Or.inr (by decide)) (ax_put_o (Or.inr (by decide)) f4))))))))))), (ax_put_o (Or.inl (by decide)) (ax_put_o (Or.inl (by decide)) (ax_put_o (Or.inl (by decide)) (ax_put_o (Or.inl (by decide)) (ax_put_o (Or.inl (by decide)) (ax_put_o (Or.inl (by decide)) (ax_put_o (Or.inl (by decide)) (ax_put_s _ _ _)))))))), (ax_put_o (Or.inl (by decide)) (ax_put_o (Or.inl (by decide)) (ax_put_o (Or.inl (by decide)) (ax_put_o (Or.inl (by decide)) (ax_put_o (Or.inl (by decide)) (ax_put_o (Or.inl (by decide)) (ax_put_o (Or.inl (by decide)) (ax_put_o (Or.inr (by decide)) (ax_put_o (Or.inl (by decide)) (ax_put_o (Or.inl (by decide)) (ax_put_o (Or.inl (by decide)) g5))))))))))), (fun j hj => by
      by_cases ej : j = l
      · subst ej
        rw [show up1 V j v1 j = v1 from if_pos rfl]
        exact (ax_put_o (Or.inl (by decide)) (ax_put_o (Or.inl (by decide)) (ax_put_o (Or.inl (by decide)) (ax_put_s _ _ _))))
      · rw [show up1 V l v1 j = V j from if_neg ej]
        exact (ax_put_o (Or.inl (by decide)) (ax_put_o (Or.inl (by decide)) (ax_put_o (Or.inl (by decide)) (ax_put_o (Or.inr ej) (ax_put_o (Or.inl (by decide)) (ax_put_o (Or.inl (by decide)) (ax_put_o (Or.inl (by decide)) (ax_put_o (Or.inl (by decide)) (ax_put_o (Or.inl (by decide)) (ax_put_o (Or.inl (by decide)) (ax_put_o (Or.inl (by decide)) (dV j hj))))))))))))), (fun j hj => (ax_put_o (Or.inl (by decide)) (ax_put_o (Or.inl (by decide)) (ax_put_o (Or.inl (by decide)) (ax_put_o (Or.inl (by decide)) (ax_put_o (Or.inl (by decide)) (ax_put_o (Or.inl (by decide)) (ax_put_o (Or.inl (by decide)) (ax_put_o (Or.inl (by decide)) (ax_put_o (Or.inl (by decide)) (ax_put_o (Or.inl (by decide)) (ax_put_o (Or.inl (by decide)) (dY j hj))))))))))))), (fun j => (ax_put_o (Or.inl (by decide)) (ax_put_o (Or.inl (by decide)) (ax_put_o (Or.inl (by decide)) (ax_put_o (Or.inl (by decide)) (ax_put_o (Or.inl (by decide)) (ax_put_o (Or.inl (by decide)) (ax_put_o (Or.inl (by decide)) (ax_put_o (Or.inl (by decide)) (ax_put_o (Or.inl (by decide)) (ax_put_o (Or.inl (by decide)) (ax_put_o (Or.inl (by decide)) (z44 j))))))))))))), (fun j => (ax_put_o (Or.inl (by decide)) (ax_put_o (Or.inl (by decide)) (ax_put_o (Or.inl (by decide)) (ax_put_o (Or.inl (by decide)) (ax_put_o (Or.inl (by decide)) (ax_put_o (Or.inl (by decide)) (ax_put_o (Or.inl (by decide)) (ax_put_o (Or.inl (by decide)) (ax_put_o (Or.inl (by decide)) (ax_put_o (Or.inl (by decide)) (ax_put_o (Or.inl (by decide)) (z45 j)))))))))))))⟩, fun x q9 => ?_⟩
  refine am_ev.step (pc' := 11) rfl rfl ?_
  refine fx_bip (p' := 13) rfl rfl rfl ?_
  refine fx_c_gt_F (pF := 16) rfl (by omega) (by omega) rfl (by omega) ?_
  refine am_ev.step (pc' := 17) rfl rfl ?_
  refine ax_call (z := 21) (p' := 20) (as := [_]) rfl (Or.inr (Or.inl ⟨_, rfl⟩)) rfl rfl rfl rfl rfl rfl (S.ob rfl) rfl (tk_21w S B hb hL w1 v6 t0) rfl ?_
  refine am_ev.step (pc' := 21) rfl rfl ?_
  refine ax_gf (p' := 24) rfl rfl (fO (fO (fO (S.ob rfl)))) (ax_put_s _ _ _) ?_
  refine fx_z_ne_T (pT := 33) rfl (by omega) rfl (by omega) ?_
  refine am_ev.step (pc' := 34) rfl rfl ?_
  refine ax_call (z := 25) (p' := 37) (as := [_]) rfl (Or.inl ⟨_, rfl⟩) rfl rfl rfl rfl rfl rfl rfl rfl (tk_25 (((S.po rfl rfl).po rfl rfl).po rfl rfl) (((B.put (by decide)).put (by decide)).put (by decide)) hb hL (ax_put_o (Or.inr (by decide)) (ax_put_o (Or.inr (by decide)) (ax_put_o (Or.inr (by decide)) w1))) (ax_put_s _ _ _) (ax_put_o (Or.inr (by decide)) (ax_put_o (Or.inr (by decide)) (ax_put_s _ _ _))) (ax_put_o (Or.inr (by decide)) (ax_put_s _ _ _)) ⟨f0.2.1, f0.2.2.1⟩ ⟨f0.2.2.2.1, by omega⟩ q) rfl ?_
  refine am_ev.step (pc' := 38) (ls' := [.ref 43, .ref 41, iv ((n : Int)), iv ((l : Int)), a4]) rfl rfl ?_
  refine am_ev.step (pc' := 39) rfl rfl ?_
  refine fx_bip (p' := 41) rfl rfl rfl ?_
  refine fx_c_ne_T (pT := 52) rfl (by omega) (by omega) rfl (by omega) ?_
  refine am_ev.step (pc' := 53) rfl rfl ?_
  refine am_ev.step (pc' := 54) rfl rfl ?_
  refine am_ev.step (pc' := 55) rfl rfl ?_
  refine ax_call (z := 33) (p' := 58) (as := [_, _, _]) rfl (Or.inr (Or.inl ⟨_, rfl⟩)) rfl rfl rfl rfl rfl rfl (fO (fO (fO (S.ob rfl)))) rfl (tk_33e (((S.po rfl rfl).po rfl rfl).po rfl rfl) (((B.put (by decide)).put (by decide)).put (by decide)) hb hL (ax_put_o (Or.inr (by decide)) (ax_put_o (Or.inr (by decide)) (ax_put_o (Or.inr (by decide)) w1))) (ax_put_o (Or.inr (by decide)) (ax_put_o (Or.inr (by decide)) (ax_put_s _ _ _))) (ax_put_o (Or.inr (by decide)) (ax_put_s _ _ _)) hl (ax_put_o (Or.inl (by decide)) (ax_put_o (Or.inl (by decide)) (ax_put_o (Or.inl (by decide)) g4))) q0 t1 q1 t2 q2) rfl ?_
  refine am_ev.step (pc' := 60) (ls' := [.ref 43, .ref 41, iv ((n : Int)), iv ((l : Int)), iv 1]) rfl rfl ?_
  refine am_ev.step (pc' := 62) rfl rfl ?_
  refine fx_z_ne_T (pT := 67) rfl (by omega) rfl (by omega) ?_
  refine fx_inc (p' := 70) (e := ((n : Int) + 1)) (ls' := [.ref 43, .ref 41, iv ((n : Int) + 1), iv ((l : Int)), iv 1]) rfl rfl rfl (by omega) rfl ?_
  refine am_ev.step (pc' := 10) rfl rfl ?_
  exact q9
theorem rl_Nf (hb : tz_r b) (hL : L ≤ 1600) (C : CS h h0 b L p t u V Y) (hn : n ≤ 13) (t0 : tz_t b L p s e k v) (kn : k ≠ 0) (q : cl_r b s e k 7) (hl : l < 6) (t1 : tz_t b L e s1 e1 k1 (l : Int)) (q1 : k1 = 2) (q0 : bt u l = false) (t2 : tz_t b L e1 s2 e2 k2 v2) (q2 : k2 = 2 ∧ 0 ≤ v2 ∧ v2 ≤ 99) (t3 : tz_t b L e2 s3 e3 k3 v3) (q3 : k3 = 59) : ∃ H : am_H, CS H h0 b L e3 t (u ||| ((Int32.ofInt 1) <<< ((Int32.ofInt ((l : Int))) &&& 31))) V (up1 Y l v2) ∧ ∀ x, am_ev (d + 7) 19 10 [.ref 43, .ref 41, iv ((n : Int) + 1), iv 7, iv 1] [] H x → am_ev (d + 7) 19 10 [.ref 43, .ref 41, iv ((n : Int)), a3, a4] [] h  x := by
  obtain ⟨S, B, w1, v6, f3, f4, g4, g5, dV, dY, z44, z45⟩ := C
  have f0 := t0.f hb
  refine ⟨(am_put (am_put (am_put (am_put (am_put (am_put (am_put (am_put (am_put (am_put (am_put (am_put (am_put (am_put h 41 5 (iv ((s : Int)))) 41 6 (iv ((e : Int)))) 41 2 (iv (k))) 41 5 (iv ((s1 : Int)))) 41 6 (iv ((e1 : Int)))) 41 2 (iv (k1))) 43 5 (.int (u ||| ((Int32.ofInt 1) <<< ((Int32.ofInt ((l : Int))) &&& 31))))) 41 5 (iv ((s2 : Int)))) 41 6 (iv ((e2 : Int)))) 41 2 (iv (k2))) 47 l (iv (v2))) 41 5 (iv ((s3 : Int)))) 41 6 (iv ((e3 : Int)))) 41 2 (iv (k3))), ⟨((((((((((((((S.po rfl rfl).po rfl rfl).po rfl rfl).po rfl rfl).po rfl rfl).po rfl rfl).po rfl rfl).po rfl rfl).po rfl rfl).po rfl rfl).pa rfl).po rfl rfl).po rfl rfl).po rfl rfl), ((((((((((((((B.put (by decide)).put (by decide)).put (by decide)).put (by decide)).put (by decide)).put (by decide)).put (by decide)).put (by decide)).put (by decide)).put (by decide)).put (by decide)).put (by decide)).put (by decide)).put (by decide)), (ax_put_o (Or.inr (by decide)) (ax_put_o (Or.inr (by decide)) (ax_put_o (Or.inr (by decide)) (ax_put_o (Or.inl (by decide)) (ax_put_o (Or.inr (by decide)) (ax_put_o (Or.inr (by decide)) (ax_put_o (Or.inr (by decide)) (ax_put_o (Or.inl (by decide)) (ax_put_o (Or.inr (by decide)) (ax_put_o (Or.inr (by decide)) (ax_put_o (Or.inr (by decide)) (ax_put_o (Or.inr (by decide)) (ax_put_o (Or.inr (by decide)) (ax_put_o (Or.inr (by decide)) w1)))))))))))))), (ax_put_o (Or.inr (by decide)) (ax_put_s _ _ _)), (ax_put_o (Or.inr (by decide)) (ax_put_o (Or.inr (by decide)) (ax_put_o (Or.inr (by decide)) (ax_put_o (Or.inl (by decide)) (ax_put_o (Or.inr (by decide)) (ax_put_o (Or.inr (by decide)) (ax_put_o (Or.inr (by decide)) (ax_put_o (Or.inl (by decide)) (ax_put_o (Or.inr (by decide)) (ax_put_o (Or.inr (by decide)) (ax_put_o (Or.inr (by decide)) (ax_put_o (Or.inr (by decide)) (ax_put_o (Or.inr (by decide)) (ax_put_o (Or.inr (by decide)) f3)))))))))))))), (ax_put_o (Or.inr (by decide)) (ax_put_o (Or.inr (by decide)) (ax_put_o (Or.inr (by decide)) (ax_put_o (Or.inl (by decide)) (ax_put_o (Or.inr (by decide)) (ax_put_o (Or.inr (by decide)) (ax_put_o (Or.inr (by decide)) (ax_put_o (Or.inl (by decide)) (ax_put_o (Or.inr (by decide)) (ax_put_o (Or.inr (by decide)) (ax_put_o (Or.inr (by decide)) (ax_put_o (Or.inr (by decide)) (ax_put_o (Or.inr (by decide)) (ax_put_o (Or.inr (by decide)) f4)))))))))))))), (ax_put_o (Or.inl (by decide)) (ax_put_o (Or.inl (by decide)) (ax_put_o (Or.inl (by decide)) (ax_put_o (Or.inl (by decide)) (ax_put_o (Or.inl (by decide)) (ax_put_o (Or.inl (by decide)) (ax_put_o (Or.inl (by decide)) (ax_put_o (Or.inr (by decide)) (ax_put_o (Or.inl (by decide)) (ax_put_o (Or.inl (by decide)) (ax_put_o (Or.inl (by decide)) (ax_put_o (Or.inl (by decide)) (ax_put_o (Or.inl (by decide)) (ax_put_o (Or.inl (by decide)) g4)))))))))))))), (ax_put_o (Or.inl (by decide)) (ax_put_o (Or.inl (by decide)) (ax_put_o (Or.inl (by decide)) (ax_put_o (Or.inl (by decide)) (ax_put_o (Or.inl (by decide)) (ax_put_o (Or.inl (by decide)) (ax_put_o (Or.inl (by decide)) (ax_put_s _ _ _)))))))), (fun j hj => (ax_put_o (Or.inl (by decide)) (ax_put_o (Or.inl (by decide)) (ax_put_o (Or.inl (by decide)) (ax_put_o (Or.inl (by decide)) (ax_put_o (Or.inl (by decide)) (ax_put_o (Or.inl (by decide)) (ax_put_o (Or.inl (by decide)) (ax_put_o (Or.inl (by decide)) (ax_put_o (Or.inl (by decide)) (ax_put_o (Or.inl (by decide)) (ax_put_o (Or.inl (by decide)) (ax_put_o (Or.inl (by decide)) (ax_put_o (Or.inl (by decide)) (ax_put_o (Or.inl (by decide)) (dV j hj)))))))))))))))), (fun j hj => by
      by_cases ej : j = l
      · subst ej
        rw [show up1 Y j v2 j = v2 from if_pos rfl]
        exact (ax_put_o (Or.inl (by decide)) (ax_put_o (Or.inl (by decide)) (ax_put_o (Or.inl (by decide)) (ax_put_s _ _ _))))
      · rw [show up1 Y l v2 j = Y j from if_neg ej]
        exact (ax_put_o (Or.inl (by decide)) (ax_put_o (Or.inl (by decide)) (ax_put_o (Or.inl (by decide)) (ax_put_o (Or.inr ej) (ax_put_o (Or.inl (by decide)) (ax_put_o (Or.inl (by decide)) (ax_put_o (Or.inl (by decide)) (ax_put_o (Or.inl (by decide)) (ax_put_o (Or.inl (by decide)) (ax_put_o (Or.inl (by decide)) (ax_put_o (Or.inl (by decide)) (ax_put_o (Or.inl (by decide)) (ax_put_o (Or.inl (by decide)) (ax_put_o (Or.inl (by decide)) (dY j hj)))))))))))))))), (fun j => (ax_put_o (Or.inl (by decide)) (ax_put_o (Or.inl (by decide)) (ax_put_o (Or.inl (by decide)) (ax_put_o (Or.inl (by decide)) (ax_put_o (Or.inl (by decide)) (ax_put_o (Or.inl (by decide)) (ax_put_o (Or.inl (by decide)) (ax_put_o (Or.inl (by decide)) (ax_put_o (Or.inl (by decide)) (ax_put_o (Or.inl (by decide)) (ax_put_o (Or.inl (by decide)) (ax_put_o (Or.inl (by decide)) (ax_put_o (Or.inl (by decide)) (ax_put_o (Or.inl (by decide)) (z44 j)))))))))))))))), (fun j => (ax_put_o (Or.inl (by decide)) (ax_put_o (Or.inl (by decide)) (ax_put_o (Or.inl (by decide)) (ax_put_o (Or.inl (by decide)) (ax_put_o (Or.inl (by decide)) (ax_put_o (Or.inl (by decide)) (ax_put_o (Or.inl (by decide)) (ax_put_o (Or.inl (by decide)) (ax_put_o (Or.inl (by decide)) (ax_put_o (Or.inl (by decide)) (ax_put_o (Or.inl (by decide)) (ax_put_o (Or.inl (by decide)) (ax_put_o (Or.inl (by decide)) (ax_put_o (Or.inl (by decide)) (z45 j))))))))))))))))⟩, fun x q9 => ?_⟩
  refine am_ev.step (pc' := 11) rfl rfl ?_
  refine fx_bip (p' := 13) rfl rfl rfl ?_
  refine fx_c_gt_F (pF := 16) rfl (by omega) (by omega) rfl (by omega) ?_
  refine am_ev.step (pc' := 17) rfl rfl ?_
  refine ax_call (z := 21) (p' := 20) (as := [_]) rfl (Or.inr (Or.inl ⟨_, rfl⟩)) rfl rfl rfl rfl rfl rfl (S.ob rfl) rfl (tk_21w S B hb hL w1 v6 t0) rfl ?_
  refine am_ev.step (pc' := 21) rfl rfl ?_
  refine ax_gf (p' := 24) rfl rfl (fO (fO (fO (S.ob rfl)))) (ax_put_s _ _ _) ?_
  refine fx_z_ne_T (pT := 33) rfl (by omega) rfl (by omega) ?_
  refine am_ev.step (pc' := 34) rfl rfl ?_
  refine ax_call (z := 25) (p' := 37) (as := [_]) rfl (Or.inl ⟨_, rfl⟩) rfl rfl rfl rfl rfl rfl rfl rfl (tk_25 (((S.po rfl rfl).po rfl rfl).po rfl rfl) (((B.put (by decide)).put (by decide)).put (by decide)) hb hL (ax_put_o (Or.inr (by decide)) (ax_put_o (Or.inr (by decide)) (ax_put_o (Or.inr (by decide)) w1))) (ax_put_s _ _ _) (ax_put_o (Or.inr (by decide)) (ax_put_o (Or.inr (by decide)) (ax_put_s _ _ _))) (ax_put_o (Or.inr (by decide)) (ax_put_s _ _ _)) ⟨f0.2.1, f0.2.2.1⟩ ⟨f0.2.2.2.1, by omega⟩ q) rfl ?_
  refine am_ev.step (pc' := 38) (ls' := [.ref 43, .ref 41, iv ((n : Int)), iv 7, a4]) rfl rfl ?_
  refine am_ev.step (pc' := 39) rfl rfl ?_
  refine fx_bip (p' := 41) rfl rfl rfl ?_
  refine fx_c_ne_F (pF := 44) rfl (by omega) (by omega) rfl (by omega) ?_
  refine am_ev.step (pc' := 45) rfl rfl ?_
  refine am_ev.step (pc' := 46) rfl rfl ?_
  refine ax_call (z := 27) (p' := 49) (as := [_, _]) rfl (Or.inr (Or.inl ⟨_, rfl⟩)) rfl rfl rfl rfl rfl rfl (fO (fO (fO (S.ob rfl)))) rfl (tk_27g (((S.po rfl rfl).po rfl rfl).po rfl rfl) (((B.put (by decide)).put (by decide)).put (by decide)) hb hL (ax_put_o (Or.inr (by decide)) (ax_put_o (Or.inr (by decide)) (ax_put_o (Or.inr (by decide)) w1))) (ax_put_o (Or.inr (by decide)) (ax_put_s _ _ _)) (ax_put_o (Or.inl (by decide)) (ax_put_o (Or.inl (by decide)) (ax_put_o (Or.inl (by decide)) g5))) hl t1 q1 q0 t2 q2 t3 q3) rfl ?_
  refine am_ev.step (pc' := 58) rfl rfl ?_
  refine am_ev.step (pc' := 60) (ls' := [.ref 43, .ref 41, iv ((n : Int)), iv 7, iv 1]) rfl rfl ?_
  refine am_ev.step (pc' := 62) rfl rfl ?_
  refine fx_z_ne_T (pT := 67) rfl (by omega) rfl (by omega) ?_
  refine fx_inc (p' := 70) (e := ((n : Int) + 1)) (ls' := [.ref 43, .ref 41, iv ((n : Int) + 1), iv 7, iv 1]) rfl rfl rfl (by omega) rfl ?_
  refine am_ev.step (pc' := 10) rfl rfl ?_
  exact q9
end RLB
end
