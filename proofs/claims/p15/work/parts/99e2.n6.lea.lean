/-! LEAVES, both sides: a clause -/
/-- a clause is read alike -/
def RC (d : Nat) (h g h0 g0 : am_H) (q : Nat) (b : Nat → Int) (L l : Nat) (τ : Nat → Int) (Φ : Nat → Value) : Prop := ∃ H M : am_H,
  (∃ (p' s' e' : Nat) (k' v' w' : Int) (Φ' : Nat → Value), am_ev (d + 8) 78 0 (am_ent [.ref q, iv l, .ref 41] 3) [] h (some (iv 1), H) ∧ lC H h0 q b L p' Φ' ∧ (∀ x, am_ev (d + 9) 209 79 [.ref 78, iv l] [] M x → am_ev (d + 9) 209 136 [.ref 78, iv l] [] g x) ∧ lM M g0 b L p' s' e' k' v' w' τ Φ' ∧ (l ≠ 5 → Φ' 8 = Φ 8)) ∨
  (∃ (f : Int) (s' : Nat), am_ev (d + 8) 78 0 (am_ent [.ref q, iv l, .ref 41] 3) [] h (some (iv 0), H) ∧ lX H h0 q f s' ∧ am_ev (d + 9) 209 136 [.ref 78, iv l] [] g (some (.retAddr (79 + 1)), M) ∧ lY M g0 f s')
section RCA
variable {d : Nat} {h g h0 g0 H M : am_H} {q : Nat} {b : Nat → Int} {L l p s e p' s' e' : Nat} {k v w k' v' w' f : Int} {τ : Nat → Int} {Φ Φ' : Nat → Value}
/-- both have read the clause; the sign behind it decides -/
theorem RC_end (hb : tz_r b) (hL : L ≤ 1600) (Sg : fS g) (hf : l ≠ 5 → Φ' 8 = Φ 8) (N : k' = 59 → ∃ H : am_H, am_ev (d + 8) 78 0 (am_ent [.ref q, iv l, .ref 41] 3) [] h (some (iv 1), H) ∧ lC H h0 q b L e' Φ') (Xx : k' ≠ 59 → ∃ H : am_H, am_ev (d + 8) 78 0 (am_ent [.ref q, iv l, .ref 41] 3) [] h (some (iv 0), H) ∧ lX H h0 q 1 s') (z : am_ev (d + 8) 211 0 (am_ent [.ref 78, iv l] 2) [] g (none, M)) (K : lM M g0 b L p' s' e' k' v' w' τ Φ') : RC d h g h0 g0 q b L l τ Φ := by
  by_cases k59 : k' = 59
  · obtain ⟨H, a1, a2⟩ := N k59
    have f0 := K.2.2.2.1.f5 hb
    obtain ⟨s1, e1, k1, v1, t1⟩ := tz_t_ex (b := b) f0.2.2.1
    exact ⟨H, _, Or.inl ⟨e', s1, e1, k1, v1, _, Φ', a1, a2, fun x q9 => lg_n (d := d + 1) hb hL K Sg k59 t1 z q9, lM_M1 K t1, hf⟩⟩
  · obtain ⟨H, a1, a2⟩ := Xx k59
    exact ⟨H, _, Or.inr ⟨1, s', a1, a2, lg_u (d := d + 1) hb hL K Sg k59 z, lM_FM K⟩⟩
theorem RC_thr (Sg : fS g) {H M : am_H} {s' : Nat} (a1 : am_ev (d + 8) 78 0 (am_ent [.ref q, iv l, .ref 41] 3) [] h (some (iv 0), H)) (a2 : lX H h0 q f s') (z : am_ev (d + 8) 211 0 (am_ent [.ref 78, iv l] 2) [] g (some (.retAddr (79 + 1)), M)) (K : lY M g0 f s') : RC d h g h0 g0 q b L l τ Φ := ⟨H, M, Or.inr ⟨f, s', a1, a2, lg_t (d := d + 1) Sg K.1 z, K⟩⟩
theorem rc_0 (hb : tz_r b) (hL : L ≤ 1600) (C : lC h h0 q b L p Φ) (K : lM g g0 b L p s e k v w τ Φ) : RC d h g h0 g0 q b L 0 τ Φ := by
  have O : am_isO h q 4 = true := C.2.2.2.2.2.2.2.1
  have hq : 130 ≤ q := C.2.2.2.2.2.2.2.2.1
  obtain ⟨H, M, ⟨t, p1, s1, e1, v1, w1, x1, x2, ne, hi, cH, mM⟩ | ⟨t, p1, s1, e1, k1, v1, w1, x1, x2, n59, cH, mM⟩ | ⟨f, s1, x1, x2, cH, mM⟩⟩ := br_all (d := d + 4) (g := 5) hb hL (by decide) (lC_ct C) (lM_mt K)
  · have C' := lC_cT C cH
    have a1 := lf_78_0a (d := d + 5) O cH.1 C'.2.2.2.2.2.2.2.1 hq (lf_79 x1) ne
    have z := lg_211_0n (d := d + 7) K.1 mM.1 (lg_212 x2)
    exact RC_end hb hL K.1 (fun _ => if_neg (by decide)) (fun _ => ⟨_, a1, lC_pu C' (i := 2) (by decide)⟩) (fun n => absurd rfl n) z (lM_pu (lM_mT K mM) (i := 2) (by decide) (mM.1.pa rfl))
  · have O' : am_isO H q 4 = true := by
      have z := cH.2.2.2.1
      unfold am_isO at O ⊢
      rw [z.1, z.2]
      exact O
    have a1 := lf_78_0b (d := d + 5) O cH.1 O' hq (lf_79 x1)
    have z := lg_211_0n (d := d + 7) K.1 mM.1 (lg_212 x2)
    exact RC_end hb hL K.1 (Φ' := upV Φ 2 (.int t)) (fun _ => if_neg (by decide)) (fun n => absurd n n59) (fun _ => ⟨_, a1, lX_pu (lC_cX C cH)⟩) z (lM_pu (lM_mT K mM) (i := 2) (by decide) (mM.1.pa rfl))
  · have O' : am_isO H q 4 = true := by
      have z := cH.2.2.2.1
      unfold am_isO at O ⊢
      rw [z.1, z.2]
      exact O
    have a1 := lf_78_0b (d := d + 5) O cH.1 O' hq (lf_79 x1)
    exact RC_thr K.1 a1 (lX_pu (lC_cX C cH)) (lg_211_0t (d := d + 7) K.1 mM.1 (lg_212 x2)) (lM_mX K mM)
theorem rc_3 (hb : tz_r b) (hL : L ≤ 1600) (C : lC h h0 q b L p Φ) (K : lM g g0 b L p s e k v w τ Φ) : RC d h g h0 g0 q b L 3 τ Φ := by
  have O : am_isO h q 4 = true := C.2.2.2.2.2.2.2.1
  have hq : 130 ≤ q := C.2.2.2.2.2.2.2.2.1
  obtain ⟨H, M, ⟨t, p1, s1, e1, v1, w1, x1, x2, ne, hi, cH, mM⟩ | ⟨t, p1, s1, e1, k1, v1, w1, x1, x2, n59, cH, mM⟩ | ⟨f, s1, x1, x2, cH, mM⟩⟩ := br_all (d := d + 4) (g := 19) hb hL (by decide) (lC_ct C) (lM_mt K)
  · have C' := lC_cT C cH
    have a1 := lf_78_3a (d := d + 5) O cH.1 C'.2.2.2.2.2.2.2.1 hq (lf_79 x1) ne
    have z := lg_211_3n (d := d + 7) K.1 mM.1 (lg_212 x2)
    exact RC_end hb hL K.1 (fun _ => if_neg (by decide)) (fun _ => ⟨_, a1, lC_pu C' (i := 6) (by decide)⟩) (fun n => absurd rfl n) z (lM_pu (lM_mT K mM) (i := 6) (by decide) (mM.1.pa rfl))
  · have O' : am_isO H q 4 = true := by
      have z := cH.2.2.2.1
      unfold am_isO at O ⊢
      rw [z.1, z.2]
      exact O
    have a1 := lf_78_3b (d := d + 5) O cH.1 O' hq (lf_79 x1)
    have z := lg_211_3n (d := d + 7) K.1 mM.1 (lg_212 x2)
    exact RC_end hb hL K.1 (Φ' := upV Φ 6 (.int t)) (fun _ => if_neg (by decide)) (fun n => absurd n n59) (fun _ => ⟨_, a1, lX_pu (lC_cX C cH)⟩) z (lM_pu (lM_mT K mM) (i := 6) (by decide) (mM.1.pa rfl))
  · have O' : am_isO H q 4 = true := by
      have z := cH.2.2.2.1
      unfold am_isO at O ⊢
      rw [z.1, z.2]
      exact O
    have a1 := lf_78_3b (d := d + 5) O cH.1 O' hq (lf_79 x1)
    exact RC_thr K.1 a1 (lX_pu (lC_cX C cH)) (lg_211_3t (d := d + 7) K.1 mM.1 (lg_212 x2)) (lM_mX K mM)
theorem rc_1 (hb : tz_r b) (hL : L ≤ 1600) (C : lC h h0 q b L p Φ) (K : lM g g0 b L p s e k v w τ Φ) : RC d h g h0 g0 q b L 1 τ Φ := by
  have C0 := C
  have K0 := K
  obtain ⟨S, B, w1, v6, f3, f4, sz, O, hq, -⟩ := C
  have t0 : tz_t b L p s e k v := K.2.2.2.1
  have f0 := t0.f5 hb
  by_cases k2 : k = 2
  · have ew : w = v := K.2.2.2.2.2.2.2.2.1 k2
    subst ew
    by_cases r : 0 ≤ w ∧ w ≤ 29999
    · obtain ⟨s1, e1, k1, v1, t1⟩ := tz_t_ex (b := b) f0.2.2.1
      have z := lg_211_1c (d := d + 2) hb hL K k2 r t1
      exact RC_end hb hL K.1 (fun _ => if_neg (by decide)) (fun n => ⟨_, lf_78_1_1 (d := d + 7) O (le_81e (d := d + 4) S B hb hL w1 v6 O hq t0 ⟨k2, r⟩ t1 n), lC_T1 (lC_pu (lC_T1 C0) (i := 3) (by decide))⟩) (fun n => ⟨_, lf_78_1_0 (d := d + 7) O (le_81d (d := d + 4) S B hb hL w1 v6 O hq t0 ⟨k2, r⟩ t1 n), lC_FL (lC_T1 (lC_pu (lC_T1 C0) (i := 3) (by decide)))⟩) z (lM_pu (lM_M1 K0 t1) (i := 3) (by decide) ((lM_M1 K0 t1).1.pa rfl))
    · exact RC_thr K.1 (lf_78_1_0 (d := d + 7) O (le_81b (d := d + 4) S B hb hL w1 v6 O hq t0 ⟨k2, r⟩)) (lC_FL (lC_T1 C0)) (lg_211_1b (d := d + 2) hb hL K k2 r) (lM_FM K0)
  · exact RC_thr K.1 (lf_78_1_0 (d := d + 7) O (le_81a (d := d + 4) S B hb hL w1 v6 O hq t0 k2)) (lC_FL (lC_T1 C0)) (lg_211_1a (d := d + 2) hb hL K k2) (lM_FM K0)
theorem rc_4 (hb : tz_r b) (hL : L ≤ 1600) (C : lC h h0 q b L p Φ) (K : lM g g0 b L p s e k v w τ Φ) : RC d h g h0 g0 q b L 4 τ Φ := by
  have C0 := C
  have K0 := K
  obtain ⟨S, B, w1, v6, f3, f4, sz, O, hq, -⟩ := C
  have t0 : tz_t b L p s e k v := K.2.2.2.1
  have f0 := t0.f5 hb
  by_cases k2 : k = 2
  · have ew : w = v := K.2.2.2.2.2.2.2.2.1 k2
    subst ew
    by_cases r : 0 ≤ w ∧ w ≤ 2
    · obtain ⟨s1, e1, k1, v1, t1⟩ := tz_t_ex (b := b) f0.2.2.1
      have z := lg_211_4c (d := d + 2) hb hL K k2 r t1
      exact RC_end hb hL K.1 (fun _ => if_neg (by decide)) (fun n => ⟨_, lf_78_4_1 (d := d + 7) O (le_83e (d := d + 4) S B hb hL w1 v6 O hq t0 ⟨k2, r⟩ t1 n), lC_T1 (lC_pu (lC_T1 C0) (i := 7) (by decide))⟩) (fun n => ⟨_, lf_78_4_0 (d := d + 7) O (le_83d (d := d + 4) S B hb hL w1 v6 O hq t0 ⟨k2, r⟩ t1 n), lC_FL (lC_T1 (lC_pu (lC_T1 C0) (i := 7) (by decide)))⟩) z (lM_pu (lM_M1 K0 t1) (i := 7) (by decide) ((lM_M1 K0 t1).1.pa rfl))
    · exact RC_thr K.1 (lf_78_4_0 (d := d + 7) O (le_83b (d := d + 4) S B hb hL w1 v6 O hq t0 ⟨k2, r⟩)) (lC_FL (lC_T1 C0)) (lg_211_4b (d := d + 2) hb hL K k2 r) (lM_FM K0)
  · exact RC_thr K.1 (lf_78_4_0 (d := d + 7) O (le_83a (d := d + 4) S B hb hL w1 v6 O hq t0 k2)) (lC_FL (lC_T1 C0)) (lg_211_4a (d := d + 2) hb hL K k2) (lM_FM K0)
theorem rc_2 (hb : tz_r b) (hL : L ≤ 1600) (C : lC h h0 q b L p Φ) (K : lM g g0 b L p s e k v w τ Φ) : RC d h g h0 g0 q b L 2 τ Φ := by
  have C0 := C
  have K0 := K
  obtain ⟨S, B, w1, v6, f3, f4, sz, O, hq, -⟩ := C
  have t0 : tz_t b L p s e k v := K.2.2.2.1
  have f0 := t0.f5 hb
  by_cases k2 : k = 2
  · have ew : w = v := K.2.2.2.2.2.2.2.2.1 k2
    subst ew
    by_cases r : 0 ≤ w ∧ w ≤ 9999
    · obtain ⟨s1, e1, k1, v1, t1⟩ := tz_t_ex (b := b) f0.2.2.1
      have f1 := t1.f5 hb
      have CA := lC_T1 (lC_pu (lC_T1 C0 (s := s) (e := e) (k := k)) (i := 4) (v := iv w) (by decide)) (s := s1) (e := e1) (k := k1)
      have KA := lM_pu (lM_M1 K0 t1) (i := 4) (u := iv w) (by decide) ((lM_M1 K0 t1).1.pa rfl)
      obtain ⟨c, qc⟩ := cl_f_ex b s1 e1 k1
      have qc' := qc
      rcases qc' with ⟨m, hm, rfl, -⟩ | ⟨rfl, -⟩
      · obtain ⟨s2, e2, k3, v2, t2⟩ := tz_t_ex (b := b) f1.2.2.1
        have hm3 : m = 0 ∨ m = 1 ∨ m = 2 := by omega
        rcases hm3 with rfl | rfl | rfl
        · have CB := lC_T1 (lC_pu CA (i := 5) (v := iv 0) (by decide)) (s := s2) (e := e2) (k := k3)
          have KB := lM_pu KA (i := 5) (u := iv 0) (by decide) (KA.1.pa rfl)
          exact RC_end hb hL K.1 (fun _ => Eq.trans (if_neg (by decide)) (if_neg (by decide))) (fun n => ⟨_, lf_78_2_1 (d := d + 7) O (le_82e0 (d := d + 1) S B hb hL w1 v6 O hq t0 ⟨k2, r⟩ t1 qc t2 n), CB⟩) (fun n => ⟨_, lf_78_2_0 (d := d + 7) O (le_82d0 (d := d + 1) S B hb hL w1 v6 O hq t0 ⟨k2, r⟩ t1 qc t2 n), lC_FL CB⟩) (lg_211_2m0 (d := d + 2) hb hL K k2 r t1 qc t2) (lM_M1 KB t2)
        · have CB := lC_T1 (lC_pu CA (i := 5) (v := iv 1) (by decide)) (s := s2) (e := e2) (k := k3)
          have KB := lM_pu KA (i := 5) (u := iv 1) (by decide) (KA.1.pa rfl)
          exact RC_end hb hL K.1 (fun _ => Eq.trans (if_neg (by decide)) (if_neg (by decide))) (fun n => ⟨_, lf_78_2_1 (d := d + 7) O (le_82e1 (d := d + 1) S B hb hL w1 v6 O hq t0 ⟨k2, r⟩ t1 qc t2 n), CB⟩) (fun n => ⟨_, lf_78_2_0 (d := d + 7) O (le_82d1 (d := d + 1) S B hb hL w1 v6 O hq t0 ⟨k2, r⟩ t1 qc t2 n), lC_FL CB⟩) (lg_211_2m1 (d := d + 2) hb hL K k2 r t1 qc t2) (lM_M1 KB t2)
        · have CB := lC_T1 (lC_pu CA (i := 5) (v := iv 2) (by decide)) (s := s2) (e := e2) (k := k3)
          have KB := lM_pu KA (i := 5) (u := iv 2) (by decide) (KA.1.pa rfl)
          exact RC_end hb hL K.1 (fun _ => Eq.trans (if_neg (by decide)) (if_neg (by decide))) (fun n => ⟨_, lf_78_2_1 (d := d + 7) O (le_82e2 (d := d + 1) S B hb hL w1 v6 O hq t0 ⟨k2, r⟩ t1 qc t2 n), CB⟩) (fun n => ⟨_, lf_78_2_0 (d := d + 7) O (le_82d2 (d := d + 1) S B hb hL w1 v6 O hq t0 ⟨k2, r⟩ t1 qc t2 n), lC_FL CB⟩) (lg_211_2m2 (d := d + 2) hb hL K k2 r t1 qc t2) (lM_M1 KB t2)
      · have KB := lM_pu KA (i := 5) (u := iv 2) (by decide) (KA.1.pa rfl)
        exact RC_thr K.1 (lf_78_2_0 (d := d + 7) O (le_82x (d := d + 1) S B hb hL w1 v6 O hq t0 ⟨k2, r⟩ t1 qc)) (lC_FL CA) (lg_211_2x (d := d + 2) hb hL K k2 r t1 qc) (lM_FM KB)
    · exact RC_thr K.1 (lf_78_2_0 (d := d + 7) O (le_82b (d := d + 1) S B hb hL w1 v6 O hq t0 ⟨k2, r⟩)) (lC_FL (lC_T1 C0)) (lg_211_2b (d := d + 2) hb hL K k2 r) (lM_FM K0)
  · exact RC_thr K.1 (lf_78_2_0 (d := d + 7) O (le_82a (d := d + 1) S B hb hL w1 v6 O hq t0 k2)) (lC_FL (lC_T1 C0)) (lg_211_2a (d := d + 2) hb hL K k2) (lM_FM K0)
theorem rc_5 (hb : tz_r b) (hL : L ≤ 1600) (C : lC h h0 q b L p Φ) (K : lM g g0 b L p s e k v w τ Φ) (z8 : Φ 8 = iv 0) : RC d h g h0 g0 q b L 5 τ Φ := by
  have O : am_isO h q 4 = true := C.2.2.2.2.2.2.2.1
  have hq : 130 ≤ q := C.2.2.2.2.2.2.2.2.1
  have t0 : tz_t b L p s e k v := K.2.2.2.1
  by_cases k1 : k = 1
  · have K0 : mC g g b L p s e k v w 0 := by
      obtain ⟨S, B, w3, t0, w4, w5, w6, w7, ya, yb, f8, f9, zt, dT, F, fr⟩ := K
      exact ⟨S, B, w3, t0, w4, w5, w6, w7, ya, yb, f8, f9, zt, (F 8 (by decide) (by decide)).trans z8, fun _ _ _ _ => rfl⟩
    obtain ⟨H, M, ⟨n, p1, s1, e1, v1, w1, x1, x2, cH, mM⟩ | ⟨n, p1, s1, e1, k3, v1, w1, x1, x2, n59, cH, mM⟩ | ⟨f, s1, x1, x2, cH, mM⟩⟩ := cr_loop (d := d + 4) hb hL hq 6 0 p s e k v w h g (iv 5) (by omega) (by omega) (fun _ => k1) O O (lC_ct C) K0
    · exact RC_end hb hL K.1 (fun n => absurd rfl n) (fun _ => ⟨_, lf_78_5_1 (d := d + 7) O (lf_84 x1), lC_pu (lC_cT C cH) (i := 8) (by decide)⟩) (fun n => absurd rfl n) (lg_211_5n (d := d + 2) hb hL K k1 x2) (lM_mC K mM)
    · exact RC_end hb hL K.1 (fun n => absurd rfl n) (fun n => absurd n n59) (fun _ => ⟨_, lf_78_5_0 (d := d + 7) O (lf_84 x1), lC_cX C cH⟩) (lg_211_5n (d := d + 2) hb hL K k1 x2) (lM_mC K mM)
    · exact RC_thr K.1 (lf_78_5_0 (d := d + 7) O (lf_84 x1)) (lC_cX C cH) (lg_211_5n (d := d + 2) hb hL K k1 x2) (lM_mCX K mM)
  · obtain ⟨H, x1, cH⟩ := cc_A0 (d := d + 5) (n := 0) hb hL (lC_ct C) t0 O hq rfl k1
    exact RC_thr K.1 (lf_78_5_0 (d := d + 7) O (lf_84 x1)) (lC_cX C cH) (lg_211_5a (d := d + 2) hb hL K k1) (lM_FM K)
/-- all clauses -/
def LR (d : Nat) (h g h0 g0 : am_H) (q : Nat) (b : Nat → Int) (L : Nat) (l1 l2 : List Value) : Prop := ∃ H M : am_H,
  (∃ (p s e p' : Nat) (k v w : Int) (τ : Nat → Int) (Φ : Nat → Value), am_ev (d + 9) 76 8 l1 [] h (some (iv 1), H) ∧ am_ev (d + 9) 209 79 l2 [] g (none, M) ∧ lC H h0 q b L p Φ ∧ lM M g0 b L p' s e k v w τ Φ) ∨
  (∃ (f : Int) (s : Nat), am_ev (d + 9) 76 8 l1 [] h (some (iv 0), H) ∧ am_ev (d + 9) 209 79 l2 [] g (some (.retAddr (79 + 1)), M) ∧ lX H h0 q f s ∧ lY M g0 f s)
theorem lr_loop (hb : tz_r b) (hL : L ≤ 1600) : ∀ (m n p s e : Nat) (t : Int32) (k v w : Int) (τ : Nat → Int) (Φ : Nat → Value) (h g : am_H) (a4 a1 : Value), 7 - n ≤ m → cnt τ 6 = (n : Int) → (∀ i, i < 6 → τ i = 0 ∨ τ i = 1) → (∀ i, i < 6 → (bt t i = true ↔ τ i = 1)) → (τ 5 = 0 → Φ 8 = iv 0) → lC h h0 q b L p Φ → lM g g0 b L p s e k v w τ Φ → LR d h g h0 g0 q b L [.ref q, .ref 41, .int t, iv n, a4] [.ref 78, a1]
  | 0, n, p, s, e, t, k, v, w, τ, Φ, h, g, a4, a1, hm, hc, hτ, ht, h8, C, K => by
    have := cnt_b 6 hτ
    omega
  | m + 1, n, p, s, e, t, k, v, w, τ, Φ, h, g, a4, a1, hm, hc, hτ, ht, h8, C, K => by
    have hn : n ≤ 6 := by
      have := cnt_b 6 hτ
      omega
    have t0 : tz_t b L p s e k v := K.2.2.2.1
    have f0 := t0.f5 hb
    by_cases kn : k = 0
    · exact ⟨_, _, Or.inl ⟨_, s, e, p, k, v, w, τ, Φ, lf_E (d := d + 1) (a4 := a4) hb hL C hn t0 kn, lg_E (d := d + 1) (a1 := a1) hb hL K kn, lC_T1 C, K⟩⟩
    · obtain ⟨c, qc⟩ := cl_l_ex b s e k
      have qc' := qc
      rcases qc' with ⟨l, hl, rfl, -⟩ | ⟨rfl, -⟩
      · rcases hτ l hl with q0 | q0
        · have q0c : bt t l = false := by
            cases z : bt t l with
            | false => rfl
            | true =>
              have := (ht l hl).1 z
              omega
          obtain ⟨s1, e1, k1, v1, t1⟩ := tz_t_ex (b := b) f0.2.2.1
          have C1 := lC_T1 C (s := s) (e := e) (k := k)
          have K1 := lM_M1 (lM_pt K (i := l)) t1
          have R : RC d (T1 h s e k) (M1 (am_put g 85 l (iv 1)) s1 e1 (tH k1) (tV b L s1 w)) h0 g0 q b L l (up1 τ l 1) Φ := by
            have hl6 : l = 0 ∨ l = 1 ∨ l = 2 ∨ l = 3 ∨ l = 4 ∨ l = 5 := by omega
            rcases hl6 with rfl | rfl | rfl | rfl | rfl | rfl
            · exact rc_0 hb hL C1 K1
            · exact rc_1 hb hL C1 K1
            · exact rc_2 hb hL C1 K1
            · exact rc_3 hb hL C1 K1
            · exact rc_4 hb hL C1 K1
            · exact rc_5 hb hL C1 K1 (h8 q0)
          obtain ⟨H, M, ⟨p', s', e', k', v', w', Φ', a, C2, b2, K2, h5⟩ | ⟨f, s', a, X, b2, Y⟩⟩ := R
          · have cu := cnt_u (τ := τ) (c := l) (v := 1) 6 hl
            have IH := lr_loop hb hL m (n + 1) p' s' e' (t ||| (Int32.ofInt 1 <<< (Int32.ofInt (l : Int) &&& 31))) k' v' w' (up1 τ l 1) Φ' H M (iv l) (iv l) (by omega) (by omega) (fun i hi => by
              by_cases z : i = l
              · exact Or.inr (if_pos z)
              · rw [show up1 τ l 1 i = τ i from if_neg z]
                exact hτ i hi) (fun i hi => by
              rw [b_set (by omega) (by omega)]
              by_cases z : i = l
              · rw [z, show up1 τ l 1 l = 1 from if_pos rfl]
                simp
              · rw [show up1 τ l 1 i = τ i from if_neg z, decide_eq_false z, Bool.or_false]
                exact ht i hi) (fun z => by
              by_cases l5 : l = 5
              · rw [l5, show up1 τ 5 1 5 = 1 from if_pos rfl] at z
                omega
              · rw [show up1 τ l 1 5 = τ 5 from if_neg (by omega)] at z
                rw [h5 l5]
                exact h8 z) C2 K2
            have sA : ∀ x, am_ev (d + 9) 76 8 [.ref q, .ref 41, .int (t ||| (Int32.ofInt 1 <<< (Int32.ofInt (l : Int) &&& 31))), iv ((n + 1 : Nat) : Int), iv l] [] H x → am_ev (d + 9) 76 8 [.ref q, .ref 41, .int t, iv n, a4] [] h x := fun x y => lf_n (d := d + 1) hb hL C hn t0 kn hl qc q0c a (rr_n ▸ y)
            have sB : ∀ x, am_ev (d + 9) 209 79 [.ref 78, iv l] [] M x → am_ev (d + 9) 209 79 [.ref 78, a1] [] g x := fun x y => lg_c (d := d + 1) hb hL K kn hl qc q0 t1 (b2 x y)
            obtain ⟨H', M', ⟨p2, s2, e2, p2', k2, v2, w2, τ2, Φ2, x1, x2, x3⟩ | ⟨f, s2, x1, x2, x3⟩⟩ := IH
            · exact ⟨H', M', Or.inl ⟨p2, s2, e2, p2', k2, v2, w2, τ2, Φ2, sA _ x1, sB _ x2, x3⟩⟩
            · exact ⟨H', M', Or.inr ⟨f, s2, sA _ x1, sB _ x2, x3⟩⟩
          · exact ⟨H, M, Or.inr ⟨f, s', lf_f (d := d + 1) hb hL C hn t0 kn hl qc q0c a, lg_c (d := d + 1) hb hL K kn hl qc q0 t1 b2, X, Y⟩⟩
        · exact ⟨_, _, Or.inr ⟨3, s, lf_a (d := d + 1) hb hL C hn t0 kn hl qc ((ht l hl).2 q0), lg_a (d := d + 1) hb hL K kn hl qc q0, lC_FL (lC_T1 C), lM_FM K⟩⟩
      · exact ⟨_, _, Or.inr ⟨1, s, lf_x (d := d + 1) hb hL C hn t0 kn qc, lg_x (d := d + 1) hb hL K kn qc, lC_FL (lC_T1 C), lM_FM K⟩⟩
end RCA
