/-! CANDIDATES' OBJECTS, kept over every call -/
def rG (h : am_H) : Prop := ∀ n pm : Int32, h.2.2.2 40 13 = .int n → h.2.2.2 40 8 = .int pm → (∀ c k : Nat, (c : Int) < n.toInt → h.2.2.2 74 c = .ref k → ∃ q : Nat, h.2.2.2 k 0 = iv q ∧ (q : Int) < pm.toInt ∧ h.2.2.2 k 1 = h.2.2.2 73 q) ∧ ∀ c c' : Nat, (c : Int) < n.toInt → (c' : Int) < n.toInt → c ≠ c' → h.2.2.2 74 c ≠ h.2.2.2 74 c'
def rG_m (m : cq_W) : Bool := lw_nF m 40 13 && lw_nF m 40 8 && lw_nA m 73 && lw_nA m 74 && lw_nO m 1 0 && lw_nO m 1 1
section RGG
variable {h h1 h2 : am_H} {d : Nat} {m : cq_W}
theorem rG_fr (I : cq_Inv none h) (F : cq_Fr m h h2) (q : rG_m m = true) (X : rG h) : rG h2 := by
  have b1 := (Bool.and_eq_true _ _ ▸ q)
  have b2 := (Bool.and_eq_true _ _ ▸ b1.1)
  have b3 := (Bool.and_eq_true _ _ ▸ b2.1)
  have b4 := (Bool.and_eq_true _ _ ▸ b3.1)
  have b5 := (Bool.and_eq_true _ _ ▸ b4.1)
  intro n pm e1 e2
  rw [lw_frF F I.lo (by decide) b5.1] at e1
  rw [lw_frF F I.lo (by decide) b5.2] at e2
  have bn := rp_bn I e1
  obtain ⟨x1, x2⟩ := X n pm e1 e2
  refine ⟨fun c k hc e => ?_, fun c c' hc hc' ne => ?_⟩
  · rw [lw_frA F I.lo (by decide) b3.2] at e
    obtain ⟨o1, o2, o3⟩ := rp_cob I (c := c) (by omega) e
    obtain ⟨q, y1, y2, y3⟩ := x1 c k hc e
    exact ⟨q, (lw_frO F o1 o2 o3 b2.2).trans y1, y2, by rw [lw_frO F o1 o2 o3 b1.2, lw_frA F I.lo (by decide) b4.2]; exact y3⟩
  · rw [lw_frA F I.lo (by decide) b3.2, lw_frA F I.lo (by decide) b3.2]
    exact x2 c c' hc hc' ne
/-- poem leaves it -/
theorem rG_po (I : cq_Inv none h) {a b c e r : Int32} (F1 : cq_Fr ct_38.2.2.2.1 h h1) (ev : am_ev (d + 2) 38 0 (am_ent [.ref 40, .int a, .int b, .int c, .int e] (am_in 38).2.2.1) [] h (some (.int r), h1)) (X : rG h) : rG h1 := by
  have lo := I.lo
  obtain ⟨m0, m1, -⟩ := ax_in I (c := 40) (j := 8) (l := 0) (u := 40) (by decide +kernel) (by decide +kernel)
  have bm := rp_bm I m1
  by_cases q : po_ok a b c e
  · by_cases hm : m0.toInt < 40
    · obtain ⟨g, w1, w2, w3, w4, w5, w6, w7, w8⟩ := pc_38d (d := d) I q m1 ⟨bm.1, hm⟩
      have e3 := (Prod.mk.inj (ax_det ev w1)).2
      have mp := ax_p1 (m := m0) ⟨bm.1, by omega⟩
      rw [← e3] at w2 w3
      have w6 : ∀ j, j ≠ m0.toInt.toNat → h1.2.2.2 73 j = h.2.2.2 73 j := fun j n => by rw [e3]; exact w6 j n
      have w7 : ∀ s j, 130 ≤ s → s < h.1 → h1.2.2.2 s j = h.2.2.2 s j := fun s j n n2 => by rw [e3]; exact w7 s j n n2
      intro n pm e1 e2
      rw [lw_frF F1 lo (by decide) (by decide +kernel)] at e1
      rw [w2] at e2
      have e2 : m0 + Int32.ofInt 1 = pm := Value.int.inj e2
      have bn := rp_bn I e1
      obtain ⟨x1, x2⟩ := X n m0 e1 m1
      have f74 := lw_frA F1 lo (c := 74) (by decide) (by decide +kernel)
      refine ⟨fun c k hc e => ?_, fun c c' hc hc' ne => ?_⟩
      · rw [f74] at e
        obtain ⟨o1, o2, o3⟩ := rp_cob I (c := c) (by omega) e
        obtain ⟨q, y1, y2, y3⟩ := x1 c k hc e
        exact ⟨q, (w7 k 0 o1 o2).trans y1, by rw [← e2, mp]; omega, by rw [w7 k 1 o1 o2, w6 q (by omega)]; exact y3⟩
      · rw [f74, f74]
        exact x2 c c' hc hc' ne
    · have w1 := pc_38u (d := d + 1) I q m1 (by omega)
      have e3 := (Prod.mk.inj (ax_det ev w1)).2
      rw [e3]
      exact X
  · have w1 := pc_38f (h := h) (d := d + 1) q
    have e3 := (Prod.mk.inj (ax_det ev w1)).2
    rw [e3]
    exact X
variable {p n : Int32}
theorem co_102e {a pm : Nat} (O : am_isO h a 1 = true) : ∃ g : am_H, am_ev (d + 1) 102 0 (am_ent [.ref a, .int p, .ref pm] 3) [] h (none, g) ∧ g.1 = h.1 ∧ g.2.2.1 = h.2.2.1 ∧ g.2.2.2 a 0 = .int p ∧ g.2.2.2 a 1 = .ref pm ∧ ∀ c j, c ≠ a → g.2.2.2 c j = h.2.2.2 c j := by
  refine ⟨am_put (am_put (am_put (am_put (am_put (am_put (am_put (am_put h a 2 (.int (Int32.ofInt 0))) a 3 (.int (Int32.ofInt (-1)))) a 4 .null) a 5 (.int (Int32.ofInt (-1)))) a 6 (.int (Int32.ofInt 0))) a 7 (.int (Int32.ofInt 0))) a 0 (.int p)) a 1 (.ref pm), ?_, rfl, rfl, ax_put_o (Or.inr (by decide)) (ax_put_s _ _ _), ax_put_s _ _ _, fun c j hc => ?_⟩
  · refine am_ev.step (pc' := 1) rfl rfl ?_
    refine ax_obj (p' := 4) rfl ?_ rfl rfl rfl ?_
    · exact Or.inr (Or.inr ⟨_, rfl⟩)
    refine am_ev.step (pc' := 5) rfl rfl ?_
    refine am_ev.step (pc' := 6) rfl rfl ?_
    refine ax_pf (p' := 9) rfl rfl O rfl ?_
    refine am_ev.step (pc' := 10) rfl rfl ?_
    refine am_ev.step (pc' := 11) rfl rfl ?_
    refine ax_pf (p' := 14) rfl rfl O rfl ?_
    refine am_ev.step (pc' := 15) rfl rfl ?_
    refine am_ev.step (pc' := 16) rfl rfl ?_
    refine ax_pf (p' := 19) rfl rfl O rfl ?_
    refine am_ev.step (pc' := 20) rfl rfl ?_
    refine am_ev.step (pc' := 21) rfl rfl ?_
    refine ax_pf (p' := 24) rfl rfl O rfl ?_
    refine am_ev.step (pc' := 25) rfl rfl ?_
    refine am_ev.step (pc' := 26) rfl rfl ?_
    refine ax_pf (p' := 29) rfl rfl O rfl ?_
    refine am_ev.step (pc' := 30) rfl rfl ?_
    refine am_ev.step (pc' := 31) rfl rfl ?_
    refine ax_pf (p' := 34) rfl rfl O rfl ?_
    refine am_ev.step (pc' := 35) rfl rfl ?_
    refine am_ev.step (pc' := 36) rfl rfl ?_
    refine ax_pf (p' := 39) rfl rfl O rfl ?_
    refine am_ev.step (pc' := 40) rfl rfl ?_
    refine am_ev.step (pc' := 41) rfl rfl ?_
    refine ax_pf (p' := 44) rfl rfl O rfl ?_
    exact am_ev.retv rfl rfl
  · refine ax_put_o (Or.inl hc) (ax_put_o (Or.inl hc) (ax_put_o (Or.inl hc) (ax_put_o (Or.inl hc) (ax_put_o (Or.inl hc) (ax_put_o (Or.inl hc) (ax_put_o (Or.inl hc) (ax_put_o (Or.inl hc) rfl)))))))
theorem ca_101e {pm : Nat} (I : cq_Inv none h) (v13 : h.2.2.2 40 13 = .int n) (hn : 0 ≤ n.toInt ∧ n.toInt < 14) : ∃ g : am_H, am_ev (d + 2) 101 45 [.ref 40, .int p, .ref pm, .int n] [] h (some (.int (n + Int32.ofInt 1 - Int32.ofInt 1)), g) ∧ g.2.2.2 40 13 = .int (n + Int32.ofInt 1) ∧ g.2.2.2 74 n.toInt.toNat = .ref h.1 ∧ g.2.2.2 h.1 0 = .int p ∧ g.2.2.2 h.1 1 = .ref pm ∧ (∀ s j, 130 ≤ s → s < h.1 → g.2.2.2 s j = h.2.2.2 s j) ∧ (∀ j, g.2.2.2 73 j = h.2.2.2 73 j) ∧ g.2.2.2 40 8 = h.2.2.2 40 8 ∧ ∀ c, c ≠ n.toInt.toNat → g.2.2.2 74 c = h.2.2.2 74 c := by
  have lo := I.lo
  have O := ax_o I (c := 40) (k := 11) (by decide +kernel)
  have O63 := ax_o I (c := 63) (k := 2) (by decide +kernel)
  have O72 := ax_o I (c := 72) (k := 10) (by decide +kernel)
  have v12 := ax_rf I (c := 40) (j := 12) (k := 74) (by decide +kernel) (by decide +kernel)
  have v4 := ax_rf I (c := 40) (j := 4) (k := 63) (by decide +kernel) (by decide +kernel)
  have v6 := ax_rf I (c := 40) (j := 6) (k := 72) (by decide +kernel) (by decide +kernel)
  have A := ax_ar I (c := 74) (tc := 5) (n := 14) (by decide) (by decide +kernel)
  have lt : n < (Int8.ofInt 14).toInt32 := Int32.lt_iff_toInt_lt.2 (by
    rw [show (Int8.ofInt 14).toInt32.toInt = 14 by decide]
    exact hn.2)
  obtain ⟨k, hk⟩ : ∃ k : am_H, k = am_mk h (0, 1, am_N 1) (am_N 1) (fun j => defaultValue (am_ty 1 j)) := ⟨_, rfl⟩
  have k1 : k.1 = h.1 + 1 := by rw [hk]; rfl
  have ks : ∀ c, c ≠ h.1 → k.2.2.1 c = h.2.2.1 c := fun c hc => by
    rw [hk]
    exact if_neg hc
  have ka : k.2.2.1 h.1 = (0, 1, am_N 1) := by
    rw [hk]
    exact if_pos rfl
  have kv : ∀ c j, c ≠ h.1 → k.2.2.2 c j = h.2.2.2 c j := fun c j hc => by
    rw [hk]
    exact if_neg hc
  have Ok : am_isO k h.1 1 = true := by
    unfold am_isO
    rw [ka, k1, show Nat.blt h.1 (h.1 + 1) = true from Nat.ble_eq_true_of_le (Nat.le_refl _)]
    rfl
  obtain ⟨g, ev, g1, gs, ga, gb, gv⟩ := co_102e (d := d) (p := p) (pm := pm) Ok
  have tr : ∀ c : Nat, c < 130 → c ≠ h.1 := fun c hc => by omega
  have isO : ∀ c x : Nat, c < 130 → am_isO h c x = true → am_isO g c x = true := fun c x hc q => by
    unfold am_isO at q ⊢
    have q1 := (Bool.and_eq_true _ _ ▸ q)
    have q2 := (Bool.and_eq_true _ _ ▸ q1.1)
    rw [g1, gs, ks c (tr c hc), k1, q2.2, q1.2, show Nat.blt c (h.1 + 1) = true from Nat.ble_eq_true_of_le (by omega)]
    rfl
  have val : ∀ c j, c < 130 → g.2.2.2 c j = h.2.2.2 c j := fun c j hc => by rw [gv c j (tr c hc), kv c j (tr c hc)]
  have sa : g.2.2.1 h.1 = (0, 1, am_N 1) := by rw [gs, ka]
  have Oa : am_isO g h.1 1 = true := by
    unfold am_isO
    rw [sa, g1, k1, show Nat.blt h.1 (h.1 + 1) = true from Nat.ble_eq_true_of_le (Nat.le_refl _)]
    rfl
  have WR : am_isO g h.1 (g.2.2.1 h.1).2.1 = true ∧ am_isA ((g.2.2.1 h.1).2.1 + 4) = true ∧ am_wr g 74 n ((g.2.2.1 h.1).2.1 + 4) (.ref h.1) = some (am_put g 74 n.toInt.toNat (.ref h.1)) := by
    rw [sa]
    exact ⟨Oa, by decide +kernel, ax_wrv (by rw [g1, k1]; omega) (by rw [gs, ks 74 (tr 74 (by decide)), A.2]) hn.1 (by omega)⟩
  have Og := isO 40 11 (by decide) O
  have Og63 := isO 63 2 (by decide) O63
  have Og72 := isO 72 10 (by decide) O72
  obtain ⟨g2, e2⟩ : ∃ g2 : am_H, g2 = am_put g 74 n.toInt.toNat (.ref h.1) := ⟨_, rfl⟩
  rw [← e2] at WR
  have f13 : g2.2.2.2 40 13 = .int n := by
    rw [e2]
    exact ax_put_o (Or.inl (by decide)) (by rw [val 40 13 (by decide), v13])
  have f4 : g2.2.2.2 40 4 = .ref 63 := by
    rw [e2]
    exact ax_put_o (Or.inl (by decide)) (by rw [val 40 4 (by decide), v4])
  have f6 : g2.2.2.2 40 6 = .ref 72 := by
    rw [e2]
    exact ax_put_o (Or.inl (by decide)) (by rw [val 40 6 (by decide), v6])
  have O2 : am_isO g2 40 11 = true := by rw [e2]; exact Og
  have O263 : am_isO g2 63 2 = true := by rw [e2]; exact Og63
  have O272 : am_isO g2 72 10 = true := by rw [e2]; exact Og72
  refine ⟨am_put (am_put (am_put g2 40 13 (.int (n + Int32.ofInt 1))) 63 0 (.int (Int32.ofInt 0))) 72 0 (.int (Int32.ofInt 0)), ?_, ?_, ?_, ?_, ?_, fun s j s1 s2 => ?_, fun j => ?_, ?_, fun c hc => ?_⟩
  · refine am_ev.step (pc' := 46) rfl rfl ?_
    refine ax_gf (p' := 49) rfl rfl O v13 ?_
    refine am_ev.step (pc' := 51) rfl rfl ?_
    refine ax_c_lt_T (p' := 57) rfl rfl lt ?_
    refine am_ev.step (pc' := 58) rfl rfl ?_
    refine ax_gf (p' := 61) rfl rfl O v12 ?_
    refine am_ev.step (pc' := 62) rfl rfl ?_
    refine ax_gf (p' := 65) rfl rfl O v13 ?_
    refine am_ev.step (pc' := 68) rfl rfl ?_
    refine am_ev.step (pc' := 69) rfl rfl ?_
    refine am_ev.step (pc' := 70) rfl rfl ?_
    refine am_ev.step (pc' := 71) rfl rfl ?_
    refine ax_call (z := 102) (p' := 74) (as := [_, _, _]) rfl (Or.inr (Or.inr ⟨_, rfl⟩)) rfl rfl rfl rfl rfl rfl rfl rfl (by rw [← hk]; exact ev) rfl ?_
    refine ax_aastore (p' := 75) rfl rfl WR ?_
    refine am_ev.step (pc' := 76) rfl rfl ?_
    refine am_ev.step (pc' := 77) rfl rfl ?_
    refine ax_gf (p' := 80) rfl rfl O2 f13 ?_
    refine am_ev.step (pc' := 81) rfl rfl ?_
    refine am_ev.step (pc' := 82) rfl rfl ?_
    refine ax_pf (p' := 85) rfl rfl O2 rfl ?_
    refine am_ev.step (pc' := 86) rfl rfl ?_
    refine ax_gf (p' := 89) rfl rfl O2 (ax_put_o (Or.inr (by decide)) f4) ?_
    refine am_ev.step (pc' := 90) rfl rfl ?_
    refine ax_pf (p' := 93) rfl rfl O263 rfl ?_
    refine am_ev.step (pc' := 94) rfl rfl ?_
    refine ax_gf (p' := 97) rfl rfl O2 (ax_put_o (Or.inl (by decide)) (ax_put_o (Or.inr (by decide)) f6)) ?_
    refine am_ev.step (pc' := 98) rfl rfl ?_
    refine ax_pf (p' := 101) rfl rfl O272 rfl ?_
    refine am_ev.step (pc' := 102) rfl rfl ?_
    refine ax_gf (p' := 105) rfl rfl O2 (ax_put_o (Or.inl (by decide)) (ax_put_o (Or.inl (by decide)) (ax_put_s _ _ _))) ?_
    refine am_ev.step (pc' := 106) rfl rfl ?_
    refine am_ev.step (pc' := 107) rfl rfl ?_
    exact am_ev.reti rfl rfl rfl
  · exact ax_put_o (Or.inl (by decide)) (ax_put_o (Or.inl (by decide)) (ax_put_s _ _ _))
  · refine ax_put_o (Or.inl (by decide)) (ax_put_o (Or.inl (by decide)) (ax_put_o (Or.inl (by decide)) ?_))
    rw [e2]
    exact ax_put_s _ _ _
  · refine ax_put_o (Or.inl (by omega)) (ax_put_o (Or.inl (by omega)) (ax_put_o (Or.inl (by omega)) ?_))
    rw [e2]
    exact ax_put_o (Or.inl (by omega)) ga
  · refine ax_put_o (Or.inl (by omega)) (ax_put_o (Or.inl (by omega)) (ax_put_o (Or.inl (by omega)) ?_))
    rw [e2]
    exact ax_put_o (Or.inl (by omega)) gb
  · refine ax_put_o (Or.inl (by omega)) (ax_put_o (Or.inl (by omega)) (ax_put_o (Or.inl (by omega)) ?_))
    rw [e2]
    exact ax_put_o (Or.inl (by omega)) ((gv s j (by omega)).trans (kv s j (by omega)))
  · refine ax_put_o (Or.inl (by decide)) (ax_put_o (Or.inl (by decide)) (ax_put_o (Or.inl (by decide)) ?_))
    rw [e2]
    exact ax_put_o (Or.inl (by decide)) (val 73 j (by decide))
  · refine ax_put_o (Or.inl (by decide)) (ax_put_o (Or.inl (by decide)) (ax_put_o (Or.inr (by decide)) ?_))
    rw [e2]
    exact ax_put_o (Or.inl (by decide)) (val 40 8 (by decide))
  · refine ax_put_o (Or.inl (by decide)) (ax_put_o (Or.inl (by decide)) (ax_put_o (Or.inl (by decide)) ?_))
    rw [e2]
    exact ax_put_o (Or.inr hc) (val 74 c (by decide))
/-- candidate leaves it -/
theorem rG_ca (I : cq_Inv none h) (P : rp_P h) (C : rp_C h) {r : Int32} (ev1 : am_ev (d + 2) 101 0 (am_ent [.ref 40, .int p] (am_in 101).2.2.1) [] h (some (.int r), h1)) (X : rG h) : rG h1 := by
  obtain ⟨m, m1, m2, PP, PD⟩ := P
  obtain ⟨n, ν, n1, n2, CC⟩ := C
  have bm := rp_bm I m1
  have bn := rp_bn I n1
  have lo := I.lo
  have O40 := ax_o I (c := 40) (k := 11) (by decide +kernel)
  have z0 : (Int32.ofInt 0).toInt = 0 := by decide
  by_cases hp : 0 ≤ p.toInt ∧ p.toInt < m.toInt
  · obtain ⟨s, t, w, s1, -⟩ := PP p.toInt.toNat (by omega)
    have H42 := (po_42 (d := d + 1) I m1 bm).1 hp
    rw [s1] at H42
    have top : ∀ x, am_ev (d + 2) 101 15 [.ref 40, .int p, .ref s, .int (Int32.ofInt 0)] [] h x → am_ev (d + 2) 101 0 (am_ent [.ref 40, .int p] (am_in 101).2.2.1) [] h x := fun x q => by
      refine am_ev.step (pc' := 1) rfl rfl ?_
      refine am_ev.step (pc' := 2) rfl rfl ?_
      refine ax_call (z := 42) (p' := 5) (as := [_, _]) rfl (Or.inr (Or.inl ⟨_, rfl⟩)) rfl rfl rfl rfl rfl rfl O40 rfl H42 rfl ?_
      refine am_ev.step (pc' := 6) rfl rfl ?_
      refine am_ev.step (pc' := 7) rfl rfl ?_
      refine am_ev.step (pc' := 13) rfl rfl ?_
      refine am_ev.step (pc' := 14) rfl rfl ?_
      refine am_ev.step (pc' := 15) rfl rfl ?_
      exact q
    have v12 := ax_rf I (c := 40) (j := 12) (k := 74) (by decide +kernel) (by decide +kernel)
    have A74 := ax_ar I (c := 74) (tc := 5) (n := 14) (by decide) (by decide +kernel)
    have L1 := ca_101 (d := d + 2) (p := p) (pm := s) (ν := ν) O40 n1 v12 A74 bn.2 (fun c hc => by
      obtain ⟨⟨s, k1, k2⟩, -⟩ := CC c hc
      exact ⟨s, k1, ax_kO (rp_cob I (c := c) (by omega) k1), k2⟩) 14 (Int32.ofInt 0) (by omega) (by omega) (by omega)
    by_cases hf : ∃ j : Nat, (Int32.ofInt 0).toInt ≤ j ∧ (j : Int) < n.toInt ∧ ν j = p
    · have e3 := (Prod.mk.inj (ax_det ev1 (top _ (L1.1 hf)))).2
      rw [e3]
      exact X
    · have hf' : ∀ j : Nat, (Int32.ofInt 0).toInt ≤ j → (j : Int) < n.toInt → ν j ≠ p := fun j a b c => hf ⟨j, a, b, c⟩
      by_cases hn : n.toInt < 14
      · obtain ⟨g, w1, w2, w3, w4, wb, wf, w73, w8, w5⟩ := ca_101e (d := d) (p := p) (pm := s) I n1 ⟨bn.1, hn⟩
        have e3 := (Prod.mk.inj (ax_det ev1 (top _ (L1.2 _ hf' w1)))).2
        have np := ax_p1 (m := n) ⟨bn.1, by omega⟩
        rw [e3]
        obtain ⟨x1, x2⟩ := X n m n1 m1
        intro n' pm e1 e2
        rw [w2] at e1
        have e1 : n + Int32.ofInt 1 = n' := Value.int.inj e1
        rw [w8, m1] at e2
        have e2 : m = pm := Value.int.inj e2
        subst e2
        rw [← e1, np]
        have old : ∀ c : Nat, (c : Int) < n.toInt → ∃ k : Nat, h.2.2.2 74 c = .ref k ∧ g.2.2.2 74 c = .ref k ∧ 130 ≤ k ∧ k < h.1 := fun c hc => by
          obtain ⟨⟨k, k1, -⟩, -⟩ := CC c hc
          obtain ⟨o1, o2, o3⟩ := rp_cob I (c := c) (by omega) k1
          exact ⟨k, k1, (w5 c (by omega)).trans k1, o1, o2⟩
        refine ⟨fun c k hc e => ?_, fun c c' hc hc' ne => ?_⟩
        · by_cases ec : c = n.toInt.toNat
          · rw [ec, w3] at e
            have e : h.1 = k := Value.ref.inj e
            rw [← e]
            exact ⟨p.toInt.toNat, by rw [w4, fx_of p]; exact congrArg iv (by omega), by omega, by rw [wb, w73, s1]⟩
          · obtain ⟨k', u1, u2, u3, u4⟩ := old c (by omega)
            rw [u2] at e
            have e : k' = k := Value.ref.inj e
            rw [← e]
            obtain ⟨q, y1, y2, y3⟩ := x1 c k' (by omega) u1
            exact ⟨q, (wf k' 0 u3 u4).trans y1, y2, by rw [wf k' 1 u3 u4, w73]; exact y3⟩
        · by_cases ec : c = n.toInt.toNat
          · obtain ⟨k', u1, u2, u3, u4⟩ := old c' (by omega)
            rw [ec, w3, u2]
            intro z
            have z : @Eq Nat h.1 k' := Value.ref.inj z
            omega
          · by_cases ec' : c' = n.toInt.toNat
            · obtain ⟨k', u1, u2, u3, u4⟩ := old c (by omega)
              rw [ec', w3, u2]
              intro z
              have z : @Eq Nat k' h.1 := Value.ref.inj z
              omega
            · obtain ⟨k', u1, u2, -⟩ := old c (by omega)
              obtain ⟨k2, v1, v2, -⟩ := old c' (by omega)
              rw [u2, v2, ← u1, ← v1]
              exact x2 c c' (by omega) (by omega) ne
      · have lt : ¬ n < (Int8.ofInt 14).toInt32 := fun z => by
          have z := Int32.lt_iff_toInt_lt.1 z
          rw [show (Int8.ofInt 14).toInt32.toInt = 14 by decide] at z
          omega
        have w1 : am_ev (d + 2) 101 45 [.ref 40, .int p, .ref s, .int n] [] h (some (ax_m (-3)), h) := by
          refine am_ev.step (pc' := 46) rfl rfl ?_
          refine ax_gf (p' := 49) rfl rfl O40 n1 ?_
          refine am_ev.step (pc' := 51) rfl rfl ?_
          refine ax_c_lt_N (p' := 54) rfl rfl lt ?_
          refine am_ev.step (pc' := 56) rfl rfl ?_
          exact am_ev.reti rfl rfl rfl
        have e3 := (Prod.mk.inj (ax_det ev1 (top _ (L1.2 _ hf' w1)))).2
        rw [e3]
        exact X
  · have H42 := (po_42 (d := d + 1) I m1 bm).2 hp
    have w1 : am_ev (d + 2) 101 0 (am_ent [.ref 40, .int p] (am_in 101).2.2.1) [] h (some (ax_m (-2)), h) := by
      refine am_ev.step (pc' := 1) rfl rfl ?_
      refine am_ev.step (pc' := 2) rfl rfl ?_
      refine ax_call (z := 42) (p' := 5) (as := [_, _]) rfl (Or.inr (Or.inl ⟨_, rfl⟩)) rfl rfl rfl rfl rfl rfl O40 rfl H42 rfl ?_
      refine am_ev.step (pc' := 6) rfl rfl ?_
      refine am_ev.step (pc' := 7) rfl rfl ?_
      refine am_ev.step (pc' := 10) rfl rfl ?_
      refine am_ev.step (pc' := 12) rfl rfl ?_
      exact am_ev.reti rfl rfl rfl
    have e3 := (Prod.mk.inj (ax_det ev1 w1)).2
    rw [e3]
    exact X
end RGG
