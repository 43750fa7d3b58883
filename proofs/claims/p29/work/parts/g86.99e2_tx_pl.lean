/-! THE CALL place, both sides -/
def plS (pg : Nat → Int) : Nat → Nat → Int → Int
  | 0, _, s => s
  | m + 1, j, s => plS pg m (j + 1) (s + pg j)
section PLO
variable {h g G h1 h' : am_H} {d n nr : Nat} {R : Nat → Nat}
/-- the row as numbers -/
theorem rR_n (I : cq_Inv none h) (Rr : rR h) (hn : h.2.2.2 40 13 = iv n) (hn14 : n ≤ 14) : ∃ nr : Nat, nr ≤ 14 ∧ h.2.2.2 40 15 = iv nr ∧ h.2.2.2 78 55 = iv nr ∧ ∀ i, i < nr → h.2.2.2 75 i = iv (rc h i) ∧ h.2.2.2 118 i = iv (rc h i) ∧ rc h i < n := by
  obtain ⟨nr, a1, a2, a3, a4⟩ := Rr
  refine ⟨nr, a1, a2, a3, fun i hi => ?_⟩
  obtain ⟨r, r1, r2, r3⟩ := a4 i hi
  have q := r3 _ hn
  rw [fx_ti (by omega)] at q
  have e : rc h i = r := by
    unfold rc
    rw [gI_iv r1 (by omega)]
    omega
  rw [e]
  exact ⟨r1, r2, by omega⟩
theorem pl_134 (S : fS g) (v15 : g.2.2.2 40 15 = iv nr) (hnr : nr ≤ 14) (hn14 : n ≤ 14) {f : Int} (v443 : g.2.2.2 44 3 = iv f) (bf : 0 ≤ f ∧ f ≤ 30) {pg : Nat → Int} (H : ∀ j, j < nr → ∃ k : Nat, g.2.2.2 75 j = iv (R j) ∧ R j < n ∧ g.2.2.2 74 (R j) = .ref k ∧ am_isO g k 1 = true ∧ g.2.2.2 k 5 = iv (pg j) ∧ -1 ≤ pg j ∧ pg j ≤ 30) (hpg : ∀ j, j < nr → 0 ≤ pg j) {i : Nat} (hi : i ≤ nr) : am_ev (d + 1) 134 0 (am_ent [.ref 40, iv i] 4) [] g (some (iv (plS pg i 0 f)), g) ∧ 0 ≤ plS pg i 0 f ∧ plS pg i 0 f ≤ 1000 := by
  have go : ∀ (m j : Nat) (s : Int), j + m = i → (0 ≤ s ∧ s ≤ 30 + 30 * (j : Int)) → am_ev (d + 1) 134 11 [.ref 40, iv i, iv s, iv j] [] g (some (iv (plS pg m j s)), g) ∧ 0 ≤ plS pg m j s ∧ plS pg m j s ≤ 1000 := fun m => by
    induction m with
    | zero =>
      intro j s hj bs
      exact ⟨pl_134e S v15 hnr hi (by omega) hj, bs.1, by show s ≤ 1000; omega⟩
    | succ m ih =>
      intro j s hj bs
      obtain ⟨k, a1, a2, a3, a4, a5, a6, a7⟩ := H j (by omega)
      have p0 := hpg j (by omega)
      obtain ⟨r, b⟩ := ih (j + 1) (s + pg j) (by omega) (by omega)
      exact ⟨pl_134y S v15 hnr hi (by omega) (by omega) a1 (by omega) a3 a4 a5 ⟨a6, a7⟩ r, b⟩
  obtain ⟨r, b⟩ := go i 0 f (by omega) (by omega)
  exact ⟨pl_134s S v443 r, b⟩
/-- the model: is the row allowed? -/
theorem pl_249 (I1 : cq_Inv none h1) (L1 : lkC h1) (hn : h1.2.2.2 40 13 = iv n) (hn14 : n ≤ 14) (v55 : h1.2.2.2 78 55 = iv nr) (hnr : nr ≤ 14) (H : ∀ j, j < nr → h1.2.2.2 118 j = iv (R j) ∧ R j < n) : ∃ G, am_ev (d + 8) 249 0 (am_ent [.ref 78, iv (-1)] 3) [] h1 (some (iv (b2 (aL (fun j => mvAl h1 (qc h1 (R j))) 0 nr))), G) ∧ gS h1 G := by
  have go : ∀ (m j : Nat) (G : am_H), j + m = nr → gS h1 G → ∃ G', am_ev (d + 8) 249 2 [.ref 78, iv (-1), iv j] [] G (some (iv (b2 (aL (fun j => mvAl h1 (qc h1 (R j))) j m))), G') ∧ gS h1 G' := fun m => by
    induction m with
    | zero =>
      intro j G hj k
      exact ⟨G, pl_249e k.1 ((k.v I1 (c := 78) (j := 55) (by decide) rfl (Or.inr (by decide))).trans v55) hnr hj, k⟩
    | succ m ih =>
      intro j G hj k
      obtain ⟨a1, a2⟩ := H j (by omega)
      obtain ⟨s, pm, s1, ko, f0, lp, f1, by_, g86, g87, hq, g117, m1, k5⟩ := st_c I1 L1 hn hn14 a2
      obtain ⟨G1, H228, y⟩ := lk_228 (d := d) I1 L1.1 m1 k5 k
      have v118 := (k.v I1 (c := 118) (j := j) (by decide) rfl (Or.inl (by decide))).trans a1
      have v117 := (k.v I1 (c := 117) (j := R j) (by decide) rfl (Or.inl (by decide))).trans g117
      have w55 := (k.v I1 (c := 78) (j := 55) (by decide) rfl (Or.inr (by decide))).trans v55
      have e : aL (fun j => mvAl h1 (qc h1 (R j))) j (m + 1) = (mvAl h1 (qc h1 (R j)) && aL (fun j => mvAl h1 (qc h1 (R j))) (j + 1) m) := rfl
      rw [e]
      cases z : mvAl h1 (qc h1 (R j)) with
      | false =>
        rw [z] at H228
        exact ⟨G1, pl_249n k.1 w55 hnr (by omega) v118 (by omega) v117 hq H228 y.1, k.y y⟩
      | true =>
        rw [z] at H228
        obtain ⟨G', r, r2⟩ := ih (j + 1) G1 (by omega) (k.y y)
        exact ⟨G', pl_249y k.1 w55 hnr (by omega) v118 (by omega) v117 hq H228 y.1 r, r2⟩
  obtain ⟨G, r, k⟩ := go nr 0 h1 (by omega) (gS.rf I1)
  exact ⟨G, pl_249s r, k⟩
theorem op_pla (I : cq_Inv none h) (X : rT h) (P0 : rp_P h) (C0 : rp_C h) (R0 : rL h) (XB : rbV h) (Dr : rD h) (Bk : rB h) (Q : rQ h) (V : rY h) (Gg : rG h) (Rr : rR h) (Tc : tT h (40, 9, 78, 15)) (pp ww : Int32) : ∃ (x : Int32) (h1 h2 : am_H), am_ev (d + 20) 132 0 (am_ent [.ref 40, .int pp, .int ww] (am_in 132).2.2.1) [] h (some (.int x), h1) ∧ am_ev (d + 20) 248 0 (am_ent [.ref 78, .int pp, .int ww] (am_in 248).2.2.1) [] h1 (some (.int x), h2) ∧ cq_Inv none h1 ∧ cq_Inv none h2 ∧ cq_Fr ct_132.2.2.2.1 h h1 ∧ cq_Fr ct_248.2.2.2.1 h1 h2 ∧ (∀ q ∈ ([] : List (Nat × Nat × Nat × Nat)), tT h2 q) ∧ h2.1 ≤ h.1 + 12 ∧ h2.2.1 ≤ h.2.1 + 624 := by
  obtain ⟨a, h1, ev1, I1, F1, A1, B1⟩ := sz_ap2 (A := 0) (B := 0) ok_132 rfl rfl (by decide +kernel) I (d := d + 20) (Nat.le_trans (by decide +kernel) (Nat.le_add_left 20 d)) pp ww
  obtain ⟨b, h2, ev2, I2, F2, A2, B2⟩ := sz_ap2 (A := 0) (B := 0) ok_248 rfl rfl (by decide +kernel) I1 (d := d + 20) (Nat.le_trans (by decide +kernel) (Nat.le_add_left 20 d)) pp ww
  have q : a = b := by
    have fin : ∀ (y : Int) (K G : am_H), am_ev (d + 20) 132 0 (am_ent [.ref 40, .int pp, .int ww] 3) [] h (some (iv y), K) → am_ev (d + 20) 248 0 (am_ent [.ref 78, .int pp, .int ww] 5) [] h1 (some (iv y), G) → a = b := fun y K G e1 e2 => by
      have z1 := (Prod.mk.inj (ax_det ev1 e1)).1
      have z2 := (Prod.mk.inj (ax_det ev2 e2)).1
      exact (Value.int.inj (Option.some.inj z1)).trans (Value.int.inj (Option.some.inj z2)).symm
    have LC : lkC h := ⟨⟨X, P0, R0, XB, Dr, Q, V⟩, Bk, Tc, C0, Gg⟩
    obtain ⟨L1, E1⟩ := lk_go (y := 132) I LC F1 (by decide +kernel) (Nat.le_trans (by decide +kernel) (Nat.le_add_left 20 d)) rfl ev1 (Nat.le_antisymm A1 F1.nx) (by decide +kernel)
    obtain ⟨n, pm, hn14, hn, hn5, m1, -, -⟩ := lk_c I LC
    obtain ⟨nr, hnr, v15, v55, rows⟩ := rR_n I Rr hn hn14
    have S := fS.of I
    have S1 := fS.of I1
    have w55 : h1.2.2.2 78 55 = iv nr := (lw_frF F1 I.lo (by decide) (by decide +kernel)).trans v55
    have w118 : ∀ j, j < nr → h1.2.2.2 118 j = iv (rc h j) ∧ rc h j < n := fun j hj => ⟨(lw_frA F1 I.lo (by decide) (by decide +kernel) j).trans (rows j hj).2.1, (rows j hj).2.2⟩
    have hn1 := E1.2.2.2.2.2.2.2.2.1.trans hn
    have bp := i_rng pp
    have bw := i_rng ww
    have ep := fx_of pp
    have ew := fx_of ww
    have h165 : ∀ v : Bool, (v = true ↔ 0 ≤ pp.toInt ∧ pp.toInt ≤ (nr : Int) - 1) → am_ev (d + 19) 165 0 (am_ent [.long (Int32.ofInt pp.toInt).toInt64, .long (Int64.ofNat 0), .long ((Int32.ofInt (nr : Int)).toInt64 - (Int64.ofNat 1))] 6) [] h1 (some (iv (b2 v)), h1) := fun v hv => by
      have eq : (Int64.ofNat 0).toInt ≤ (Int32.ofInt pp.toInt).toInt64.toInt ∧ (Int32.ofInt pp.toInt).toInt64.toInt ≤ ((Int32.ofInt (nr : Int)).toInt64 - (Int64.ofNat 1)).toInt ↔ 0 ≤ pp.toInt ∧ pp.toInt ≤ (nr : Int) - 1 := by
        rw [md_l bp, la_n1 nr (by omega), show (Int64.ofNat 0).toInt = 0 by decide]
      cases v with
      | true => exact md_165t (eq.2 (hv.1 rfl))
      | false => exact md_165f (fun z => by have := hv.2 (eq.1 z); cases this)
    by_cases hx : 0 ≤ pp.toInt ∧ pp.toInt < nr
    · obtain ⟨i, hi⟩ : ∃ i : Nat, pp.toInt = (i : Int) := ⟨pp.toInt.toNat, by omega⟩
      have wP : Value.int pp = iv i := by rw [ep, hi]
      have H165 := h165 true ⟨fun _ => by omega, fun _ => rfl⟩
      rw [hi] at H165
      have hi' : i < nr := by omega
      have HB := md_inN (d := d + 19) (h := h1) (u := ww.toInt) (l := 1) (g := 3) (by decide) (by decide) bw
      have fin' : ∀ (y : Int) (K G : am_H), am_ev (d + 20) 132 0 (am_ent [.ref 40, iv i, iv ww.toInt] 3) [] h (some (iv y), K) → am_ev (d + 20) 248 0 (am_ent [.ref 78, iv i, iv ww.toInt] 5) [] h1 (some (iv y), G) → a = b := fun y K G e1 e2 => fin y K G (by rw [wP, ew]; exact e1) (by rw [wP, ew]; exact e2)
      by_cases y0 : ww.toInt = 0
      · exact fin' (rc h i : Int) _ _ (pl_132e (d := d + 14) S v15 hnr hi' (rows i hi').1 (by have := (rows i hi').2.2; omega) y0) (pl_248b (d := d + 11) S1 w55 hnr hi' bw H165 y0 (w118 i hi').1 (by have := (rows i hi').2.2; omega))
      · by_cases y3 : 1 ≤ ww.toInt ∧ ww.toInt ≤ 3
        · obtain ⟨g, r133, XX⟩ := lk_133 (d := d + 14) I LC hn hn14 v15 hnr (fun i hi => ⟨(rows i hi).1, (rows i hi).2.2⟩)
          have Sg := fS.of XX.1
          have E := XX.2.2.1
          obtain ⟨G, r249, kG⟩ := pl_249 (d := d + 11) I1 L1 hn1 hn14 w55 hnr w118
          have eA : aL (fun j => mvAl h1 (qc h1 (rc h j))) 0 nr = aL (fun i => mvAl h (qc h (rc h i))) 0 nr := by
            rw [Bool.eq_iff_iff, aL_iff, aL_iff]
            have k : ∀ i, i < nr → mvAl h1 (qc h1 (rc h i)) = mvAl h (qc h (rc h i)) := fun i hi => (st_eq I LC hn hn14 E1 (rows i hi).2.2 (rows i hi).2.2).2.2
            exact ⟨fun u i a b => (k i (by omega)).symm.trans (u i a b), fun u i a b => (k i (by omega)).trans (u i a b)⟩
          rw [eA] at r249
          have HB1 := HB.1 (by omega)
          cases hA : aL (fun i => mvAl h (qc h (rc h i))) 0 nr with
          | false =>
            rw [hA] at r133 r249
            exact fin' (-1) _ _ (pl_132f (d := d + 14) S v15 hnr hi' y3 r133 Sg) (pl_248d (d := d + 11) S1 w55 hnr hi' bw H165 y0 HB1 r249 kG.1)
          | true =>
            rw [hA] at r133 r249
            have alw : ∀ j, j < nr → mvAl h (qc h (rc h j)) = true := fun j hj => (aL_iff nr 0).1 hA j (Nat.zero_le _) (by omega)
            -- what stands in g
            obtain ⟨_, g', ev', I', F', A', B'⟩ := sz_ap0 (A := 0) (B := 0) ok_133 rfl rfl (by decide +kernel) I (d := d + 19) (Nat.le_trans (by decide +kernel) (Nat.le_add_left 19 d))
            have eg := (Prod.mk.inj (ax_det ev' r133)).2
            rw [eg] at F'
            have g75 : ∀ j, g.2.2.2 75 j = h.2.2.2 75 j := fun j => lw_frA F' I.lo (by decide) (by decide +kernel) j
            have g15 : g.2.2.2 40 15 = iv nr := (lw_frF F' I.lo (by decide) (by decide +kernel)).trans v15
            obtain ⟨gW, -, bf, -⟩ := wk_V XX.1 XX.2.1
            obtain ⟨gV, -⟩ := wk_V I LC
            have v443 := (gW 3 (by decide)).1
            rw [wkV_eq E] at v443 bf
            have kk : ∀ j, j < nr → g.2.2.2 74 (rc h j) = .ref (kc h (rc h j)) ∧ am_isO g (kc h (rc h j)) 1 = true ∧ g.2.2.2 (kc h (rc h j)) 5 = iv (mvN h (qc h (rc h j))) ∧ (mvP h (qc h (rc h j)) ≠ -1 → g.2.2.2 (kc h (rc h j)) 3 = iv (mvP h (qc h (rc h j)))) := fun j hj => by
              obtain ⟨s, k1, k2, -⟩ := st_D I LC hn hn14 XX (rows j hj).2.2 ⟨j, hj, rfl⟩
              obtain ⟨-, x3, -, x5, -⟩ := XX.2.2.2 (rc h j) n hn hn14 (rows j hj).2.2 ⟨j, hj, rfl⟩
              exact ⟨k1, k2, x5, fun z => (x3 z).1⟩
            have bN : ∀ j, j < nr → -1 ≤ mvN h (qc h (rc h j)) ∧ mvN h (qc h (rc h j)) ≤ 30 ∧ 0 ≤ mvN h (qc h (rc h j)) ∧ mvP h (qc h (rc h j)) ≠ -1 := fun j hj => by
              obtain ⟨s, pm', -, -, -, -, -, -, -, -, -, -, m1', k5⟩ := st_c I LC hn hn14 (rows j hj).2.2
              have bn := lk_n I LC.1 m1' k5
              have al := (Bool.and_eq_true _ _ ▸ (show (mvA h (qc h (rc h j)) && decide (mvN h (qc h (rc h j)) ≠ -1)) = true from alw j hj))
              have nN := of_decide_eq_true al.2
              exact ⟨bn.1, bn.2, by omega, fun z => nN (if_pos z)⟩
            -- the model's heap
            have v118 : ∀ j, j < nr → ∀ G', gS h1 G' → G'.2.2.2 118 j = iv (rc h j) := fun j hj G' k => (k.v I1 (c := 118) (j := j) (by decide) rfl (Or.inl (by decide))).trans (w118 j hj).1
            have mm : ∀ j, j < nr → ∃ pm' : Int32, h1.2.2.2 40 8 = .int pm' ∧ (qc h (rc h j) : Int) < pm'.toInt ∧ qc h (rc h j) < 40 ∧ (∀ G', gS h1 G' → G'.2.2.2 117 (rc h j) = iv (qc h (rc h j))) ∧ mvN h1 (qc h (rc h j)) = mvN h (qc h (rc h j)) ∧ mvP h1 (qc h (rc h j)) = mvP h (qc h (rc h j)) := fun j hj => by
              obtain ⟨s, pm', s1, ko, f0, lp, f1, by_, g86, g87, hq, g117, m1', k5⟩ := st_c I1 L1 hn1 hn14 (rows j hj).2.2
              obtain ⟨s', pm'', -, -, -, -, -, -, -, -, -, -, m1'', k5'⟩ := st_c I LC hn hn14 (rows j hj).2.2
              obtain ⟨-, -, -, e4, -, e6, -⟩ := mv_eq I LC.1 m1'' k5' E1
              rw [qc_eq E1] at k5 hq g117
              exact ⟨pm', m1', k5, hq, fun G' k => (k.v I1 (c := 117) (j := rc h j) (by decide) rfl (Or.inl (by decide))).trans g117, e6, e4⟩
            have hy : ww.toInt = 1 ∨ ww.toInt = 2 ∨ ww.toInt = 3 := by omega
            rcases hy with y1 | y2 | y3'
            · obtain ⟨r134, b0, b1⟩ := pl_134 (d := d + 18) (R := rc h) (pg := fun j => mvN h (qc h (rc h j))) Sg g15 hnr hn14 v443 bf (fun j hj => ⟨kc h (rc h j), (g75 j).trans (rows j hj).1, (rows j hj).2.2, (kk j hj).1, (kk j hj).2.1, (kk j hj).2.2.1, (bN j hj).1, (bN j hj).2.1⟩) (fun j hj => (bN j hj).2.2.1) (show i ≤ nr by omega)
              have v813 : G.2.2.2 81 3 = iv (wkV h 3) := (kG.v I1 (c := 81) (j := 3) (by decide) rfl (Or.inl (by decide))).trans ((E1.2.2.1 81 3 (by decide) (by decide) (by decide) (by decide) (by decide) (by decide) (by decide) (Or.inl (by decide))).trans (gV 3 (by decide)).2)
              have go : ∀ (m j : Nat) (s : Int) (G : am_H), j + m = i → (0 ≤ s ∧ s ≤ 31 + 30 * (j : Int)) → gS h1 G → ∃ G', am_ev (d + 20) 248 105 [.ref 78, iv i, iv ww.toInt, iv s, iv j] [] G (some (iv (plS (fun j => mvN h (qc h (rc h j))) m j s)), G') := fun m => by
                induction m with
                | zero =>
                  intro j s G hj bs k
                  exact ⟨G, pl_248h (d := d + 11) k.1 (by omega) (by omega) hj⟩
                | succ m ih =>
                  intro j s G hj bs k
                  obtain ⟨pm', m1', k5, hq, g117, eN, -⟩ := mm j (by omega)
                  obtain ⟨G1, H229, y⟩ := lk_229 (d := d + 13) I1 L1.1 m1' k5 k
                  rw [eN] at H229
                  have bn := bN j (by omega)
                  obtain ⟨G', r⟩ := ih (j + 1) (s + mvN h (qc h (rc h j))) G1 (by omega) (by omega) (k.y y)
                  exact ⟨G', pl_248i (d := d + 11) k.1 (by omega) (by omega) (by omega) (v118 j (by omega) G k) (by have := (rows j (by omega)).2.2; omega) (g117 G k) hq H229 y.1 ⟨bn.1, bn.2.1⟩ r⟩
              obtain ⟨G', r⟩ := go i 0 (wkV h 3 + 1) G (by omega) (by omega) kG
              have sh : ∀ (m j : Nat) (s : Int), plS (fun j => mvN h (qc h (rc h j))) m j (s + 1) = plS (fun j => mvN h (qc h (rc h j))) m j s + 1 := fun m => by
                induction m with
                | zero => intro j s; rfl
                | succ m ih =>
                  intro j s
                  show plS _ m (j + 1) (s + 1 + mvN h (qc h (rc h j))) = plS _ m (j + 1) (s + mvN h (qc h (rc h j))) + 1
                  rw [show s + 1 + mvN h (qc h (rc h j)) = s + mvN h (qc h (rc h j)) + 1 by omega]
                  exact ih _ _
              rw [sh] at r
              exact fin' _ _ _ (pl_132g (d := d + 14) S v15 hnr hi' y3 r133 Sg y1 r134 ⟨b0, b1⟩) (pl_248g (d := d + 11) S1 w55 hnr hi' bw H165 y0 HB1 r249 kG.1 y1 v813 bf r)
            · obtain ⟨pm', m1', k5, hq, g117, eN, -⟩ := mm i hi'
              obtain ⟨G1, H229, y⟩ := lk_229 (d := d + 13) I1 L1.1 m1' k5 kG
              rw [eN] at H229
              exact fin' _ _ _ (pl_132h (d := d + 14) S v15 hnr hi' y3 r133 Sg y2 ((g75 i).trans (rows i hi').1) (by have := (rows i hi').2.2; omega) (kk i hi').1 (kk i hi').2.1 (kk i hi').2.2.1) (pl_248e (d := d + 11) S1 w55 hnr hi' bw H165 y0 HB1 r249 kG.1 (v118 i hi' G kG) (by have := (rows i hi').2.2; omega) (g117 G kG) hq y2 H229 y.1)
            · obtain ⟨pm', m1', k5, hq, g117, -, eP⟩ := mm i hi'
              obtain ⟨H230, -⟩ := lk_230 (d := d + 16) I1 L1.1 m1' k5 kG
              rw [eP] at H230
              exact fin' _ _ _ (pl_132i (d := d + 14) S v15 hnr hi' y3 r133 Sg y3' ((g75 i).trans (rows i hi').1) (by have := (rows i hi').2.2; omega) (kk i hi').1 (kk i hi').2.1 ((kk i hi').2.2.2 (bN i hi').2.2.2)) (pl_248f (d := d + 11) S1 w55 hnr hi' bw H165 y0 HB1 r249 kG.1 (v118 i hi' G kG) (by have := (rows i hi').2.2; omega) (g117 G kG) hq y3' H230 kG.1)
        · have HB0 := HB.2 (by omega)
          have P2 := pl_248c (d := d + 11) S1 w55 hnr hi' bw H165 y0 HB0
          have hx' : (0 : Int) ≤ pp.toInt ∧ pp.toInt < nr := hx
          by_cases yn : ww.toInt < 0
          · have P1 := pl_132c (d := d + 14) S v15 hnr bp bw hx' yn
            rw [hi] at P1
            exact fin' (-1) _ _ P1 P2
          · have P1 := pl_132d (d := d + 14) S v15 hnr bp bw hx' (show 3 < ww.toInt by omega)
            rw [hi] at P1
            exact fin' (-1) _ _ P1 P2
    · have H165 := h165 false ⟨fun z => (by cases z), fun z => absurd ⟨z.1, by omega⟩ hx⟩
      have P2 := pl_248a (d := d + 11) S1 w55 hnr bp bw H165
      rw [← ep, ← ew] at P2
      by_cases xn : pp.toInt < 0
      · have P1 := pl_132a (d := d + 14) S v15 hnr bp bw xn
        rw [← ep, ← ew] at P1
        exact fin (-1) _ _ P1 P2
      · have P1 := pl_132b (d := d + 14) S v15 hnr bp bw (by omega)
        rw [← ep, ← ew] at P1
        exact fin (-1) _ _ P1 P2
  rw [q] at ev1
  exact ⟨b, h1, h2, ev1, ev2, I1, I2, F1, F2, fun q hq => (by cases hq), by omega, by omega⟩
end PLO
