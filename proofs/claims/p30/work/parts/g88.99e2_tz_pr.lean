/-! THE CALL printed, both sides -/
section PRO
variable {h g G h1 h' : am_H} {d n nr : Nat} {R : Nat → Nat}
theorem op_pri (I : cq_Inv none h) (X : rT h) (P0 : rp_P h) (C0 : rp_C h) (R0 : rL h) (XB : rbV h) (Dr : rD h) (Bk : rB h) (Q : rQ h) (V : rY h) (Gg : rG h) (Rr : rR h) (Tc : tT h (40, 9, 78, 15)) (ww : Int32) : ∃ (x : Int32) (h1 h2 : am_H), am_ev (d + 20) 135 0 (am_ent [.ref 40, .int ww] (am_in 135).2.2.1) [] h (some (.int x), h1) ∧ am_ev (d + 20) 250 0 (am_ent [.ref 78, .int ww] (am_in 250).2.2.1) [] h1 (some (.int x), h2) ∧ cq_Inv none h1 ∧ cq_Inv none h2 ∧ cq_Fr ct_135.2.2.2.1 h h1 ∧ cq_Fr ct_250.2.2.2.1 h1 h2 ∧ (∀ q ∈ ([] : List (Nat × Nat × Nat × Nat)), tT h2 q) ∧ h2.1 ≤ h.1 + 12 ∧ h2.2.1 ≤ h.2.1 + 624 := by
  obtain ⟨a, h1, ev1, I1, F1, A1, B1⟩ := sz_ap1 (A := 0) (B := 0) ok_135 rfl rfl (by decide +kernel) I (d := d + 20) (Nat.le_trans (by decide +kernel) (Nat.le_add_left 20 d)) ww
  obtain ⟨b, h2, ev2, I2, F2, A2, B2⟩ := sz_ap1 (A := 0) (B := 0) ok_250 rfl rfl (by decide +kernel) I1 (d := d + 20) (Nat.le_trans (by decide +kernel) (Nat.le_add_left 20 d)) ww
  have q : a = b := by
    have fin : ∀ (y : Int) (K G : am_H), am_ev (d + 20) 135 0 (am_ent [.ref 40, .int ww] 5) [] h (some (iv y), K) → am_ev (d + 20) 250 0 (am_ent [.ref 78, .int ww] 4) [] h1 (some (iv y), G) → a = b := fun y K G e1 e2 => by
      have z1 := (Prod.mk.inj (ax_det ev1 e1)).1
      have z2 := (Prod.mk.inj (ax_det ev2 e2)).1
      exact (Value.int.inj (Option.some.inj z1)).trans (Value.int.inj (Option.some.inj z2)).symm
    have LC : lkC h := ⟨⟨X, P0, R0, XB, Dr, Q, V⟩, Bk, Tc, C0, Gg⟩
    obtain ⟨L1, E1⟩ := lk_go (y := 135) I LC F1 (by decide +kernel) (Nat.le_trans (by decide +kernel) (Nat.le_add_left 20 d)) rfl ev1 (Nat.le_antisymm A1 F1.nx) (by decide +kernel)
    obtain ⟨n, pm, hn14, hn, hn5, m1, -, -⟩ := lk_c I LC
    obtain ⟨nr, hnr, v15, v55, rows⟩ := rR_n I Rr hn hn14
    have S := fS.of I
    have S1 := fS.of I1
    have w55 : h1.2.2.2 78 55 = iv nr := (lw_frF F1 I.lo (by decide) (by decide +kernel)).trans v55
    have w118 : ∀ j, j < nr → h1.2.2.2 118 j = iv (rc h j) ∧ rc h j < n := fun j hj => ⟨(lw_frA F1 I.lo (by decide) (by decide +kernel) j).trans (rows j hj).2.1, (rows j hj).2.2⟩
    have hn1 := E1.2.2.2.2.2.2.2.2.1.trans hn
    have bw := i_rng ww
    have ew := fx_of ww
    have HB := md_inN (d := d + 19) (h := h1) (u := ww.toInt) (l := 1) (g := 3) (by decide) (by decide) bw
    have fw : ∀ (y : Int32) (K G : am_H), am_ev (d + 20) 135 0 (am_ent [.ref 40, iv ww.toInt] 5) [] h (some (.int y), K) → am_ev (d + 20) 250 0 (am_ent [.ref 78, iv ww.toInt] 4) [] h1 (some (.int y), G) → a = b := fun y K G e1 e2 => by
      rw [← ew] at e1 e2
      have z1 := (Prod.mk.inj (ax_det ev1 e1)).1
      have z2 := (Prod.mk.inj (ax_det ev2 e2)).1
      exact (Value.int.inj (Option.some.inj z1)).trans (Value.int.inj (Option.some.inj z2)).symm
    by_cases y0 : ww.toInt = 0
    · exact fw _ _ _ (pr_135a (d := d + 14) S v15 hnr bw y0) (pr_250a (d := d + 11) S1 w55 hnr bw y0)
    · by_cases y3 : 1 ≤ ww.toInt ∧ ww.toInt ≤ 3
      · obtain ⟨g, r133, XX⟩ := lk_133 (d := d + 14) I LC hn hn14 v15 hnr (fun i hi => ⟨(rows i hi).1, (rows i hi).2.2⟩)
        have Sg := fS.of XX.1
        have E := XX.2.2.1
        obtain ⟨G, r249, kG⟩ := pl_249 (d := d + 11) I1 L1 hn1 hn14 w55 hnr w118
        have eA : aL (fun j => mvAl h1 (qc h1 (rc h j))) 0 nr = aL (fun i => mvAl h (qc h (rc h i))) 0 nr := by
          rw [Bool.eq_iff_iff, aL_iff, aL_iff]
          have k : ∀ i, i < nr → mvAl h1 (qc h1 (rc h i)) = mvAl h (qc h (rc h i)) := fun i hi => (st_eq I LC hn hn14 E1 (rows i hi).2.2 (rows i hi).2.2).2.2
          exact ⟨fun u i a b => (k i (by omega)).symm.trans (u i a b), fun u i a b => (k i (by omega)).trans (u i a b)⟩
        rw [eA] at r249
        have HB1 := HB.1 (by omega)
        cases hA : aL (fun i => mvAl h (qc h (rc h i))) 0 nr with
        | false =>
          rw [hA] at r133 r249
          exact fw _ _ _ (pr_135d (d := d + 14) S v15 hnr bw y3 r133 Sg) (pr_250d (d := d + 11) S1 w55 hnr bw y0 HB1 r249 kG.1)
        | true =>
          rw [hA] at r133 r249
          have alw : ∀ j, j < nr → mvAl h (qc h (rc h j)) = true := fun j hj => (aL_iff nr 0).1 hA j (Nat.zero_le _) (by omega)
          -- what stands in g
          obtain ⟨_, g', ev', I', F', A', B'⟩ := sz_ap0 (A := 0) (B := 0) ok_133 rfl rfl (by decide +kernel) I (d := d + 19) (Nat.le_trans (by decide +kernel) (Nat.le_add_left 19 d))
          have eg := (Prod.mk.inj (ax_det ev' r133)).2
          rw [eg] at F'
          have g75 : ∀ j, g.2.2.2 75 j = h.2.2.2 75 j := fun j => lw_frA F' I.lo (by decide) (by decide +kernel) j
          have g15 : g.2.2.2 40 15 = iv nr := (lw_frF F' I.lo (by decide) (by decide +kernel)).trans v15
          obtain ⟨gW, -, bf, -⟩ := wk_V XX.1 XX.2.1
          obtain ⟨gV, -⟩ := wk_V I LC
          have v443 := (gW 3 (by decide)).1
          rw [wkV_eq E] at v443 bf
          have kk : ∀ j, j < nr → g.2.2.2 74 (rc h j) = .ref (kc h (rc h j)) ∧ am_isO g (kc h (rc h j)) 1 = true ∧ g.2.2.2 (kc h (rc h j)) 5 = iv (mvN h (qc h (rc h j))) ∧ (mvP h (qc h (rc h j)) ≠ -1 → g.2.2.2 (kc h (rc h j)) 3 = iv (mvP h (qc h (rc h j)))) := fun j hj => by
            obtain ⟨s, k1, k2, -⟩ := st_D I LC hn hn14 XX (rows j hj).2.2 ⟨j, hj, rfl⟩
            obtain ⟨-, x3, -, x5, -⟩ := XX.2.2.2 (rc h j) n hn hn14 (rows j hj).2.2 ⟨j, hj, rfl⟩
            exact ⟨k1, k2, x5, fun z => (x3 z).1⟩
          have bN : ∀ j, j < nr → -1 ≤ mvN h (qc h (rc h j)) ∧ mvN h (qc h (rc h j)) ≤ 30 ∧ 0 ≤ mvN h (qc h (rc h j)) ∧ mvP h (qc h (rc h j)) ≠ -1 := fun j hj => by
            obtain ⟨s, pm', -, -, -, -, -, -, -, -, -, -, m1', k5⟩ := st_c I LC hn hn14 (rows j hj).2.2
            have bn := lk_n I LC.1 m1' k5
            have al := (Bool.and_eq_true _ _ ▸ (show (mvA h (qc h (rc h j)) && decide (mvN h (qc h (rc h j)) ≠ -1)) = true from alw j hj))
            have nN := of_decide_eq_true al.2
            exact ⟨bn.1, bn.2, by omega, fun z => nN (if_pos z)⟩
          -- the model's heap
          have v118 : ∀ j, j < nr → ∀ G', gS h1 G' → G'.2.2.2 118 j = iv (rc h j) := fun j hj G' k => (k.v I1 (c := 118) (j := j) (by decide) rfl (Or.inl (by decide))).trans (w118 j hj).1
          have mm : ∀ j, j < nr → ∃ pm' : Int32, h1.2.2.2 40 8 = .int pm' ∧ (qc h (rc h j) : Int) < pm'.toInt ∧ qc h (rc h j) < 40 ∧ (∀ G', gS h1 G' → G'.2.2.2 117 (rc h j) = iv (qc h (rc h j))) ∧ mvN h1 (qc h (rc h j)) = mvN h (qc h (rc h j)) ∧ mvP h1 (qc h (rc h j)) = mvP h (qc h (rc h j)) := fun j hj => by
            obtain ⟨s, pm', s1, ko, f0, lp, f1, by_, g86, g87, hq, g117, m1', k5⟩ := st_c I1 L1 hn1 hn14 (rows j hj).2.2
            obtain ⟨s', pm'', -, -, -, -, -, -, -, -, -, -, m1'', k5'⟩ := st_c I LC hn hn14 (rows j hj).2.2
            obtain ⟨-, -, -, e4, -, e6, -⟩ := mv_eq I LC.1 m1'' k5' E1
            rw [qc_eq E1] at k5 hq g117
            exact ⟨pm', m1', k5, hq, fun G' k => (k.v I1 (c := 117) (j := rc h j) (by decide) rfl (Or.inl (by decide))).trans g117, e6, e4⟩
          obtain ⟨r134, b0, b1⟩ := pl_134 (d := d + 18) (R := rc h) (pg := fun j => mvN h (qc h (rc h j))) Sg g15 hnr hn14 v443 bf (fun j hj => ⟨kc h (rc h j), (g75 j).trans (rows j hj).1, (rows j hj).2.2, (kk j hj).1, (kk j hj).2.1, (kk j hj).2.2.1, (bN j hj).1, (bN j hj).2.1⟩) (fun j hj => (bN j hj).2.2.1) (Nat.le_refl nr)
          have x81 : ∀ j G', gS h1 G' → G'.2.2.2 81 j = h.2.2.2 81 j := fun j G' k => (k.v I1 (c := 81) (j := j) (by decide) rfl (Or.inl (by decide))).trans (E1.2.2.1 81 j (by decide) (by decide) (by decide) (by decide) (by decide) (by decide) (by decide) (Or.inl (by decide)))
          have v441 := (gW 1 (by decide)).1
          rw [wkV_eq E] at v441
          have bu : 2 ≤ wkV h 1 ∧ wkV h 1 ≤ 32 := (wk_V I LC).2.1
          have hu : ¬ (Int32.ofInt (wkV h 1) = 0) := fun z => by
            have y := congrArg Int32.toInt z
            rw [fx_ti (by omega)] at y
            have y : wkV h 1 = 0 := y
            omega
          obtain ⟨P, hP⟩ : ∃ P : Int, plS (fun j => mvN h (qc h (rc h j))) nr 0 (wkV h 3) = P := ⟨_, rfl⟩
          rw [hP] at r134 b0 b1
          have go : ∀ (m j : Nat) (s : Int) (G : am_H), j + m = nr → (0 ≤ s ∧ s ≤ 30 + 30 * (j : Int)) → gS h1 G → ∃ G', gS h1 G' ∧ ∀ x, am_ev (d + 20) 250 40 [.ref 78, iv ww.toInt, iv (plS (fun j => mvN h (qc h (rc h j))) m j s), iv nr] [] G' x → am_ev (d + 20) 250 40 [.ref 78, iv ww.toInt, iv s, iv j] [] G x := fun m => by
            induction m with
            | zero =>
              intro j s G hj bs k
              have ej : j = nr := hj
              rw [ej]
              exact ⟨G, k, fun x r => r⟩
            | succ m ih =>
              intro j s G hj bs k
              obtain ⟨pm', m1', k5, hq, g117, eN, -⟩ := mm j (by omega)
              obtain ⟨G1, H229, y⟩ := lk_229 (d := d + 13) I1 L1.1 m1' k5 k
              rw [eN] at H229
              have bn := bN j (by omega)
              obtain ⟨G', k', r⟩ := ih (j + 1) (s + mvN h (qc h (rc h j))) G1 (by omega) (by omega) (k.y y)
              exact ⟨G', k', fun x z => pr_250i (d := d + 11) k.1 ((k.v I1 (c := 78) (j := 55) (by decide) rfl (Or.inr (by decide))).trans w55) hnr (by omega) (by omega) (v118 j (by omega) G k) (by have := (rows j (by omega)).2.2; omega) (g117 G k) hq H229 y.1 ⟨bn.1, bn.2.1⟩ (r x z)⟩
          obtain ⟨G', k', cont⟩ := go nr 0 (wkV h 3) G (by omega) (by omega) kG
          rw [hP] at cont
          have top := fun x r => pr_250g (d := d + 11) (x := x) S1 w55 hnr bw y0 HB1 r249 kG.1 ((x81 3 G kG).trans (gV 3 (by decide)).2) (cont x r)
          have z55 := (k'.v I1 (c := 78) (j := 55) (by decide) rfl (Or.inr (by decide))).trans w55
          have z811 := (x81 1 G' k').trans (gV 1 (by decide)).2
          have hy : ww.toInt = 1 ∨ ww.toInt = 2 ∨ ww.toInt = 3 := by omega
          rcases hy with y1 | y2 | y3'
          · exact fw _ _ _ (pr_135_1 (d := d + 14) S v15 hnr bw y3 r133 Sg g15 r134 ⟨b0, b1⟩ v441 bu hu y1) (top _ (pr_250_1 (d := d + 11) k'.1 z55 hnr ⟨b0, b1⟩ y3 rfl z811 bu hu y1))
          · exact fw _ _ _ (pr_135_2 (d := d + 14) S v15 hnr bw y3 r133 Sg g15 r134 ⟨b0, b1⟩ v441 bu hu y2) (top _ (pr_250_2 (d := d + 11) k'.1 z55 hnr ⟨b0, b1⟩ y3 rfl z811 bu hu y2))
          · exact fw _ _ _ (pr_135_3 (d := d + 14) S v15 hnr bw y3 r133 Sg g15 r134 ⟨b0, b1⟩ v441 bu hu y3') (top _ (pr_250_3 (d := d + 11) k'.1 z55 hnr ⟨b0, b1⟩ y3 rfl z811 bu hu y3'))
      · have P2 := pr_250b (d := d + 11) S1 w55 hnr bw y0 (HB.2 (by omega))
        by_cases yn : ww.toInt < 0
        · exact fw _ _ _ (pr_135b (d := d + 14) S v15 hnr bw yn) P2
        · exact fw _ _ _ (pr_135c (d := d + 14) S v15 hnr bw (by omega)) P2
  rw [q] at ev1
  exact ⟨b, h1, h2, ev1, ev2, I1, I2, F1, F2, fun q hq => (by cases hq), by omega, by omega⟩
end PRO
