/-! LAY, the call -/
def laA (h : am_H) (n L : Nat) : Int := if 1 ≤ L ∧ L ≤ 14 then (match laR (laC h) n L 0 (Int32.ofInt 0) with
  | none => -1
  | some _ => if aL (fun i => mvAl h (qc h (ci h i))) 0 L = true then laS h (ci h) (L - 1) 0 0 else -4) else -1
/-- the row on both sides -/
def rR (h : am_H) : Prop := ∃ nr : Nat, nr ≤ 14 ∧ h.2.2.2 40 15 = iv nr ∧ h.2.2.2 78 55 = iv nr ∧ ∀ i, i < nr → ∃ r : Nat, h.2.2.2 75 i = iv r ∧ h.2.2.2 118 i = iv r ∧ ∀ n : Int32, h.2.2.2 40 13 = .int n → (r : Int) < n.toInt
def rR_m (m : cq_W) : Bool := lw_nF m 40 15 && lw_nF m 78 55 && lw_nA m 75 && lw_nA m 118 && lw_nF m 40 13
section LAO
variable {h g G h' h1 hv : am_H} {d n L i j : Nat} {S0 : Int32} {m : cq_W} {x4 x5 x6 : Value}
theorem rR_fr (I : cq_Inv none h) (F : cq_Fr m h h') (q : rR_m m = true) (X : rR h) : rR h' := by
  have b1 := (Bool.and_eq_true _ _ ▸ q)
  have b2 := (Bool.and_eq_true _ _ ▸ b1.1)
  have b3 := (Bool.and_eq_true _ _ ▸ b2.1)
  have b4 := (Bool.and_eq_true _ _ ▸ b3.1)
  obtain ⟨nr, a1, a2, a3, a4⟩ := X
  refine ⟨nr, a1, (lw_frF F I.lo (by decide) b4.1).trans a2, (lw_frF F I.lo (by decide) b4.2).trans a3, fun i hi => ?_⟩
  obtain ⟨r, r1, r2, r3⟩ := a4 i hi
  exact ⟨r, (lw_frA F I.lo (by decide) b3.2 i).trans r1, (lw_frA F I.lo (by decide) b2.2 i).trans r2, fun n e => r3 n ((lw_frF F I.lo (by decide) b1.2).symm.trans e)⟩
theorem lkI_tr (I : cq_Inv none h) (LC : lkC h) (hn : h.2.2.2 40 13 = iv n) (hn14 : n ≤ 14) (E : lkE h G) {b : Nat → Prop} (X : lkI G g b) : lkI h g b := by
  refine ⟨X.1, X.2.1, E.tr X.2.2.1, fun c n' a b' e f => ?_⟩
  have en : n' = n := nat_iv (a.symm.trans hn) (by omega) (by omega)
  subst en
  obtain ⟨s, pm, s1, ko, f0, lp, f1, by_, g86, g87, hq, g117, m1, k5⟩ := st_c I LC hn hn14 e
  have z := X.2.2.2 c n' (E.2.2.2.2.2.2.2.2.1.trans a) b' e f
  rw [kc_eq E, qc_eq E] at z
  exact lkF_eq I LC.1 m1 k5 E z
theorem ci_b (hn14 : n ≤ 14) {S' : Int32} (z : laR (laC h) n L 0 (Int32.ofInt 0) = some S') : (∀ j, j < L → laC h j = (ci h j : Int) ∧ ci h j < n) ∧ ∀ c : Nat, c < 31 → (bt S' c = true ↔ ∃ j, j < L ∧ ci h j = c) := by
  obtain ⟨a, b⟩ := laR_ok hn14 L 0 _ _ z
  have k : ∀ j, j < L → laC h j = (ci h j : Int) ∧ ci h j < n := fun j hj => by
    have := a j (Nat.zero_le _) (by omega)
    unfold ci
    omega
  refine ⟨k, fun c hc => ?_⟩
  rw [b c hc, bt_z]
  refine ⟨fun w => ?_, fun w => ?_⟩
  · rcases w with w | ⟨j, x, y, w⟩
    · cases w
    · have := k j (by omega)
      exact ⟨j, by omega, by omega⟩
  · obtain ⟨j, x, y⟩ := w
    have := k j x
    exact Or.inr ⟨j, Nat.zero_le _, by omega, by omega⟩
theorem la_P (I : cq_Inv none h) (LC : lkC h) (hn : h.2.2.2 40 13 = iv n) (hn14 : n ≤ 14) (v41 : h.2.2.2 41 1 = iv L) (hL : L ≤ 1600) : ∃ H', am_ev (d + 8) 128 0 (am_ent [.ref 40] 2) [] h (some (iv (laA h n L)), H') ∧ (0 ≤ laA h n L → (1 ≤ L ∧ L ≤ 14) ∧ (∀ j, j < L → H'.2.2.2 75 j = iv (ci h j) ∧ ci h j < n) ∧ H'.2.2.2 40 15 = iv L) ∧ (laA h n L < 0 → (∀ j, H'.2.2.2 75 j = h.2.2.2 75 j) ∧ H'.2.2.2 40 15 = h.2.2.2 40 15) := by
  have S := fS.of I
  have fin : ∀ (r : Int) (G : am_H), laA h n L = r → am_ev (d + 7) 129 0 (am_ent [.ref 40] 5) [] h (some (iv r), G) → fS G → (0 ≤ r → (1 ≤ L ∧ L ≤ 14) ∧ (∀ j, j < L → G.2.2.2 75 j = iv (ci h j) ∧ ci h j < n) ∧ G.2.2.2 40 15 = iv L) → (r < 0 → (∀ j, G.2.2.2 75 j = h.2.2.2 75 j) ∧ G.2.2.2 40 15 = h.2.2.2 40 15) → ∃ H', am_ev (d + 8) 128 0 (am_ent [.ref 40] 2) [] h (some (iv (laA h n L)), H') ∧ (0 ≤ laA h n L → (1 ≤ L ∧ L ≤ 14) ∧ (∀ j, j < L → H'.2.2.2 75 j = iv (ci h j) ∧ ci h j < n) ∧ H'.2.2.2 40 15 = iv L) ∧ (laA h n L < 0 → (∀ j, H'.2.2.2 75 j = h.2.2.2 75 j) ∧ H'.2.2.2 40 15 = h.2.2.2 40 15) := fun r G e ev SG p1 p2 => by
    rw [e]
    refine ⟨am_put G 41 1 (iv 0), la_128r S ev SG, fun z => ?_, fun z => ?_⟩
    · obtain ⟨y1, y2, y3⟩ := p1 z
      exact ⟨y1, fun j hj => ⟨ax_put_o (Or.inl (by decide)) (y2 j hj).1, (y2 j hj).2⟩, ax_put_o (Or.inl (by decide)) y3⟩
    · obtain ⟨y1, y2⟩ := p2 z
      exact ⟨fun j => ax_put_o (Or.inl (by decide)) (y1 j), ax_put_o (Or.inl (by decide)) y2⟩
  by_cases hl : 1 ≤ L ∧ L ≤ 14
  · rcases la_p1 (d := d) I LC hn hn14 hl v41 L 0 (Int32.ofInt 0) h am_ph (by omega) I LC lkE.rf (fun _ _ _ => rfl) (fun j hj => absurd hj (Nat.not_lt_zero j)) with ⟨z, G', r, fr, SG⟩ | ⟨S', z, G', x4', IG, LG, E, fr, f68, cont⟩
    · refine fin (-1) G' ?_ (la_129s S v41 hl r) SG (fun z => absurd z (by decide)) (fun _ => ⟨fun j => fr 75 j (by decide), fr 40 15 (by decide)⟩)
      unfold laA
      rw [if_pos hl, z]
    · obtain ⟨cb, sb⟩ := ci_b hn14 z
      have hnG := (fr 40 13 (by decide)).trans hn
      obtain ⟨g, r108, XG⟩ := lk_108 (d := d + 1) IG LG (S0 := S') hnG hn14
      have X := lkI_tr I LC hn hn14 E XG
      have Sg := fS.of X.1
      obtain ⟨_, g', ev', I', F', A', B'⟩ := sz_ap1 (A := 0) (B := 0) ok_108 rfl rfl (by decide +kernel) IG (d := d + 6) (Nat.le_trans (by decide +kernel) (Nat.le_add_left 6 d)) S'
      have eg := (Prod.mk.inj (ax_det ev' r108)).2
      rw [eg] at F'
      have g75 : ∀ j, g.2.2.2 75 j = h.2.2.2 75 j := fun j => (lw_frA F' IG.lo (by decide) (by decide +kernel) j).trans (fr 75 j (by decide))
      have g15 : g.2.2.2 40 15 = h.2.2.2 40 15 := (lw_frF F' IG.lo (by decide) (by decide +kernel)).trans (fr 40 15 (by decide))
      have g13 : g.2.2.2 40 13 = iv n := (lw_frF F' IG.lo (by decide) (by decide +kernel)).trans hnG
      have g68 : ∀ j, j < L → g.2.2.2 68 j = iv (ci h j) := fun j hj => by
        rw [← (cb j hj).1]
        exact (lw_frA F' IG.lo (by decide) (by decide +kernel) j).trans (f68 j hj)
      have al : ∀ c, c < n → mvAl G' (qc G' c) = mvAl h (qc h c) := fun c hc => (st_eq I LC hn hn14 E hc hc).2.2
      have eA : aL (fun c => !bt S' c || mvAl G' (qc G' c)) 0 n = aL (fun i => mvAl h (qc h (ci h i))) 0 L := by
        rw [Bool.eq_iff_iff, aL_iff, aL_iff]
        refine ⟨fun w i a b => ?_, fun w c a b => ?_⟩
        · have k := cb i (by omega)
          have w := w (ci h i) (Nat.zero_le _) (by omega)
          have w : (!bt S' (ci h i) || mvAl G' (qc G' (ci h i))) = true := w
          rw [(sb (ci h i) (by omega)).2 ⟨i, by omega, rfl⟩, al _ k.2] at w
          exact w
        · show (!bt S' c || mvAl G' (qc G' c)) = true
          cases y : bt S' c with
          | false => rfl
          | true =>
            obtain ⟨j, j1, j2⟩ := (sb c (by omega)).1 y
            rw [al c (by omega), ← j2]
            exact w j (Nat.zero_le _) (by omega)
      rw [eA] at r108
      cases hA : aL (fun i => mvAl h (qc h (ci h i))) 0 L with
      | false =>
        rw [hA] at r108
        refine fin (-4) g ?_ (la_129s S v41 hl (cont _ (la_129d (fS.of IG) r108 Sg))) Sg (fun z => absurd z (by decide)) (fun _ => ⟨g75, g15⟩)
        unfold laA
        rw [if_pos hl, z]
        show (if aL (fun i => mvAl h (qc h (ci h i))) 0 L = true then laS h (ci h) (L - 1) 0 0 else -4) = -4
        rw [hA]
        rfl
      | true =>
        rw [hA] at r108
        have e : laA h n L = laS h (ci h) (L - 1) 0 0 := by
          unfold laA
          rw [if_pos hl, z]
          show (if aL (fun i => mvAl h (qc h (ci h i))) 0 L = true then laS h (ci h) (L - 1) 0 0 else -4) = _
          rw [hA]
          rfl
        have D : ∀ j, j < L → stD h g (ci h j) := fun j hj => st_D I LC hn hn14 X (cb j hj).2 ((sb (ci h j) (by have := cb j hj; omega)).2 ⟨j, hj, rfl⟩)
        have H131 := la_131s (la_p3 (d := d + 3) Sg hl hn14 g68 (fun j hj => (cb j hj).2) D (L - 1) 0 0 am_ph (by omega) (by omega))
        have yb := laS_b h (C := ci h) (L - 1) 0 0 (fun j a b => by
          obtain ⟨s, -, -, -, -, -, -, -, -, -, y, -⟩ := D j (by omega)
          exact y) (by omega)
        rcases yb with y | y
        · rw [y] at e H131
          exact fin (-1) g e (la_129s S v41 hl (cont _ (la_129f (fS.of IG) r108 Sg g13 H131))) Sg (fun z => absurd z (by decide)) (fun _ => ⟨g75, g15⟩)
        · obtain ⟨G2, r127, S2, p1, p2, p3⟩ := la_p4 (d := d + 6) hl L 0 g (by omega) Sg g68
          refine fin _ G2 e (la_129s S v41 hl (cont _ (la_129g (fS.of IG) r108 Sg g13 H131 (by omega) (la_127s r127) S2))) S2 (fun _ => ⟨hl, fun j hj => ⟨p1 j (Nat.zero_le _) hj, (cb j hj).2⟩, p3⟩) (fun z => by omega)
  · have e : laA h n L = -1 := if_neg hl
    by_cases z : L < 1
    · exact fin (-1) h e (la_129n S v41 z) S (fun z => absurd z (by decide)) (fun _ => ⟨fun _ => rfl, rfl⟩)
    · exact fin (-1) h e (la_129m S v41 (by omega)) S (fun z => absurd z (by decide)) (fun _ => ⟨fun _ => rfl, rfl⟩)
/-! the model's side -/
theorem la_m1 (S : fS g) (v53 : g.2.2.2 78 53 = iv n) (hn14 : n ≤ 14) (hL : 1 ≤ L ∧ L ≤ 14) (b80 : ∀ i, i < 1600 → g.2.2.2 80 i = iv (lab h i) ∧ -128 ≤ lab h i ∧ lab h i ≤ 127) : ∀ (m i : Nat) (S0 : Int32) (x4 : Value), i + m = L → (laR (laC h) n m i S0 = none ∧ am_ev (d + 9) 247 28 [.ref 78, iv L, .int S0, iv i, x4, x5, x6] [] g (some (iv (-1)), g)) ∨ (∃ S', laR (laC h) n m i S0 = some S' ∧ ∃ x4' : Value, ∀ x, am_ev (d + 9) 247 80 [.ref 78, iv L, .int S', iv 0, x4', x5, x6] [] g x → am_ev (d + 9) 247 28 [.ref 78, iv L, .int S0, iv i, x4, x5, x6] [] g x) := fun m => by
  induction m with
  | zero =>
    intro i S0 x4 hi
    exact Or.inr ⟨S0, rfl, x4, fun x r => la_247e S hL.2 hi r⟩
  | succ m ih =>
    intro i S0 x4 hi
    obtain ⟨b1, bb⟩ := b80 i (by omega)
    have eC : laC h i = lab h i - 65 := rfl
    rw [laR_s]
    by_cases hv : 0 ≤ laC h i ∧ laC h i < n
    · obtain ⟨c, hc⟩ : ∃ c : Nat, laC h i = (c : Int) := ⟨(laC h i).toNat, by omega⟩
      have tn : (laC h i).toNat = c := by omega
      rw [tn]
      have b2_ : g.2.2.2 80 i = iv ((c : Int) + 65) := by
        rw [b1]
        exact congrArg iv (by omega)
      have H227 := la_2271 (d := d + 7) (x := (c : Int)) S v53 hn14 (by omega) (by omega)
      cases qb : bt S0 c with
      | false =>
        rw [if_pos ⟨hv.1, hv.2, rfl⟩]
        rcases ih (i + 1) (S0 ||| (Int32.ofInt 1 <<< (Int32.ofInt (c : Int) &&& 31))) (iv c) (by omega) with ⟨z, r⟩ | ⟨S', z, x4', r⟩
        · exact Or.inl ⟨z, la_247c S hL.2 (by omega) b2_ (by omega) H227 qb r⟩
        · exact Or.inr ⟨S', z, x4', fun x k => la_247c S hL.2 (by omega) b2_ (by omega) H227 qb (r x k)⟩
      | true =>
        rw [if_neg (fun z => by cases z.2.2)]
        exact Or.inl ⟨rfl, la_247b S hL.2 (by omega) b2_ (by omega) H227 qb⟩
    · rw [if_neg (fun z => hv ⟨z.1, z.2.1⟩)]
      exact Or.inl ⟨rfl, la_247a S hL.2 (by omega) b1 bb (la_2270 (d := d + 7) S v53 hn14 (by omega) (by omega))⟩
theorem la_m2 (Iv : cq_Inv none hv) (Lv : lkC hv) (hn : hv.2.2.2 40 13 = iv n) (hn14 : n ≤ 14) (hL : 1 ≤ L ∧ L ≤ 14) {C : Nat → Nat} {Al : Nat → Bool} (hC : ∀ j, j < L → C j < n ∧ hv.2.2.2 80 j = iv ((C j : Int) + 65) ∧ mvAl hv (qc hv (C j)) = Al j) : ∀ (m i : Nat) (G : am_H), i + m = L → gS hv G → (aL Al i m = false ∧ ∃ G', am_ev (d + 9) 247 80 [.ref 78, iv L, .int S0, iv i, x4, x5, x6] [] G (some (iv (-4)), G') ∧ ∀ a j, a ≠ 98 → a ≠ 99 → G'.2.2.2 a j = G.2.2.2 a j) ∨ (aL Al i m = true ∧ ∃ G', gS hv G' ∧ (∀ a j, a ≠ 98 → a ≠ 99 → G'.2.2.2 a j = G.2.2.2 a j) ∧ ∀ x, am_ev (d + 9) 247 120 [.ref 78, iv L, .int S0, iv 0, iv 1, x5, x6] [] G' x → am_ev (d + 9) 247 80 [.ref 78, iv L, .int S0, iv i, x4, x5, x6] [] G x) := fun m => by
  induction m with
  | zero =>
    intro i G hi k
    exact Or.inr ⟨rfl, G, k, fun _ _ _ _ => rfl, fun x r => la_247f k.1 hL.2 hi r⟩
  | succ m ih =>
    intro i G hi k
    obtain ⟨c1, c2, c3⟩ := hC i (by omega)
    obtain ⟨s, pm, s1, ko, f0, lp, f1, by_, g86, g87, hq, g117, m1, k5⟩ := st_c Iv Lv hn hn14 c1
    obtain ⟨G1, H228, y⟩ := lk_228 (d := d + 1) Iv Lv.1 m1 k5 k
    have w := (k.v Iv (c := 117) (j := C i) (by decide) rfl (Or.inl (by decide))).trans g117
    have w80 := (k.v Iv (c := 80) (j := i) (by decide) rfl (Or.inl (by decide))).trans c2
    rw [c3] at H228
    have e : aL Al i (m + 1) = (Al i && aL Al (i + 1) m) := rfl
    rw [e]
    have c14 : C i < 14 := by omega
    cases z : Al i with
    | false =>
      rw [z] at H228
      exact Or.inl ⟨rfl, G1, la_247g k.1 hL.2 (by omega) w80 c14 w hq H228 y.1, fun a j n1 n2 => y.2.2.2 a j n1 n2⟩
    | true =>
      rw [z] at H228
      rcases ih (i + 1) G1 (by omega) (k.y y) with ⟨q, G', r, r2⟩ | ⟨q, G', r1, r2, r3⟩
      · exact Or.inl ⟨q, G', la_247h k.1 hL.2 (by omega) w80 c14 w hq H228 y.1 r, fun a j n1 n2 => (r2 a j n1 n2).trans (y.2.2.2 a j n1 n2)⟩
      · exact Or.inr ⟨q, G', r1, fun a j n1 n2 => (r2 a j n1 n2).trans (y.2.2.2 a j n1 n2), fun x r => la_247h k.1 hL.2 (by omega) w80 c14 w hq H228 y.1 (r3 x r)⟩
theorem la_m3 (I : cq_Inv none h) (LC : lkC h) (hnh : h.2.2.2 40 13 = iv n) (E : lkE h hv) (Iv : cq_Inv none hv) (Lv : lkC hv) (hn : hv.2.2.2 40 13 = iv n) (hn14 : n ≤ 14) (hL : 1 ≤ L ∧ L ≤ 14) {C : Nat → Nat} (hC : ∀ j, j < L → C j < n ∧ hv.2.2.2 80 j = iv ((C j : Int) + 65)) (k : gS hv G) : ∀ (m i : Nat) (st : Int) (x5 x6 : Value), i + 1 + m = L → (0 ≤ st ∧ st ≤ 2100 * (i : Int)) → (laS h C m i st = -1 ∧ am_ev (d + 9) 247 120 [.ref 78, iv L, .int S0, iv st, iv ((i : Int) + 1), x5, x6] [] G (some (iv (-1)), G)) ∨ (0 ≤ laS h C m i st ∧ ∃ x5' x6' : Value, ∀ x, am_ev (d + 9) 247 190 [.ref 78, iv L, .int S0, iv (laS h C m i st), iv 0, x5', x6'] [] (am_put G 78 55 (iv 0)) x → am_ev (d + 9) 247 120 [.ref 78, iv L, .int S0, iv st, iv ((i : Int) + 1), x5, x6] [] G x) := fun m => by
  induction m with
  | zero =>
    intro i st x5 x6 hi bs
    exact Or.inr ⟨bs.1, x5, x6, fun x r => la_247i k.1 hL.2 (by omega) (by omega) (by omega) r⟩
  | succ m ih =>
    intro i st x5 x6 hi bs
    have e : laS h C (m + 1) i st = if stN h (C i) (C (i + 1)) = true then laS h C m (i + 1) (st + stS h (C i) (C (i + 1))) else -1 := rfl
    rw [e]
    obtain ⟨a1, a2⟩ := hC i (by omega)
    obtain ⟨b1, b2_⟩ := hC (i + 1) (by omega)
    have w1 := (k.v Iv (c := 80) (j := i) (by decide) rfl (Or.inl (by decide))).trans a2
    have w2 := (k.v Iv (c := 80) (j := i + 1) (by decide) rfl (Or.inl (by decide))).trans b2_
    obtain ⟨q1, q2, -⟩ := st_eq I LC hnh hn14 E a1 b1
    have H241 := st_241 (d := d) Iv Lv hn hn14 a1 b1 k
    have H244 := st_244 (d := d + 7) Iv Lv hn hn14 a1 b1 k
    rw [q1] at H241
    rw [q2] at H244
    obtain ⟨s, pm, -, -, -, -, -, y1, -⟩ := st_c I LC hnh hn14 a1
    obtain ⟨s', pm', -, -, -, -, -, y2, -⟩ := st_c I LC hnh hn14 b1
    have kk := st_S h (C i) (C (i + 1))
    cases z : stN h (C i) (C (i + 1)) with
    | false =>
      rw [z] at H241
      rw [if_neg (by decide)]
      exact Or.inl ⟨rfl, la_247j k.1 hL.2 (by omega) (by omega) w1 w2 (by omega) (by omega) H241⟩
    | true =>
      rw [z] at H241
      rw [if_pos rfl]
      rcases ih (i + 1) (st + stS h (C i) (C (i + 1))) (iv (C i)) (iv (C (i + 1))) (by omega) (by omega) with ⟨w, r⟩ | ⟨w, x5', x6', r⟩
      · exact Or.inl ⟨w, la_247k k.1 hL.2 (by omega) (by omega) w1 w2 (by omega) (by omega) H241 H244 (by omega) r⟩
      · exact Or.inr ⟨w, x5', x6', fun x r2 => la_247k k.1 hL.2 (by omega) (by omega) w1 w2 (by omega) (by omega) H241 H244 (by omega) (r x r2)⟩
theorem la_m4 (hL : 1 ≤ L ∧ L ≤ 14) {C : Nat → Nat} {st : Int} (bs : 0 ≤ st ∧ st ≤ 40000) (hC : ∀ j, j < L → C j < 14) : ∀ (m i : Nat) (G : am_H), i + m = L → fS G → G.2.2.2 78 55 = iv i → (∀ j, j < L → G.2.2.2 80 j = iv ((C j : Int) + 65)) → ∃ G', am_ev (d + 9) 247 190 [.ref 78, iv L, .int S0, iv st, iv i, x5, x6] [] G (some (iv st), G') ∧ (∀ j, i ≤ j → j < L → G'.2.2.2 118 j = iv (C j)) ∧ (∀ j, j < i → G'.2.2.2 118 j = G.2.2.2 118 j) ∧ G'.2.2.2 78 55 = iv L := fun m => by
  induction m with
  | zero =>
    intro i G hi S v55 f80
    have ei : i = L := hi
    refine ⟨_, la_247l S hL.2 bs hi (la_246 S) (S.po rfl rfl |>.po rfl rfl |>.po rfl rfl), fun j a b => by omega, fun j hj => ax_put_o (Or.inl (by decide)) (ax_put_o (Or.inl (by decide)) (ax_put_o (Or.inl (by decide)) rfl)), ?_⟩
    rw [← ei]
    exact ax_put_o (Or.inr (by decide)) (ax_put_o (Or.inr (by decide)) (ax_put_o (Or.inr (by decide)) v55))
  | succ m ih =>
    intro i G hi S v55 f80
    have S2 : fS (am_put (am_put G 118 i (iv (C i))) 78 55 (iv ((i : Int) + 1))) := (S.pa rfl |>.po rfl rfl)
    obtain ⟨G', r1, r2, r3, r4⟩ := ih (i + 1) (am_put (am_put G 118 i (iv (C i))) 78 55 (iv ((i : Int) + 1))) (by omega) S2 (by
      rw [show (((i + 1 : Nat) : Int)) = (i : Int) + 1 by omega]
      exact ax_put_s _ _ _) (fun j hj => ax_put_o (Or.inl (by decide)) (ax_put_o (Or.inl (by decide)) (f80 j hj)))
    refine ⟨G', la_247m S hL.2 bs (by omega) (f80 i (by omega)) (hC i (by omega)) (la_245 S v55 (by omega) (hC i (by omega))) S2 r1, fun j a b => ?_, fun j hj => (r3 j (by omega)).trans (ax_put_o (Or.inl (by decide)) (ax_put_o (Or.inr (by omega)) rfl)), r4⟩
    by_cases ej : j = i
    · rw [ej]
      exact (r3 i (by omega)).trans (ax_put_o (Or.inl (by decide)) (ax_put_s _ _ _))
    · exact r2 j (by omega) b
theorem la_M (I : cq_Inv none h) (LC : lkC h) (hn : h.2.2.2 40 13 = iv n) (hn14 : n ≤ 14) (I1 : cq_Inv none h1) (L1 : lkC h1) (E1 : lkE h h1) (v2 : h1.2.2.2 78 2 = iv L) (hL : L ≤ 1600) : ∃ H', am_ev (d + 9) 247 0 (am_ent [.ref 78] 7) [] h1 (some (iv (laA h n L)), H') ∧ (0 ≤ laA h n L → (∀ j, j < L → H'.2.2.2 118 j = iv (ci h j)) ∧ H'.2.2.2 78 55 = iv L) ∧ (laA h n L < 0 → (∀ j, H'.2.2.2 118 j = h1.2.2.2 118 j) ∧ H'.2.2.2 78 55 = h1.2.2.2 78 55) := by
  obtain ⟨Iv, Lv, Ev⟩ := lk_put2 I1 L1
  have S1 := fS.of I1
  have E := E1.tr Ev
  have hvn := E.2.2.2.2.2.2.2.2.1.trans hn
  obtain ⟨n0, pm, b0, c1, v53, m1, -, -⟩ := lk_c Iv Lv
  have en : n0 = n := nat_iv (c1.symm.trans hvn) (by omega) (by omega)
  subst en
  have b80 : ∀ i, i < 1600 → (am_put h1 78 2 (iv 0)).2.2.2 80 i = iv (lab h i) ∧ -128 ≤ lab h i ∧ lab h i ≤ 127 := fun i hi => by
    obtain ⟨y1, -, y2⟩ := la_by I LC.1.1 hi
    exact ⟨(E.2.2.1 80 i (by decide) (by decide) (by decide) (by decide) (by decide) (by decide) (by decide) (Or.inl (by decide))).trans y1, y2⟩
  have p118 : ∀ j, (am_put h1 78 2 (iv 0)).2.2.2 118 j = h1.2.2.2 118 j := fun j => ax_put_o (Or.inl (by decide)) rfl
  have p55 : (am_put h1 78 2 (iv 0)).2.2.2 78 55 = h1.2.2.2 78 55 := ax_put_o (Or.inr (by decide)) rfl
  have HH := md_inN (d := d + 8) (h := am_put h1 78 2 (iv 0)) (u := (L : Int)) (l := 1) (g := 14) (by decide) (by decide) (by omega)
  by_cases hl : 1 ≤ L ∧ L ≤ 14
  · have H165 := HH.1 (by omega)
    rcases la_m1 (h := h) (d := d) (x5 := am_ph) (x6 := am_ph) (fS.of Iv) v53 hn14 hl b80 L 0 (Int32.ofInt 0) am_ph (by omega) with ⟨z, r⟩ | ⟨S', z, x4', cont⟩
    · have e : laA h n0 L = -1 := by
        unfold laA
        rw [if_pos hl, z]
      rw [e]
      exact ⟨_, la_247s S1 v2 hL H165 r, fun z => absurd z (by decide), fun _ => ⟨p118, p55⟩⟩
    · obtain ⟨cb, -⟩ := ci_b hn14 z
      have hC : ∀ j, j < L → ci h j < n0 ∧ (am_put h1 78 2 (iv 0)).2.2.2 80 j = iv ((ci h j : Int) + 65) := fun j hj => by
        obtain ⟨y1, y2⟩ := cb j hj
        have y1 : lab h j - 65 = (ci h j : Int) := y1
        refine ⟨y2, (b80 j (by omega)).1.trans (congrArg iv (by omega))⟩
      rcases la_m2 (d := d) (S0 := S') (x4 := x4') (x5 := am_ph) (x6 := am_ph) Iv Lv hvn hn14 hl (C := ci h) (Al := fun i => mvAl h (qc h (ci h i))) (fun j hj => ⟨(hC j hj).1, (hC j hj).2, (st_eq I LC hn hn14 E (hC j hj).1 (hC j hj).1).2.2⟩) L 0 _ (by omega) (gS.rf Iv) with ⟨hA, G', r, fr⟩ | ⟨hA, G', kG, fr, cont2⟩
      · have e : laA h n0 L = -4 := by
          unfold laA
          rw [if_pos hl, z]
          show (if aL (fun i => mvAl h (qc h (ci h i))) 0 L = true then laS h (ci h) (L - 1) 0 0 else -4) = -4
          rw [hA]
          rfl
        rw [e]
        exact ⟨G', la_247s S1 v2 hL H165 (cont _ r), fun z => absurd z (by decide), fun _ => ⟨fun j => (fr 118 j (by decide) (by decide)).trans (p118 j), (fr 78 55 (by decide) (by decide)).trans p55⟩⟩
      · have e : laA h n0 L = laS h (ci h) (L - 1) 0 0 := by
          unfold laA
          rw [if_pos hl, z]
          show (if aL (fun i => mvAl h (qc h (ci h i))) 0 L = true then laS h (ci h) (L - 1) 0 0 else -4) = _
          rw [hA]
          rfl
        rcases la_m3 (d := d) (S0 := S') I LC hn E Iv Lv hvn hn14 hl hC kG (L - 1) 0 0 am_ph am_ph (by omega) (by omega) with ⟨y, r⟩ | ⟨y, x5', x6', cont3⟩
        · rw [e, y]
          exact ⟨G', la_247s S1 v2 hL H165 (cont _ (cont2 _ r)), fun z => absurd z (by decide), fun _ => ⟨fun j => (fr 118 j (by decide) (by decide)).trans (p118 j), (fr 78 55 (by decide) (by decide)).trans p55⟩⟩
        · have yb := laS_b h (C := ci h) (L - 1) 0 0 (fun j a b => by
            obtain ⟨s, pm', -, -, -, -, -, y, -⟩ := st_c I LC hn hn14 (hC j (by omega)).1
            exact y) (by omega)
          obtain ⟨G2, r, r2, r3, r4⟩ := la_m4 (d := d) (S0 := S') (x5 := x5') (x6 := x6') hl (C := ci h) (st := laS h (ci h) (L - 1) 0 0) (by omega) (fun j hj => by have := (hC j hj).1; omega) L 0 (am_put G' 78 55 (iv 0)) (by omega) (kG.1.po rfl rfl) (ax_put_s _ _ _) (fun j hj => (ax_put_o (Or.inl (by decide)) ((fr 80 j (by decide) (by decide)).trans (hC j hj).2)))
          rw [e]
          exact ⟨G2, la_247s S1 v2 hL H165 (cont _ (cont2 _ (cont3 _ r))), fun _ => ⟨fun j hj => r2 j (Nat.zero_le _) hj, r4⟩, fun z => by omega⟩
  · have e : laA h n0 L = -1 := if_neg hl
    rw [e]
    exact ⟨_, la_247n S1 v2 hL (HH.2 (by omega)), fun z => absurd z (by decide), fun _ => ⟨p118, p55⟩⟩
theorem op_lay (I : cq_Inv none h) (X : rT h) (P0 : rp_P h) (C0 : rp_C h) (R0 : rL h) (XB : rbV h) (Dr : rD h) (Bk : rB h) (Q : rQ h) (V : rY h) (Gg : rG h) (Tc : tT h (40, 9, 78, 15)) (T41 : tT h (41, 1, 78, 2)) : ∃ (x : Int32) (h1 h2 : am_H), am_ev (d + 20) 128 0 (am_ent [.ref 40] (am_in 128).2.2.1) [] h (some (.int x), h1) ∧ am_ev (d + 20) 247 0 (am_ent [.ref 78] (am_in 247).2.2.1) [] h1 (some (.int x), h2) ∧ cq_Inv none h1 ∧ cq_Inv none h2 ∧ cq_Fr ct_128.2.2.2.1 h h1 ∧ cq_Fr ct_247.2.2.2.1 h1 h2 ∧ (∀ q ∈ [((41 : Nat), (1 : Nat), (78 : Nat), (2 : Nat))], tT h2 q) ∧ (rR h → rR h2) ∧ h2.1 ≤ h.1 + 12 ∧ h2.2.1 ≤ h.2.1 + 624 := by
  obtain ⟨a, h1, ev1, I1, F1, A1, B1⟩ := sz_ap0 (A := 0) (B := 0) ok_128 rfl rfl (by decide +kernel) I (d := d + 20) (Nat.le_trans (by decide +kernel) (Nat.le_add_left 20 d))
  obtain ⟨b, h2, ev2, I2, F2, A2, B2⟩ := sz_ap0 (A := 0) (B := 0) ok_247 rfl rfl (by decide +kernel) I1 (d := d + 20) (Nat.le_trans (by decide +kernel) (Nat.le_add_left 20 d))
  have LC : lkC h := ⟨⟨X, P0, R0, XB, Dr, Q, V⟩, Bk, Tc, C0, Gg⟩
  obtain ⟨L1, E1⟩ := lk_go (y := 128) I LC F1 (by decide +kernel) (Nat.le_trans (by decide +kernel) (Nat.le_add_left 20 d)) rfl ev1 (Nat.le_antisymm A1 F1.nx) (by decide +kernel)
  obtain ⟨n, pm, hn14, hn, hn5, m1, -, -⟩ := lk_c I LC
  obtain ⟨L, hL, v41, v2⟩ := tT_nat I T41
  have w2 : h1.2.2.2 78 2 = iv L := (lw_frF F1 I.lo (by decide) (by decide +kernel)).trans v2
  obtain ⟨H1, e1, p1, p2⟩ := la_P (d := d + 12) I LC hn hn14 v41 hL
  obtain ⟨H2, e2, q1, q2⟩ := la_M (d := d + 11) I LC hn hn14 I1 L1 E1 w2 hL
  have z1 := Prod.mk.inj (ax_det ev1 e1)
  have z2 := Prod.mk.inj (ax_det ev2 e2)
  have q : a = b := (Value.int.inj (Option.some.inj z1.1)).trans (Value.int.inj (Option.some.inj z2.1)).symm
  have l1 := la_128 I ev1
  have l2 := la_247 I1 ev2
  rw [← z1.2] at p1 p2
  rw [← z2.2] at q1 q2
  rw [q] at ev1
  refine ⟨b, h1, h2, ev1, ev2, I1, I2, F1, F2, fun q hq => (by rw [List.mem_singleton.1 hq]; exact ⟨Int32.ofInt 0, (lw_frF F2 I1.lo (c := 41) (j := 1) (by decide) (by decide +kernel)).trans l1, l2⟩), fun Rr => ?_, by omega, by omega⟩
  have k13 : h2.2.2.2 40 13 = h.2.2.2 40 13 := (lw_frF F2 I1.lo (by decide) (by decide +kernel)).trans (lw_frF F1 I.lo (by decide) (by decide +kernel))
  have k15 : h2.2.2.2 40 15 = h1.2.2.2 40 15 := lw_frF F2 I1.lo (by decide) (by decide +kernel)
  have k75 : ∀ j, h2.2.2.2 75 j = h1.2.2.2 75 j := fun j => lw_frA F2 I1.lo (by decide) (by decide +kernel) j
  have k55 : h1.2.2.2 78 55 = h.2.2.2 78 55 := lw_frF F1 I.lo (by decide) (by decide +kernel)
  have k118 : ∀ j, h1.2.2.2 118 j = h.2.2.2 118 j := fun j => lw_frA F1 I.lo (by decide) (by decide +kernel) j
  by_cases w : 0 ≤ laA h n L
  · obtain ⟨x1, x2, x3⟩ := p1 w
    obtain ⟨y1, y2⟩ := q1 w
    refine ⟨L, x1.2, k15.trans x3, y2, fun i hi => ⟨ci h i, (k75 i).trans (x2 i hi).1, y1 i hi, fun m e => ?_⟩⟩
    rw [k13, hn] at e
    have e := Value.int.inj e
    rw [← e, fx_ti (by omega)]
    have := (x2 i hi).2
    omega
  · obtain ⟨x1, x2⟩ := p2 (by omega)
    obtain ⟨y1, y2⟩ := q2 (by omega)
    obtain ⟨nr, a1, a2, a3, a4⟩ := Rr
    refine ⟨nr, a1, (k15.trans x2).trans a2, (y2.trans k55).trans a3, fun i hi => ?_⟩
    obtain ⟨r, r1, r2, r3⟩ := a4 i hi
    exact ⟨r, ((k75 i).trans (x1 i)).trans r1, ((y1 i).trans (k118 i)).trans r2, fun m e => r3 m (k13.symm.trans e)⟩
end LAO
