/-! THE CALL order, both sides -/
def orSt (h : am_H) (n : Nat) (S0 : Int32) (a b : Nat) : Bool := stN h (mbM S0 n a) (mbM S0 n b)
def orW (h : am_H) (n : Nat) (S0 : Int32) (a b : Nat) : Int := if a < mbK S0 n ∧ b < mbK S0 n then stS h (mbM S0 n a) (mbM S0 n b) else 0
def orT (h : am_H) (n : Nat) (S0 : Int32) : Int := oT0 (mbK S0 n) (orSt h n S0) (orW h n S0) (2 ^ mbK S0 n - 1)
def orQ (h : am_H) (n : Nat) (S0 : Int32) (t : Nat) : Nat := mbM S0 n (oQQ (mbK S0 n) (orSt h n S0) (orW h n S0) (2 ^ mbK S0 n - 1) t)
def orR (h : am_H) (n : Nat) (S0 : Int32) : Int := if (1 ≤ S0.toInt ∧ S0.toInt ≤ ((2 ^ n : Nat) : Int) - 1) ∧ mbK S0 n ≤ 10 then (if aL (fun i => mvAl h (qc h (mbM S0 n i))) 0 (mbK S0 n) = true then (if orT h n S0 < 1000000000 then orT h n S0 else -1) else -4) else -2
theorem getD_out : ∀ (l : List Nat) (j : Nat), l.length ≤ j → l.getD j 0 = 0 := fun l => by
  induction l with
  | nil => intro j _; rfl
  | cons a l ih =>
    intro j hj
    cases j with
    | zero => exact absurd hj (Nat.not_succ_le_zero _)
    | succ j => exact ih j (Nat.le_of_succ_le_succ hj)
section ORO
variable {h g G h1 : am_H} {d n : Nat} {S0 : Int32}
theorem or_K (hn14 : n ≤ 14) (q : 0 ≤ S0.toInt ∧ S0.toInt ≤ ((2 ^ n : Nat) : Int) - 1) : cS (bt S0) 32 = (mbK S0 n : Int) ∧ (mbK S0 n = 0 ↔ S0.toInt = 0) ∧ mbK S0 n ≤ n := by
  have hb := (wk_bits (S0 := S0) hn14).2 q
  have e := mbL_len (S0 := S0) n 0
  have c0 : cS (bt S0) 0 = 0 := rfl
  have z := cS_z (f := bt S0) (l := n) (fun i a b => by
    cases y : bt S0 i with
    | false => rfl
    | true =>
      have := hb i b y
      omega) (32 - n) (by omega)
  rw [show n + (32 - n) = 32 by omega] at z
  rw [Nat.zero_add] at e
  have bn := cS_b (f := bt S0) n
  have eK : (mbK S0 n : Int) = cS (bt S0) n := by
    show ((mbL S0 n 0).length : Int) = _
    omega
  refine ⟨z.trans eK.symm, ⟨fun k => ?_, fun k => ?_⟩, by omega⟩
  · have all : ∀ i, i < 32 → bt S0 i = bt (Int32.ofInt 0) i := fun i hi => by
      rw [bt_z]
      cases y : bt S0 i with
      | false => rfl
      | true =>
        obtain ⟨j, j1, -⟩ := mbL_all (S0 := S0) n 0 i (Nat.zero_le _) (by have := hb i hi y; omega) y
        have j1 : j < mbK S0 n := j1
        omega
    rw [b_ext all]
    decide
  · refine Nat.eq_zero_of_not_pos (fun p => ?_)
    have y := (mbL_in (S0 := S0) n 0 0 p).2
    rw [i_of k (by decide), bt_z] at y
    cases y
theorem or_w (I : cq_Inv none h) (LC : lkC h) (hn : h.2.2.2 40 13 = iv n) (hn14 : n ≤ 14) : (∀ j, j < mbK S0 n → mbM S0 n j < n ∧ bt S0 (mbM S0 n j) = true) ∧ (∀ a b, 0 ≤ orW h n S0 a b ∧ orW h n S0 a b ≤ 2100) ∧ ∀ a b, a < mbK S0 n → b < mbK S0 n → orSt h n S0 a b = stN h (mbM S0 n a) (mbM S0 n b) ∧ orW h n S0 a b = stS h (mbM S0 n a) (mbM S0 n b) := by
  have hM : ∀ j, j < mbK S0 n → mbM S0 n j < n ∧ bt S0 (mbM S0 n j) = true := fun j hj => by
    have z := mbL_in (S0 := S0) n 0 j hj
    rw [Nat.zero_add] at z
    exact ⟨z.1.2, z.2⟩
  refine ⟨hM, fun a b => ?_, fun a b ha hb => ⟨rfl, if_pos ⟨ha, hb⟩⟩⟩
  unfold orW
  by_cases c : a < mbK S0 n ∧ b < mbK S0 n
  · rw [if_pos c]
    obtain ⟨s, pm, -, -, -, -, -, y1, -⟩ := st_c I LC hn hn14 (hM a c.1).1
    obtain ⟨s', pm', -, -, -, -, -, y2, -⟩ := st_c I LC hn hn14 (hM b c.2).1
    have := st_S h (mbM S0 n a) (mbM S0 n b)
    omega
  · rw [if_neg c]
    omega
theorem or_P (I : cq_Inv none h) (LC : lkC h) (hn : h.2.2.2 40 13 = iv n) (hn14 : n ≤ 14) : ∃ H', am_ev (d + 7) 118 0 (am_ent [.ref 40, .int S0] 4) [] h (some (iv (orR h n S0)), H') ∧ (0 ≤ orR h n S0 → (1 ≤ mbK S0 n ∧ mbK S0 n ≤ 10) ∧ (∀ j, j < mbK S0 n → H'.2.2.2 75 j = iv (orQ h n S0 j)) ∧ H'.2.2.2 40 15 = iv (mbK S0 n)) ∧ (orR h n S0 < 0 → (∀ j, H'.2.2.2 75 j = h.2.2.2 75 j) ∧ H'.2.2.2 40 15 = h.2.2.2 40 15) := by
  have S := fS.of I
  have bad : orR h n S0 = -2 → am_ev (d + 7) 118 0 (am_ent [.ref 40, .int S0] 4) [] h (some (iv (-2)), h) → ∃ H', am_ev (d + 7) 118 0 (am_ent [.ref 40, .int S0] 4) [] h (some (iv (orR h n S0)), H') ∧ (0 ≤ orR h n S0 → (1 ≤ mbK S0 n ∧ mbK S0 n ≤ 10) ∧ (∀ j, j < mbK S0 n → H'.2.2.2 75 j = iv (orQ h n S0 j)) ∧ H'.2.2.2 40 15 = iv (mbK S0 n)) ∧ (orR h n S0 < 0 → (∀ j, H'.2.2.2 75 j = h.2.2.2 75 j) ∧ H'.2.2.2 40 15 = h.2.2.2 40 15) := fun e r => by
    rw [e]
    exact ⟨h, r, fun z => absurd z (by decide), fun _ => ⟨fun _ => rfl, rfl⟩⟩
  by_cases q : 0 ≤ S0.toInt ∧ S0.toInt ≤ ((2 ^ n : Nat) : Int) - 1
  · obtain ⟨e64, k0, kn⟩ := or_K hn14 q
    have H64 : am_ev (d + 6) 64 0 (am_ent [.int S0] 1) [] h (some (iv (mbK S0 n)), h) := by
      rw [← e64]
      exact ly_64
    have H116 := wo_116t (d := d + 5) S hn ((wk_mask (S0 := S0) hn14).2 q)
    by_cases k1 : mbK S0 n < 1
    · refine bad (if_neg (fun z => ?_)) (or_118b S H64 (by omega) H116 k1)
      have := k0.1 (by omega)
      omega
    · by_cases k10 : 10 < mbK S0 n
      · exact bad (if_neg (fun z => by omega)) (or_118c S H64 (by omega) H116 k10)
      · have kk : 1 ≤ mbK S0 n ∧ mbK S0 n ≤ 10 := by omega
        have s1 : 1 ≤ S0.toInt := by
          refine Int.not_lt.1 (fun z => k1 ?_)
          have := k0.2 (by omega)
          omega
        obtain ⟨hM, hw, est⟩ := or_w (S0 := S0) I LC hn hn14
        obtain ⟨g, r108, X⟩ := lk_108 (d := d + 1) I LC (S0 := S0) hn hn14
        have Sg := fS.of X.1
        obtain ⟨_, g', ev', I', F', A', B'⟩ := sz_ap1 (A := 0) (B := 0) ok_108 rfl rfl (by decide +kernel) I (d := d + 6) (Nat.le_trans (by decide +kernel) (Nat.le_add_left 6 d)) S0
        have eg := (Prod.mk.inj (ax_det ev' r108)).2
        rw [eg] at F'
        have g75 : ∀ j, g.2.2.2 75 j = h.2.2.2 75 j := fun j => lw_frA F' I.lo (by decide) (by decide +kernel) j
        have g15 : g.2.2.2 40 15 = h.2.2.2 40 15 := lw_frF F' I.lo (by decide) (by decide +kernel)
        have g13 : g.2.2.2 40 13 = iv n := (lw_frF F' I.lo (by decide) (by decide +kernel)).trans hn
        have eA : aL (fun c => !bt S0 c || mvAl h (qc h c)) 0 n = aL (fun i => mvAl h (qc h (mbM S0 n i))) 0 (mbK S0 n) := by
          rw [Bool.eq_iff_iff, aL_iff, aL_iff]
          refine ⟨fun u i a b => ?_, fun u c a b => ?_⟩
          · have k := hM i (by omega)
            have u := u (mbM S0 n i) (Nat.zero_le _) (by omega)
            have u : (!bt S0 (mbM S0 n i) || mvAl h (qc h (mbM S0 n i))) = true := u
            rw [k.2] at u
            exact u
          · show (!bt S0 c || mvAl h (qc h c)) = true
            cases y : bt S0 c with
            | false => rfl
            | true =>
              obtain ⟨j, j1, j2⟩ := mbL_all (S0 := S0) n 0 c (Nat.zero_le _) (by omega) y
              have j2 : mbM S0 n j = c := j2
              have j1 : j < mbK S0 n := j1
              rw [← j2]
              exact u j (Nat.zero_le _) (by omega)
        rw [eA] at r108
        cases hA : aL (fun i => mvAl h (qc h (mbM S0 n i))) 0 (mbK S0 n) with
        | false =>
          rw [hA] at r108
          have e : orR h n S0 = -4 := by
            unfold orR
            rw [if_pos ⟨⟨s1, q.2⟩, kk.2⟩, hA]
            rfl
          rw [e]
          exact ⟨g, or_118d S H64 (by omega) H116 kk r108 Sg, fun z => absurd z (by decide), fun _ => ⟨g75, g15⟩⟩
        | true =>
          rw [hA] at r108
          have e : orR h n S0 = if orT h n S0 < 1000000000 then orT h n S0 else -1 := by
            unfold orR
            rw [if_pos ⟨⟨s1, q.2⟩, kk.2⟩, hA]
            rfl
          obtain ⟨G, H119, SG, fr, q3⟩ := op_119 (d := d + 2) (S0 := S0) (h := h) Sg hn14 rfl kk rfl hw (fun j hj => st_D I LC hn hn14 X (hM j hj).1 (hM j hj).2) est
          rw [e]
          by_cases fin : orT h n S0 < 1000000000
          · obtain ⟨b1, b2_, b3⟩ := q3 fin
            have e2 : (if oT0 (mbK S0 n) (orSt h n S0) (orW h n S0) (2 ^ mbK S0 n - 1) < 1000000000 then oT0 (mbK S0 n) (orSt h n S0) (orW h n S0) (2 ^ mbK S0 n - 1) else -1) = orT h n S0 := if_pos fin
            rw [e2] at H119
            rw [if_pos fin]
            have b1 : 0 ≤ orT h n S0 := b1
            have b2_ : orT h n S0 ≤ 42000 := b2_
            obtain ⟨G2, r127, S2, p1, p2, p3⟩ := la_p4 (d := d + 6) (L := mbK S0 n) (C := orQ h n S0) (by omega) (mbK S0 n) 0 G (by omega) SG b3
            exact ⟨G2, or_118f S H64 (by omega) H116 kk r108 Sg g13 H119 SG (by omega) (la_127s r127) S2, fun _ => ⟨kk, fun j hj => p1 j (Nat.zero_le _) hj, p3⟩, fun z => by omega⟩
          · have e2 : (if oT0 (mbK S0 n) (orSt h n S0) (orW h n S0) (2 ^ mbK S0 n - 1) < 1000000000 then oT0 (mbK S0 n) (orSt h n S0) (orW h n S0) (2 ^ mbK S0 n - 1) else -1) = -1 := if_neg fin
            rw [e2] at H119
            rw [if_neg fin]
            exact ⟨G, or_118e S H64 (by omega) H116 kk r108 Sg g13 H119 SG, fun z => absurd z (by decide), fun _ => ⟨fun j => (fr 75 j (by omega)).trans (g75 j), (fr 40 15 (by omega)).trans g15⟩⟩
  · have bz := cS_b (f := bt S0) 32
    obtain ⟨z, hz⟩ : ∃ z : Nat, cS (bt S0) 32 = (z : Int) := ⟨(cS (bt S0) 32).toNat, by omega⟩
    have H64 : am_ev (d + 6) 64 0 (am_ent [.int S0] 1) [] h (some (iv z), h) := by
      rw [← hz]
      exact ly_64
    exact bad (if_neg (fun y => q ⟨by omega, y.1.2⟩)) (or_118a S H64 (by omega) (wo_116f (d := d + 5) S hn (fun z => q ((wk_mask (S0 := S0) hn14).1 z))))
theorem or_M (I : cq_Inv none h) (LC : lkC h) (hn : h.2.2.2 40 13 = iv n) (hn14 : n ≤ 14) (I1 : cq_Inv none h1) (L1 : lkC h1) (E1 : lkE h h1) : ∃ H', am_ev (d + 10) 239 0 (am_ent [.ref 78, .int S0] 9) [] h1 (some (iv (orR h n S0)), H') ∧ (0 ≤ orR h n S0 → (∀ j, j < mbK S0 n → H'.2.2.2 118 j = iv (orQ h n S0 j)) ∧ H'.2.2.2 78 55 = iv (mbK S0 n)) ∧ (orR h n S0 < 0 → (∀ j, H'.2.2.2 118 j = h1.2.2.2 118 j) ∧ H'.2.2.2 78 55 = h1.2.2.2 78 55) := by
  have S1 := fS.of I1
  obtain ⟨n0, pm, b0, c1, v53, m1, -, -⟩ := lk_c I1 L1
  have en : n0 = n := nat_iv (c1.symm.trans (E1.2.2.2.2.2.2.2.2.1.trans hn)) (by omega) (by omega)
  subst en
  by_cases q : 1 ≤ S0.toInt ∧ S0.toInt ≤ ((2 ^ n0 : Nat) : Int) - 1
  · obtain ⟨-, k0, kn⟩ := or_K (S0 := S0) hn14 ⟨by omega, q.2⟩
    have H165 : am_ev (d + 9) 165 0 (am_ent [.long S0.toInt64, .long (Int64.ofNat 1), .long (wkL n0)] 6) [] h1 (some (iv 1), h1) := md_165t (by
      rw [Int32.toInt_toInt64, wkL_b n0 (by omega), show (Int64.ofNat 1).toInt = 1 by decide]
      exact q)
    obtain ⟨hM, hw, est⟩ := or_w (S0 := S0) I LC hn hn14
    rcases om_A (d := d) (S0 := S0) (M := mbM S0 n0) (K := mbK S0 n0) (x4 := am_ph) (x5 := am_ph) (x6 := am_ph) (x7 := am_ph) (x8 := am_ph) hn14 v53 n0 0 0 h1 (by omega) (by omega) I1 L1 lkE.rf (fun _ _ _ => rfl) (fun j hj => absurd hj (Nat.not_lt_zero j)) (Nat.zero_add _) (fun i hi => by rw [Nat.zero_add]; rfl) with ⟨z, G', r, fr⟩ | ⟨k10, hv, Iv, Lv, Ev, fr, f123, cont⟩
    · have e : orR h n0 S0 = -2 := if_neg (fun y => by omega)
      rw [e]
      exact ⟨G', or_239b S1 v53 hn14 H165 r, fun z => absurd z (by decide), fun _ => ⟨fun j => fr 118 j (by decide), fr 78 55 (by decide)⟩⟩
    · have k1 : 1 ≤ mbK S0 n0 := by
        refine Nat.one_le_iff_ne_zero.2 (fun z => ?_)
        have := k0.1 z
        omega
      have E := E1.tr Ev
      have w53 := (fr 78 53 (by decide)).trans v53
      obtain ⟨G1, H235, kG, r2, r3⟩ := lk_235 (d := d + 1) Iv Lv w53 hn14 (gS.rf Iv)
      have g123 : ∀ j, j < mbK S0 n0 → G1.2.2.2 123 j = iv (mbM S0 n0 j) := fun j hj => (r3 123 j (by decide) (by decide) (by decide) (by decide) (by decide)).trans (f123 j hj)
      have f119 : ∀ j, j < mbK S0 n0 → G1.2.2.2 119 (mbM S0 n0 j) = iv (b2 ((fun c => mvAl h (qc h c)) (mbM S0 n0 j))) := fun j hj => by
        have z := (r2 _ (hM j hj).1).1
        rw [(st_eq I LC hn hn14 E (hM j hj).1 (hM j hj).1).2.2] at z
        exact z
      have p118 : ∀ j, G1.2.2.2 118 j = h1.2.2.2 118 j := fun j => (r3 118 j (by decide) (by decide) (by decide) (by decide) (by decide)).trans (fr 118 j (by decide))
      have p55 : G1.2.2.2 78 55 = h1.2.2.2 78 55 := (r3 78 55 (by decide) (by decide) (by decide) (by decide) (by decide)).trans (fr 78 55 (by decide))
      rcases om_B (d := d) (S0 := S0) (x4 := am_ph) (x5 := am_ph) (x6 := am_ph) (x7 := am_ph) (x8 := am_ph) kG.1 k10 (al := fun c => mvAl h (qc h c)) g123 (fun j hj => by have := (hM j hj).1; omega) f119 (mbK S0 n0) 0 (by omega) with ⟨hA, r⟩ | ⟨hA, cont2⟩
      · have hA : aL (fun i => mvAl h (qc h (mbM S0 n0 i))) 0 (mbK S0 n0) = false := hA
        have e : orR h n0 S0 = -4 := by
          unfold orR
          rw [if_pos ⟨q, k10⟩, hA]
          rfl
        rw [e]
        exact ⟨G1, or_239b S1 v53 hn14 H165 (cont _ (or_239g (fS.of Iv) H235 kG.1 r)), fun z => absurd z (by decide), fun _ => ⟨p118, p55⟩⟩
      · have hA : aL (fun i => mvAl h (qc h (mbM S0 n0 i))) 0 (mbK S0 n0) = true := hA
        have e : orR h n0 S0 = if orT h n0 S0 < 1000000000 then orT h n0 S0 else -1 := by
          unfold orR
          rw [if_pos ⟨q, k10⟩, hA]
          rfl
        obtain ⟨G2, H240, S2, fr2, st2⟩ := om_240 (d := d) (n := n0) I LC hn hn14 ((r3 78 53 (by decide) (by decide) (by decide) (by decide) (by decide)).trans w53) Iv Lv E kG
        have ee : ∀ a j, 78 < a → a < 98 ∨ (102 < a ∧ a < 118) → G2.2.2.2 a j = h.2.2.2 a j := fun a j z1 z2 => (fr2 a j (by omega)).trans ((r3 a j (by omega) (by omega) (by omega) (by omega) (by omega)).trans (E.2.2.1 a j (by omega) (by omega) (by omega) (by omega) (by omega) (by omega) (by omega) (Or.inl (by omega))))
        have X : oX h n0 (mbK S0 n0) (mbM S0 n0) G2 := ⟨fun j hj => ⟨(fr2 123 j (by decide)).trans (g123 j hj), (hM j hj).1⟩, st2, fun c hc => by
          obtain ⟨s, pm', -, -, -, -, -, y1, -, g87, hq, g117, -⟩ := st_c I LC hn hn14 hc
          exact ⟨(ee 117 c (by decide) (Or.inr (by decide))).trans g117, (ee 87 _ (by decide) (Or.inl (by decide))).trans g87, hq, y1⟩⟩
        obtain ⟨hW, -, -⟩ := o_w (mbK S0 n0) (by omega)
        obtain ⟨G3, r, q1, q2⟩ := om_row (d := d) (S0 := S0) (x5 := am_ph) (x6 := am_ph) (x7 := am_ph) (x8 := am_ph) S2 X hn14 ⟨k1, k10⟩ rfl hw est
        have top := or_239b S1 v53 hn14 H165 (cont _ (or_239g (fS.of Iv) H235 kG.1 (cont2 _ (or_239k kG.1 k10 H240 S2 hW r))))
        rw [e]
        by_cases fin : orT h n0 S0 < 1000000000
        · obtain ⟨y1, y2⟩ := q1 fin
          rw [show (if oT0 (mbK S0 n0) (orSt h n0 S0) (orW h n0 S0) (2 ^ mbK S0 n0 - 1) < 1000000000 then oT0 (mbK S0 n0) (orSt h n0 S0) (orW h n0 S0) (2 ^ mbK S0 n0 - 1) else -1) = orT h n0 S0 from if_pos fin] at top
          rw [if_pos fin]
          exact ⟨G3, top, fun _ => ⟨y1, y2⟩, fun z => by
            have k9 : 0 ≤ orT h n0 S0 := by
              obtain ⟨H', evP, -, -⟩ := or_P (d := 0) (S0 := S0) I LC hn hn14
              rcases oS_at (f := fun j => oW (mbK S0 n0) (orSt h n0 S0) (orW h n0 S0) (2 ^ mbK S0 n0 - 1 - 2 ^ j) j) (mbK S0 n0) 0 1000000000 with y | ⟨i, -, b, c⟩
              · have y : orT h n0 S0 = 1000000000 := y
                omega
              · have c : oW (mbK S0 n0) (orSt h n0 S0) (orW h n0 S0) (2 ^ mbK S0 n0 - 1 - 2 ^ i) i = orT h n0 S0 := c
                have bW := (o_w (mbK S0 n0) (by omega)).2.1
                have := oW_b (st := orSt h n0 S0) k10 hw (2 ^ mbK S0 n0 - 1 - 2 ^ i) i (Nat.lt_of_le_of_lt (Nat.sub_le _ _) bW)
                rcases this with u | u <;> omega
            omega⟩
        · rw [show (if oT0 (mbK S0 n0) (orSt h n0 S0) (orW h n0 S0) (2 ^ mbK S0 n0 - 1) < 1000000000 then oT0 (mbK S0 n0) (orSt h n0 S0) (orW h n0 S0) (2 ^ mbK S0 n0 - 1) else -1) = -1 from if_neg fin] at top
          rw [if_neg fin]
          have y := q2 fin
          exact ⟨G3, top, fun z => absurd z (by decide), fun _ => ⟨fun j => (y 118 j (by decide)).trans ((fr2 118 j (by decide)).trans (p118 j)), (y 78 55 (by decide)).trans ((fr2 78 55 (by decide)).trans p55)⟩⟩
  · have H165 : am_ev (d + 9) 165 0 (am_ent [.long S0.toInt64, .long (Int64.ofNat 1), .long (wkL n0)] 6) [] h1 (some (iv 0), h1) := md_165f (by
      rw [Int32.toInt_toInt64, wkL_b n0 (by omega), show (Int64.ofNat 1).toInt = 1 by decide]
      exact q)
    have e : orR h n0 S0 = -2 := if_neg (fun y => q y.1)
    rw [e]
    exact ⟨h1, or_239a S1 v53 hn14 H165, fun z => absurd z (by decide), fun _ => ⟨fun _ => rfl, rfl⟩⟩
theorem op_ord (I : cq_Inv none h) (X : rT h) (P0 : rp_P h) (C0 : rp_C h) (R0 : rL h) (XB : rbV h) (Dr : rD h) (Bk : rB h) (Q : rQ h) (V : rY h) (Gg : rG h) (Tc : tT h (40, 9, 78, 15)) (ww : Int32) : ∃ (x : Int32) (h1 h2 : am_H), am_ev (d + 20) 118 0 (am_ent [.ref 40, .int ww] (am_in 118).2.2.1) [] h (some (.int x), h1) ∧ am_ev (d + 20) 239 0 (am_ent [.ref 78, .int ww] (am_in 239).2.2.1) [] h1 (some (.int x), h2) ∧ cq_Inv none h1 ∧ cq_Inv none h2 ∧ cq_Fr ct_118.2.2.2.1 h h1 ∧ cq_Fr ct_239.2.2.2.1 h1 h2 ∧ (∀ q ∈ ([] : List (Nat × Nat × Nat × Nat)), tT h2 q) ∧ (rR h → rR h2) ∧ h2.1 ≤ h.1 + 12 ∧ h2.2.1 ≤ h.2.1 + 624 := by
  obtain ⟨a, h1, ev1, I1, F1, A1, B1⟩ := sz_ap1 (A := 0) (B := 0) ok_118 rfl rfl (by decide +kernel) I (d := d + 20) (Nat.le_trans (by decide +kernel) (Nat.le_add_left 20 d)) ww
  obtain ⟨b, h2, ev2, I2, F2, A2, B2⟩ := sz_ap1 (A := 0) (B := 0) ok_239 rfl rfl (by decide +kernel) I1 (d := d + 20) (Nat.le_trans (by decide +kernel) (Nat.le_add_left 20 d)) ww
  have LC : lkC h := ⟨⟨X, P0, R0, XB, Dr, Q, V⟩, Bk, Tc, C0, Gg⟩
  obtain ⟨L1, E1⟩ := lk_go (y := 118) I LC F1 (by decide +kernel) (Nat.le_trans (by decide +kernel) (Nat.le_add_left 20 d)) rfl ev1 (Nat.le_antisymm A1 F1.nx) (by decide +kernel)
  obtain ⟨n, pm, hn14, hn, hn5, m1, -, -⟩ := lk_c I LC
  obtain ⟨H1, e1, p1, p2⟩ := or_P (d := d + 13) (S0 := ww) I LC hn hn14
  obtain ⟨H2, e2, q1, q2⟩ := or_M (d := d + 10) (S0 := ww) I LC hn hn14 I1 L1 E1
  have z1 := Prod.mk.inj (ax_det ev1 e1)
  have z2 := Prod.mk.inj (ax_det ev2 e2)
  have q : a = b := (Value.int.inj (Option.some.inj z1.1)).trans (Value.int.inj (Option.some.inj z2.1)).symm
  rw [← z1.2] at p1 p2
  rw [← z2.2] at q1 q2
  rw [q] at ev1
  refine ⟨b, h1, h2, ev1, ev2, I1, I2, F1, F2, fun q hq => (by cases hq), fun Rr => ?_, by omega, by omega⟩
  have k13 : h2.2.2.2 40 13 = h.2.2.2 40 13 := (lw_frF F2 I1.lo (by decide) (by decide +kernel)).trans (lw_frF F1 I.lo (by decide) (by decide +kernel))
  have k15 : h2.2.2.2 40 15 = h1.2.2.2 40 15 := lw_frF F2 I1.lo (by decide) (by decide +kernel)
  have k75 : ∀ j, h2.2.2.2 75 j = h1.2.2.2 75 j := fun j => lw_frA F2 I1.lo (by decide) (by decide +kernel) j
  have k55 : h1.2.2.2 78 55 = h.2.2.2 78 55 := lw_frF F1 I.lo (by decide) (by decide +kernel)
  have k118 : ∀ j, h1.2.2.2 118 j = h.2.2.2 118 j := fun j => lw_frA F1 I.lo (by decide) (by decide +kernel) j
  by_cases u : 0 ≤ orR h n ww
  · obtain ⟨x1, x2, x3⟩ := p1 u
    obtain ⟨y1, y2⟩ := q1 u
    refine ⟨mbK ww n, by omega, k15.trans x3, y2, fun i hi => ⟨orQ h n ww i, (k75 i).trans (x2 i hi), y1 i hi, fun m e => ?_⟩⟩
    rw [k13, hn] at e
    have e := Value.int.inj e
    rw [← e, fx_ti (by omega)]
    have n0 : orQ h n ww i < n := by
      have hlt : ∀ j, mbM ww n j < n ∨ mbM ww n j = 0 := fun j => by
        by_cases c : j < mbK ww n
        · have z := mbL_in (S0 := ww) n 0 j c
          rw [Nat.zero_add] at z
          exact Or.inl z.1.2
        · exact Or.inr (getD_out _ _ (Nat.le_of_not_lt c))
      have n1 : 0 < n := by
        have z := mbL_in (S0 := ww) n 0 0 (show 0 < mbK ww n by omega)
        omega
      rcases hlt (oQQ (mbK ww n) (orSt h n ww) (orW h n ww) (2 ^ mbK ww n - 1) i) with z | z
      · exact z
      · show mbM ww n _ < n
        omega
    omega
  · obtain ⟨x1, x2⟩ := p2 (by omega)
    obtain ⟨y1, y2⟩ := q2 (by omega)
    obtain ⟨nr, a1, a2, a3, a4⟩ := Rr
    refine ⟨nr, a1, (k15.trans x2).trans a2, (y2.trans k55).trans a3, fun i hi => ?_⟩
    obtain ⟨r, r1, r2, r3⟩ := a4 i hi
    exact ⟨r, ((k75 i).trans (x1 i)).trans r1, ((y1 i).trans (k118 i)).trans r2, fun m e => r3 m (k13.symm.trans e)⟩
end ORO
