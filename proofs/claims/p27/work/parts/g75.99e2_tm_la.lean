/-! STANDING, both sides; LAY: loops -/
def wkyr (h : am_H) (c : Nat) : Int := (gI (h.2.2.2 87 (qc h c))).toInt
def stN (h : am_H) (c c' : Nat) : Bool := decide (wkpo h c ≠ wkpo h c') && (!mvPa h (qc h c) (wkpo h c') && !mvPa h (qc h c') (wkpo h c))
def stS (h : am_H) (c c' : Nat) : Int := if 0 < wkyr h c - wkyr h c' then wkyr h c - wkyr h c' else 0
def stB (h : am_H) (c c' : Nat) : Int := if stN h c c' = true then stS h c c' else -1
def stD (h g : am_H) (c : Nat) : Prop := ∃ s : Nat, g.2.2.2 74 c = .ref (kc h c) ∧ am_isO g (kc h c) 1 = true ∧ 130 ≤ kc h c ∧ g.2.2.2 (kc h c) 1 = .ref s ∧ am_isO g s 6 = true ∧ 130 ≤ s ∧ g.2.2.2 s 0 = iv (wkpo h c) ∧ wkpo h c < 20 ∧ g.2.2.2 s 1 = iv (wkyr h c) ∧ (0 ≤ wkyr h c ∧ wkyr h c ≤ 2100) ∧ g.2.2.2 (kc h c) 7 = .int (mvAp h (qc h c))
section LAS
variable {h g G h' : am_H} {d n c c' i j : Nat} {m : cq_W}
theorem bt_Ap (h : am_H) (q po : Nat) : bt (mvAp h q) po = mvPa h q po := by
  unfold mvAp mvPa
  cases e : mvE h q with
  | true =>
    rw [if_pos (Or.inl rfl), bt_z]
    rfl
  | false =>
    by_cases k : mvk h q = -1
    · rw [if_pos (Or.inr k), bt_z, decide_eq_false (fun z => z k)]
      rfl
    · rw [if_neg (fun z => z.elim (fun w => by cases w) k), decide_eq_true k]
      rfl
theorem st_c (I : cq_Inv none h) (LC : lkC h) (hn : h.2.2.2 40 13 = iv n) (hn14 : n ≤ 14) (hc : c < n) : ∃ (s : Nat) (pm : Int32), h.2.2.2 73 (qc h c) = .ref s ∧ cq_kOk h s (0, 6, 0) ∧ h.2.2.2 s 0 = iv (wkpo h c) ∧ wkpo h c < 20 ∧ h.2.2.2 s 1 = iv (wkyr h c) ∧ (0 ≤ wkyr h c ∧ wkyr h c ≤ 2100) ∧ h.2.2.2 86 (qc h c) = iv (wkpo h c) ∧ h.2.2.2 87 (qc h c) = iv (wkyr h c) ∧ qc h c < 40 ∧ h.2.2.2 117 c = iv (qc h c) ∧ h.2.2.2 40 8 = .int pm ∧ (qc h c : Int) < pm.toInt := by
  obtain ⟨s, s1, ko, f0, lp, -, -, g86, -, hq, -, -, g117, -⟩ := wk_c I LC hn hn14 hc
  obtain ⟨n1, pm, b1, c1, c2, m1, K1, -⟩ := lk_c I LC
  have en : n1 = n := nat_iv (c1.symm.trans hn) (by omega) (by omega)
  subst en
  obtain ⟨-, -, -, -, k5, -⟩ := K1 c hc
  obtain ⟨-, s', s1', -, sf⟩ := lk_p I LC.1 m1 k5
  rw [s1] at s1'
  cases s1'
  obtain ⟨x, e87, x0, x1⟩ := ax_in I (c := 87) (j := qc h c) (l := 0) (u := 2100) (by
    rw [show Nat.blt (qc h c) (cq_fix 87).2.2 = true from Nat.ble_eq_true_of_le hq]
    decide +kernel) (by
    unfold cq_ty
    rw [show cq_isA 87 = true by decide +kernel, show ((Nat.beq 87 81 || Nat.beq 87 83) && Nat.beq (qc h c) 1) = false from rfl]
    show cq_ar 87 = _
    decide +kernel)
  have ey : h.2.2.2 87 (qc h c) = iv (wkyr h c) := by
    rw [e87, fx_of x]
    unfold wkyr
    rw [gI_of e87]
  refine ⟨s, pm, s1, ko, f0, lp, (sf 1 (by decide)).trans ey, ?_, g86, ey, hq, g117, m1, k5⟩
  unfold wkyr
  rw [gI_of e87]
  exact ⟨x0, x1⟩
theorem st_D (I : cq_Inv none h) (LC : lkC h) (hn : h.2.2.2 40 13 = iv n) (hn14 : n ≤ 14) {b : Nat → Prop} (X : lkI h g b) (hc : c < n) (hb : b c) : stD h g c := by
  obtain ⟨s, pm, s1, ko, f0, lp, f1, by_, -⟩ := st_c I LC hn hn14 hc
  obtain ⟨Ig, Lg, E, Y⟩ := X
  obtain ⟨-, -, -, -, -, x7⟩ := Y c n hn hn14 hc hb
  obtain ⟨n1, pm1, b1, c1, c2, d1, K1, -⟩ := lk_c Ig Lg
  have en : n1 = n := nat_iv (c1.symm.trans (E.2.2.2.2.2.2.2.2.1.trans hn)) (by omega) (by omega)
  subst en
  obtain ⟨l1, l2, -, -, -, l6, -⟩ := K1 c hc
  rw [kc_eq E] at l1 l2 l6
  rw [qc_eq E, E.2.2.2.1, s1] at l6
  have ks : cq_kOk g s (0, 6, 0) := ⟨ko.1, by rw [E.1]; exact ko.2.1, (E.2.1 s ko.2.1).trans ko.2.2⟩
  have e6 := E.2.2.2.2.1 s ko.1 ko.2.1 ko.2.2
  exact ⟨s, l1, ax_kO l2, l2.1, l6, ax_kO ks, ko.1, (e6 0).trans f0, lp, (e6 1).trans f1, by_, x7⟩
theorem stD.mono (D : stD h g c) (n1 : G.1 = g.1) (n2 : G.2.2.1 = g.2.2.1) (f : ∀ a j, a = 74 ∨ 130 ≤ a → G.2.2.2 a j = g.2.2.2 a j) : stD h G c := by
  obtain ⟨s, k1, k2, k3, k4, k5, k6, k7, k8, k9, k10, k11⟩ := D
  exact ⟨s, (f 74 c (Or.inl rfl)).trans k1, isO_eq n1 n2 k2, k3, (f _ 1 (Or.inr k3)).trans k4, isO_eq n1 n2 k5, k6, (f s 0 (Or.inr k6)).trans k7, k8, (f s 1 (Or.inr k6)).trans k9, k10, (f _ 7 (Or.inr k3)).trans k11⟩
theorem st_S (h : am_H) (c c' : Nat) : 0 < wkyr h c - wkyr h c' ∧ stS h c c' = wkyr h c - wkyr h c' ∨ wkyr h c - wkyr h c' ≤ 0 ∧ stS h c c' = 0 := by
  unfold stS
  by_cases z : 0 < wkyr h c - wkyr h c'
  · rw [if_pos z]
    exact Or.inl ⟨z, rfl⟩
  · rw [if_neg z]
    exact Or.inr ⟨by omega, rfl⟩
theorem st_121 (D : stD h g c) (D' : stD h g c') : am_ev (d + 2) 121 0 (am_ent [.ref (kc h c), .ref (kc h c')] 2) [] g (some (iv (stB h c c')), g) := by
  obtain ⟨s, k1, k2, k3, k4, k5, k6, k7, k8, k9, k10, k11⟩ := D
  obtain ⟨s', l1, l2, l3, l4, l5, l6, l7, l8, l9, l10, l11⟩ := D'
  have a1 := bt_Ap h (qc h c) (wkpo h c')
  have a2 := bt_Ap h (qc h c') (wkpo h c)
  unfold stB
  by_cases he : wkpo h c = wkpo h c'
  · have e : stN h c c' = false := by
      unfold stN
      rw [decide_eq_false (fun z => z he)]
      rfl
    rw [e, if_neg (by decide)]
    exact la_121n (la_122e k2 l2 k5 l5 k4 l4 k7 l7 (by omega) (by omega) k11 l11 he)
  · cases b1 : mvPa h (qc h c) (wkpo h c') with
    | true =>
      have e : stN h c c' = false := by
        unfold stN
        rw [b1, Bool.not_true, Bool.false_and, Bool.and_false]
      rw [e, if_neg (by decide)]
      exact la_121n (la_122a k2 l2 k5 l5 k4 l4 k7 l7 (by omega) (by omega) k11 l11 he (a1.trans b1))
    | false =>
      cases b2_ : mvPa h (qc h c') (wkpo h c) with
      | true =>
        have e : stN h c c' = false := by
          unfold stN
          rw [b2_, Bool.not_true, Bool.and_false, Bool.and_false]
        rw [e, if_neg (by decide)]
        exact la_121n (la_122b k2 l2 k5 l5 k4 l4 k7 l7 (by omega) (by omega) k11 l11 he (a1.trans b1) (a2.trans b2_))
      | false =>
        have e : stN h c c' = true := by
          unfold stN
          rw [b1, b2_, decide_eq_true he]
          rfl
        rw [e, if_pos rfl]
        exact la_121y (la_122y k2 l2 k5 l5 k4 l4 k7 l7 (by omega) (by omega) k11 l11 he (a1.trans b1) (a2.trans b2_)) k2 l2 k5 l5 k4 l4 k9 l9 k10 l10 (st_S h c c')
theorem st_241 (I : cq_Inv none h) (LC : lkC h) (hn : h.2.2.2 40 13 = iv n) (hn14 : n ≤ 14) (hc : c < n) (hc' : c' < n) (k : gS h G) : am_ev (d + 8) 241 0 (am_ent [.ref 78, iv c, iv c'] 5) [] G (some (iv (b2 (stN h c c'))), G) := by
  obtain ⟨s, pm, s1, ko, f0, lp, f1, by_, g86, g87, hq, g117, m1, k5⟩ := st_c I LC hn hn14 hc
  obtain ⟨s', pm', s1', ko', f0', lp', f1', by_', g86', g87', hq', g117', m1', k5'⟩ := st_c I LC hn hn14 hc'
  have w := (k.v I (c := 117) (j := c) (by decide) rfl (Or.inl (by decide))).trans g117
  have w' := (k.v I (c := 117) (j := c') (by decide) rfl (Or.inl (by decide))).trans g117'
  have y := (k.v I (c := 86) (j := qc h c) (by decide) rfl (Or.inl (by decide))).trans g86
  have y' := (k.v I (c := 86) (j := qc h c') (by decide) rfl (Or.inl (by decide))).trans g86'
  have c14 : c < 14 := by omega
  have c14' : c' < 14 := by omega
  by_cases he : wkpo h c = wkpo h c'
  · have e : stN h c c' = false := by
      unfold stN
      rw [decide_eq_false (fun z => z he)]
      rfl
    rw [e]
    exact mp_241e k.1 c14 c14' w w' hq hq' y y' (by omega) (by omega) he
  · have p1 := lk_242 (d := d) I LC.1 m1 k5 k (po := wkpo h c') (by omega)
    have p2 := lk_242 (d := d) I LC.1 m1' k5' k (po := wkpo h c) (by omega)
    cases b1 : mvPa h (qc h c) (wkpo h c') with
    | true =>
      have e : stN h c c' = false := by
        unfold stN
        rw [b1, Bool.not_true, Bool.false_and, Bool.and_false]
      rw [e]
      rw [b1] at p1
      exact mp_241a k.1 c14 c14' w w' hq hq' y y' (by omega) (by omega) he p1
    | false =>
      rw [b1] at p1
      cases b2_ : mvPa h (qc h c') (wkpo h c) with
      | true =>
        have e : stN h c c' = false := by
          unfold stN
          rw [b2_, Bool.not_true, Bool.and_false, Bool.and_false]
        rw [e]
        rw [b2_] at p2
        exact mp_241b k.1 c14 c14' w w' hq hq' y y' (by omega) (by omega) he p1 p2
      | false =>
        have e : stN h c c' = true := by
          unfold stN
          rw [b1, b2_, decide_eq_true he]
          rfl
        rw [e]
        rw [b2_] at p2
        exact mp_241y k.1 c14 c14' w w' hq hq' y y' (by omega) (by omega) he p1 p2
theorem st_244 (I : cq_Inv none h) (LC : lkC h) (hn : h.2.2.2 40 13 = iv n) (hn14 : n ≤ 14) (hc : c < n) (hc' : c' < n) (k : gS h G) : am_ev (d + 1) 244 0 (am_ent [.ref 78, iv c, iv c'] 3) [] G (some (iv (stS h c c')), G) := by
  obtain ⟨s, pm, s1, ko, f0, lp, f1, by_, g86, g87, hq, g117, m1, k5⟩ := st_c I LC hn hn14 hc
  obtain ⟨s', pm', s1', ko', f0', lp', f1', by_', g86', g87', hq', g117', m1', k5'⟩ := st_c I LC hn hn14 hc'
  have w := (k.v I (c := 117) (j := c) (by decide) rfl (Or.inl (by decide))).trans g117
  have w' := (k.v I (c := 117) (j := c') (by decide) rfl (Or.inl (by decide))).trans g117'
  have y := (k.v I (c := 87) (j := qc h c) (by decide) rfl (Or.inl (by decide))).trans g87
  have y' := (k.v I (c := 87) (j := qc h c') (by decide) rfl (Or.inl (by decide))).trans g87'
  exact mp_244 k.1 (by omega) (by omega) w w' hq hq' y y' by_ by_' (st_S h c c')
/-- the same at a heap behind a looking call -/
theorem st_eq (I : cq_Inv none h) (LC : lkC h) (hn : h.2.2.2 40 13 = iv n) (hn14 : n ≤ 14) (E : lkE h g) (hc : c < n) (hc' : c' < n) : stN g c c' = stN h c c' ∧ stS g c c' = stS h c c' ∧ mvAl g (qc g c) = mvAl h (qc h c) := by
  obtain ⟨s, pm, s1, ko, f0, lp, f1, by_, g86, g87, hq, g117, m1, k5⟩ := st_c I LC hn hn14 hc
  obtain ⟨s', pm', s1', ko', f0', lp', f1', by_', g86', g87', hq', g117', m1', k5'⟩ := st_c I LC hn hn14 hc'
  obtain ⟨-, -, -, -, -, -, a7, -, -, aP⟩ := mv_eq I LC.1 m1 k5 E
  obtain ⟨-, -, -, -, -, -, -, -, -, aP'⟩ := mv_eq I LC.1 m1' k5' E
  have ep : ∀ c, wkpo g c = wkpo h c := fun c => by
    unfold wkpo
    rw [qc_eq E, E.2.2.1 86 _ (by decide) (by decide) (by decide) (by decide) (by decide) (by decide) (by decide) (Or.inl (by decide))]
  have ey : ∀ c, wkyr g c = wkyr h c := fun c => by
    unfold wkyr
    rw [qc_eq E, E.2.2.1 87 _ (by decide) (by decide) (by decide) (by decide) (by decide) (by decide) (by decide) (Or.inl (by decide))]
  refine ⟨?_, ?_, ?_⟩
  · unfold stN
    rw [ep, ep, qc_eq E, qc_eq E, aP, aP']
  · unfold stS
    rw [ey, ey]
  · rw [qc_eq E, a7]
/-! a place written that the views don't see -/
def lkM2 (m : cq_W) : Bool := rT_m m && (rp_Pm m && (rL_m m && (rbV_m m && (rD_m m && (rQ_m m && (rY_m m && (rB_m m && (rp_Cm m && (rG_m m && (lw_nF m 40 9 && (lw_nF m 78 15 && (lkE_m m && m.all fun w => w.1 || Nat.blt w.2.1 130))))))))))))
theorem lk_put {c j : Nat} {v : Value} (I : cq_Inv none h) (LC : lkC h) (I' : cq_Inv none (am_put h c j v)) (F : cq_Fr m h (am_put h c j v)) (hc : c < 130) (q : lkM2 m = true) : lkC (am_put h c j v) ∧ lkE h (am_put h c j v) := by
  obtain ⟨⟨R1, R2, R3, R4, R5, R6, Y⟩, B, Tc, C, X⟩ := LC
  have q := (Bool.and_eq_true _ _ ▸ q)
  obtain ⟨q1, q⟩ := q
  have q := (Bool.and_eq_true _ _ ▸ q)
  obtain ⟨q2, q⟩ := q
  have q := (Bool.and_eq_true _ _ ▸ q)
  obtain ⟨q3, q⟩ := q
  have q := (Bool.and_eq_true _ _ ▸ q)
  obtain ⟨q4, q⟩ := q
  have q := (Bool.and_eq_true _ _ ▸ q)
  obtain ⟨q5, q⟩ := q
  have q := (Bool.and_eq_true _ _ ▸ q)
  obtain ⟨q6, q⟩ := q
  have q := (Bool.and_eq_true _ _ ▸ q)
  obtain ⟨q7, q⟩ := q
  have q := (Bool.and_eq_true _ _ ▸ q)
  obtain ⟨q8, q⟩ := q
  have q := (Bool.and_eq_true _ _ ▸ q)
  obtain ⟨q9, q⟩ := q
  have q := (Bool.and_eq_true _ _ ▸ q)
  obtain ⟨q10, q⟩ := q
  have q := (Bool.and_eq_true _ _ ▸ q)
  obtain ⟨q11, q⟩ := q
  have q := (Bool.and_eq_true _ _ ▸ q)
  obtain ⟨q12, q⟩ := q
  have q := (Bool.and_eq_true _ _ ▸ q)
  obtain ⟨q13, q14⟩ := q
  refine ⟨⟨⟨rT_fr I F q1 R1, rp_Pfr I F q2 R2, rL_fr I F q3 R3, rbV_fr I F q4 R4, rD_fr I F q5 R5, rQ_fr I F q6 R6, rY_fr I I' F rfl q7 Y⟩, rB_fr I F q8 B, ?_, rp_Cfr I F q9 C, rG_fr I F q10 X⟩, lkE_of I F rfl (fun E a _ _ j _ => ax_put_o (Or.inl (by omega)) rfl) q14 q13⟩
  obtain ⟨t, t1, t2⟩ := Tc
  exact ⟨t, (lw_frF F I.lo (by decide) q11).trans t1, (lw_frF F I.lo (by decide) q12).trans t2⟩
theorem lk_put2 (I : cq_Inv none h) (LC : lkC h) : cq_Inv none (am_put h 78 2 (iv 0)) ∧ lkC (am_put h 78 2 (iv 0)) ∧ lkE h (am_put h 78 2 (iv 0)) := by
  have I' : cq_Inv none (am_put h 78 2 (iv 0)) := hd_I78 I 0 1600 (by decide +kernel) (by decide) (by decide)
  exact ⟨I', lk_put (m := [(false, 78, 3, 0)]) I LC I' (cq_Fr_put cq_Fr_rf (fun _ => rfl)) (by decide) (by decide +kernel)⟩
theorem hd_I68 {h : am_H} (I : cq_Inv none h) {j : Nat} {x : Int32} (h0 : 0 ≤ x.toInt) (h1 : x.toInt ≤ 13) (h2 : x.toInt < cq_n h 40 13) : cq_Inv none (am_put h 68 j (.int x)) := by
  refine cq_Inv_put I (by decide) (by have := I.lo; omega) (fun _ => ?_) (fun z => by omega) (fun z => by omega) (fun z => by omega) (fun z => by omega) (by decide)
  rw [hd_tyA I (by decide) (by decide) (by decide +kernel) (by decide), show cq_ar 68 = (9, 0, 13, 0, 0, 0) by decide +kernel]
  exact ⟨x, rfl, h0, h1, Or.inl h2⟩
theorem lk_put68 (I : cq_Inv none h) (LC : lkC h) (hn : h.2.2.2 40 13 = iv n) (hn14 : n ≤ 14) {c : Nat} (hc : c < n) : cq_Inv none (am_put h 68 j (iv c)) ∧ lkC (am_put h 68 j (iv c)) ∧ lkE h (am_put h 68 j (iv c)) := by
  have e : cq_n h 40 13 = (n : Int) := by
    unfold cq_n
    rw [hn]
    exact fx_ti (by omega)
  have I' : cq_Inv none (am_put h 68 j (iv c)) := hd_I68 I (by rw [fx_ti (by omega)]; omega) (by rw [fx_ti (by omega)]; omega) (by rw [fx_ti (by omega), e]; omega)
  exact ⟨I', lk_put (m := [(false, 68, 0, 0)]) I LC I' (cq_Fr_put cq_Fr_rf (fun _ => rfl)) (by decide) (by decide +kernel)⟩
end LAS
/-! LAY -/
def lab (h : am_H) (i : Nat) : Int := (gI (h.2.2.2 80 i)).toInt
def laC (h : am_H) (i : Nat) : Int := lab h i - 65
def laR (C : Nat → Int) (n : Nat) : Nat → Nat → Int32 → Option Int32
  | 0, _, S => some S
  | m + 1, i, S => if 0 ≤ C i ∧ C i < n ∧ bt S (C i).toNat = false then laR C n m (i + 1) (S ||| (Int32.ofInt 1 <<< (Int32.ofInt (((C i).toNat : Nat) : Int) &&& 31))) else none
def laS (h : am_H) (C : Nat → Nat) : Nat → Nat → Int → Int
  | 0, _, st => st
  | m + 1, i, st => if stN h (C i) (C (i + 1)) = true then laS h C m (i + 1) (st + stS h (C i) (C (i + 1))) else -1
def ci (h : am_H) (i : Nat) : Nat := (laC h i).toNat
section LAL
variable {h g G h' H : am_H} {d n L i j : Nat} {S0 : Int32} {C : Nat → Int}
theorem la_by (I : cq_Inv none h) (X : rT h) (hi : i < 1600) : h.2.2.2 80 i = iv (lab h i) ∧ h.2.2.2 42 i = iv (lab h i) ∧ -128 ≤ lab h i ∧ lab h i ≤ 127 := by
  obtain ⟨x, e, a, b⟩ := ax_in I (c := 80) (j := i) (l := -128) (u := 127) (by
    rw [show Nat.blt i (cq_fix 80).2.2 = true from Nat.ble_eq_true_of_le hi]
    decide +kernel) (by
    unfold cq_ty
    rw [show cq_isA 80 = true by decide +kernel, show ((Nat.beq 80 81 || Nat.beq 80 83) && Nat.beq i 1) = false from rfl]
    show cq_ar 80 = _
    decide +kernel)
  have ex : h.2.2.2 80 i = iv (lab h i) := by
    rw [e, fx_of x]
    unfold lab
    rw [gI_of e]
  refine ⟨ex, (X.1 i hi).trans ex, ?_⟩
  unfold lab
  rw [gI_of e]
  exact ⟨a, b⟩
theorem laR_s {m : Nat} : laR C n (m + 1) i S0 = if 0 ≤ C i ∧ C i < n ∧ bt S0 (C i).toNat = false then laR C n m (i + 1) (S0 ||| (Int32.ofInt 1 <<< (Int32.ofInt (((C i).toNat : Nat) : Int) &&& 31))) else none := rfl
theorem laR_ok (hn : n ≤ 14) : ∀ (m i : Nat) (S S' : Int32), laR C n m i S = some S' → (∀ j, i ≤ j → j < i + m → 0 ≤ C j ∧ C j < n) ∧ ∀ c : Nat, c < 31 → (bt S' c = true ↔ bt S c = true ∨ ∃ j, i ≤ j ∧ j < i + m ∧ C j = c) := fun m => by
  induction m with
  | zero =>
    intro i S S' e
    cases e
    refine ⟨fun j a b => by omega, fun c hc => ⟨Or.inl, fun z => z.elim id (fun w => ?_)⟩⟩
    obtain ⟨j, a, b, -⟩ := w
    omega
  | succ m ih =>
    intro i S S' e
    rw [laR_s] at e
    by_cases k : 0 ≤ C i ∧ C i < n ∧ bt S (C i).toNat = false
    · rw [if_pos k] at e
      obtain ⟨a, b⟩ := ih _ _ _ e
      obtain ⟨k1, k2, k3⟩ := k
      refine ⟨fun j x y => ?_, fun c hc => ?_⟩
      · by_cases ej : j = i
        · rw [ej]
          exact ⟨k1, k2⟩
        · exact a j (by omega) (by omega)
      · rw [b c hc, b_set (c := (C i).toNat) (by omega) hc, Bool.or_eq_true, decide_eq_true_iff]
        refine ⟨fun z => ?_, fun z => ?_⟩
        · rcases z with (z | z) | ⟨j, x, y, w⟩
          · exact Or.inl z
          · exact Or.inr ⟨i, Nat.le_refl _, by omega, by omega⟩
          · exact Or.inr ⟨j, by omega, by omega, w⟩
        · rcases z with z | ⟨j, x, y, w⟩
          · exact Or.inl (Or.inl z)
          · by_cases ej : j = i
            · rw [ej] at w
              exact Or.inl (Or.inr (by omega))
            · exact Or.inr ⟨j, by omega, by omega, w⟩
    · rw [if_neg k] at e
      cases e
theorem la_p1 (I : cq_Inv none h) (LC : lkC h) (hn : h.2.2.2 40 13 = iv n) (hn14 : n ≤ 14) (hL : 1 ≤ L ∧ L ≤ 14) (v41 : h.2.2.2 41 1 = iv L) : ∀ (m i : Nat) (S0 : Int32) (G : am_H) (x4 : Value), i + m = L → cq_Inv none G → lkC G → lkE h G → (∀ a j, a ≠ 68 → G.2.2.2 a j = h.2.2.2 a j) → (∀ j, j < i → G.2.2.2 68 j = iv (laC h j)) → (laR (laC h) n m i S0 = none ∧ ∃ G', am_ev (d + 7) 129 25 [.ref 40, iv L, .int S0, iv i, x4] [] G (some (iv (-1)), G') ∧ (∀ a j, a ≠ 68 → G'.2.2.2 a j = h.2.2.2 a j) ∧ fS G') ∨ (∃ S', laR (laC h) n m i S0 = some S' ∧ ∃ (G' : am_H) (x4' : Value), cq_Inv none G' ∧ lkC G' ∧ lkE h G' ∧ (∀ a j, a ≠ 68 → G'.2.2.2 a j = h.2.2.2 a j) ∧ (∀ j, j < L → G'.2.2.2 68 j = iv (laC h j)) ∧ ∀ x, am_ev (d + 7) 129 92 [.ref 40, iv L, .int S', iv L, x4'] [] G' x → am_ev (d + 7) 129 25 [.ref 40, iv L, .int S0, iv i, x4] [] G x) := fun m => by
  induction m with
  | zero =>
    intro i S0 G x4 hi IG LG E fr f68
    have ei : i = L := hi
    rw [ei]
    have v13 := (fr 40 13 (by decide)).trans hn
    exact Or.inr ⟨S0, rfl, G, x4, IG, LG, E, fr, fun j hj => f68 j (by omega), fun x r => la_129e (fS.of IG) v13 hn14 hL.2 rfl r⟩
  | succ m ih =>
    intro i S0 G x4 hi IG LG E fr f68
    have S := fS.of IG
    have v13 := (fr 40 13 (by decide)).trans hn
    obtain ⟨b80, b42, bb⟩ := la_by I LC.1.1 (i := i) (by omega)
    have H130 := la_130 (d := d + 6) S ((fr 41 1 (by decide)).trans v41) hL.2 (show i < L by omega) ((fr 42 i (by decide)).trans b42) bb
    have eC : laC h i = lab h i - 65 := rfl
    rw [laR_s]
    by_cases hv : 0 ≤ laC h i ∧ laC h i < n
    · obtain ⟨c, hc⟩ : ∃ c : Nat, laC h i = (c : Int) := ⟨(laC h i).toNat, by omega⟩
      have tn : (laC h i).toNat = c := by omega
      have eB : laB (lab h i) = (c : Int) + 65 := by
        unfold laB
        rw [if_neg (by omega)]
        omega
      rw [eB] at H130
      rw [tn]
      have cn : c < n := by omega
      cases qb : bt S0 c with
      | false =>
        rw [if_pos ⟨hv.1, hv.2, rfl⟩]
        obtain ⟨I1, L1, E1⟩ := lk_put68 (j := i) IG LG v13 hn14 cn
        have fr1 : ∀ a j, a ≠ 68 → (am_put G 68 i (iv c)).2.2.2 a j = h.2.2.2 a j := fun a j na => (ax_put_o (Or.inl na) rfl).trans (fr a j na)
        have f1 : ∀ j, j < i + 1 → (am_put G 68 i (iv c)).2.2.2 68 j = iv (laC h j) := fun j hj => by
          by_cases ej : j = i
          · rw [ej, hc]
            exact ax_put_s _ _ _
          · exact ax_put_o (Or.inr ej) (f68 j (by omega))
        rcases ih (i + 1) (S0 ||| (Int32.ofInt 1 <<< (Int32.ofInt (c : Int) &&& 31))) (am_put G 68 i (iv c)) (iv c) (by omega) I1 L1 (E.tr E1) fr1 f1 with ⟨z, G', r, r2⟩ | ⟨S', z, G', x4', r1, r2, r3, r4, r5, r6⟩
        · exact Or.inl ⟨z, G', la_129y S v13 hn14 hL.2 H130 cn qb (by omega) r, r2⟩
        · exact Or.inr ⟨S', z, G', x4', r1, r2, r3, r4, r5, fun x r => la_129y S v13 hn14 hL.2 H130 cn qb (by omega) (r6 x r)⟩
      | true =>
        rw [if_neg (fun z => by cases z.2.2)]
        exact Or.inl ⟨rfl, G, la_129c S v13 hn14 hL.2 H130 cn qb (by omega), fr, S⟩
    · rw [if_neg (fun z => hv ⟨z.1, z.2.1⟩)]
      have bx : (0 ≤ laB (lab h i) ∧ laB (lab h i) ≤ 255) ∧ ¬ (0 ≤ laB (lab h i) - 65 ∧ laB (lab h i) - 65 < n) := by
        unfold laB
        by_cases z : lab h i < 0
        · rw [if_pos z]
          omega
        · rw [if_neg z]
          omega
      by_cases z : laB (lab h i) - 65 < 0
      · exact Or.inl ⟨rfl, G, la_129a S v13 hn14 hL.2 H130 bx.1 z (by omega), fr, S⟩
      · exact Or.inl ⟨rfl, G, la_129b S v13 hn14 hL.2 H130 bx.1 (by omega) (by omega), fr, S⟩
theorem laS_b (h : am_H) {C : Nat → Nat} : ∀ (m i : Nat) (st : Int), (∀ j, i ≤ j → j ≤ i + m → 0 ≤ wkyr h (C j) ∧ wkyr h (C j) ≤ 2100) → 0 ≤ st → laS h C m i st = -1 ∨ (0 ≤ laS h C m i st ∧ laS h C m i st ≤ st + 2100 * (m : Int)) := fun m => by
  induction m with
  | zero => intro i st _ h0; exact Or.inr ⟨h0, by show st ≤ st + 2100 * (0 : Int); omega⟩
  | succ m ih =>
    intro i st by_ h0
    have e : laS h C (m + 1) i st = if stN h (C i) (C (i + 1)) = true then laS h C m (i + 1) (st + stS h (C i) (C (i + 1))) else -1 := rfl
    rw [e]
    by_cases z : stN h (C i) (C (i + 1)) = true
    · rw [if_pos z]
      have y1 := by_ i (Nat.le_refl _) (by omega)
      have y2 := by_ (i + 1) (by omega) (by omega)
      have k := st_S h (C i) (C (i + 1))
      rcases ih (i + 1) (st + stS h (C i) (C (i + 1))) (fun j a b => by_ j (by omega) (by omega)) (by omega) with w | w
      · exact Or.inl w
      · exact Or.inr ⟨w.1, by omega⟩
    · rw [if_neg z]
      exact Or.inl rfl
theorem la_p3 (S : fS g) (hL : 1 ≤ L ∧ L ≤ 14) (hn14 : n ≤ 14) {C : Nat → Nat} (f68 : ∀ j, j < L → g.2.2.2 68 j = iv (C j)) (hC : ∀ j, j < L → C j < n) (D : ∀ j, j < L → stD h g (C j)) : ∀ (m i : Nat) (st : Int) (x6 : Value), i + 1 + m = L → (0 ≤ st ∧ st ≤ 2100 * (i : Int)) → am_ev (d + 3) 131 6 [.ref 67, iv L, .ref 74, iv n, iv st, iv ((i : Int) + 1), x6] [] g (some (iv (laS h C m i st)), g) := fun m => by
  induction m with
  | zero => intro i st x6 hi bs; exact la_131e S hL.2 (by omega) (by omega) (by omega)
  | succ m ih =>
    intro i st x6 hi bs
    have e : laS h C (m + 1) i st = if stN h (C i) (C (i + 1)) = true then laS h C m (i + 1) (st + stS h (C i) (C (i + 1))) else -1 := rfl
    rw [e]
    have H := st_121 (d := d) (D i (by omega)) (D (i + 1) (by omega))
    obtain ⟨s, k1, -, -, -, -, -, -, -, -, b1, -⟩ := D i (by omega)
    obtain ⟨s', l1, -, -, -, -, -, -, -, -, b2_, -⟩ := D (i + 1) (by omega)
    unfold stB at H
    by_cases z : stN h (C i) (C (i + 1)) = true
    · rw [if_pos z] at H ⊢
      have k := st_S h (C i) (C (i + 1))
      exact la_131y S hL.2 (by omega) (by omega) (f68 i (by omega)) (f68 (i + 1) (by omega)) (hC i (by omega)) (hC (i + 1) (by omega)) hn14 k1 l1 H (by omega) (ih (i + 1) _ _ (by omega) (by omega))
    · rw [if_neg z] at H ⊢
      exact la_131n S hL.2 (by omega) (by omega) (f68 i (by omega)) (f68 (i + 1) (by omega)) (hC i (by omega)) (hC (i + 1) (by omega)) hn14 k1 l1 H
theorem la_p4 (hL : 1 ≤ L ∧ L ≤ 14) {C : Nat → Nat} : ∀ (m i : Nat) (G : am_H), i + m = L → fS G → (∀ j, j < L → G.2.2.2 68 j = iv (C j)) → ∃ G', am_ev d 127 2 [.ref 40, iv L, iv i] [] G (none, G') ∧ fS G' ∧ (∀ j, i ≤ j → j < L → G'.2.2.2 75 j = iv (C j)) ∧ (∀ j, j < i → G'.2.2.2 75 j = G.2.2.2 75 j) ∧ G'.2.2.2 40 15 = iv L := fun m => by
  induction m with
  | zero =>
    intro i G hi S f68
    exact ⟨_, la_127e S hL.2 hi, (S.po rfl rfl |>.po rfl rfl |>.po rfl rfl), fun j a b => by omega, fun j hj => ax_put_o (Or.inl (by decide)) (ax_put_o (Or.inl (by decide)) (ax_put_o (Or.inl (by decide)) rfl)), ax_put_o (Or.inr (by decide)) (ax_put_o (Or.inl (by decide)) (ax_put_s _ _ _))⟩
  | succ m ih =>
    intro i G hi S f68
    obtain ⟨G', r1, r2, r3, r4, r5⟩ := ih (i + 1) (am_put G 75 i (iv (C i))) (by omega) (S.pa rfl) (fun j hj => ax_put_o (Or.inl (by decide)) (f68 j hj))
    refine ⟨G', la_127y S hL.2 (by omega) (f68 i (by omega)) r1, r2, fun j a b => ?_, fun j hj => (r4 j (by omega)).trans (ax_put_o (Or.inr (by omega)) rfl), r5⟩
    by_cases ej : j = i
    · rw [ej]
      exact (r4 i (by omega)).trans (ax_put_s _ _ _)
    · exact r3 j (by omega) b
end LAL
