/-! WORTH: loops and the call; what a call that looks leaves -/
def lkM (m : cq_W) : Bool := rT_m m && (rp_Pm m && (rL_m m && (rbV_m m && (rD_m m && (rQ_m m && ((rK_m m && rX_m m && rZ_m m) && (rB_m m && (rp_Cm m && (rG_m m && (lw_nF m 40 9 && (lw_nF m 78 15 && (lkE_m m && m.all fun w => w.1 || Nat.blt w.2.1 130))))))))))))
section LKG
variable {h g h' G : am_H} {d n : Nat} {m : cq_W} {S0 : Int32}
theorem lk_go {y mx : Nat} {as : List Value} {v : Option Value} (I : cq_Inv none h) (L : lkC h) (F : cq_Fr m h h') (hy : hx_S y = true) (hd : hx_D y ≤ d) (n : as.all n40 = true) (ev : am_ev d y 0 (am_ent as mx) [] h (v, h')) (n1 : h'.1 = h.1) (q : lkM m = true) : lkC h' ∧ lkE h h' := by
  obtain ⟨⟨R1, R2, R3, R4, R5, R6, Y⟩, B, Tc, C, X⟩ := L
  have q := (Bool.and_eq_true _ _ ▸ q)
  obtain ⟨q1, q⟩ := q
  have q := (Bool.and_eq_true _ _ ▸ q)
  obtain ⟨q2, q⟩ := q
  have q := (Bool.and_eq_true _ _ ▸ q)
  obtain ⟨q3, q⟩ := q
  have q := (Bool.and_eq_true _ _ ▸ q)
  obtain ⟨q4, q⟩ := q
  have q := (Bool.and_eq_true _ _ ▸ q)
  obtain ⟨q5, q⟩ := q
  have q := (Bool.and_eq_true _ _ ▸ q)
  obtain ⟨q6, q⟩ := q
  have q := (Bool.and_eq_true _ _ ▸ q)
  obtain ⟨q7, q⟩ := q
  have q := (Bool.and_eq_true _ _ ▸ q)
  obtain ⟨q8, q⟩ := q
  have q := (Bool.and_eq_true _ _ ▸ q)
  obtain ⟨q9, q⟩ := q
  have q := (Bool.and_eq_true _ _ ▸ q)
  obtain ⟨q10, q⟩ := q
  have q := (Bool.and_eq_true _ _ ▸ q)
  obtain ⟨q11, q⟩ := q
  have q := (Bool.and_eq_true _ _ ▸ q)
  obtain ⟨q12, q⟩ := q
  have q := (Bool.and_eq_true _ _ ▸ q)
  obtain ⟨q13, q14⟩ := q
  have W := Y.2.1.1
  obtain ⟨W', Q', -⟩ := hx_go W (fS.of I) hy hd (hx_n n) ev
  have eE : ∀ E, 130 ≤ E → E < h.1 → hx_ed h E → ∀ j, j < 6 → h'.2.2.2 E j = h.2.2.2 E j := fun E a b c j hj => (Q'.2.2.2.2 E a b c).1 j hj
  refine ⟨⟨⟨rT_fr I F q1 R1, rp_Pfr I F q2 R2, rL_fr I F q3 R3, rbV_fr I F q4 R4, rD_fr I F q5 R5, rQ_fr I F q6 R6, gv_hx I F hy hd n ev q7 Y⟩, rB_fr I F q8 B, ?_, rp_Cfr I F q9 C, rG_fr I F q10 X⟩, lkE_of I F n1 eE q14 q13⟩
  obtain ⟨t, t1, t2⟩ := Tc
  exact ⟨t, (lw_frF F I.lo (by decide) q11).trans t1, (lw_frF F I.lo (by decide) q12).trans t2⟩
/-! a set's data -/
def wkal (h : am_H) (c : Nat) : Bool := mvAl h (qc h c)
def wkpo (h : am_H) (c : Nat) : Nat := (gI (h.2.2.2 86 (qc h c))).toInt.toNat
def wkwo (h : am_H) (c : Nat) : Int := (gI (h.2.2.2 89 (qc h c))).toInt
def wkfe (h : am_H) (c : Nat) : Int := mvFe h (qc h c)
def wkpg (h : am_H) (c : Nat) : Int := mvN h (qc h c)
def wkV (h : am_H) (j : Nat) : Int := (gI (h.2.2.2 81 j)).toInt
theorem wk_V (I : cq_Inv none h) (L : lkC h) : (∀ j, j < 7 → h.2.2.2 44 j = iv (wkV h j) ∧ h.2.2.2 81 j = iv (wkV h j)) ∧ (2 ≤ wkV h 1 ∧ wkV h 1 ≤ 32) ∧ (0 ≤ wkV h 3 ∧ wkV h 3 ≤ 30) ∧ (1 ≤ wkV h 4 ∧ wkV h 4 ≤ 40) ∧ (0 ≤ wkV h 5 ∧ wkV h 5 ≤ 99999) ∧ (1 ≤ wkV h 6 ∧ wkV h 6 ≤ 9) ∧ (6 ≤ wkV h 0 ∧ wkV h 0 ≤ 60) ∧ (0 ≤ wkV h 2 ∧ wkV h 2 ≤ 4) := by
  obtain ⟨⟨R1, -, -, ⟨V, Y, BV, g44, -⟩, -⟩, -⟩ := L
  have b : ∀ j, j < 7 → cq_sv 2 j ≤ V j ∧ V j ≤ cq_sv 3 j := BV.1
  have c0 := b 0 (by decide)
  have c1 := b 1 (by decide)
  have c2 := b 2 (by decide)
  have c3 := b 3 (by decide)
  have c4 := b 4 (by decide)
  have c5 := b 5 (by decide)
  have c6 := b 6 (by decide)
  rw [show cq_sv 2 0 = 6 by decide, show cq_sv 3 0 = 60 by decide] at c0
  rw [show cq_sv 2 1 = 2 by decide, show cq_sv 3 1 = 32 by decide] at c1
  rw [show cq_sv 2 2 = 0 by decide, show cq_sv 3 2 = 4 by decide] at c2
  rw [show cq_sv 2 3 = 0 by decide, show cq_sv 3 3 = 30 by decide] at c3
  rw [show cq_sv 2 4 = 1 by decide, show cq_sv 3 4 = 40 by decide] at c4
  rw [show cq_sv 2 5 = 0 by decide, show cq_sv 3 5 = 99999 by decide] at c5
  rw [show cq_sv 2 6 = 1 by decide, show cq_sv 3 6 = 9 by decide] at c6
  have r : ∀ j, j < 7 → -2147483648 ≤ V j ∧ V j ≤ 2147483647 := fun j hj => by
    have hj : j = 0 ∨ j = 1 ∨ j = 2 ∨ j = 3 ∨ j = 4 ∨ j = 5 ∨ j = 6 := by omega
    rcases hj with e | e | e | e | e | e | e <;> subst e <;> omega
  have e : ∀ j, j < 7 → wkV h j = V j := fun j hj => gI_iv ((R1.2.1 j hj).symm.trans (g44 j hj)) (r j hj)
  have e0 := e 0 (by decide)
  have e1 := e 1 (by decide)
  have e2 := e 2 (by decide)
  have e3 := e 3 (by decide)
  have e4 := e 4 (by decide)
  have e5 := e 5 (by decide)
  have e6 := e 6 (by decide)
  refine ⟨fun j hj => ?_, by omega, by omega, by omega, by omega, by omega, by omega, by omega⟩
  rw [e j hj]
  exact ⟨g44 j hj, (R1.2.1 j hj).symm.trans (g44 j hj)⟩
theorem wk_mul {x y : Int} (h1 : 1 ≤ x ∧ x ≤ 40) (h2 : 2 ≤ y ∧ y ≤ 32) : 0 ≤ x * y ∧ x * y ≤ 2000 := by
  have a : 0 ≤ x * y := Int.mul_nonneg (by omega) (by omega)
  have b : x * y ≤ 40 * 32 := Int.mul_le_mul h1.2 h2.2 (by omega) (by omega)
  omega
/-- what is known of a candidate's poem -/
theorem wk_c (I : cq_Inv none h) (L : lkC h) (hn : h.2.2.2 40 13 = iv n) (hn14 : n ≤ 14) {c : Nat} (hc : c < n) : ∃ s : Nat, h.2.2.2 73 (qc h c) = .ref s ∧ cq_kOk h s (0, 6, 0) ∧ h.2.2.2 s 0 = iv (wkpo h c) ∧ wkpo h c < 20 ∧ h.2.2.2 s 3 = iv (wkwo h c) ∧ (0 ≤ wkwo h c ∧ wkwo h c ≤ 99) ∧ h.2.2.2 86 (qc h c) = iv (wkpo h c) ∧ h.2.2.2 89 (qc h c) = iv (wkwo h c) ∧ qc h c < 40 ∧ (-1 ≤ wkpg h c ∧ wkpg h c ≤ 30) ∧ (wkal h c = true → 0 ≤ wkpg h c ∧ 0 ≤ wkfe h c ∧ wkfe h c ≤ 299970) ∧ h.2.2.2 117 c = iv (qc h c) ∧ h.2.2.2 74 c = .ref (kc h c) ∧ cq_kOk h (kc h c) (0, 1, 0) ∧ h.2.2.2 (kc h c) 1 = h.2.2.2 73 (qc h c) := by
  obtain ⟨n0, pm, b0, a1, a2, m1, K, D⟩ := lk_c I L
  have en : n0 = n := by
    rw [hn] at a1
    have z := congrArg (fun v => (gI v).toInt) a1
    have z : (Int32.ofInt (n : Int)).toInt = (Int32.ofInt (n0 : Int)).toInt := z
    rw [fx_ti (by omega), fx_ti (by omega)] at z
    omega
  subst en
  obtain ⟨k1, k2, k3, k4, k5, k6, k7⟩ := K c hc
  obtain ⟨-, s, s1, ko, sf⟩ := lk_p I L.1 m1 k5
  obtain ⟨x, e86, x0, x1⟩ := ax_in I (c := 86) (j := qc h c) (l := 0) (u := 19) (by
    rw [show Nat.blt (qc h c) (cq_fix 86).2.2 = true from Nat.ble_eq_true_of_le k7]
    decide +kernel) (by
    unfold cq_ty
    rw [show cq_isA 86 = true by decide +kernel, show ((Nat.beq 86 81 || Nat.beq 86 83) && Nat.beq (qc h c) 1) = false from rfl]
    show cq_ar 86 = _
    decide +kernel)
  obtain ⟨y, e89, y0, y1⟩ := ax_in I (c := 89) (j := qc h c) (l := 0) (u := 99) (by
    rw [show Nat.blt (qc h c) (cq_fix 89).2.2 = true from Nat.ble_eq_true_of_le k7]
    decide +kernel) (by
    unfold cq_ty
    rw [show cq_isA 89 = true by decide +kernel, show ((Nat.beq 89 81 || Nat.beq 89 83) && Nat.beq (qc h c) 1) = false from rfl]
    show cq_ar 89 = _
    decide +kernel)
  have ex : h.2.2.2 86 (qc h c) = iv (wkpo h c) := by
    rw [e86, fx_of x]
    unfold wkpo
    rw [gI_of e86]
    exact congrArg iv (by omega)
  have ey : h.2.2.2 89 (qc h c) = iv (wkwo h c) := by
    rw [e89, fx_of y]
    unfold wkwo
    rw [gI_of e89]
  have f0 := (sf 0 (by decide)).trans ex
  have f3 := (sf 3 (by decide)).trans ey
  have bn := lk_n I L.1 m1 k5
  refine ⟨s, s1, ko, f0, ?_, f3, ?_, ex, ey, k7, bn, fun al => ?_, k4, k1, k2, k6⟩
  · unfold wkpo
    rw [gI_of e86]
    omega
  · unfold wkwo
    rw [gI_of e89]
    exact ⟨y0, y1⟩
  · obtain ⟨G, -, -, f1, f2⟩ := lk_232 (d := 0) I L.1 m1 k5 (gS.rf I) al
    have al := (Bool.and_eq_true _ _ ▸ (show (mvA h (qc h c) && decide (mvN h (qc h c) ≠ -1)) = true from al))
    have al := of_decide_eq_true al.2
    exact ⟨by show 0 ≤ mvN h (qc h c); omega, f1, f2⟩
end LKG
section WLP
variable {al : Nat → Bool} {po : Nat → Nat} {wo fe pg : Nat → Int} {ks ss qs : Nat → Nat} {mo P F fr M V4 V1 : Int} {S0 : Int32} {n d : Nat} {g : am_H}
def wkD (g : am_H) (al : Nat → Bool) (po : Nat → Nat) (wo fe pg : Nat → Int) (ks ss : Nat → Nat) (c : Nat) : Prop := g.2.2.2 74 c = .ref (ks c) ∧ am_isO g (ks c) 1 = true ∧ 130 ≤ ks c ∧ g.2.2.2 (ks c) 2 = iv (b2 (al c)) ∧ g.2.2.2 (ks c) 1 = .ref (ss c) ∧ am_isO g (ss c) 6 = true ∧ 130 ≤ ss c ∧ g.2.2.2 (ss c) 0 = iv (po c) ∧ po c < 20 ∧ g.2.2.2 (ss c) 3 = iv (wo c) ∧ (0 ≤ wo c ∧ wo c ≤ 99) ∧ g.2.2.2 (ks c) 5 = iv (pg c) ∧ (-1 ≤ pg c ∧ pg c ≤ 30) ∧ g.2.2.2 (ks c) 6 = iv (if al c = true then fe c else 0) ∧ (al c = true → 0 ≤ pg c ∧ 0 ≤ fe c ∧ fe c ≤ 299970)
theorem wkR_s {m c : Nat} {T : Nat → Int} {w f p : Int} : wkR al po wo fe pg mo S0 (m + 1) c T w f p = if bt S0 c = true then (if al c = true ∧ T (po c) < mo then wkR al po wo fe pg mo S0 m (c + 1) (fun j => if j = po c then T j + 1 else T j) (w + wo c) (f + fe c) (p + pg c) else none) else wkR al po wo fe pg mo S0 m (c + 1) T w f p := rfl
theorem isO_eq {g G : am_H} {a k : Nat} (h1 : G.1 = g.1) (h2 : G.2.2.1 = g.2.2.1) (q : am_isO g a k = true) : am_isO G a k = true := by
  unfold am_isO at q ⊢
  rw [h1, h2]
  exact q
theorem wk_117 (hn : n ≤ 14) (bm : 1 ≤ mo ∧ mo ≤ 9) (bP : 0 ≤ P ∧ P ≤ 2000) (bF : 0 ≤ F ∧ F ≤ 99999) (D : ∀ c, c < n → bt S0 c = true → wkD g al po wo fe pg ks ss c) (HH : ∀ c, c < n → al c = true → 0 ≤ fe c ∧ 0 ≤ pg c) (e4 : g.2.2.2 63 4 = iv n) (e3 : g.2.2.2 63 3 = .ref 74) (e5 : g.2.2.2 63 5 = iv mo) (e6 : g.2.2.2 63 6 = iv P) (e7 : g.2.2.2 63 7 = iv F) : ∀ (m c : Nat) (T : Nat → Int) (w f p : Int) (G : am_H) (x9 : Value), c + m = n → fS G → G.1 = g.1 → G.2.2.1 = g.2.2.1 → (∀ a j, a ≠ 64 → G.2.2.2 a j = g.2.2.2 a j) → (∀ j, j < 20 → G.2.2.2 64 j = iv (T j)) → (∀ j, 0 ≤ T j ∧ T j ≤ c) → (0 ≤ w ∧ w ≤ 99 * (c : Int)) → (0 ≤ f ∧ f ≤ F) → (0 ≤ p ∧ p ≤ P) → p ≤ 30 * (c : Int) → ∃ G', am_ev (d + 2) 117 29 [.ref 63, .int S0, .ref 74, iv n, .ref 43, iv w, iv f, iv p, iv (c : Int), x9] [] G (some (iv (wkZ P F (wkR al po wo fe pg mo S0 m c T w f p))), G') := fun m => by
  induction m with
  | zero =>
    intro c T w f p G x9 hc S n1 n2 fr h64 bT bw bf bp bp2
    have ec : c = n := hc
    refine ⟨G, ?_⟩
    rw [show wkZ P F (wkR al po wo fe pg mo S0 0 c T w f p) = w from if_pos ⟨bp.2, bf.2⟩]
    exact wo_117e S ((fr 63 4 (by decide)).trans e4) hn ec (by omega)
  | succ m ih =>
    intro c T w f p G x9 hc S n1 n2 fr h64 bT bw bf bp bp2
    have v4 := (fr 63 4 (by decide)).trans e4
    rw [wkR_s]
    cases qb : bt S0 c with
    | false =>
      rw [if_neg (show ¬ (false = true) by decide)]
      obtain ⟨G', r⟩ := ih (c + 1) T w f p G x9 (by omega) S n1 n2 fr h64 (fun j => by have := bT j; omega) (by omega) bf bp (by omega)
      exact ⟨G', wo_117n S v4 hn (by omega) qb r⟩
    | true =>
      rw [if_pos rfl]
      obtain ⟨k1, k2, k3, k4, k5, k6, k7, k8, k9, k10, k11, k12, k13, k14, k15⟩ := D c (by omega) qb
      have v3 := (fr 63 3 (by decide)).trans e3
      have v74 := (fr 74 c (by decide)).trans k1
      have Ok := isO_eq n1 n2 k2
      have Os := isO_eq n1 n2 k6
      have x2 := (fr (ks c) 2 (by omega)).trans k4
      have x1 := (fr (ks c) 1 (by omega)).trans k5
      have y0 := (fr (ss c) 0 (by omega)).trans k8
      have y3 := (fr (ss c) 3 (by omega)).trans k10
      have x5 := (fr (ks c) 5 (by omega)).trans k12
      have x6 := (fr (ks c) 6 (by omega)).trans k14
      have vT := h64 (po c) k9
      have v5 := (fr 63 5 (by decide)).trans e5
      have v6 := (fr 63 6 (by decide)).trans e6
      have v7 := (fr 63 7 (by decide)).trans e7
      have bTc := bT (po c)
      cases ea : al c with
      | false =>
        rw [if_neg (fun z => by cases z.1)]
        rw [ea] at x2 x6
        have H := wo_113a (d := d + 1) S Ok Os x2 x1 y0 k9 vT v5 v6 v7 x5 (show G.2.2.2 (ks c) 6 = iv 0 from x6) (by omega) bm (by omega) bF (p := p) (f := f) (by omega) (by omega) k13 (by omega) (rfl : b2 false = 0)
        exact ⟨G, wo_117f S v4 hn v3 v74 Ok H (by omega) qb⟩
      | true =>
        rw [ea] at x2 x6
        have x6 : G.2.2.2 (ks c) 6 = iv (fe c) := x6
        obtain ⟨c1, c2, c3⟩ := k15 ea
        by_cases hT : T (po c) < mo
        · rw [if_pos ⟨rfl, hT⟩]
          by_cases hp : p + pg c ≤ P
          · by_cases hf : f + fe c ≤ F
            · have H := wo_113y (d := d + 1) S Ok Os x2 x1 y0 k9 vT v5 v6 v7 x5 x6 (by omega) bm (by omega) bF (p := p) (f := f) (by omega) (by omega) k13 (by omega) (rfl : b2 true = 1) hT hp hf
              obtain ⟨G', r⟩ := ih (c + 1) (fun j => if j = po c then T j + 1 else T j) (w + wo c) (f + fe c) (p + pg c) (am_put G 64 (po c) (iv (T (po c) + 1))) (.ref (ks c)) (by omega) (S.pa rfl) n1 n2 (fun a j na => (ax_put_o (Or.inl na) rfl).trans (fr a j na)) (fun j hj => by
                by_cases e : j = po c
                · show _ = iv (if j = po c then T j + 1 else T j)
                  rw [if_pos e, e]
                  exact ax_put_s _ _ _
                · show _ = iv (if j = po c then T j + 1 else T j)
                  rw [if_neg e]
                  exact ax_put_o (Or.inr e) (h64 j hj)) (fun j => by
                have := bT j
                show 0 ≤ (if j = po c then T j + 1 else T j) ∧ (if j = po c then T j + 1 else T j) ≤ ((c + 1 : Nat) : Int)
                split <;> omega) (by omega) (by omega) (by omega) (by omega)
              exact ⟨G', wo_117y S v4 hn v3 v74 Ok Os k3 k7 x1 y0 k9 y3 vT x5 x6 (by omega) (by omega) (by omega) (by omega) (by omega) (by omega) k11 H (by omega) qb r⟩
            · have H := wo_113d (d := d + 1) S Ok Os x2 x1 y0 k9 vT v5 v6 v7 x5 x6 (by omega) bm (by omega) bF (p := p) (f := f) (by omega) (by omega) k13 (by omega) (rfl : b2 true = 1) hT hp hf
              rw [wkZ_out (n := n) HH (by omega) (by omega)]
              exact ⟨G, wo_117f S v4 hn v3 v74 Ok H (by omega) qb⟩
          · have H := wo_113c (d := d + 1) S Ok Os x2 x1 y0 k9 vT v5 v6 v7 x5 x6 (by omega) bm (by omega) bF (p := p) (f := f) (by omega) (by omega) k13 (by omega) (rfl : b2 true = 1) hT hp
            rw [wkZ_out (n := n) HH (by omega) (by omega)]
            exact ⟨G, wo_117f S v4 hn v3 v74 Ok H (by omega) qb⟩
        · rw [if_neg (fun z => hT z.2)]
          have H := wo_113b (d := d + 1) S Ok Os x2 x1 y0 k9 vT v5 v6 v7 x5 x6 (by omega) bm (by omega) bF (p := p) (f := f) (by omega) (by omega) k13 (by omega) (rfl : b2 true = 1) hT
          exact ⟨G, wo_117f S v4 hn v3 v74 Ok H (by omega) qb⟩
/-! the model's side -/
def wkG (g : am_H) (al : Nat → Bool) (po : Nat → Nat) (wo fe pg : Nat → Int) (qs : Nat → Nat) (c : Nat) : Prop := g.2.2.2 117 c = iv (qs c) ∧ qs c < 40 ∧ g.2.2.2 86 (qs c) = iv (po c) ∧ po c < 20 ∧ g.2.2.2 120 c = iv (if al c = true then pg c else 0) ∧ g.2.2.2 121 c = iv (if al c = true then fe c else 0) ∧ g.2.2.2 89 (qs c) = iv (wo c) ∧ (0 ≤ wo c ∧ wo c ≤ 99) ∧ g.2.2.2 119 c = iv (b2 (al c)) ∧ (al c = true → (0 ≤ pg c ∧ pg c ≤ 30) ∧ 0 ≤ fe c ∧ fe c ≤ 299970)
theorem wk_236l (hn : n ≤ 14) (bm : 1 ≤ mo ∧ mo ≤ 9) (bfr : 0 ≤ fr ∧ fr ≤ 30) (bF : 0 ≤ F ∧ F ≤ 99999) (hm : V4 * V1 = M) (bV : 2 ≤ V1 ∧ V1 ≤ 32 ∧ 1 ≤ V4 ∧ V4 ≤ 40) (bM : 0 ≤ M ∧ M ≤ 2000) (D : ∀ c, c < n → wkG g al po wo fe pg qs c) (e53 : g.2.2.2 78 53 = iv n) (e6 : g.2.2.2 81 6 = iv mo) (e4 : g.2.2.2 81 4 = iv V4) (e1 : g.2.2.2 81 1 = iv V1) (e5 : g.2.2.2 81 5 = iv F) : ∀ (m c : Nat) (T : Nat → Int) (w f p : Int) (G : am_H) (x4 : Value), c + m = n → fS G → (∀ a j, a ≠ 122 → (a ≠ 78 ∨ (j ≠ 62 ∧ j ≠ 63 ∧ j ≠ 64)) → G.2.2.2 a j = g.2.2.2 a j) → (∀ j, j < 20 → G.2.2.2 122 j = iv (T j)) → G.2.2.2 78 62 = iv (fr + p) → G.2.2.2 78 63 = iv f → G.2.2.2 78 64 = iv w → (∀ j, 0 ≤ T j ∧ T j ≤ c) → (0 ≤ w ∧ w ≤ 99 * (c : Int)) → (0 ≤ f ∧ f ≤ 299970 * (c : Int)) → (0 ≤ p ∧ p ≤ 30 * (c : Int)) → ∃ (G' : am_H) (b : Bool), am_ev d 236 45 [.ref 78, .int S0, iv 1, iv (c : Int), x4] [] G (some (iv (b2 b)), G') ∧ fS G' ∧ (b = true → G'.2.2.2 78 64 = iv (wkZ (M - fr) F (wkR al po wo fe pg mo S0 m c T w f p))) ∧ (b = false → wkZ (M - fr) F (wkR al po wo fe pg mo S0 m c T w f p) = -1) := fun m => by
  induction m with
  | zero =>
    intro c T w f p G x4 hc S fR h122 v62 v63 v64 bT bw bf bp
    have ec : c = n := hc
    have v53 := (fR 78 53 (by decide) (Or.inr (by decide))).trans e53
    have v4 := (fR 81 4 (by decide) (Or.inl (by decide))).trans e4
    have v1 := (fR 81 1 (by decide) (Or.inl (by decide))).trans e1
    have v5 := (fR 81 5 (by decide) (Or.inl (by decide))).trans e5
    have z : wkR al po wo fe pg mo S0 0 c T w f p = some (w, f, p) := rfl
    rw [z]
    by_cases hp : fr + p ≤ M
    · by_cases hf : f ≤ F
      · refine ⟨G, true, wm_e1 S v53 hn v62 v63 v4 v1 v5 hm bV bF bM (by omega) (by omega) hp hf ec, S, fun _ => ?_, fun z => by cases z⟩
        rw [show wkZ (M - fr) F (some (w, f, p)) = w from if_pos ⟨by show p ≤ M - fr; omega, hf⟩]
        exact v64
      · refine ⟨G, false, wm_e3 S v53 hn v62 v63 v4 v1 v5 hm bV bF bM (by omega) (by omega) hp hf ec, S, (fun z => by cases z), fun _ => if_neg (fun z => hf z.2)⟩
    · refine ⟨G, false, wm_e2 S v53 hn v62 v63 v4 v1 v5 hm bV bF bM (by omega) (by omega) hp ec, S, (fun z => by cases z), fun _ => if_neg (fun z => hp ?_)⟩
      have z : p ≤ M - fr := z.1
      omega
  | succ m ih =>
    intro c T w f p G x4 hc S fR h122 v62 v63 v64 bT bw bf bp
    have v53 := (fR 78 53 (by decide) (Or.inr (by decide))).trans e53
    rw [wkR_s]
    cases qb : bt S0 c with
    | false =>
      rw [if_neg (show ¬ (false = true) by decide)]
      obtain ⟨G', b, r, r2⟩ := ih (c + 1) T w f p G x4 (by omega) S fR h122 v62 v63 v64 (fun j => by have := bT j; omega) (by omega) (by omega) (by omega)
      exact ⟨G', b, wm_n S v53 hn (by omega) qb r, r2⟩
    | true =>
      rw [if_pos rfl]
      obtain ⟨k1, k2, k3, k4, k5, k6, k7, k8, k9, k10⟩ := D c (by omega)
      have w117 := (fR 117 c (by decide) (Or.inl (by decide))).trans k1
      have w86 := (fR 86 (qs c) (by decide) (Or.inl (by decide))).trans k3
      have w120 := (fR 120 c (by decide) (Or.inl (by decide))).trans k5
      have w121 := (fR 121 c (by decide) (Or.inl (by decide))).trans k6
      have w89 := (fR 89 (qs c) (by decide) (Or.inl (by decide))).trans k7
      have w119 := (fR 119 c (by decide) (Or.inl (by decide))).trans k9
      have w6 := (fR 81 6 (by decide) (Or.inl (by decide))).trans e6
      have vT := h122 (po c) k4
      have bTc := bT (po c)
      have q53 : ∀ (a b x : Value) {G : am_H}, (am_put (am_put (am_put (am_put G 122 (po c) a) 78 62 b) 78 63 x) 78 64 x).2.2.2 78 53 = G.2.2.2 78 53 := fun a b x G => rfl
      cases ea : al c with
      | false =>
        rw [if_neg (fun z => by cases z.1)]
        rw [ea] at w119 w120 w121
        refine ⟨_, false, wm_t0 S v53 hn w117 k2 w86 k4 vT v62 (show G.2.2.2 120 c = iv 0 from w120) v63 (show G.2.2.2 121 c = iv 0 from w121) v64 w89 w119 w6 (by omega) bm (by omega) (by omega) (by omega) (by omega) (by omega) k8 (rfl : b2 false = 0) (by omega) qb (wm_z (S.pa rfl |>.po rfl rfl |>.po rfl rfl |>.po rfl rfl) ?_ hn (by omega)), (S.pa rfl |>.po rfl rfl |>.po rfl rfl |>.po rfl rfl), (fun z => by cases z), fun _ => rfl⟩
        exact ax_put_o (Or.inr (by decide)) (ax_put_o (Or.inr (by decide)) (ax_put_o (Or.inr (by decide)) (ax_put_o (Or.inl (by decide)) v53)))
      | true =>
        rw [ea] at w119 w120 w121
        have w120 : G.2.2.2 120 c = iv (pg c) := w120
        have w121 : G.2.2.2 121 c = iv (fe c) := w121
        obtain ⟨c1, c2, c3⟩ := k10 ea
        by_cases hT : T (po c) < mo
        · rw [if_pos ⟨rfl, hT⟩]
          obtain ⟨G', b, r, r2⟩ := ih (c + 1) (fun j => if j = po c then T j + 1 else T j) (w + wo c) (f + fe c) (p + pg c) (am_put (am_put (am_put (am_put G 122 (po c) (iv (T (po c) + 1))) 78 62 (iv (fr + p + pg c))) 78 63 (iv (f + fe c))) 78 64 (iv (w + wo c))) (iv (qs c : Int)) (by omega) (S.pa rfl |>.po rfl rfl |>.po rfl rfl |>.po rfl rfl) (fun a j na nb => by
            refine (ax_put_o ?_ (ax_put_o ?_ (ax_put_o ?_ (ax_put_o (Or.inl na) rfl)))).trans (fR a j na nb)
            · rcases nb with z | z
              · exact Or.inl z
              · exact Or.inr z.2.2
            · rcases nb with z | z
              · exact Or.inl z
              · exact Or.inr z.2.1
            · rcases nb with z | z
              · exact Or.inl z
              · exact Or.inr z.1) (fun j hj => by
            refine ax_put_o (Or.inl (by decide)) (ax_put_o (Or.inl (by decide)) (ax_put_o (Or.inl (by decide)) ?_))
            by_cases e : j = po c
            · show _ = iv (if j = po c then T j + 1 else T j)
              rw [if_pos e, e]
              exact ax_put_s _ _ _
            · show _ = iv (if j = po c then T j + 1 else T j)
              rw [if_neg e]
              exact ax_put_o (Or.inr e) (h122 j hj)) (by
            rw [show fr + (p + pg c) = fr + p + pg c by omega]
            exact ax_put_o (Or.inr (by decide)) (ax_put_o (Or.inr (by decide)) (ax_put_s _ _ _))) (ax_put_o (Or.inr (by decide)) (ax_put_s _ _ _)) (ax_put_s _ _ _) (fun j => by
            have := bT j
            show 0 ≤ (if j = po c then T j + 1 else T j) ∧ (if j = po c then T j + 1 else T j) ≤ ((c + 1 : Nat) : Int)
            split <;> omega) (by omega) (by omega) (by omega)
          exact ⟨G', b, wm_ty S v53 hn w117 k2 w86 k4 vT v62 w120 v63 w121 v64 w89 w119 w6 (by omega) bm (by omega) (by omega) (by omega) (by omega) (by omega) k8 (rfl : b2 true = 1) hT (by omega) qb r, r2⟩
        · rw [if_neg (fun z => hT z.2)]
          refine ⟨_, false, wm_t1 S v53 hn w117 k2 w86 k4 vT v62 w120 v63 w121 v64 w89 w119 w6 (by omega) bm (by omega) (by omega) (by omega) (by omega) (by omega) k8 (rfl : b2 true = 1) hT (by omega) qb (wm_z (S.pa rfl |>.po rfl rfl |>.po rfl rfl |>.po rfl rfl) ?_ hn (by omega)), (S.pa rfl |>.po rfl rfl |>.po rfl rfl |>.po rfl rfl), (fun z => by cases z), fun _ => rfl⟩
          exact ax_put_o (Or.inr (by decide)) (ax_put_o (Or.inr (by decide)) (ax_put_o (Or.inr (by decide)) (ax_put_o (Or.inl (by decide)) v53)))
theorem wm_fill {x4 : Value} {G : am_H} (S : fS G) : ∃ G', (∀ x, am_ev d 236 45 [.ref 78, .int S0, iv 1, iv 0, x4] [] G' x → am_ev d 236 24 [.ref 78, .int S0, iv 1, iv 0, x4] [] G x) ∧ fS G' ∧ (∀ a j, a ≠ 122 → G'.2.2.2 a j = G.2.2.2 a j) ∧ ∀ j, j < 20 → G'.2.2.2 122 j = iv 0 := by
  have go : ∀ (m i : Nat) (g : am_H), i + m = 20 → fS g → (∀ j, j < i → g.2.2.2 122 j = iv 0) → ∃ G', (∀ x, am_ev d 236 45 [.ref 78, .int S0, iv 1, iv 0, x4] [] G' x → am_ev d 236 24 [.ref 78, .int S0, iv 1, iv (i : Int), x4] [] g x) ∧ fS G' ∧ (∀ a j, a ≠ 122 → G'.2.2.2 a j = g.2.2.2 a j) ∧ ∀ j, j < 20 → G'.2.2.2 122 j = iv 0 := fun m => by
    induction m with
    | zero => intro i g hi S X; exact ⟨g, fun x r => wm_fe (by omega) r, S, fun _ _ _ => rfl, fun j hj => X j (by omega)⟩
    | succ m ih =>
      intro i g hi S X
      obtain ⟨G', r1, r2, r3, r4⟩ := ih (i + 1) (am_put g 122 i (iv 0)) (by omega) (S.pa rfl) (fun j hj => by
        by_cases e : j = i
        · rw [e]
          exact ax_put_s _ _ _
        · exact ax_put_o (Or.inr e) (X j (by omega)))
      exact ⟨G', fun x r => wm_fs S (by omega) (r1 x r), r2, fun a j n => (r3 a j n).trans (ax_put_o (Or.inl n) rfl), r4⟩
  exact go 20 0 G (by omega) S (fun j hj => absurd hj (Nat.not_lt_zero j))
theorem wk_236 (S : fS g) (hn : n ≤ 14) (bm : 1 ≤ mo ∧ mo ≤ 9) (bfr : 0 ≤ fr ∧ fr ≤ 30) (bF : 0 ≤ F ∧ F ≤ 99999) (hm : V4 * V1 = M) (bV : 2 ≤ V1 ∧ V1 ≤ 32 ∧ 1 ≤ V4 ∧ V4 ≤ 40) (bM : 0 ≤ M ∧ M ≤ 2000) (D : ∀ c, c < n → wkG g al po wo fe pg qs c) (e53 : g.2.2.2 78 53 = iv n) (e6 : g.2.2.2 81 6 = iv mo) (e4 : g.2.2.2 81 4 = iv V4) (e1 : g.2.2.2 81 1 = iv V1) (e5 : g.2.2.2 81 5 = iv F) (e3 : g.2.2.2 81 3 = iv fr) : ∃ (G' : am_H) (b : Bool), am_ev d 236 0 (am_ent [.ref 78, .int S0] 5) [] g (some (iv (b2 b)), G') ∧ fS G' ∧ (b = true → G'.2.2.2 78 64 = iv (wkZ (M - fr) F (wkR al po wo fe pg mo S0 n 0 (fun _ => 0) 0 0 0))) ∧ (b = false → wkZ (M - fr) F (wkR al po wo fe pg mo S0 n 0 (fun _ => 0) 0 0 0) = -1) := by
  have S3 : fS (am_put (am_put (am_put g 78 62 (iv fr)) 78 63 (iv 0)) 78 64 (iv 0)) := (S.po rfl rfl |>.po rfl rfl |>.po rfl rfl)
  obtain ⟨G1, r1, S1, f1, z1⟩ := wm_fill (d := d) (S0 := S0) (x4 := am_ph) S3
  obtain ⟨G', b, r, r2⟩ := wk_236l (S0 := S0) (d := d) hn bm bfr bF hm bV bM D e53 e6 e4 e1 e5 n 0 (fun _ => 0) 0 0 0 G1 am_ph (by omega) S1 (fun a j na nb => by
    refine (f1 a j na).trans (ax_put_o ?_ (ax_put_o ?_ (ax_put_o ?_ rfl)))
    · rcases nb with z | z
      · exact Or.inl z
      · exact Or.inr z.2.2
    · rcases nb with z | z
      · exact Or.inl z
      · exact Or.inr z.2.1
    · rcases nb with z | z
      · exact Or.inl z
      · exact Or.inr z.1) z1 (by
    rw [show fr + 0 = fr by omega]
    exact (f1 78 62 (by decide)).trans (ax_put_o (Or.inr (by decide)) (ax_put_o (Or.inr (by decide)) (ax_put_s _ _ _)))) ((f1 78 63 (by decide)).trans (ax_put_o (Or.inr (by decide)) (ax_put_s _ _ _))) ((f1 78 64 (by decide)).trans (ax_put_s _ _ _)) (fun j => ⟨Int.le_refl _, Int.le_refl _⟩) (by omega) (by omega) (by omega)
  exact ⟨G', b, wm_s S e3 (r1 _ r), r2⟩
end WLP
