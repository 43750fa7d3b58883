/-! WHAT A CANDIDATE IS, by the heap's rows; the model's side -/
def gR (v : Value) : Nat := match v with
  | .ref a => a
  | _ => 0
def mvb (h : am_H) : Int := (gI (h.2.2.2 78 52)).toInt
def mvc (h : am_H) : Int := (gI (h.2.2.2 78 15)).toInt
/-- it is free in all lands of the book -/
def mvE (h : am_H) (q : Nat) : Bool := aL (fun l => !bt (gI (h.2.2.2 78 51)) l || decide (mvM h q (mvb h) (mvc h) l = 2)) 0 6
/-- it may in all -/
def mvA (h : am_H) (q : Nat) : Bool := aL (fun l => !bt (gI (h.2.2.2 78 51)) l || decide (mvM h q (mvb h) (mvc h) l ≠ 0)) 0 6
def mvk (h : am_H) (q : Nat) : Int := mvK h q (mvc h)
def mve (h : am_H) (q : Nat) : Int := (gI (h.2.2.2 92 q)).toInt
def mvl (h : am_H) (q : Nat) : Int := (gI (h.2.2.2 109 (mvk h q).toNat)).toInt
/-- the edition that is printed -/
def mvP (h : am_H) (q : Nat) : Int := if mvE h q = true ∨ mvk h q = -1 ∨ mvl h q = -1 then mve h q - 1 else if mvl h q < mve h q then mvl h q else -1
def mvEd (h : am_H) (q e : Nat) : Nat := gR (h.2.2.2 (gR (h.2.2.2 (gR (h.2.2.2 73 q)) 7)) e)
def mvLn (h : am_H) (q e : Nat) : Nat := (gI (h.2.2.2 (mvEd h q e) 3)).toInt.toNat
def mvLy (h : am_H) (q e : Nat) : lyT := lyD (gI (h.2.2.2 (mvEd h q e) 4)) (gI (h.2.2.2 (mvEd h q e) 5)) (mvLn h q e) (gI (h.2.2.2 81 0)).toInt (gI (h.2.2.2 81 2)).toInt (mvLn h q e) 0
def mvN (h : am_H) (q : Nat) : Int := if mvP h q = -1 then -1 else lyJ (mvLy h q (mvP h q).toNat)
def mvAl (h : am_H) (q : Nat) : Bool := mvA h q && decide (mvN h q ≠ -1)
def mvFe (h : am_H) (q : Nat) : Int := if mvE h q = true then 0 else if (gI (h.2.2.2 107 (mvk h q).toNat)).toInt = 0 then (gI (h.2.2.2 106 (mvk h q).toNat)).toInt * (mvLn h q (mvP h q).toNat : Int) else if (gI (h.2.2.2 107 (mvk h q).toNat)).toInt = 1 then (gI (h.2.2.2 106 (mvk h q).toNat)).toInt * mvN h q else (gI (h.2.2.2 106 (mvk h q).toNat)).toInt * 1
def mvPa (h : am_H) (q po : Nat) : Bool := !mvE h q && (decide (mvk h q ≠ -1) && bt (gI (h.2.2.2 108 (mvk h q).toNat)) po)
def lkR (h : am_H) : Prop := rT h ∧ rp_P h ∧ rL h ∧ rbV h ∧ rD h ∧ rQ h ∧ rY h
def gS (h g : am_H) : Prop := fS g ∧ ni_R h g
section LKW
variable {h g G : am_H} {d q : Nat} {pm : Int32}
theorem gS.v (k : gS h g) (I : cq_Inv none h) {c j : Nat} (hc : c < 130) (x : ni_X c = false) (n : c ≠ 78 ∨ j ≠ 32) : g.2.2.2 c j = h.2.2.2 c j := (k.2.2.2 c (Nat.lt_of_lt_of_le hc I.lo) x j (by omega)).symm
theorem gS.rf (I : cq_Inv none h) : gS h h := ⟨fS.of I, ni_R.rf⟩
theorem ni_tr {a b c : am_H} (x : ni_R a b) (y : ni_R b c) : ni_R a c := ⟨x.1.trans y.1, fun k hk => (x.2.1 k hk).trans (y.2.1 k (by rw [← x.1]; exact hk)), fun k hk n j m => (x.2.2 k hk n j m).trans (y.2.2 k (by rw [← x.1]; exact hk) n j m)⟩
theorem ni_my (y : mlY g G) : ni_R g G := ⟨y.2.1.symm, fun c _ => by rw [y.2.2.1], fun c _ n j _ => (y.2.2.2 c j (fun e => by rw [e] at n; cases n) (fun e => by rw [e] at n; cases n)).symm⟩
theorem gS.y (k : gS h g) (y : mlY g G) : gS h G := ⟨y.1, ni_tr k.2 (ni_my y)⟩
theorem ni_in (x : Int) (l : List Value) (q : ni_L l) : ni_L (iv x :: l) := q.int
theorem ni_78 {l : List Value} (q : ni_L l) : ni_L (.ref 78 :: l) := q.cons fun a e => by cases e; rfl
theorem ni_0 : ni_L [] := fun v m => (by cases m)
theorem lk_b (I : cq_Inv none h) : (h.2.2.2 78 52 = iv (mvb h) ∧ 0 ≤ mvb h ∧ mvb h ≤ 29999) ∧ (h.2.2.2 78 15 = iv (mvc h) ∧ 0 ≤ mvc h ∧ mvc h ≤ 29999) ∧ h.2.2.2 78 51 = .int (gI (h.2.2.2 78 51)) ∧ 1 ≤ (gI (h.2.2.2 78 51)).toInt ∧ (gI (h.2.2.2 78 51)).toInt ≤ 63 := by
  obtain ⟨x, ex, a, b⟩ := ax_in I (c := 78) (j := 52) (l := 0) (u := 29999) (by decide +kernel) (by decide +kernel)
  obtain ⟨y, ey, a2, b2⟩ := ax_in I (c := 78) (j := 15) (l := 0) (u := 29999) (by decide +kernel) (by decide +kernel)
  obtain ⟨z, ez, a3, b3⟩ := ax_in I (c := 78) (j := 51) (l := 1) (u := 63) (by decide +kernel) (by decide +kernel)
  unfold mvb mvc
  rw [gI_of ex, gI_of ey, gI_of ez]
  exact ⟨⟨ex.trans (fx_of x), a, b⟩, ⟨ey.trans (fx_of y), a2, b2⟩, ez, a3, b3⟩
theorem lk_p (I : cq_Inv none h) (R : lkR h) (m1 : h.2.2.2 40 8 = .int pm) (hq : (q : Int) < pm.toInt) : q < 40 ∧ ∃ s, h.2.2.2 73 q = .ref s ∧ cq_kOk h s (0, 6, 0) ∧ ∀ j, j ≤ 6 → h.2.2.2 s j = h.2.2.2 (86 + j) q := by
  have bp := rp_bm I m1
  obtain ⟨z56, pm', m1', m2, QP, QN⟩ := R.2.2.2.2.2.1
  rw [m1] at m1'
  cases m1'
  obtain ⟨s, s1, sf⟩ := QP q hq
  exact ⟨by omega, s, s1, rp_obj I (p := q) (by omega) s1, sf⟩
theorem lk_x (I : cq_Inv none h) (R : lkR h) (m1 : h.2.2.2 40 8 = .int pm) (hq : (q : Int) < pm.toInt) {s : Nat} (s1 : h.2.2.2 73 q = .ref s) (d : Nat) : mvX h q s (mvb h) (mvc h) d := by
  obtain ⟨⟨-, a⟩, ⟨-, b⟩, -⟩ := lk_b I
  exact mvx I R.1 R.2.1 R.2.2.1 R.2.2.2.1 R.2.2.2.2.1 a b m1 hq s1
theorem mvM_b (l : Nat) (b e : Int) : 0 ≤ mvM h q b e l ∧ mvM h q b e l ≤ 2 := by
  unfold mvM
  split
  · decide
  · split <;> decide
theorem lk_220 (I : cq_Inv none h) (R : lkR h) (m1 : h.2.2.2 40 8 = .int pm) (hq : (q : Int) < pm.toInt) (k : gS h g) (l : Nat) (hl : l < 6) : am_ev (d + 1) 220 0 (am_ent [.ref 78, iv q, iv l, iv (mvb h), iv (mvc h)] 6) [] g (some (iv (mvM h q (mvb h) (mvc h) l)), g) := by
  obtain ⟨-, s, s1, -⟩ := lk_p I R m1 hq
  have X := lk_x I R m1 hq s1 d
  exact (ni_ev rfl I (ni_78 (ni_in _ _ (ni_in _ _ (ni_in _ _ (ni_in _ _ ni_0))))) (X.2.2.2.2.2.2 l hl) k.2 (Nat.le_refl _)).2
theorem lk_222 (I : cq_Inv none h) (R : lkR h) (m1 : h.2.2.2 40 8 = .int pm) (hq : (q : Int) < pm.toInt) (k : gS h g) : am_ev d 222 0 (am_ent [.ref 78, iv q, iv (mvc h)] 5) [] g (some (iv (mvk h q)), g) ∧ -1 ≤ mvk h q ∧ mvk h q < 80 := by
  obtain ⟨-, s, s1, -⟩ := lk_p I R m1 hq
  have X := lk_x I R m1 hq s1 d
  exact ⟨(ni_ev rfl I (ni_78 (ni_in _ _ (ni_in _ _ ni_0))) X.2.2.2.2.2.1 k.2 (Nat.le_refl _)).2, X.2.2.1⟩
theorem lk_231 (I : cq_Inv none h) (R : lkR h) (m1 : h.2.2.2 40 8 = .int pm) (hq : (q : Int) < pm.toInt) (k : gS h g) : am_ev (d + 2) 231 0 (am_ent [.ref 78, iv q] 3) [] g (some (iv (b2 (mvE h q))), g) := by
  obtain ⟨⟨e1, -⟩, ⟨e2, -⟩, e3, -⟩ := lk_b I
  exact ml_231 (d := d + 1) k.1 ((k.v I (by decide) rfl (Or.inr (by decide))).trans e3) ((k.v I (by decide) rfl (Or.inr (by decide))).trans e1) ((k.v I (by decide) rfl (Or.inr (by decide))).trans e2) (fun l hl => lk_220 I R m1 hq k l hl) (fun l => mvM_b l _ _)
theorem lk_e (I : cq_Inv none h) (hq : q < 40) : ∃ c : Nat, c ≤ 3 ∧ h.2.2.2 92 q = iv c ∧ mve h q = c := by
  obtain ⟨x, ex, a, b⟩ := ax_in I (c := 92) (j := q) (l := 0) (u := 3) (by
    rw [show Nat.blt q (cq_fix 92).2.2 = true from Nat.ble_eq_true_of_le hq]
    decide +kernel) (by
    unfold cq_ty
    rw [show cq_isA 92 = true by decide +kernel, show ((Nat.beq 92 81 || Nat.beq 92 83) && Nat.beq q 1) = false from rfl]
    show cq_ar 92 = _
    decide +kernel)
  refine ⟨x.toInt.toNat, by omega, ?_, ?_⟩
  · rw [ex, fx_of x]
    exact congrArg iv (by omega)
  · unfold mve
    rw [gI_of ex]
    omega
theorem lk_l (I : cq_Inv none h) {κ : Nat} (hκ : κ < 81) : (h.2.2.2 109 κ = iv (gI (h.2.2.2 109 κ)).toInt ∧ -1 ≤ (gI (h.2.2.2 109 κ)).toInt ∧ (gI (h.2.2.2 109 κ)).toInt ≤ 2) ∧ (h.2.2.2 106 κ = iv (gI (h.2.2.2 106 κ)).toInt ∧ 0 ≤ (gI (h.2.2.2 106 κ)).toInt ∧ (gI (h.2.2.2 106 κ)).toInt ≤ 9999) ∧ (h.2.2.2 107 κ = iv (gI (h.2.2.2 107 κ)).toInt ∧ 0 ≤ (gI (h.2.2.2 107 κ)).toInt ∧ (gI (h.2.2.2 107 κ)).toInt ≤ 2) ∧ h.2.2.2 108 κ = .int (gI (h.2.2.2 108 κ)) := by
  obtain ⟨x1, e1, a1, b1⟩ := ax_in I (c := 109) (j := κ) (l := (-1)) (u := 2) (by
    rw [show Nat.blt κ (cq_fix 109).2.2 = true from Nat.ble_eq_true_of_le hκ]
    decide +kernel) (by
    unfold cq_ty
    rw [show cq_isA 109 = true by decide +kernel, show ((Nat.beq 109 81 || Nat.beq 109 83) && Nat.beq κ 1) = false from rfl]
    show cq_ar 109 = _
    decide +kernel)
  obtain ⟨x2, e2, a2, b2⟩ := ax_in I (c := 106) (j := κ) (l := 0) (u := 9999) (by
    rw [show Nat.blt κ (cq_fix 106).2.2 = true from Nat.ble_eq_true_of_le hκ]
    decide +kernel) (by
    unfold cq_ty
    rw [show cq_isA 106 = true by decide +kernel, show ((Nat.beq 106 81 || Nat.beq 106 83) && Nat.beq κ 1) = false from rfl]
    show cq_ar 106 = _
    decide +kernel)
  obtain ⟨x3, e3, a3, b3⟩ := ax_in I (c := 107) (j := κ) (l := 0) (u := 2) (by
    rw [show Nat.blt κ (cq_fix 107).2.2 = true from Nat.ble_eq_true_of_le hκ]
    decide +kernel) (by
    unfold cq_ty
    rw [show cq_isA 107 = true by decide +kernel, show ((Nat.beq 107 81 || Nat.beq 107 83) && Nat.beq κ 1) = false from rfl]
    show cq_ar 107 = _
    decide +kernel)
  obtain ⟨x4, e4, a4, b4⟩ := ax_in I (c := 108) (j := κ) (l := (-2147483648)) (u := 2147483647) (by
    rw [show Nat.blt κ (cq_fix 108).2.2 = true from Nat.ble_eq_true_of_le hκ]
    decide +kernel) (by
    unfold cq_ty
    rw [show cq_isA 108 = true by decide +kernel, show ((Nat.beq 108 81 || Nat.beq 108 83) && Nat.beq κ 1) = false from rfl]
    show cq_ar 108 = _
    decide +kernel)
  rw [gI_of e1, gI_of e2, gI_of e3, gI_of e4]
  exact ⟨⟨e1.trans (fx_of x1), a1, b1⟩, ⟨e2.trans (fx_of x2), a2, b2⟩, ⟨e3.trans (fx_of x3), a3, b3⟩, e4⟩
theorem lk_230 (I : cq_Inv none h) (R : lkR h) (m1 : h.2.2.2 40 8 = .int pm) (hq : (q : Int) < pm.toInt) (k : gS h g) : am_ev (d + 3) 230 0 (am_ent [.ref 78, iv q] 4) [] g (some (iv (mvP h q)), g) ∧ -1 ≤ mvP h q ∧ mvP h q < mve h q := by
  obtain ⟨hq40, -⟩ := lk_p I R m1 hq
  obtain ⟨-, ⟨e2, -⟩, -⟩ := lk_b I
  have v15 := (k.v I (by decide) rfl (Or.inr (by decide))).trans e2
  obtain ⟨c, hc, g92, ec⟩ := lk_e I hq40
  have g92 := (k.v I (c := 92) (j := q) (by decide) rfl (Or.inl (by decide))).trans g92
  have H231 := lk_231 (d := d) I R m1 hq k
  obtain ⟨H222, k1, k2⟩ := lk_222 (d := d + 2) I R m1 hq k
  cases E : mvE h q with
  | true =>
    rw [E] at H231
    have eP : mvP h q = (c : Int) - 1 := by
      unfold mvP
      rw [if_pos (Or.inl E), ec]
    rw [eP, ec]
    exact ⟨mp_230_1 k.1 hq40 v15 g92 hc H231, by omega, by omega⟩
  | false =>
    rw [E] at H231
    have nE : ¬ mvE h q = true := by
      rw [E]
      decide
    by_cases hK : mvk h q = -1
    · have eP : mvP h q = (c : Int) - 1 := by
        unfold mvP
        rw [if_pos (Or.inr (Or.inl hK)), ec]
      rw [hK] at H222
      rw [eP, ec]
      exact ⟨mp_230_2 k.1 hq40 v15 g92 hc H231 H222, by omega, by omega⟩
    · obtain ⟨κ, hκ⟩ : ∃ κ : Nat, mvk h q = (κ : Int) := ⟨(mvk h q).toNat, by omega⟩
      obtain ⟨⟨w9, r1, r2⟩, -⟩ := lk_l I (κ := κ) (by omega)
      have w9 := (k.v I (c := 109) (j := κ) (by decide) rfl (Or.inl (by decide))).trans w9
      have el : mvl h q = (gI (h.2.2.2 109 κ)).toInt := by
        unfold mvl
        rw [hκ, Int.toNat_natCast]
      rw [← el] at w9 r1 r2
      rw [hκ] at H222
      by_cases hr : mvl h q = -1
      · have eP : mvP h q = (c : Int) - 1 := by
          unfold mvP
          rw [if_pos (Or.inr (Or.inr hr)), ec]
        rw [eP, ec]
        exact ⟨mp_230_3 k.1 hq40 v15 g92 hc H231 H222 (by omega) w9 ⟨r1, r2⟩ hr, by omega, by omega⟩
      · have nn : ¬ (mvE h q = true ∨ mvk h q = -1 ∨ mvl h q = -1) := fun z => by
          rcases z with z | z | z
          · exact nE z
          · exact hK z
          · exact hr z
        by_cases hrc : mvl h q < c
        · have eP : mvP h q = mvl h q := by
            unfold mvP
            rw [if_neg nn, if_pos (by rw [ec]; exact hrc)]
          rw [eP, ec]
          exact ⟨mp_230_4 k.1 hq40 v15 g92 hc H231 H222 (by omega) w9 ⟨r1, r2⟩ hr hrc, by omega, by omega⟩
        · have eP : mvP h q = -1 := by
            unfold mvP
            rw [if_neg nn, if_neg (by rw [ec]; exact hrc)]
          rw [eP, ec]
          exact ⟨mp_230_5 k.1 hq40 v15 g92 hc H231 H222 (by omega) w9 ⟨r1, r2⟩ hr hrc, by omega, by omega⟩
/-- the text that is printed, on both sides -/
theorem lk_t (I : cq_Inv none h) (R : lkR h) (m1 : h.2.2.2 40 8 = .int pm) (hq : (q : Int) < pm.toInt) {e : Nat} (he : (e : Int) < mve h q) : ∃ (s Q : Nat) (st : Nat → Nat) (P T : Int), h.2.2.2 73 q = .ref s ∧ h.2.2.2 s 7 = .ref Q ∧ (130 ≤ Q ∧ Q < h.1 ∧ h.2.2.1 Q = (1, 7, 3)) ∧ h.2.2.2 Q e = .ref (mvEd h q e) ∧ rX1 h (3 * q + e) (mvEd h q e) (mvLn h q e) (gI (h.2.2.2 (mvEd h q e) 4)) (gI (h.2.2.2 (mvEd h q e) 5)) st ∧ (h.2.2.2 44 0 = iv P ∧ h.2.2.2 44 2 = iv T ∧ (6 ≤ P ∧ P ≤ 60) ∧ (0 ≤ T ∧ T ≤ 4)) ∧ (gI (h.2.2.2 81 0)).toInt = P ∧ (gI (h.2.2.2 81 2)).toInt = T ∧ ∀ g, gS h g → lyF g (3 * q + e) (mvLn h q e) (gI (h.2.2.2 (mvEd h q e) 4)) (gI (h.2.2.2 (mvEd h q e) 5)) P T := by
  obtain ⟨hq40, s, s1, ko, sf⟩ := lk_p I R m1 hq
  obtain ⟨c, hc, g92, ec⟩ := lk_e I hq40
  obtain ⟨Q, k7, q1, q2, q3⟩ := po_q I (p := q) hq40 s1
  have v6 : h.2.2.2 s 6 = iv c := (sf 6 (by decide)).trans g92
  obtain ⟨E, l, t, u, st, x1, x2⟩ := R.2.2.2.2.2.2.2.1.2 pm q s Q m1 hq s1 k7 e c v6 hc (by omega)
  have eE : mvEd h q e = E := by
    unfold mvEd
    rw [s1]
    show gR (h.2.2.2 (gR (h.2.2.2 s 7)) e) = E
    rw [k7]
    show gR (h.2.2.2 Q e) = E
    rw [x1]
    rfl
  obtain ⟨w1, w2, w3, w4, f0, f1, f2, f3, f4, f5, hl, -⟩ := id x2.2.1
  have eL : mvLn h q e = l := by
    unfold mvLn
    rw [eE, gI_iv f3 (by omega)]
    omega
  have e4 : gI (h.2.2.2 (mvEd h q e) 4) = t := by
    rw [eE]
    exact gI_of f4
  have e5 : gI (h.2.2.2 (mvEd h q e) 5) = u := by
    rw [eE]
    exact gI_of f5
  obtain ⟨P, T, vP, vT, bP, bT⟩ := rb_r R.2.2.2.1
  have g0 := (R.1.2.1 0 (by decide)).symm.trans vP
  have g2 := (R.1.2.1 2 (by decide)).symm.trans vT
  refine ⟨s, Q, st, P, T, s1, k7, ⟨q1, q2, q3⟩, by rw [eE]; exact x1, by rw [e4, e5, eL, eE]; exact x2, ⟨vP, vT, bP, bT⟩, gI_iv g0 (by omega), gI_iv g2 (by omega), fun g k => ?_⟩
  obtain ⟨y1, y4, y5, y6, y7, y8, y9, y10, y11, y12, y13⟩ := x2
  rw [e4, e5, eL]
  exact ⟨by omega, hl, y13.2, (k.v I (by decide) rfl (Or.inl (by decide))).trans y8, fun i hi => (k.v I (by decide) rfl (Or.inl (by decide))).trans (y12 i hi), fun i hi => (k.v I (by decide) rfl (Or.inl (by decide))).trans (y11 i hi), (k.v I (by decide) rfl (Or.inl (by decide))).trans g0, (k.v I (by decide) rfl (Or.inl (by decide))).trans g2, bP, bT⟩
theorem lk_n (I : cq_Inv none h) (R : lkR h) (m1 : h.2.2.2 40 8 = .int pm) (hq : (q : Int) < pm.toInt) : -1 ≤ mvN h q ∧ mvN h q ≤ 30 := by
  obtain ⟨-, p1, p2⟩ := lk_230 (d := 0) I R m1 hq (gS.rf I)
  unfold mvN
  by_cases hP : mvP h q = -1
  · rw [if_pos hP]
    decide
  · rw [if_neg hP]
    obtain ⟨s, Q, st, P, T, -, -, -, -, x2, -, eP, eT, M⟩ := lk_t I R m1 hq (e := (mvP h q).toNat) (by omega)
    have MM := M h (gS.rf I)
    unfold mvLy
    rw [eP, eT]
    have b0 := lyD_b (t := gI (h.2.2.2 (mvEd h q (mvP h q).toNat) 4)) (u := gI (h.2.2.2 (mvEd h q (mvP h q).toNat) 5)) (l := mvLn h q (mvP h q).toNat) (P := P) (T := T) (by have := MM.2.2.2.2.2.2.2.2.1; omega) MM.2.2.2.2.2.2.2.2.2.1 _ (Nat.le_refl _) 0
    have hl := MM.2.1
    unfold lyJ
    split <;> omega
theorem lk_229 (I : cq_Inv none h) (R : lkR h) (m1 : h.2.2.2 40 8 = .int pm) (hq : (q : Int) < pm.toInt) (k : gS h g) : ∃ G, am_ev (d + 6) 229 0 (am_ent [.ref 78, iv q] 3) [] g (some (iv (mvN h q)), G) ∧ mlY g G := by
  obtain ⟨hq40, -⟩ := lk_p I R m1 hq
  obtain ⟨c, hc, g92, ec⟩ := lk_e I hq40
  obtain ⟨H230, p1, p2⟩ := lk_230 (d := d + 2) I R m1 hq k
  by_cases hP : mvP h q = -1
  · rw [show mvN h q = -1 from if_pos hP]
    rw [hP] at H230
    exact ⟨g, mp_229n k.1 hq40 H230, k.1, rfl, rfl, fun _ _ _ _ => rfl⟩
  · obtain ⟨e, he⟩ : ∃ e : Nat, mvP h q = (e : Int) := ⟨(mvP h q).toNat, by omega⟩
    obtain ⟨s, Q, st, P, T, -, -, -, -, x2, -, eP, eT, M⟩ := lk_t I R m1 hq (e := e) (by omega)
    obtain ⟨G, e197, mT⟩ := ml_197 (d := d) k.1 (M g k)
    have H194 : am_ev (d + 5) 194 0 (am_ent [iv q, iv e] 2) [] g (some (iv ((3 * q + e : Nat) : Int)), g) := by
      rw [show ((3 * q + e : Nat) : Int) = 3 * (q : Int) + (e : Int) by omega]
      exact ed_194
    rw [he] at H230
    have eN : mvN h q = lyJ (lyD (gI (h.2.2.2 (mvEd h q e) 4)) (gI (h.2.2.2 (mvEd h q e) 5)) (mvLn h q e) P T (mvLn h q e) 0) := by
      unfold mvN
      rw [if_neg hP, he, Int.toNat_natCast]
      unfold mvLy
      rw [eP, eT]
    rw [eN]
    exact ⟨G, mp_229 k.1 hq40 H230 (by omega) H194 e197 mT.1.1, mT.1⟩
theorem lk_228 (I : cq_Inv none h) (R : lkR h) (m1 : h.2.2.2 40 8 = .int pm) (hq : (q : Int) < pm.toInt) (k : gS h g) : ∃ G, am_ev (d + 7) 228 0 (am_ent [.ref 78, iv q] 3) [] g (some (iv (b2 (mvAl h q))), G) ∧ mlY g G := by
  obtain ⟨⟨e1, -⟩, ⟨e2, -⟩, e3, -⟩ := lk_b I
  have v51 := (k.v I (c := 78) (j := 51) (by decide) rfl (Or.inr (by decide))).trans e3
  have v52 := (k.v I (c := 78) (j := 52) (by decide) rfl (Or.inr (by decide))).trans e1
  have v15 := (k.v I (c := 78) (j := 15) (by decide) rfl (Or.inr (by decide))).trans e2
  have H := fun l hl => lk_220 (d := d + 5) I R m1 hq k l hl
  cases A : mvA h q with
  | false =>
    rw [show mvAl h q = false by unfold mvAl; rw [A]; rfl]
    exact ⟨g, ml_228f (d := d + 6) k.1 v51 v52 v15 H (fun l => mvM_b l _ _) A, k.1, rfl, rfl, fun _ _ _ _ => rfl⟩
  | true =>
    obtain ⟨G, H229, y⟩ := lk_229 (d := d) I R m1 hq k
    rw [show mvAl h q = decide (mvN h q ≠ -1) by unfold mvAl; rw [A]; rfl]
    have bn := lk_n I R m1 hq
    exact ⟨G, ml_228t (d := d + 6) k.1 v51 v52 v15 H (fun l => mvM_b l _ _) A y.1 H229 (by omega), y⟩
theorem mv_kx (hA : mvA h q = true) (hE : mvE h q = false) : mvk h q ≠ -1 := fun hK => by
  have a := (aL_iff 6 0).1 hA
  have n : ¬ aL (fun l => !bt (gI (h.2.2.2 78 51)) l || decide (mvM h q (mvb h) (mvc h) l = 2)) 0 6 = true := fun z => by
    have hE : aL (fun l => !bt (gI (h.2.2.2 78 51)) l || decide (mvM h q (mvb h) (mvc h) l = 2)) 0 6 = false := hE
    rw [z] at hE
    cases hE
  refine n ((aL_iff 6 0).2 fun i x y => ?_)
  have z := a i x y
  have z : (!bt (gI (h.2.2.2 78 51)) i || decide (mvM h q (mvb h) (mvc h) i ≠ 0)) = true := z
  show (!bt (gI (h.2.2.2 78 51)) i || decide (mvM h q (mvb h) (mvc h) i = 2)) = true
  cases w : bt (gI (h.2.2.2 78 51)) i with
  | false => rfl
  | true =>
    rw [w] at z
    have z : decide (mvM h q (mvb h) (mvc h) i ≠ 0) = true := z
    have z := of_decide_eq_true z
    refine decide_eq_true ?_
    unfold mvM at z ⊢
    by_cases f : bt (mvF h q (mvb h) (mvc h)) i = true
    · rw [if_pos f]
    · rw [if_neg f] at z
      have o : mvO h q (mvb h) (mvc h) = Int32.ofInt 0 := if_pos hK
      rw [o, bt_z, if_neg (by decide)] at z
      exact absurd rfl z
theorem lk_233 (I : cq_Inv none h) (R : lkR h) (m1 : h.2.2.2 40 8 = .int pm) (hq : (q : Int) < pm.toInt) (k : gS h g) (hP : mvP h q ≠ -1) : am_ev (d + 6) 233 0 (am_ent [.ref 78, iv q] 2) [] g (some (iv (mvLn h q (mvP h q).toNat : Int)), g) ∧ 1 ≤ mvLn h q (mvP h q).toNat ∧ mvLn h q (mvP h q).toNat ≤ 30 := by
  obtain ⟨hq40, -⟩ := lk_p I R m1 hq
  obtain ⟨c, hc, g92, ec⟩ := lk_e I hq40
  obtain ⟨H230, p1, p2⟩ := lk_230 (d := d + 2) I R m1 hq k
  obtain ⟨e, he⟩ : ∃ e : Nat, mvP h q = (e : Int) := ⟨(mvP h q).toNat, by omega⟩
  obtain ⟨s, Q, st, P, T, -, -, -, -, x2, -, eP, eT, M⟩ := lk_t I R m1 hq (e := e) (by omega)
  have H194 : am_ev (d + 5) 194 0 (am_ent [iv q, iv e] 2) [] g (some (iv ((3 * q + e : Nat) : Int)), g) := by
    rw [show ((3 * q + e : Nat) : Int) = 3 * (q : Int) + (e : Int) by omega]
    exact ed_194
  rw [he] at H230 ⊢
  rw [Int.toNat_natCast]
  have MM := M g k
  exact ⟨mp_233 k.1 hq40 H230 (by omega) H194 MM.1 MM.2.2.2.1, MM.2.1⟩
theorem lk_232 (I : cq_Inv none h) (R : lkR h) (m1 : h.2.2.2 40 8 = .int pm) (hq : (q : Int) < pm.toInt) (k : gS h g) (hA : mvAl h q = true) : ∃ G, am_ev (d + 7) 232 0 (am_ent [.ref 78, iv q] 3) [] g (some (iv (mvFe h q)), G) ∧ mlY g G ∧ 0 ≤ mvFe h q ∧ mvFe h q ≤ 299970 := by
  obtain ⟨hq40, -⟩ := lk_p I R m1 hq
  obtain ⟨-, ⟨e2, -⟩, -⟩ := lk_b I
  have v15 := (k.v I (c := 78) (j := 15) (by decide) rfl (Or.inr (by decide))).trans e2
  have hA := (Bool.and_eq_true _ _ ▸ (show (mvA h q && decide (mvN h q ≠ -1)) = true from hA))
  have hN := of_decide_eq_true hA.2
  have bn := lk_n I R m1 hq
  have hP : mvP h q ≠ -1 := fun z => hN (if_pos z)
  have H231 := lk_231 (d := d + 4) I R m1 hq k
  have Y0 : mlY g g := ⟨k.1, rfl, rfl, fun _ _ _ _ => rfl⟩
  cases E : mvE h q with
  | true =>
    rw [E] at H231
    rw [show mvFe h q = 0 from if_pos E]
    exact ⟨g, mp_232f k.1 hq40 v15 H231, Y0, by decide, by decide⟩
  | false =>
    rw [E] at H231
    have hK := mv_kx hA.1 E
    obtain ⟨H222, k1, k2⟩ := lk_222 (d := d + 6) I R m1 hq k
    obtain ⟨κ, hκ⟩ : ∃ κ : Nat, mvk h q = (κ : Int) := ⟨(mvk h q).toNat, by omega⟩
    rw [hκ] at H222
    obtain ⟨-, ⟨w6, a6, b6⟩, ⟨w7, a7, b7⟩, -⟩ := lk_l I (κ := κ) (by omega)
    have w6 := (k.v I (c := 106) (j := κ) (by decide) rfl (Or.inl (by decide))).trans w6
    have w7 := (k.v I (c := 107) (j := κ) (by decide) rfl (Or.inl (by decide))).trans w7
    have eF : mvFe h q = if (gI (h.2.2.2 107 κ)).toInt = 0 then (gI (h.2.2.2 106 κ)).toInt * (mvLn h q (mvP h q).toNat : Int) else if (gI (h.2.2.2 107 κ)).toInt = 1 then (gI (h.2.2.2 106 κ)).toInt * mvN h q else (gI (h.2.2.2 106 κ)).toInt * 1 := by
      unfold mvFe
      rw [if_neg (by rw [E]; decide), hκ, Int.toNat_natCast]
    generalize (gI (h.2.2.2 106 κ)).toInt = pp at *
    generalize (gI (h.2.2.2 107 κ)).toInt = r at *
    obtain ⟨H233, l1, l2⟩ := lk_233 (d := d) I R m1 hq k hP
    have mb : ∀ x : Int, 0 ≤ x → x ≤ 30 → 0 ≤ pp * x ∧ pp * x ≤ 299970 := fun x x0 x1 => ⟨Int.mul_nonneg a6 x0, by
      have := Int.mul_le_mul b6 x1 x0 (by decide)
      omega⟩
    by_cases r0 : r = 0
    · rw [if_pos r0] at eF
      rw [eF]
      obtain ⟨m, hm⟩ : ∃ m : Int, pp * (mvLn h q (mvP h q).toNat : Int) = m := ⟨_, rfl⟩
      have bm := mb (mvLn h q (mvP h q).toNat : Int) (by omega) (by omega)
      rw [hm] at bm ⊢
      exact ⟨g, mp_232l k.1 hq40 v15 H231 H222 (by omega) w6 w7 ⟨a7, b7⟩ r0 H233 hm, Y0, bm⟩
    · rw [if_neg r0] at eF
      by_cases r1 : r = 1
      · rw [if_pos r1] at eF
        rw [eF]
        obtain ⟨G, H229, y⟩ := lk_229 (d := d) I R m1 hq k
        obtain ⟨m, hm⟩ : ∃ m : Int, pp * mvN h q = m := ⟨_, rfl⟩
        have bm := mb (mvN h q) (by omega) bn.2
        rw [hm] at bm ⊢
        exact ⟨G, mp_232p k.1 hq40 v15 H231 H222 (by omega) w6 w7 ⟨a7, b7⟩ r1 H229 y.1 hm, y, bm⟩
      · rw [if_neg r1] at eF
        rw [eF]
        obtain ⟨m, hm⟩ : ∃ m : Int, pp * 1 = m := ⟨_, rfl⟩
        have bm := mb 1 (by decide) (by decide)
        rw [hm] at bm ⊢
        exact ⟨g, mp_232a k.1 hq40 v15 H231 H222 (by omega) w6 w7 ⟨a7, b7⟩ (by omega) hm, Y0, bm⟩
theorem lk_242 (I : cq_Inv none h) (R : lkR h) (m1 : h.2.2.2 40 8 = .int pm) (hq : (q : Int) < pm.toInt) (k : gS h g) {po : Nat} (hpo : po ≤ 19) : am_ev (d + 7) 242 0 (am_ent [.ref 78, iv q, iv po] 4) [] g (some (iv (b2 (mvPa h q po))), g) := by
  obtain ⟨hq40, -⟩ := lk_p I R m1 hq
  obtain ⟨-, ⟨e2, -⟩, -⟩ := lk_b I
  have v15 := (k.v I (c := 78) (j := 15) (by decide) rfl (Or.inr (by decide))).trans e2
  have H231 := lk_231 (d := d + 4) I R m1 hq k
  unfold mvPa
  cases E : mvE h q with
  | true =>
    rw [E] at H231
    exact mp_242f k.1 hq40 v15 H231
  | false =>
    rw [E] at H231
    obtain ⟨H222, k1, k2⟩ := lk_222 (d := d + 6) I R m1 hq k
    by_cases hK : mvk h q = -1
    · rw [hK] at H222
      rw [decide_eq_false (by omega : ¬ mvk h q ≠ -1)]
      exact mp_242n k.1 hq40 v15 H231 H222
    · obtain ⟨κ, hκ⟩ : ∃ κ : Nat, mvk h q = (κ : Int) := ⟨(mvk h q).toNat, by omega⟩
      rw [decide_eq_true hK, hκ, Int.toNat_natCast]
      rw [hκ] at H222
      obtain ⟨-, -, -, w8⟩ := lk_l I (κ := κ) (by omega)
      have w8 := (k.v I (c := 108) (j := κ) (by decide) rfl (Or.inl (by decide))).trans w8
      cases w : bt (gI (h.2.2.2 108 κ)) po with
      | true => exact mp_242t k.1 hq40 v15 H231 H222 (by omega) (by omega) w8 w
      | false => exact mp_242u k.1 hq40 v15 H231 H222 (by omega) (by omega) w8 w
end LKW
