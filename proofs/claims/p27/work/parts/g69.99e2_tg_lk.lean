/-! LOOK AT ONE CANDIDATE, and what stays -/
def lkC (h : am_H) : Prop := lkR h ∧ rB h ∧ tT h (40, 9, 78, 15) ∧ rp_C h ∧ rG h
def mvFf (h : am_H) (q : Nat) : Int := if mvAl h q = true then mvFe h q else 0
/-- what the views are made of stays -/
def lkE (h h' : am_H) : Prop := h'.1 = h.1 ∧ (∀ c, c < h.1 → h'.2.2.1 c = h.2.2.1 c) ∧ (∀ c j, 78 ≤ c → c < 118 → c ≠ 98 → c ≠ 99 → c ≠ 100 → c ≠ 101 → c ≠ 102 → (c ≠ 78 ∨ j = 15 ∨ j = 35 ∨ j = 36 ∨ j = 51 ∨ j = 52) → h'.2.2.2 c j = h.2.2.2 c j) ∧ (∀ j, h'.2.2.2 73 j = h.2.2.2 73 j) ∧ (∀ s, 130 ≤ s → s < h.1 → h.2.2.1 s = (0, 6, 9) → ∀ j, h'.2.2.2 s j = h.2.2.2 s j) ∧ (∀ s n, 130 ≤ s → s < h.1 → h.2.2.1 s = (1, 7, n) → ∀ j, h'.2.2.2 s j = h.2.2.2 s j) ∧ (∀ E, 130 ≤ E → E < h.1 → hx_ed h E → ∀ j, j < 6 → h'.2.2.2 E j = h.2.2.2 E j) ∧ (∀ j, h'.2.2.2 74 j = h.2.2.2 74 j) ∧ h'.2.2.2 40 13 = h.2.2.2 40 13 ∧ h'.2.2.2 40 8 = h.2.2.2 40 8
def lkE_m (m : cq_W) : Bool := (List.range 130).all (fun c => !(Nat.ble 79 c && Nat.blt c 118) || (Nat.ble 98 c && Nat.ble c 102) || lw_nA m c) && ([15, 35, 36, 51, 52].all fun j => lw_nF m 78 j) && lw_nA m 73 && (m.all fun w => !(w.1 && Nat.beq w.2.1 0 && Nat.beq w.2.2.1 6)) && lw_n17 m && lw_nA m 74 && lw_nF m 40 13 && lw_nF m 40 8
section LKS
variable {h g h' : am_H} {d q : Nat} {pm : Int32} {m : cq_W}
theorem lkE.rf : lkE h h := ⟨rfl, fun _ _ => rfl, fun _ _ _ _ _ _ _ _ _ _ => rfl, fun _ => rfl, fun _ _ _ _ _ => rfl, fun _ _ _ _ _ _ => rfl, fun _ _ _ _ _ _ => rfl, fun _ => rfl, rfl, rfl⟩
theorem lkE.tr (A : lkE h g) (B : lkE g h') : lkE h h' := by
  obtain ⟨a1, a2, a3, a4, a5, a6, a7, a8, a9, a10⟩ := A
  obtain ⟨b1, b2, b3, b4, b5, b6, b7, b8, b9, b10⟩ := B
  refine ⟨b1.trans a1, fun c hc => (b2 c (by omega)).trans (a2 c hc), fun c j x1 x2 x3 x4 x5 x6 x7 x8 => (b3 c j x1 x2 x3 x4 x5 x6 x7 x8).trans (a3 c j x1 x2 x3 x4 x5 x6 x7 x8), fun j => (b4 j).trans (a4 j), fun s x1 x2 x3 j => (b5 s x1 (by omega) ((a2 s x2).trans x3) j).trans (a5 s x1 x2 x3 j), fun s n x1 x2 x3 j => (b6 s n x1 (by omega) ((a2 s x2).trans x3) j).trans (a6 s n x1 x2 x3 j), fun E x1 x2 x3 j hj => (b7 E x1 (by omega) (by unfold hx_ed at x3 ⊢; rw [a2 E x2]; exact x3) j hj).trans (a7 E x1 x2 x3 j hj), fun j => (b8 j).trans (a8 j), b9.trans a9, b10.trans a10⟩
theorem lw_frC (I : cq_Inv none h) (F : cq_Fr m h h') {s k n : Nat} (h1 : 130 ≤ s) (h3 : s < h.1) (sh : h.2.2.1 s = (0, k, n)) (q1 : (m.all fun w => !(w.1 && Nat.beq w.2.1 0 && Nat.beq w.2.2.1 k)) = true) (q2 : (m.all fun w => w.1 || Nat.blt w.2.1 130) = true) (j : Nat) : h'.2.2.2 s j = h.2.2.2 s j := by
  refine F.vl s h3 j ?_
  unfold cq_inW
  rw [List.any_eq_false]
  intro w hw
  have z := List.all_eq_true.1 q1 w hw
  have z2 := List.all_eq_true.1 q2 w hw
  cases w1 : w.1 with
  | true =>
    rw [w1] at z
    simp only [Bool.true_and, Bool.not_eq_true'] at z
    rw [sh]
    dsimp only
    have : (Nat.ble 130 s && Nat.beq w.2.1 0 && Nat.beq w.2.2.1 k && (Nat.beq w.2.2.2 0 || Nat.beq w.2.2.2 (j + 1))) = false := by
      rw [Bool.and_assoc (Nat.ble 130 s), z]
      simp
    rw [this]
    simp
  | false =>
    rw [w1] at z2
    have hz : w.2.1 < 130 := Nat.le_of_ble_eq_true z2
    rw [dh_bne (show w.2.1 ≠ s by omega)]
    simp
theorem lkE_of (I : cq_Inv none h) (F : cq_Fr m h h') (n : h'.1 = h.1) (eE : ∀ E, 130 ≤ E → E < h.1 → hx_ed h E → ∀ j, j < 6 → h'.2.2.2 E j = h.2.2.2 E j) (q2 : (m.all fun w => w.1 || Nat.blt w.2.1 130) = true) (q : lkE_m m = true) : lkE h h' := by
  have b1 := (Bool.and_eq_true _ _ ▸ q)
  have b2 := (Bool.and_eq_true _ _ ▸ b1.1)
  have b3 := (Bool.and_eq_true _ _ ▸ b2.1)
  have b4 := (Bool.and_eq_true _ _ ▸ b3.1)
  have b5 := (Bool.and_eq_true _ _ ▸ b4.1)
  have b6 := (Bool.and_eq_true _ _ ▸ b5.1)
  have b7 := (Bool.and_eq_true _ _ ▸ b6.1)
  refine ⟨n, F.sh, fun c j x1 x2 x3 x4 x5 x6 x7 x8 => ?_, fun j => lw_frA F I.lo (by decide) b6.2 j, fun s x1 x2 x3 j => lw_frC I F x1 x2 x3 b5.2 q2 j, fun s n x1 x2 x3 j => lw_fr17 F x1 x2 x3 b4.2, eE, fun j => lw_frA F I.lo (by decide) b3.2 j, lw_frF F I.lo (by decide) b2.2, lw_frF F I.lo (by decide) b1.2⟩
  by_cases e : c = 78
  · subst e
    have x8 : j = 15 ∨ j = 35 ∨ j = 36 ∨ j = 51 ∨ j = 52 := x8.resolve_left (fun z => z rfl)
    have mem : j ∈ [15, 35, 36, 51, 52] := by
      simp only [List.mem_cons, List.not_mem_nil, or_false]
      exact x8
    exact lw_frF F I.lo (by decide) (List.all_eq_true.1 b7.2 j mem)
  · have z := List.all_eq_true.1 b7.1 c (List.mem_range.2 (by omega))
    rw [show Nat.ble 79 c = true from Nat.ble_eq_true_of_le (by omega), show Nat.blt c 118 = true from Nat.ble_eq_true_of_le x2] at z
    have z2 : (Nat.ble 98 c && Nat.ble c 102) = false := by
      cases w : (Nat.ble 98 c && Nat.ble c 102) with
      | false => rfl
      | true =>
        have w := (Bool.and_eq_true _ _ ▸ w)
        have w1 := Nat.le_of_ble_eq_true w.1
        have w2 := Nat.le_of_ble_eq_true w.2
        omega
    rw [z2] at z
    have z : lw_nA m c = true := z
    exact lw_frA F I.lo (by omega) z j
theorem mv_eq (I : cq_Inv none h) (R : lkR h) (m1 : h.2.2.2 40 8 = .int pm) (hq : (q : Int) < pm.toInt) (E : lkE h h') : mvE h' q = mvE h q ∧ mvA h' q = mvA h q ∧ mvk h' q = mvk h q ∧ mvP h' q = mvP h q ∧ (∀ e : Nat, (e : Int) < mve h q → mvEd h' q e = mvEd h q e ∧ mvLn h' q e = mvLn h q e ∧ mvLy h' q e = mvLy h q e) ∧ mvN h' q = mvN h q ∧ mvAl h' q = mvAl h q ∧ mvFf h' q = mvFf h q ∧ mvAp h' q = mvAp h q ∧ ∀ po, mvPa h' q po = mvPa h q po := by
  obtain ⟨n1, sh, e1, e73, e6, eQ, eE, -⟩ := E
  obtain ⟨c1, c2, c3, c4, c5, c6⟩ := mv_cg (g := h') (h := h) (fun c j a1 a2 a3 a4 a5 a6 a7 a8 => e1 c j a1 a2 a3 a4 a5 a6 a7 (by omega))
  have f : ∀ c, 79 ≤ c → c < 118 → c ≠ 98 → c ≠ 99 → c ≠ 100 → c ≠ 101 → c ≠ 102 → ∀ j, h'.2.2.2 c j = h.2.2.2 c j := fun c a1 a2 a3 a4 a5 a6 a7 j => e1 c j (by omega) a2 a3 a4 a5 a6 a7 (Or.inl (by omega))
  have f15 := e1 78 15 (by decide) (by decide) (by decide) (by decide) (by decide) (by decide) (by decide) (by decide)
  have f51 := e1 78 51 (by decide) (by decide) (by decide) (by decide) (by decide) (by decide) (by decide) (by decide)
  have f52 := e1 78 52 (by decide) (by decide) (by decide) (by decide) (by decide) (by decide) (by decide) (by decide)
  have eb : mvb h' = mvb h := by
    unfold mvb
    rw [f52]
  have ec : mvc h' = mvc h := by
    unfold mvc
    rw [f15]
  have hE : mvE h' q = mvE h q := by
    unfold mvE
    simp only [eb, ec, f51, c6]
  have hA : mvA h' q = mvA h q := by
    unfold mvA
    simp only [eb, ec, f51, c6]
  have hk : mvk h' q = mvk h q := by
    unfold mvk
    rw [ec, c3]
  have he : mve h' q = mve h q := by
    unfold mve
    rw [f 92 (by decide) (by decide) (by decide) (by decide) (by decide) (by decide) (by decide)]
  have hl : mvl h' q = mvl h q := by
    unfold mvl
    rw [hk, f 109 (by decide) (by decide) (by decide) (by decide) (by decide) (by decide) (by decide)]
  have hP : mvP h' q = mvP h q := by
    unfold mvP
    rw [hE, hk, hl, he]
  have hx : ∀ e : Nat, (e : Int) < mve h q → mvEd h' q e = mvEd h q e ∧ mvLn h' q e = mvLn h q e ∧ mvLy h' q e = mvLy h q e := fun e hee => by
    obtain ⟨s, Q, st, P, T, t1, t2, ⟨q1, q2, q3⟩, t4, ⟨⟨y1, y2, y3⟩, -⟩, -⟩ := lk_t I R m1 hq (e := e) hee
    obtain ⟨-, s', s1', ko, -⟩ := lk_p I R m1 hq
    rw [t1] at s1'
    cases s1'
    have d1 : mvEd h' q e = mvEd h q e := by
      unfold mvEd
      rw [e73, t1]
      show gR (h'.2.2.2 (gR (h'.2.2.2 s 7)) e) = gR (h.2.2.2 (gR (h.2.2.2 s 7)) e)
      rw [e6 s ko.1 ko.2.1 ko.2.2 7, t2]
      show gR (h'.2.2.2 Q e) = gR (h.2.2.2 Q e)
      rw [eQ Q 3 q1 q2 q3 e]
    have g3 := eE (mvEd h q e) y1 y2 y3 3 (by decide)
    have g4 := eE (mvEd h q e) y1 y2 y3 4 (by decide)
    have g5 := eE (mvEd h q e) y1 y2 y3 5 (by decide)
    have d2 : mvLn h' q e = mvLn h q e := by
      unfold mvLn
      rw [d1, g3]
    refine ⟨d1, d2, ?_⟩
    unfold mvLy
    rw [d2, d1, g4, g5, f 81 (by decide) (by decide) (by decide) (by decide) (by decide) (by decide) (by decide), f 81 (by decide) (by decide) (by decide) (by decide) (by decide) (by decide) (by decide)]
  obtain ⟨-, p1, p2⟩ := lk_230 (d := 0) I R m1 hq (gS.rf I)
  have hN : mvN h' q = mvN h q := by
    unfold mvN
    rw [hP]
    by_cases z : mvP h q = -1
    · rw [if_pos z, if_pos z]
    · rw [if_neg z, if_neg z, (hx (mvP h q).toNat (by omega)).2.2]
  have hAl : mvAl h' q = mvAl h q := by
    unfold mvAl
    rw [hA, hN]
  refine ⟨hE, hA, hk, hP, hx, hN, hAl, ?_, ?_, fun po => ?_⟩
  · unfold mvFf
    rw [hAl]
    by_cases z : mvAl h q = true
    · rw [if_pos z, if_pos z]
      have z2 := (Bool.and_eq_true _ _ ▸ (show (mvA h q && decide (mvN h q ≠ -1)) = true from z))
      have hPn : mvP h q ≠ -1 := fun y => of_decide_eq_true z2.2 (if_pos y)
      unfold mvFe
      rw [hE, hk, hP, hN, (hx (mvP h q).toNat (by omega)).2.1, f 107 (by decide) (by decide) (by decide) (by decide) (by decide) (by decide) (by decide), f 106 (by decide) (by decide) (by decide) (by decide) (by decide) (by decide) (by decide)]
    · rw [if_neg z, if_neg z]
  · unfold mvAp
    rw [hE, hk, f 108 (by decide) (by decide) (by decide) (by decide) (by decide) (by decide) (by decide)]
  · unfold mvPa
    rw [hE, hk, f 108 (by decide) (by decide) (by decide) (by decide) (by decide) (by decide) (by decide)]
theorem lkF_eq (I : cq_Inv none h) (R : lkR h) (m1 : h.2.2.2 40 8 = .int pm) (hq : (q : Int) < pm.toInt) (E : lkE h g) {k : Nat} (X : lkF g h' k q) : lkF h h' k q := by
  obtain ⟨a1, a2, a3, a4, a5, a6, a7, a8, a9, a10⟩ := mv_eq I R m1 hq E
  obtain ⟨-, p1, p2⟩ := lk_230 (d := 0) I R m1 hq (gS.rf I)
  obtain ⟨x1, x2, x3, x4, x5, x6⟩ := X
  rw [a4] at x2 x3
  rw [a7] at x1
  rw [a6] at x4
  rw [a9] at x6
  have x5 : h'.2.2.2 k 6 = iv (mvFf g q) := x5
  rw [a8] at x5
  exact ⟨x1, fun z => by
    have y := x2 z
    rw [(a5 (mvP h q).toNat (by omega)).1] at y
    exact y, x3, x4, x5, x6⟩
theorem sz_104 (I : cq_Inv none h) {k : Nat} (kk : cq_kOk h k (0, 1, 0)) (hd : 4 ≤ d) : ∃ (r : Option Value) (h' : am_H), am_ev d 104 0 (am_ent [.ref 40, .ref k] (am_in 104).2.2.1) [] h (r, h') ∧ cq_Inv none h' ∧ cq_Fr ct_104.2.2.2.1 h h' ∧ h'.1 = h.1 := by
  let ρ : Nat → Int := fun _ => (k : Int)
  have gg : cq_gs ρ ct_104.2.1 [.ref 40, .ref k] := ⟨rfl, Or.inr ⟨Int.natCast_nonneg k, by rw [Int.toNat_natCast]⟩, trivial⟩
  have M0 : cq_Md ct_104.2.2.2.1 h ρ ct_104.2.2.1 h := by
    refine ⟨⟨fun b hb => (by cases hb), fun _ z => (by cases z)⟩, fun e he => ?_, fun e he _ => ?_, fun _ z => (by cases z), fun _ z => (by cases z), fun _ z => (by cases z), fun _ z => (by cases z), I, cq_Fr_rf, ⟨Nat.le_refl _, Nat.le_refl _⟩, fun _ z => (by cases z)⟩
    · rw [List.mem_singleton.1 he]
      exact ⟨fun _ => Int.natCast_nonneg k, fun z => (by cases z)⟩
    · rw [List.mem_singleton.1 he]
      show cq_kOk h ((k : Int)).toNat (0, 1, 0)
      rw [Int.toNat_natCast]
      exact kk
  obtain ⟨r', h2, ev2, x, hx, ρ', a', Mx, hr⟩ := ok_104 d h ρ _ hd M0 gg
  have ex := List.mem_singleton.1 hx
  rw [ex] at Mx
  exact ⟨r', h2, ev2, Mx.I, Mx.F, Nat.le_antisymm Mx.A.1 Mx.F.nx⟩
theorem lk_step (I : cq_Inv none h) (L : lkC h) (m1 : h.2.2.2 40 8 = .int pm) (hq : (q : Int) < pm.toInt) {k : Nat} (kk : cq_kOk h k (0, 1, 0)) (k0 : h.2.2.2 k 0 = iv q) (k1 : h.2.2.2 k 1 = h.2.2.2 73 q) : ∃ h', am_ev (d + 4) 104 0 (am_ent [.ref 40, .ref k] (am_in 104).2.2.1) [] h (none, h') ∧ lkF h h' k q ∧ (∀ a, 130 ≤ a → a < h.1 → h.2.2.1 a = (0, 1, 8) → a ≠ k → ∀ j, h'.2.2.2 a j = h.2.2.2 a j) ∧ cq_Inv none h' ∧ cq_Fr ct_104.2.2.2.1 h h' ∧ lkC h' ∧ lkE h h' := by
  obtain ⟨R, B, Tc, C, X⟩ := L
  obtain ⟨h', r1, r2, r3⟩ := lk_104 (d := d) I R B Tc m1 hq kk k0 k1
  obtain ⟨r, h2, ev2, I2, F2, n2⟩ := sz_104 (d := d + 4) I kk (by omega)
  have e := (Prod.mk.inj (ax_det ev2 r1)).2
  rw [e] at I2 F2 n2
  obtain ⟨R1, R2, R3, R4, R5, R6, K, ⟨W, XX⟩, Z⟩ := R
  have nk : nhL (hx_U h) [.ref 40, .ref k] := fun v hv a e u => by
    have hv : v = .ref 40 ∨ v = .ref k := by simpa using hv
    rcases hv with hv | hv
    · rw [hv] at e
      have ea : @Eq Nat 40 a := Value.ref.inj e
      rcases u with u | u | ⟨E, u1, -, -, u4⟩
      · omega
      · omega
      · omega
    · rw [hv] at e
      have ea : @Eq Nat k a := Value.ref.inj e
      have w := (W.1.1 a u).2.2
      rw [← ea, kk.2.2] at w
      rcases w with w | ⟨-, w⟩
      · cases w
      · cases w
  obtain ⟨W', Q', -⟩ := hx_go W (fS.of I) (y := 104) (by decide +kernel) (Nat.le_trans (by decide +kernel) (Nat.le_add_left 4 d)) nk r1
  have eE : ∀ E, 130 ≤ E → E < h.1 → hx_ed h E → ∀ j, j < 6 → h'.2.2.2 E j = h.2.2.2 E j := fun E a b c j hj => (Q'.2.2.2.2 E a b c).1 j hj
  refine ⟨h', r1, r2, r3, I2, F2, ⟨⟨rT_fr I F2 (by decide +kernel) R1, rp_Pfr I F2 (by decide +kernel) R2, rL_fr I F2 (by decide +kernel) R3, rbV_fr I F2 (by decide +kernel) R4, rD_fr I F2 (by decide +kernel) R5, rQ_fr I F2 (by decide +kernel) R6, rK_fr I F2 (by decide +kernel) K, ⟨W', rX_fr I F2 (eS.of Q') (by decide +kernel) XX⟩, rZ_fr I F2 (by decide +kernel) Z⟩, rB_fr I F2 (by decide +kernel) B, ?_, rp_Cfr I F2 (by decide +kernel) C, rG_fr I F2 (by decide +kernel) X⟩, lkE_of I F2 n2 eE (by decide +kernel) (by decide +kernel)⟩
  obtain ⟨t, t1, t2⟩ := Tc
  exact ⟨t, (lw_frF F2 I.lo (by decide) (by decide +kernel)).trans t1, (lw_frF F2 I.lo (by decide) (by decide +kernel)).trans t2⟩
/-! candidates by their numbers -/
def kc (h : am_H) (c : Nat) : Nat := gR (h.2.2.2 74 c)
def qc (h : am_H) (c : Nat) : Nat := (gI (h.2.2.2 117 c)).toInt.toNat
theorem lk_c (I : cq_Inv none h) (L : lkC h) : ∃ (n : Nat) (pm : Int32), n ≤ 14 ∧ h.2.2.2 40 13 = iv n ∧ h.2.2.2 78 53 = iv n ∧ h.2.2.2 40 8 = .int pm ∧ (∀ c, c < n → h.2.2.2 74 c = .ref (kc h c) ∧ cq_kOk h (kc h c) (0, 1, 0) ∧ h.2.2.2 (kc h c) 0 = iv (qc h c) ∧ h.2.2.2 117 c = iv (qc h c) ∧ (qc h c : Int) < pm.toInt ∧ h.2.2.2 (kc h c) 1 = h.2.2.2 73 (qc h c) ∧ qc h c < 40) ∧ ∀ c c', c < n → c' < n → c ≠ c' → kc h c ≠ kc h c' := by
  obtain ⟨R, B, Tc, ⟨n, ν, n1, n2, C⟩, X⟩ := L
  obtain ⟨pm, m1, -⟩ := ax_in I (c := 40) (j := 8) (l := 0) (u := 40) (by decide +kernel) (by decide +kernel)
  have bm := rp_bm I m1
  have bn := rp_bn I n1
  obtain ⟨x1, x2⟩ := X n pm n1 m1
  have en : Value.int n = iv (n.toInt.toNat : Int) := by
    rw [fx_of n]
    exact congrArg iv (by omega)
  have kR : ∀ c, c < n.toInt.toNat → h.2.2.2 74 c = .ref (kc h c) := fun c hc => by
    obtain ⟨⟨k, k1, k2⟩, k3⟩ := C c (by omega)
    unfold kc
    rw [k1]
    rfl
  refine ⟨n.toInt.toNat, pm, by omega, n1.trans en, n2.trans en, m1, fun c hc => ?_, fun c c' hc hc' ne e => ?_⟩
  · obtain ⟨⟨k, k1, k2⟩, k3⟩ := C c (by omega)
    have e1 := kR c hc
    have ek : k = kc h c := by
      rw [k1] at e1
      exact Value.ref.inj e1
    obtain ⟨q, y1, y2, y3⟩ := x1 c k (by omega) k1
    have kk := rp_cob I (c := c) (by omega) k1
    have eq : qc h c = q := by
      unfold qc
      rw [k2] at y1
      have y1 : ν c = Int32.ofInt (q : Int) := Value.int.inj y1
      rw [gI_of k3, y1, fx_ti (by omega)]
      omega
    rw [← ek, eq]
    exact ⟨k1, kk, y1, by rw [k3, ← k2, y1], y2, y3, by omega⟩
  · exact x2 c c' (by omega) (by omega) ne (by rw [kR c hc, kR c' hc', e])
theorem kc_eq (E : lkE h g) (c : Nat) : kc g c = kc h c := by
  unfold kc
  rw [E.2.2.2.2.2.2.2.1 c]
theorem qc_eq (E : lkE h g) (c : Nat) : qc g c = qc h c := by
  unfold qc
  rw [E.2.2.1 117 c (by decide) (by decide) (by decide) (by decide) (by decide) (by decide) (by decide) (Or.inl (by decide))]
end LKS
