/-! LOOK, both sides -/
theorem mvM_2 {h : am_H} {q l : Nat} {b e : Int} : mvM h q b e l = 2 ↔ bt (mvF h q b e) l = true := by
  unfold mvM
  by_cases f : bt (mvF h q b e) l = true
  · rw [if_pos f]
    exact ⟨fun _ => f, fun _ => rfl⟩
  · rw [if_neg f]
    refine ⟨fun z => ?_, fun z => absurd z f⟩
    split at z <;> exact absurd z (by decide)
theorem mvM_0 {h : am_H} {q l : Nat} {b e : Int} : mvM h q b e l ≠ 0 ↔ bt (mvF h q b e ||| mvO h q b e) l = true := by
  rw [b_or, Bool.or_eq_true]
  unfold mvM
  by_cases f : bt (mvF h q b e) l = true
  · rw [if_pos f]
    exact ⟨fun _ => Or.inl f, fun _ => by decide⟩
  · rw [if_neg f]
    by_cases o : bt (mvO h q b e) l = true
    · rw [if_pos o]
      exact ⟨fun _ => Or.inr o, fun _ => by decide⟩
    · rw [if_neg o]
      exact ⟨fun z => absurd rfl z, fun z => by
        rcases z with z | z
        · exact absurd z f
        · exact absurd z o⟩
theorem b_imp {a b : Bool} : (!a || b) = true ↔ (a = true → b = true) := by cases a <;> cases b <;> decide
section LKB
variable {h g G : am_H} {d q : Nat} {pm : Int32}
theorem mv_E (I : cq_Inv none h) : (gI (h.2.2.2 78 51) &&& (mvF h q (mvb h) (mvc h) ^^^ Int32.ofInt (-1))) = 0 ↔ mvE h q = true := by
  obtain ⟨-, -, -, b0, b1⟩ := lk_b I
  rw [mk_6 (by omega) b1]
  unfold mvE
  rw [aL_iff]
  refine ⟨fun k i _ hi => b_imp.2 fun z => decide_eq_true (mvM_2.2 (k i (by omega) z)), fun k i hi z => mvM_2.1 (of_decide_eq_true (b_imp.1 (k i (Nat.zero_le _) (by omega)) z))⟩
theorem mv_A (I : cq_Inv none h) : (gI (h.2.2.2 78 51) &&& ((mvF h q (mvb h) (mvc h) ||| mvO h q (mvb h) (mvc h)) ^^^ Int32.ofInt (-1))) = 0 ↔ mvA h q = true := by
  obtain ⟨-, -, -, b0, b1⟩ := lk_b I
  rw [mk_6 (by omega) b1]
  unfold mvA
  rw [aL_iff]
  refine ⟨fun k i _ hi => b_imp.2 fun z => decide_eq_true (mvM_0.2 (k i (by omega) z)), fun k i hi z => mvM_0.1 (of_decide_eq_true (b_imp.1 (k i (Nat.zero_le _) (by omega)) z))⟩
theorem ly_any {E l : Nat} {t u : Int32} {P T : Int} (S : fS h) (OE : am_isO h E 3 = true) (e1 : 130 ≤ E) (e : hx_E h E l t u) (vP : h.2.2.2 44 0 = iv P) (vT : h.2.2.2 44 2 = iv T) (bP : 6 ≤ P ∧ P ≤ 60) (bT : 0 ≤ T ∧ T ≤ 4) : ∃ H : am_H, am_ev (d + 3) 54 0 (am_ent [.ref 53, .ref E, .ref 43] 8) [] h (none, H) ∧ lyV h H E (E + 3) ∧ lyK H E (E + 3) l t u P T ∧ hx_E H E l t u := by
  obtain ⟨x1, x2, x3, x4, x5, x6, x7, x8, x9, x10, x11, f6, f7, g6, g7, b6, b7, k⟩ := id e
  have TE : lyE h E l t u := ⟨OE, e1, x8, x9, x10⟩
  by_cases c : f6 = P ∧ f7 = T
  · have kk := k (by omega)
    rw [c.1, c.2] at kk
    exact ⟨h, ly_54t S TE x11 vP vT g6 g7 bP bT b6 b7 c, lyY.v ⟨S, rfl, rfl, fun _ _ _ _ _ => rfl, lyi.rf⟩, kk, e⟩
  · obtain ⟨H, r1, r2, r3⟩ := ly_54f (d := d) S TE x11 vP vT g6 g7 bP bT b6 b7 x7 (show E + 3 ≠ E by omega) (by omega) x4 x1 (by omega : l ≤ l ∧ l ≤ 1000) c
    have s1 : H.1 = h.1 := r2.2.1
    have s2 : H.2.2.1 = h.2.2.1 := r2.2.2.1
    have fE : ∀ j, j < 6 → H.2.2.2 E j = h.2.2.2 E j := fun j hj => r2.2.2.2.1 E j (by omega) (by omega) (by omega) (by omega) (by omega)
    exact ⟨H, r1, r2, r3, by rw [s1]; exact x1, by rw [s2]; exact x2, by rw [s2]; exact x3, by rw [s2]; exact x4, (fE 0 (by decide)).trans x5, (fE 1 (by decide)).trans x6, (fE 2 (by decide)).trans x7, (fE 3 (by decide)).trans x8, (fE 4 (by decide)).trans x9, (fE 5 (by decide)).trans x10, x11, P, T, r3.1, r3.2.1, by omega, by omega, fun _ => r3⟩
def mvAp (h : am_H) (q : Nat) : Int32 := if mvE h q = true ∨ mvk h q = -1 then Int32.ofInt 0 else gI (h.2.2.2 108 (mvk h q).toNat)
/-- what look leaves in a candidate -/
def lkF (h h' : am_H) (k q : Nat) : Prop := h'.2.2.2 k 2 = iv (b2 (mvAl h q)) ∧ (mvP h q ≠ -1 → h'.2.2.2 k 3 = iv (mvP h q) ∧ h'.2.2.2 k 4 = .ref (mvEd h q (mvP h q).toNat)) ∧ (mvP h q = -1 → h'.2.2.2 k 4 = .null) ∧ h'.2.2.2 k 5 = iv (mvN h q) ∧ h'.2.2.2 k 6 = iv (if mvAl h q = true then mvFe h q else 0) ∧ h'.2.2.2 k 7 = .int (mvAp h q)
theorem p5_v {X : am_H} {k : Nat} {a4 a5 a2 a7 a6 : Value} : (am_put (am_put (am_put (am_put (am_put X k 4 a4) k 5 a5) k 2 a2) k 7 a7) k 6 a6).2.2.2 k 2 = a2 ∧ (am_put (am_put (am_put (am_put (am_put X k 4 a4) k 5 a5) k 2 a2) k 7 a7) k 6 a6).2.2.2 k 3 = X.2.2.2 k 3 ∧ (am_put (am_put (am_put (am_put (am_put X k 4 a4) k 5 a5) k 2 a2) k 7 a7) k 6 a6).2.2.2 k 4 = a4 ∧ (am_put (am_put (am_put (am_put (am_put X k 4 a4) k 5 a5) k 2 a2) k 7 a7) k 6 a6).2.2.2 k 5 = a5 ∧ (am_put (am_put (am_put (am_put (am_put X k 4 a4) k 5 a5) k 2 a2) k 7 a7) k 6 a6).2.2.2 k 6 = a6 ∧ (am_put (am_put (am_put (am_put (am_put X k 4 a4) k 5 a5) k 2 a2) k 7 a7) k 6 a6).2.2.2 k 7 = a7 ∧ ∀ a j, a ≠ k → (am_put (am_put (am_put (am_put (am_put X k 4 a4) k 5 a5) k 2 a2) k 7 a7) k 6 a6).2.2.2 a j = X.2.2.2 a j := by
  refine ⟨?_, ?_, ?_, ?_, ?_, ?_, fun a j n => ?_⟩
  · exact ax_put_o (Or.inr (by decide)) (ax_put_o (Or.inr (by decide)) (ax_put_s _ _ _))
  · exact ax_put_o (Or.inr (by decide)) (ax_put_o (Or.inr (by decide)) (ax_put_o (Or.inr (by decide)) (ax_put_o (Or.inr (by decide)) (ax_put_o (Or.inr (by decide)) rfl))))
  · exact ax_put_o (Or.inr (by decide)) (ax_put_o (Or.inr (by decide)) (ax_put_o (Or.inr (by decide)) (ax_put_o (Or.inr (by decide)) (ax_put_s _ _ _))))
  · exact ax_put_o (Or.inr (by decide)) (ax_put_o (Or.inr (by decide)) (ax_put_o (Or.inr (by decide)) (ax_put_s _ _ _)))
  · exact ax_put_s _ _ _
  · exact ax_put_o (Or.inr (by decide)) (ax_put_s _ _ _)
  · exact ax_put_o (Or.inl n) (ax_put_o (Or.inl n) (ax_put_o (Or.inl n) (ax_put_o (Or.inl n) (ax_put_o (Or.inl n) rfl))))
theorem lk_34_0 (I : cq_Inv none h) (R : lkR h) (m1 : h.2.2.2 40 8 = .int pm) (hq : (q : Int) < pm.toInt) {k s : Nat} (kk : cq_kOk h k (0, 1, 0)) (s1 : h.2.2.2 73 q = .ref s) (v10 : h.2.2.2 40 10 = .int (gI (h.2.2.2 78 51))) (hb : mvE h q = true ∨ mvk h q = -1) {g2 : am_H} {r : Int} (S2 : fS g2) (n2 : g2.1 = h.1) (sh2 : g2.2.2.1 = h.2.2.1) (k3 : g2.2.2.2 k 3 = iv r) (P2 : ∀ a j, (a ≠ k ∨ j ≠ 3) → g2.2.2.2 a j = h.2.2.2 a j) (br : -1 ≤ r ∧ r ≤ 2) (hr : 0 ≤ r ∧ r < mve h q → mvP h q = r) (hr' : ¬ (0 ≤ r ∧ r < mve h q) → mvP h q = -1) {lv : Value} {F : Int32} : ∃ h', am_ev (d + 4) 104 127 [.ref 40, .ref k, .ref s, lv, .int F, .int (mvF h q (mvb h) (mvc h) ||| mvO h q (mvb h) (mvc h)), .null, am_ph] [] g2 (none, h') ∧ lkF h h' k q ∧ ∀ a, 130 ≤ a → a < h.1 → h.2.2.1 a = (0, 1, 8) → a ≠ k → ∀ j, h'.2.2.2 a j = h.2.2.2 a j := by
  obtain ⟨hq40, s', s1', ko, sf⟩ := lk_p I R m1 hq
  rw [s1] at s1'
  cases s1'
  obtain ⟨c, hc, g92, ec⟩ := lk_e I hq40
  have v6 : h.2.2.2 s 6 = iv c := (sf 6 (by decide)).trans g92
  obtain ⟨Q, k7, q1, q2, q3⟩ := po_q I (p := q) hq40 s1
  obtain ⟨kk1, kk2, kk3⟩ := kk
  obtain ⟨ko1, ko2, ko3⟩ := ko
  have nsk : s ≠ k := fun z => by
    rw [z, kk3] at ko3
    cases ko3
  have nQk : Q ≠ k := fun z => by
    rw [z, kk3] at q3
    cases q3
  have isO : ∀ (X : am_H) (a x y : Nat), X.1 = h.1 → X.2.2.1 = h.2.2.1 → a < h.1 → h.2.2.1 a = (0, x, y) → am_isO X a x = true := fun X a x y e1 e2 e3 e4 => by
    unfold am_isO
    rw [e2, e4, e1, show Nat.blt a h.1 = true from Nat.ble_eq_true_of_le e3]
    simp
  have Ok2 := isO g2 k 1 _ n2 sh2 kk2 kk3
  have Os2 := isO g2 s 6 _ n2 sh2 ko2 ko3
  have w6 : g2.2.2.2 s 6 = iv c := (P2 s 6 (Or.inl nsk)).trans v6
  have w7 : g2.2.2.2 s 7 = .ref Q := (P2 s 7 (Or.inl nsk)).trans k7
  have ap : (iv 0 : Value) = .int (mvAp h q) := by
    unfold mvAp
    rw [if_pos hb]
  by_cases hP : mvP h q = -1
  · have nr : ¬ (0 ≤ r ∧ r < (c : Int)) := fun z => by
      have := hr (by rw [ec]; exact z)
      omega
    have H53 := tx_53f (d := d + 3) (e := r) Os2 w6 hc (by omega) nr
    have nN : mvN h q = -1 := if_pos hP
    have nA : mvAl h q = false := by
      unfold mvAl
      rw [nN]
      simp
    have w10 : g2.2.2.2 40 10 = .int (gI (h.2.2.2 78 51)) := (P2 40 10 (Or.inl (by omega))).trans v10
    have fin : ∀ h', h' = (am_put (am_put (am_put (am_put (am_put g2 k 4 .null) k 5 (iv (-1))) k 2 (iv 0)) k 7 (iv 0)) k 6 (iv 0)) → lkF h h' k q ∧ ∀ a, 130 ≤ a → a < h.1 → h.2.2.1 a = (0, 1, 8) → a ≠ k → ∀ j, h'.2.2.2 a j = h.2.2.2 a j := fun h' e => by
      rw [e]
      obtain ⟨p1, p2, p3, p4, p5, p6, p7⟩ := p5_v (X := g2) (k := k) (a4 := .null) (a5 := iv (-1)) (a2 := iv 0) (a7 := iv 0) (a6 := iv 0)
      refine ⟨⟨?_, fun z => absurd hP z, fun _ => p3, ?_, ?_, p6.trans ap⟩, fun a a1 a2 a3 a4 j => (p7 a j a4).trans (P2 a j (Or.inl a4))⟩
      · rw [nA]
        exact p1
      · rw [nN]
        exact p4
      · rw [nA]
        exact p5
    by_cases hm : (gI (h.2.2.2 78 51) &&& ((mvF h q (mvb h) (mvc h) ||| mvO h q (mvb h) (mvc h)) ^^^ Int32.ofInt (-1))) = 0
    · exact ⟨_, lo3_n0 S2 Ok2 Os2 k3 H53 (lo4_ny0 S2 Ok2 kk1 w10 hm), fin _ rfl⟩
    · exact ⟨_, lo3_n0 S2 Ok2 Os2 k3 H53 (lo4_nn0 S2 Ok2 kk1 w10 hm), fin _ rfl⟩
  · have ir : 0 ≤ r ∧ r < (c : Int) := by
      by_cases z : 0 ≤ r ∧ r < mve h q
      · rw [ec] at z
        exact z
      · exact absurd (hr' z) hP
    have eP : mvP h q = r := hr (by rw [ec]; exact ir)
    obtain ⟨e, he⟩ : ∃ e : Nat, r = (e : Int) := ⟨r.toNat, by omega⟩
    obtain ⟨s2, Q2, st, P, T, t1, t2, -, t4, x2, ⟨vP, vT, bP, bT⟩, uP, uT, M⟩ := lk_t I R m1 hq (e := e) (by rw [ec]; omega)
    rw [s1] at t1
    cases t1
    rw [k7] at t2
    cases t2
    obtain ⟨⟨y1, y2, y3⟩, y4, -⟩ := x2
    generalize hE : mvEd h q e = E at *
    generalize hL : mvLn h q e = l at *
    generalize ht : gI (h.2.2.2 E 4) = t at *
    generalize hu : gI (h.2.2.2 E 5) = u at *
    obtain ⟨z1, z2, z3, z4, -⟩ := id y4
    have nek : E ≠ k := fun z => by
      have w := y3.2
      rw [z, kk3] at w
      exact absurd w (by decide)
    have ne3 : E + 3 ≠ k := fun z => by
      rw [z, kk3] at z4
      cases z4
    have OE2 : am_isO g2 E 3 = true := by
      unfold am_isO
      rw [sh2, n2, y3.1, y3.2, show Nat.blt E h.1 = true from Nat.ble_eq_true_of_le y2]
      rfl
    have rd53 : am_rd g2 Q (Int32.ofInt r) (fun c => Nat.ble 4 c && am_isA c) = some (.ref E) := by
      have z := fx_ti (e := (e : Int)) (by omega)
      rw [he, ax_rdv (show Q < g2.1 by rw [n2]; exact q2) (show g2.2.2.1 Q = (1, 7, 3) by rw [sh2]; exact q3) (by decide) (by decide +kernel) (by omega) (by omega), z, Int.toNat_natCast, P2 Q e (Or.inl nQk), t4]
    have H53 := tx_53t (d := d + 3) (e := r) Os2 w6 hc (by omega) w7 rd53 ir
    have eE2 : hx_E g2 E l t u := hx_E_same y4 (by rw [n2]; exact Nat.le_refl _) (fun c _ => by rw [sh2]) (fun j => P2 E j (Or.inl nek)) (fun j => P2 (E + 3) j (Or.inl ne3))
    obtain ⟨H, e54, lv2, lk, eH⟩ := ly_any (d := d) S2 OE2 y1 eE2 ((P2 44 0 (Or.inl (by omega))).trans vP) ((P2 44 2 (Or.inl (by omega))).trans vT) bP bT
    have SH := lv2.1
    have nH : H.1 = h.1 := lv2.2.1.trans n2
    have sH : H.2.2.1 = h.2.2.1 := lv2.2.2.1.trans sh2
    have OkH := isO H k 1 _ nH sH kk2 kk3
    have OEH : am_isO H E 3 = true := by
      unfold am_isO
      rw [sH, nH, y3.1, y3.2, show Nat.blt E h.1 = true from Nat.ble_eq_true_of_le y2]
      rfl
    have vH : ∀ a j, 130 ≤ a → a ≠ E → a ≠ E + 3 → H.2.2.2 a j = g2.2.2.2 a j := fun a j a1 a2 a3 => lv2.2.2.2.1 a j (by omega) (by omega) (by omega) (Or.inl a2) a3
    have v10H : H.2.2.2 40 10 = .int (gI (h.2.2.2 78 51)) := (lv2.2.2.2.1 40 10 (by decide) (by decide) (by decide) (Or.inl (by omega)) (by omega)).trans ((P2 40 10 (Or.inl (by omega))).trans v10)
    have k3H : H.2.2.2 k 3 = iv r := (vH k 3 kk1 (fun z => nek z.symm) (fun z => ne3 z.symm)).trans k3
    obtain ⟨-, -, -, -, -, -, -, f3, -⟩ := eH
    have eN : mvN h q = lyJ (lyD t u l P T l 0) := by
      unfold mvN
      rw [if_neg hP, eP, he, Int.toNat_natCast]
      unfold mvLy
      rw [hE, hL, ht, hu, uP, uT]
    have x8 : H.2.2.2 E 8 = iv (mvN h q) := by
      rw [eN]
      unfold lyJ
      rcases lk.2.2 with ⟨a1, a2, -⟩ | ⟨a1, a2, -⟩
      · rw [a2, if_pos a1]
      · rw [a2, if_neg (by omega)]
    have bn := lk_n I R m1 hq
    have bp : -1 ≤ mvN h q ∧ mvN h q ≤ 31 := by omega
    have fin : ∀ (h' : am_H) (al : Bool) (fe : Value), h' = (am_put (am_put (am_put (am_put (am_put H k 4 (.ref E)) k 5 (iv (mvN h q))) k 2 (iv (b2 al))) k 7 (iv 0)) k 6 fe) → mvAl h q = al → fe = iv (if mvAl h q = true then mvFe h q else 0) → lkF h h' k q ∧ ∀ a, 130 ≤ a → a < h.1 → h.2.2.1 a = (0, 1, 8) → a ≠ k → ∀ j, h'.2.2.2 a j = h.2.2.2 a j := fun h' al fe e eA eF => by
      rw [e]
      obtain ⟨p1, p2, p3, p4, p5, p6, p7⟩ := p5_v (X := H) (k := k) (a4 := .ref E) (a5 := iv (mvN h q)) (a2 := iv (b2 al)) (a7 := iv 0) (a6 := fe)
      refine ⟨⟨?_, fun z => ⟨?_, ?_⟩, fun z => absurd z hP, p4, p5.trans eF, p6.trans ap⟩, fun a a1 a2 a3 a4 j => ?_⟩
      · rw [eA]
        exact p1
      · rw [eP]
        exact p2.trans k3H
      · rw [eP, he, Int.toNat_natCast, hE]
        exact p3
      · refine (p7 a j a4).trans ((vH a j a1 (fun z => ?_) (fun z => ?_)).trans (P2 a j (Or.inl a4)))
        · have w := y3.2
          rw [← z, a3] at w
          exact absurd w (by decide)
        · rw [← z, a3] at z4
          cases z4
    by_cases hm : (gI (h.2.2.2 78 51) &&& ((mvF h q (mvb h) (mvc h) ||| mvO h q (mvb h) (mvc h)) ^^^ Int32.ofInt (-1))) = 0
    · have hA : mvA h q = true := (mv_A I).1 hm
      by_cases hp : mvN h q = -1
      · have eA : mvAl h q = false := by
          unfold mvAl
          rw [hp]
          simp
        exact ⟨_, lo3_e0 S2 Ok2 Os2 k3 H53 e54 SH (lo4_ez0 SH OkH kk1 v10H hm OEH nek x8 bp hp), fin _ false (iv 0) rfl eA (by rw [eA]; rfl)⟩
      · have eA : mvAl h q = true := by
          unfold mvAl
          rw [hA, decide_eq_true hp]
          rfl
        have hE' : mvE h q = true := by
          rcases hb with z | z
          · exact z
          · cases w : mvE h q with
            | true => rfl
            | false => exact absurd z (mv_kx hA w)
        exact ⟨_, lo3_e0 S2 Ok2 Os2 k3 H53 e54 SH (lo4_ey0 SH OkH kk1 v10H hm OEH nek x8 bp hp), fin _ true (iv 0) rfl eA (by rw [eA, if_pos rfl]; exact congrArg iv (if_pos hE').symm)⟩
    · have hA : mvA h q = false := by
        cases z : mvA h q with
        | false => rfl
        | true => exact absurd ((mv_A I).2 z) hm
      have eA : mvAl h q = false := by
        unfold mvAl
        rw [hA]
        rfl
      exact ⟨_, lo3_e0 S2 Ok2 Os2 k3 H53 e54 SH (lo4_en0 SH OkH kk1 v10H hm OEH nek x8 bp), fin _ false (iv 0) rfl eA (by rw [eA]; rfl)⟩
theorem lk_34_1 (I : cq_Inv none h) (R : lkR h) (m1 : h.2.2.2 40 8 = .int pm) (hq : (q : Int) < pm.toInt) {k s : Nat} (kk : cq_kOk h k (0, 1, 0)) (s1 : h.2.2.2 73 q = .ref s) (v10 : h.2.2.2 40 10 = .int (gI (h.2.2.2 78 51))) {lf κ : Nat} (kl : cq_kOk h lf (0, 4, 0)) (yj : ∀ j, 2 ≤ j → j ≤ 8 → h.2.2.2 lf j = h.2.2.2 (102 + j) κ) (hκ : κ < 81) (eκ : mvk h q = (κ : Int)) (nE : mvE h q = false) {g2 : am_H} {r : Int} (S2 : fS g2) (n2 : g2.1 = h.1) (sh2 : g2.2.2.1 = h.2.2.1) (k3 : g2.2.2.2 k 3 = iv r) (P2 : ∀ a j, (a ≠ k ∨ j ≠ 3) → g2.2.2.2 a j = h.2.2.2 a j) (br : -1 ≤ r ∧ r ≤ 2) (hr : 0 ≤ r ∧ r < mve h q → mvP h q = r) (hr' : ¬ (0 ≤ r ∧ r < mve h q) → mvP h q = -1) {lv : Value} {F : Int32} : ∃ h', am_ev (d + 4) 104 127 [.ref 40, .ref k, .ref s, lv, .int F, .int (mvF h q (mvb h) (mvc h) ||| mvO h q (mvb h) (mvc h)), (.ref lf), am_ph] [] g2 (none, h') ∧ lkF h h' k q ∧ ∀ a, 130 ≤ a → a < h.1 → h.2.2.1 a = (0, 1, 8) → a ≠ k → ∀ j, h'.2.2.2 a j = h.2.2.2 a j := by
  obtain ⟨hq40, s', s1', ko, sf⟩ := lk_p I R m1 hq
  rw [s1] at s1'
  cases s1'
  obtain ⟨c, hc, g92, ec⟩ := lk_e I hq40
  have v6 : h.2.2.2 s 6 = iv c := (sf 6 (by decide)).trans g92
  obtain ⟨Q, k7, q1, q2, q3⟩ := po_q I (p := q) hq40 s1
  obtain ⟨kk1, kk2, kk3⟩ := kk
  obtain ⟨ko1, ko2, ko3⟩ := ko
  have nsk : s ≠ k := fun z => by
    rw [z, kk3] at ko3
    cases ko3
  have nQk : Q ≠ k := fun z => by
    rw [z, kk3] at q3
    cases q3
  have isO : ∀ (X : am_H) (a x y : Nat), X.1 = h.1 → X.2.2.1 = h.2.2.1 → a < h.1 → h.2.2.1 a = (0, x, y) → am_isO X a x = true := fun X a x y e1 e2 e3 e4 => by
    unfold am_isO
    rw [e2, e4, e1, show Nat.blt a h.1 = true from Nat.ble_eq_true_of_le e3]
    simp
  have Ok2 := isO g2 k 1 _ n2 sh2 kk2 kk3
  have Os2 := isO g2 s 6 _ n2 sh2 ko2 ko3
  have w6 : g2.2.2.2 s 6 = iv c := (P2 s 6 (Or.inl nsk)).trans v6
  have w7 : g2.2.2.2 s 7 = .ref Q := (P2 s 7 (Or.inl nsk)).trans k7
  have ap : (Value.int (gI (h.2.2.2 108 κ))) = .int (mvAp h q) := by
    unfold mvAp
    rw [if_neg (by rw [nE, eκ]; simp <;> omega), eκ, Int.toNat_natCast]
  by_cases hP : mvP h q = -1
  · have nr : ¬ (0 ≤ r ∧ r < (c : Int)) := fun z => by
      have := hr (by rw [ec]; exact z)
      omega
    have H53 := tx_53f (d := d + 3) (e := r) Os2 w6 hc (by omega) nr
    have nN : mvN h q = -1 := if_pos hP
    have nA : mvAl h q = false := by
      unfold mvAl
      rw [nN]
      simp
    have w10 : g2.2.2.2 40 10 = .int (gI (h.2.2.2 78 51)) := (P2 40 10 (Or.inl (by omega))).trans v10
    have fin : ∀ h', h' = (am_put (am_put (am_put (am_put (am_put g2 k 4 .null) k 5 (iv (-1))) k 2 (iv 0)) k 7 (.int (gI (h.2.2.2 108 κ)))) k 6 (iv 0)) → lkF h h' k q ∧ ∀ a, 130 ≤ a → a < h.1 → h.2.2.1 a = (0, 1, 8) → a ≠ k → ∀ j, h'.2.2.2 a j = h.2.2.2 a j := fun h' e => by
      rw [e]
      obtain ⟨p1, p2, p3, p4, p5, p6, p7⟩ := p5_v (X := g2) (k := k) (a4 := .null) (a5 := iv (-1)) (a2 := iv 0) (a7 := .int (gI (h.2.2.2 108 κ))) (a6 := iv 0)
      refine ⟨⟨?_, fun z => absurd hP z, fun _ => p3, ?_, ?_, p6.trans ap⟩, fun a a1 a2 a3 a4 j => (p7 a j a4).trans (P2 a j (Or.inl a4))⟩
      · rw [nA]
        exact p1
      · rw [nN]
        exact p4
      · rw [nA]
        exact p5
    obtain ⟨kl1, kl2, kl3⟩ := kl
    have nlk : lf ≠ k := fun z => by
      rw [z, kk3] at kl3
      cases kl3
    have Ol2 := isO g2 lf 4 _ n2 sh2 kl2 kl3
    have w6' : g2.2.2.2 lf 6 = .int (gI (h.2.2.2 108 κ)) := (P2 lf 6 (Or.inl nlk)).trans ((yj 6 (by decide) (by decide)).trans (lk_l I hκ).2.2.2)
    by_cases hm : (gI (h.2.2.2 78 51) &&& ((mvF h q (mvb h) (mvc h) ||| mvO h q (mvb h) (mvc h)) ^^^ Int32.ofInt (-1))) = 0
    · exact ⟨_, lo3_n1 S2 Ok2 Os2 k3 H53 (lo4_ny1 S2 Ok2 kk1 w10 hm Ol2 nlk w6'), fin _ rfl⟩
    · exact ⟨_, lo3_n1 S2 Ok2 Os2 k3 H53 (lo4_nn1 S2 Ok2 kk1 w10 hm Ol2 nlk w6'), fin _ rfl⟩
  · have ir : 0 ≤ r ∧ r < (c : Int) := by
      by_cases z : 0 ≤ r ∧ r < mve h q
      · rw [ec] at z
        exact z
      · exact absurd (hr' z) hP
    have eP : mvP h q = r := hr (by rw [ec]; exact ir)
    obtain ⟨e, he⟩ : ∃ e : Nat, r = (e : Int) := ⟨r.toNat, by omega⟩
    obtain ⟨s2, Q2, st, P, T, t1, t2, -, t4, x2, ⟨vP, vT, bP, bT⟩, uP, uT, M⟩ := lk_t I R m1 hq (e := e) (by rw [ec]; omega)
    rw [s1] at t1
    cases t1
    rw [k7] at t2
    cases t2
    obtain ⟨⟨y1, y2, y3⟩, y4, -⟩ := x2
    generalize hE : mvEd h q e = E at *
    generalize hL : mvLn h q e = l at *
    generalize ht : gI (h.2.2.2 E 4) = t at *
    generalize hu : gI (h.2.2.2 E 5) = u at *
    obtain ⟨z1, z2, z3, z4, -⟩ := id y4
    have nek : E ≠ k := fun z => by
      have w := y3.2
      rw [z, kk3] at w
      exact absurd w (by decide)
    have ne3 : E + 3 ≠ k := fun z => by
      rw [z, kk3] at z4
      cases z4
    have OE2 : am_isO g2 E 3 = true := by
      unfold am_isO
      rw [sh2, n2, y3.1, y3.2, show Nat.blt E h.1 = true from Nat.ble_eq_true_of_le y2]
      rfl
    have rd53 : am_rd g2 Q (Int32.ofInt r) (fun c => Nat.ble 4 c && am_isA c) = some (.ref E) := by
      have z := fx_ti (e := (e : Int)) (by omega)
      rw [he, ax_rdv (show Q < g2.1 by rw [n2]; exact q2) (show g2.2.2.1 Q = (1, 7, 3) by rw [sh2]; exact q3) (by decide) (by decide +kernel) (by omega) (by omega), z, Int.toNat_natCast, P2 Q e (Or.inl nQk), t4]
    have H53 := tx_53t (d := d + 3) (e := r) Os2 w6 hc (by omega) w7 rd53 ir
    have eE2 : hx_E g2 E l t u := hx_E_same y4 (by rw [n2]; exact Nat.le_refl _) (fun c _ => by rw [sh2]) (fun j => P2 E j (Or.inl nek)) (fun j => P2 (E + 3) j (Or.inl ne3))
    obtain ⟨H, e54, lv2, lk, eH⟩ := ly_any (d := d) S2 OE2 y1 eE2 ((P2 44 0 (Or.inl (by omega))).trans vP) ((P2 44 2 (Or.inl (by omega))).trans vT) bP bT
    have SH := lv2.1
    have nH : H.1 = h.1 := lv2.2.1.trans n2
    have sH : H.2.2.1 = h.2.2.1 := lv2.2.2.1.trans sh2
    have OkH := isO H k 1 _ nH sH kk2 kk3
    have OEH : am_isO H E 3 = true := by
      unfold am_isO
      rw [sH, nH, y3.1, y3.2, show Nat.blt E h.1 = true from Nat.ble_eq_true_of_le y2]
      rfl
    have vH : ∀ a j, 130 ≤ a → a ≠ E → a ≠ E + 3 → H.2.2.2 a j = g2.2.2.2 a j := fun a j a1 a2 a3 => lv2.2.2.2.1 a j (by omega) (by omega) (by omega) (Or.inl a2) a3
    have v10H : H.2.2.2 40 10 = .int (gI (h.2.2.2 78 51)) := (lv2.2.2.2.1 40 10 (by decide) (by decide) (by decide) (Or.inl (by omega)) (by omega)).trans ((P2 40 10 (Or.inl (by omega))).trans v10)
    have k3H : H.2.2.2 k 3 = iv r := (vH k 3 kk1 (fun z => nek z.symm) (fun z => ne3 z.symm)).trans k3
    obtain ⟨-, -, -, -, -, -, -, f3, -⟩ := eH
    have eN : mvN h q = lyJ (lyD t u l P T l 0) := by
      unfold mvN
      rw [if_neg hP, eP, he, Int.toNat_natCast]
      unfold mvLy
      rw [hE, hL, ht, hu, uP, uT]
    have x8 : H.2.2.2 E 8 = iv (mvN h q) := by
      rw [eN]
      unfold lyJ
      rcases lk.2.2 with ⟨a1, a2, -⟩ | ⟨a1, a2, -⟩
      · rw [a2, if_pos a1]
      · rw [a2, if_neg (by omega)]
    have bn := lk_n I R m1 hq
    have bp : -1 ≤ mvN h q ∧ mvN h q ≤ 31 := by omega
    obtain ⟨kl1, kl2, kl3⟩ := kl
    have nlk : lf ≠ k := fun z => by
      rw [z, kk3] at kl3
      cases kl3
    have nlE : lf ≠ E := fun z => by
      have w := y3.2
      rw [← z, kl3] at w
      exact absurd w (by decide)
    have nl3 : lf ≠ E + 3 := fun z => by
      rw [← z, kl3] at z4
      cases z4
    have OlH := isO H lf 4 _ nH sH kl2 kl3
    have vL : ∀ j, 2 ≤ j → j ≤ 8 → H.2.2.2 lf j = h.2.2.2 (102 + j) κ := fun j a b => (vH lf j kl1 nlE nl3).trans ((P2 lf j (Or.inl nlk)).trans (yj j a b))
    obtain ⟨-, ⟨l6, a6, b6⟩, ⟨l7, a7, b7⟩, l8⟩ := lk_l I hκ
    have w6' : H.2.2.2 lf 6 = .int (gI (h.2.2.2 108 κ)) := (vL 6 (by decide) (by decide)).trans l8
    have fin : ∀ (h' : am_H) (al : Bool) (fe : Value), h' = (am_put (am_put (am_put (am_put (am_put H k 4 (.ref E)) k 5 (iv (mvN h q))) k 2 (iv (b2 al))) k 7 (.int (gI (h.2.2.2 108 κ)))) k 6 fe) → mvAl h q = al → fe = iv (if mvAl h q = true then mvFe h q else 0) → lkF h h' k q ∧ ∀ a, 130 ≤ a → a < h.1 → h.2.2.1 a = (0, 1, 8) → a ≠ k → ∀ j, h'.2.2.2 a j = h.2.2.2 a j := fun h' al fe e eA eF => by
      rw [e]
      obtain ⟨p1, p2, p3, p4, p5, p6, p7⟩ := p5_v (X := H) (k := k) (a4 := .ref E) (a5 := iv (mvN h q)) (a2 := iv (b2 al)) (a7 := .int (gI (h.2.2.2 108 κ))) (a6 := fe)
      refine ⟨⟨?_, fun z => ⟨?_, ?_⟩, fun z => absurd z hP, p4, p5.trans eF, p6.trans ap⟩, fun a a1 a2 a3 a4 j => ?_⟩
      · rw [eA]
        exact p1
      · rw [eP]
        exact p2.trans k3H
      · rw [eP, he, Int.toNat_natCast, hE]
        exact p3
      · refine (p7 a j a4).trans ((vH a j a1 (fun z => ?_) (fun z => ?_)).trans (P2 a j (Or.inl a4)))
        · have w := y3.2
          rw [← z, a3] at w
          exact absurd w (by decide)
        · rw [← z, a3] at z4
          cases z4
    by_cases hm : (gI (h.2.2.2 78 51) &&& ((mvF h q (mvb h) (mvc h) ||| mvO h q (mvb h) (mvc h)) ^^^ Int32.ofInt (-1))) = 0
    · have hA : mvA h q = true := (mv_A I).1 hm
      by_cases hp : mvN h q = -1
      · have eA : mvAl h q = false := by
          unfold mvAl
          rw [hp]
          simp
        exact ⟨_, lo3_e1 S2 Ok2 Os2 k3 H53 e54 SH (lo4_ez1 SH OkH kk1 v10H hm OlH nlk w6' OEH nek x8 bp hp), fin _ false (iv 0) rfl eA (by rw [eA]; rfl)⟩
      · have eA : mvAl h q = true := by
          unfold mvAl
          rw [hA, decide_eq_true hp]
          rfl
        have wl : ∀ j, (am_put (am_put (am_put (am_put (am_put H k 4 (.ref E)) k 5 (iv (mvN h q))) k 2 (iv 1)) k 7 (.int (gI (h.2.2.2 108 κ)))) k 6 (iv 0)).2.2.2 lf j = H.2.2.2 lf j := fun j => p5_v.2.2.2.2.2.2 lf j nlk
        have Olx : am_isO (am_put (am_put (am_put (am_put (am_put H k 4 (.ref E)) k 5 (iv (mvN h q))) k 2 (iv 1)) k 7 (.int (gI (h.2.2.2 108 κ)))) k 6 (iv 0)) lf 4 = true := OlH
        have g4 := (wl 4).trans ((vL 4 (by decide) (by decide)).trans l6)
        have g5 := (wl 5).trans ((vL 5 (by decide) (by decide)).trans l7)
        have eFe : mvFe h q = if (gI (h.2.2.2 107 κ)).toInt = 0 then (gI (h.2.2.2 106 κ)).toInt * (l : Int) else if (gI (h.2.2.2 107 κ)).toInt = 1 then (gI (h.2.2.2 106 κ)).toInt * mvN h q else (gI (h.2.2.2 106 κ)).toInt * 1 := by
          unfold mvFe
          rw [if_neg (by rw [nE]; decide), eκ, Int.toNat_natCast, eP, he, Int.toNat_natCast, hL]
        have H105 : am_ev (d + 3) 105 0 (am_ent [.ref lf, iv l, iv (mvN h q)] 3) [] (am_put (am_put (am_put (am_put (am_put H k 4 (.ref E)) k 5 (iv (mvN h q))) k 2 (iv 1)) k 7 (.int (gI (h.2.2.2 108 κ)))) k 6 (iv 0)) (some (iv (mvFe h q)), (am_put (am_put (am_put (am_put (am_put H k 4 (.ref E)) k 5 (iv (mvN h q))) k 2 (iv 1)) k 7 (.int (gI (h.2.2.2 108 κ)))) k 6 (iv 0))) := by
          rw [eFe]
          generalize (gI (h.2.2.2 106 κ)).toInt = pp at *
          generalize (gI (h.2.2.2 107 κ)).toInt = rr at *
          by_cases r0 : rr = 0
          · rw [if_pos r0]
            exact lo_105l Olx g4 g5 ⟨a7, b7⟩ r0 rfl
          · rw [if_neg r0]
            by_cases r1 : rr = 1
            · rw [if_pos r1]
              exact lo_105p Olx g4 g5 ⟨a7, b7⟩ r1 rfl
            · rw [if_neg r1, Int.mul_one]
              exact lo_105a Olx g4 g5 ⟨a7, b7⟩ (by omega)
        have run := lo3_e1 S2 Ok2 Os2 k3 H53 e54 SH (lo4_ey1 (lv := lv) (F := F) SH OkH kk1 v10H hm OlH nlk w6' OEH nek x8 bp hp f3 H105)
        refine ⟨_, run, ?_⟩
        obtain ⟨u1, u2, u3, u4, u5, u6, u7⟩ := p5_v (X := H) (k := k) (a4 := .ref E) (a5 := iv (mvN h q)) (a2 := iv 1) (a7 := .int (gI (h.2.2.2 108 κ))) (a6 := iv 0)
        refine ⟨⟨?_, fun z => ⟨?_, ?_⟩, fun z => absurd z hP, ax_put_o (Or.inr (by decide)) u4, ?_, (ax_put_o (Or.inr (by decide)) u6).trans ap⟩, fun a a1 a2 a3 a4 j => ?_⟩
        · rw [eA]
          exact ax_put_o (Or.inr (by decide)) u1
        · rw [eP]
          exact ax_put_o (Or.inr (by decide)) (u2.trans k3H)
        · rw [eP, he, Int.toNat_natCast, hE]
          exact ax_put_o (Or.inr (by decide)) u3
        · rw [eA, if_pos rfl]
          exact ax_put_s _ _ _
        · refine (ax_put_o (Or.inl a4) (u7 a j a4)).trans ((vH a j a1 (fun z => ?_) (fun z => ?_)).trans (P2 a j (Or.inl a4)))
          · have w := y3.2
            rw [← z, a3] at w
            exact absurd w (by decide)
          · rw [← z, a3] at z4
            cases z4
    · have hA : mvA h q = false := by
        cases z : mvA h q with
        | false => rfl
        | true => exact absurd ((mv_A I).2 z) hm
      have eA : mvAl h q = false := by
        unfold mvAl
        rw [hA]
        rfl
      exact ⟨_, lo3_e1 S2 Ok2 Os2 k3 H53 e54 SH (lo4_en1 SH OkH kk1 v10H hm OlH nlk w6' OEH nek x8 bp), fin _ false (iv 0) rfl eA (by rw [eA]; rfl)⟩
theorem lk_104 (I : cq_Inv none h) (R : lkR h) (B : rB h) (Tc : tT h (40, 9, 78, 15)) (m1 : h.2.2.2 40 8 = .int pm) (hq : (q : Int) < pm.toInt) {k : Nat} (kk : cq_kOk h k (0, 1, 0)) (k0 : h.2.2.2 k 0 = iv q) (k1 : h.2.2.2 k 1 = h.2.2.2 73 q) : ∃ h', am_ev (d + 4) 104 0 (am_ent [.ref 40, .ref k] 8) [] h (none, h') ∧ lkF h h' k q ∧ ∀ a, 130 ≤ a → a < h.1 → h.2.2.1 a = (0, 1, 8) → a ≠ k → ∀ j, h'.2.2.2 a j = h.2.2.2 a j := by
  obtain ⟨hq40, s, s1, ko, sf⟩ := lk_p I R m1 hq
  obtain ⟨⟨e1, -⟩, ⟨e2, -⟩, e3, -⟩ := lk_b I
  obtain ⟨c, hc, g92, ec⟩ := lk_e I hq40
  have v6 : h.2.2.2 s 6 = iv c := (sf 6 (by decide)).trans g92
  have S := fS.of I
  have Ok := ax_kO kk
  have Os := ax_kO ko
  have v10 := B.1.trans e3
  have v11 := B.2.trans e1
  obtain ⟨tc, c1, c2⟩ := Tc
  have v9 : h.2.2.2 40 9 = iv (mvc h) := by
    have c2 : h.2.2.2 78 15 = .int tc := c2
    rw [e2] at c2
    exact Eq.trans c1 c2.symm
  rw [s1] at k1
  have X := lk_x I R m1 hq s1 (d + 2)
  have Y := lk_x I R m1 hq s1 (d + 3)
  have H93 := X.1
  have H96 := Y.2.1
  have bk := Y.2.2.1
  have nsk : s ≠ k := fun z => by
    have w := ko.2.2
    rw [z, kk.2.2] at w
    cases w
  have puts : ∀ r : Int, (am_put h k 3 (iv r)).2.2.2 k 3 = iv r ∧ ∀ a j, (a ≠ k ∨ j ≠ 3) → (am_put h k 3 (iv r)).2.2.2 a j = h.2.2.2 a j := fun r => ⟨ax_put_s _ _ _, fun a j n => ax_put_o n rfl⟩
  -- no leave binds
  have goA : (mvE h q = true ∨ mvk h q = -1) → ∀ lv : Value, ∃ h', am_ev (d + 4) 104 94 [.ref 40, .ref k, .ref s, lv, .int (mvF h q (mvb h) (mvc h)), .int (mvF h q (mvb h) (mvc h) ||| mvO h q (mvb h) (mvc h)), .null, am_ph] [] h (none, h') ∧ lkF h h' k q ∧ ∀ a, 130 ≤ a → a < h.1 → h.2.2.1 a = (0, 1, 8) → a ≠ k → ∀ j, h'.2.2.2 a j = h.2.2.2 a j := fun hb lv => by
    have eP : mvP h q = (c : Int) - 1 := by
      unfold mvP
      rw [if_pos (hb.imp id Or.inl), ec]
    obtain ⟨h', r1, r2, r3⟩ := lk_34_0 (d := d) (lv := lv) (F := mvF h q (mvb h) (mvc h)) I R m1 hq kk s1 v10 hb (S.pd kk.1) rfl rfl (puts ((c : Int) - 1)).1 (puts ((c : Int) - 1)).2 (by omega) (fun _ => eP) (fun z => by rw [ec] at z; omega)
    exact ⟨h', lo2_n S Ok kk.1 Os v6 hc nsk r1, r2, r3⟩
  by_cases hK : mvk h q = -1
  · have H87 := Y.2.2.2.1 hK
    have eO : mvO h q (mvb h) (mvc h) = Int32.ofInt 0 := if_pos hK
    obtain ⟨h', r1, r2, r3⟩ := goA (Or.inr hK) .null
    rw [eO] at r1
    by_cases hm : (gI (h.2.2.2 78 51) &&& (mvF h q (mvb h) (mvc h) ^^^ Int32.ofInt (-1))) = 0
    · exact ⟨h', lo1_n1 S Ok Os k1 k0 v9 v11 v10 H96 H93 H87 hm r1, r2, r3⟩
    · exact ⟨h', lo1_n2 S Ok Os k1 k0 v9 v11 v10 H96 H93 H87 hm r1, r2, r3⟩
  · have bk : -1 ≤ mvk h q ∧ mvk h q < 80 := bk
    obtain ⟨κ, hκ⟩ : ∃ κ : Nat, mvk h q = (κ : Int) := ⟨(mvk h q).toNat, by omega⟩
    obtain ⟨lf, y1, kl, yj, H87, H97⟩ := Y.2.2.2.2.1 κ hκ
    have Ol := ax_kO kl
    by_cases hm : (gI (h.2.2.2 78 51) &&& (mvF h q (mvb h) (mvc h) ^^^ Int32.ofInt (-1))) = 0
    · obtain ⟨h', r1, r2, r3⟩ := goA (Or.inl ((mv_E I).1 hm)) (.ref lf)
      exact ⟨h', lo1_t S Ok Os k1 k0 v9 v11 v10 H96 H93 H87 Ol H97 hm r1, r2, r3⟩
    · have nE : mvE h q = false := by
        cases z : mvE h q with
        | false => rfl
        | true => exact absurd ((mv_E I).2 z) hm
      have nlk : lf ≠ k := fun z => by
        have w := kl.2.2
        rw [z, kk.2.2] at w
        cases w
      obtain ⟨⟨w9, b9, c9⟩, -⟩ := lk_l I (κ := κ) (by omega)
      have w7 : h.2.2.2 lf 7 = iv (mvl h q) := by
        unfold mvl
        rw [hκ, Int.toNat_natCast]
        exact (yj 7 (by decide) (by decide)).trans w9
      have b7 : -1 ≤ mvl h q ∧ mvl h q ≤ 2 := by
        unfold mvl
        rw [hκ, Int.toNat_natCast]
        exact ⟨b9, c9⟩
      by_cases hle : mvl h q = -1
      · have eP : mvP h q = (c : Int) - 1 := by
          unfold mvP
          rw [if_pos (Or.inr (Or.inr hle)), ec]
        obtain ⟨h', r1, r2, r3⟩ := lk_34_1 (d := d) (lv := .ref lf) (F := mvF h q (mvb h) (mvc h)) I R m1 hq kk s1 v10 kl yj (by omega) hκ nE (S.pd kk.1) rfl rfl (puts ((c : Int) - 1)).1 (puts ((c : Int) - 1)).2 (by omega) (fun _ => eP) (fun z => by rw [ec] at z; omega)
        exact ⟨h', lo1_u S Ok Os k1 k0 v9 v11 v10 H96 H93 H87 Ol H97 hm (lo2_m S Ok kk.1 Os v6 hc nsk Ol nlk w7 b7 hle r1), r2, r3⟩
      · have nn : ¬ (mvE h q = true ∨ mvk h q = -1 ∨ mvl h q = -1) := fun z => by
          rcases z with z | z | z
          · rw [nE] at z
            cases z
          · exact hK z
          · exact hle z
        obtain ⟨h', r1, r2, r3⟩ := lk_34_1 (d := d) (lv := .ref lf) (F := mvF h q (mvb h) (mvc h)) (r := mvl h q) (g2 := am_put (am_put h k 3 (iv ((c : Int) - 1))) k 3 (iv (mvl h q))) I R m1 hq kk s1 v10 kl yj (by omega) hκ nE ((S.pd kk.1).pd kk.1) rfl rfl (ax_put_s _ _ _) (fun a j n => ax_put_o n (ax_put_o n rfl)) b7 (fun z => by
          unfold mvP
          rw [if_neg nn, if_pos z.2]) (fun z => by
          unfold mvP
          rw [if_neg nn, if_neg (by omega)])
        exact ⟨h', lo1_u S Ok Os k1 k0 v9 v11 v10 H96 H93 H87 Ol H97 hm (lo2_r S Ok kk.1 Os v6 hc nsk Ol nlk w7 b7 hle r1), r2, r3⟩
end LKB
