section
/-! RUNS READ BACKWARDS -/
def zd_pl (e : am_E) : Bool := match e.1 with
  | .ireturn | .lreturn | .areturn | .return_ | .athrow | .invokestatic _ | .invokevirtual _ | .invokespecial _ | .ldc _ | .ldc_w _ => false
  | _ => true
def zd_nz (z : Nat) : Bool := !Nat.beq z 1000 && !Nat.beq z 1001 && !Nat.beq z 1002 && !Nat.beq z 1003 && !Nat.beq z 1004 && !Nat.beq z 10 && !Nat.beq z 57
section IVR
variable {d y pc : Nat} {ls st : List Value} {h : am_H} {x : Option Value × am_H} {e : am_E}
theorem iv_step (hc : am_at y pc e) (k : zd_pl e = true) (q : am_ev d y pc ls st h x) : ∃ pc' ls' st' h', am_st e pc ls st h = some (pc', ls', st', h') ∧ am_ev d y pc' ls' st' h' x := by
  obtain ⟨n, q⟩ := q
  rcases n with _ | n
  · cases q
  rw [am_run_s] at q
  unfold am_one at q
  rw [show (bif Nat.blt y am_NM && Nat.blt pc (am_bd y) then am_code y pc else none) = some e from hc] at q
  dsimp only at q
  unfold zd_pl at k
  split at q
  · rename_i ei
    rw [ei] at k
    cases k
  · rename_i ei
    rw [ei] at k
    cases k
  · rename_i ei
    rw [ei] at k
    cases k
  · rename_i ei
    rw [ei] at k
    cases k
  · rename_i ei
    rw [ei] at k
    cases k
  · rename_i ei
    rw [ei] at k
    cases k
  · rename_i ei
    rw [ei] at k
    cases k
  · rename_i ei
    rw [ei] at k
    cases k
  · split at q
    · rename_i hs
      exact ⟨_, _, _, _, hs, n, q⟩
    · unfold am_lds at q
      split at q
      · rename_i ei
        rw [ei] at k
        cases k
      · rename_i ei
        rw [ei] at k
        cases k
      · cases q
theorem iv_call {i : Nat} (hc : am_at y pc e) (ei : e.1 = .invokevirtual i) (nz : zd_nz e.2.2.2.1 = true) (q : am_ev d y pc ls st h x) : ∃ d', d = d' + 1 ∧ am_rcv e.2.2.2.1 (st.take (am_in e.2.2.2.1).2.1).reverse h = true ∧ ∃ v h', am_ev d' e.2.2.2.1 0 (am_ent (st.take (am_in e.2.2.2.1).2.1).reverse (am_in e.2.2.2.1).2.2.1) [] h (v, h') ∧ (am_isT v = none → am_ev d y (pc + 3) ls (v.toList ++ st.drop (am_in e.2.2.2.1).2.1) h' x) := by
  obtain ⟨n, q⟩ := q
  rcases n with _ | n
  · cases q
  rw [am_run_s] at q
  unfold am_one at q
  rw [show (bif Nat.blt y am_NM && Nat.blt pc (am_bd y) then am_code y pc else none) = some e from hc] at q
  dsimp only at q
  rw [ei] at q
  have q : am_cal (am_run n) d y pc ls st h e = some x := q
  unfold zd_nz at nz
  simp only [Bool.and_eq_true, Bool.not_eq_true'] at nz
  obtain ⟨⟨⟨⟨⟨⟨n0, n1⟩, n2⟩, n3⟩, n4⟩, n5⟩, n6⟩ := nz
  unfold am_cal at q
  rw [n3, n4] at q
  have q : am_cal0 (am_run n) d y pc ls st h e = some x := q
  rcases d with _ | d'
  · unfold am_cal0 at q
    cases q
  · unfold am_cal0 at q
    dsimp only at q
    rw [n0, n1, n2, n5, n6] at q
    simp only [cond_eq_ite, Bool.false_eq_true, if_false] at q
    split at q
    · rename_i hk
      simp only [Bool.and_eq_true] at hk
      split at q
      · rename_i v h2 he
        refine ⟨d', rfl, hk.1.2, v, h2, ⟨n, he⟩, fun hv => ?_⟩
        rw [hv] at q
        exact ⟨n, q⟩
      · cases q
    · cases q
end IVR
/-! WHAT IS HIDDEN: editions -/
def hx_L : List Nat := [5, 10, 31, 36, 39, 42, 48, 51, 52, 53, 57, 63, 64, 65, 67, 68, 69, 70, 71, 73, 87, 93, 94, 96, 97, 103, 104, 105, 106, 107, 108, 109, 110, 111, 112, 113, 115, 116, 117, 118, 119, 120, 121, 122, 123, 124, 125, 126, 127, 128, 129, 130, 131, 132, 133, 134, 135, 136, 137, 138, 139, 140, 141, 142, 143, 144, 145, 146, 147, 148, 151, 152, 153, 154, 155]
def hx_S (y : Nat) : Bool := hx_L.any fun z => Nat.beq z y
def hx_L2 : List Nat := [37, 49, 66, 72]
def hx_R (y : Nat) : Bool := hx_L2.any fun z => Nat.beq z y
def hx_DL : List (Nat × Nat) := [(54, 3), (51, 4), (65, 4), (103, 5), (104, 4), (106, 6), (108, 5), (115, 6), (118, 6), (128, 7), (129, 6), (132, 6), (133, 5), (135, 6), (136, 6), (142, 6), (151, 6)]
def hx_D (y : Nat) : Nat := match hx_DL.find? (fun p => Nat.beq p.1 y) with
  | some p => p.2
  | none => 0
def hx_K (c j : Nat) : Bool := Nat.beq c 3 && Nat.ble j 2 || Nat.beq c 0 && Nat.beq j 0 || Nat.beq c 8 && Nat.beq j 0
def hx_P : zdP := (hx_S, fun z => Nat.beq z 54, hx_R, hx_K, fun c => Nat.beq c 3, hx_D)
set_option maxRecDepth 20000 in
theorem hx_all : (hx_L.all fun y => zd_all (zd_E hx_P y) y) = true := by decide +kernel
theorem hx_allR : (hx_L2.all fun y => zd_all zd_R y) = true := by decide +kernel
theorem hx_mem {L : List Nat} {y : Nat} (q : (L.any fun z => Nat.beq z y) = true) : y ∈ L := by
  obtain ⟨z, z1, z2⟩ := List.any_eq_true.1 q
  rw [← Nat.eq_of_beq_eq_true z2]
  exact z1
/-- an edition -/
def hx_ed (h : am_H) (E : Nat) : Prop := (h.2.2.1 E).1 = 0 ∧ (h.2.2.1 E).2.1 = 3
def hx_E (h : am_H) (E l : Nat) (t u : Int32) : Prop := E + 3 < h.1 ∧ ((h.2.2.1 (E + 1)).1 = 1 ∧ (h.2.2.1 (E + 1)).2.1 = 3) ∧ (h.2.2.1 (E + 2)).1 = 1 ∧ h.2.2.1 (E + 3) = (1, 0, l) ∧ h.2.2.2 E 0 = .ref (E + 1) ∧ h.2.2.2 E 1 = .ref (E + 2) ∧ h.2.2.2 E 2 = .ref (E + 3) ∧ h.2.2.2 E 3 = iv l ∧ h.2.2.2 E 4 = .int t ∧ h.2.2.2 E 5 = .int u ∧ (1 ≤ l ∧ l ≤ 30) ∧ ∃ f6 f7 : Int, h.2.2.2 E 6 = iv f6 ∧ h.2.2.2 E 7 = iv f7 ∧ (-2147483648 ≤ f6 ∧ f6 ≤ 2147483647) ∧ (-2147483648 ≤ f7 ∧ f7 ≤ 2147483647) ∧ (6 ≤ f6 → lyK h E (E + 3) l t u f6 f7)
def hx_U (h : am_H) (a : Nat) : Prop := a = 44 ∨ (54 ≤ a ∧ a ≤ 57) ∨ ∃ E, 130 ≤ E ∧ E + 3 < h.1 ∧ hx_ed h E ∧ (a = E + 1 ∨ a = E + 2 ∨ a = E + 3)
def hx_V (h : am_H) (c k : Nat) : Prop := (k = 0 → c = 53) ∧ (k = 3 → c = 54 ∨ (130 ≤ c ∧ c < h.1)) ∧ (k = 8 → c = 43)
def hx_Q (h0 h : am_H) : Prop := fS h ∧ h0.1 ≤ h.1 ∧ (∀ c, c < h0.1 → h.2.2.1 c = h0.2.2.1 c) ∧ (∀ j, h.2.2.2 44 j = h0.2.2.2 44 j) ∧ ∀ E, 130 ≤ E → E < h0.1 → hx_ed h0 E → (∀ j, j < 6 → h.2.2.2 E j = h0.2.2.2 E j) ∧ (∀ j, h.2.2.2 (E + 1) j = h0.2.2.2 (E + 1) j) ∧ (∀ j, h.2.2.2 (E + 2) j = h0.2.2.2 (E + 2) j) ∧ ∀ l t u, hx_E h0 E l t u → hx_E h E l t u
/-- all editions are well made -/
def hx_W (h : am_H) : Prop := zd_J hx_P (hx_U h) (hx_V h) h ∧ (∀ E, 130 ≤ E → E < h.1 → hx_ed h E → ∃ l t u, hx_E h E l t u) ∧ ∃ P T : Int, h.2.2.2 44 0 = iv P ∧ h.2.2.2 44 2 = iv T ∧ (6 ≤ P ∧ P ≤ 60) ∧ (0 ≤ T ∧ T ≤ 4)
section HXS
variable {h h0 h' : am_H} {d E l : Nat} {t u : Int32}
theorem hx_E_same (e : hx_E h E l t u) (n : h.1 ≤ h'.1) (s : ∀ c, c < h.1 → h'.2.2.1 c = h.2.2.1 c) (a : ∀ j, h'.2.2.2 E j = h.2.2.2 E j) (b : ∀ j, h'.2.2.2 (E + 3) j = h.2.2.2 (E + 3) j) : hx_E h' E l t u := by
  obtain ⟨e1, e2, e3, e4, e5, e6, e7, e8, e9, e10, e11, f6, f7, g6, g7, b6, b7, k⟩ := e
  refine ⟨Nat.lt_of_lt_of_le e1 n, by rw [s _ (by omega)]; exact e2, by rw [s _ (by omega)]; exact e3, by rw [s _ e1]; exact e4, (a 0).trans e5, (a 1).trans e6, (a 2).trans e7, (a 3).trans e8, (a 4).trans e9, (a 5).trans e10, e11, f6, f7, (a 6).trans g6, (a 7).trans g7, b6, b7, fun q => ?_⟩
  obtain ⟨k1, k2, k3⟩ := k q
  refine ⟨(a 6).trans k1, (a 7).trans k2, ?_⟩
  rcases k3 with ⟨z1, z2, z3⟩ | ⟨z1, z2, z3, z4⟩
  · exact Or.inl ⟨z1, (a 8).trans z2, (a 9).trans z3⟩
  · exact Or.inr ⟨z1, (a 8).trans z2, (a 9).trans z3, fun k hk => (b k).trans (z4 k hk)⟩
theorem hx_kQ (W : hx_W h0) (q : hx_Q h0 h) (A : zd_A hx_P (hx_U h0) h h') : hx_Q h0 h' := by
  obtain ⟨q1, q2, q3, q4, q5⟩ := q
  obtain ⟨a1, a2, a3, a4⟩ := A
  have lo := q1.1
  refine ⟨a4 q1, Nat.le_trans q2 a1, fun c hc => (a2 c (Nat.lt_of_lt_of_le hc q2)).trans (q3 c hc), fun j => (a3 44 j (by omega) (Or.inl (Or.inl rfl))).trans (q4 j), fun E e1 e2 e3 => ?_⟩
  obtain ⟨l0, t0, u0, e0⟩ := W.2.1 E e1 e2 e3
  obtain ⟨b1, b2, b3, b4⟩ := q5 E e1 e2 e3
  have l3 := e0.1
  have sE : h.2.2.1 E = h0.2.2.1 E := q3 E e2
  have fE : ∀ j, h'.2.2.2 E j = h.2.2.2 E j := fun j => a3 E j (by omega) (Or.inr (by rw [sE]; exact ⟨e3.1, by rw [e3.2]; rfl⟩))
  have f1 : ∀ j, h'.2.2.2 (E + 1) j = h.2.2.2 (E + 1) j := fun j => a3 _ j (by omega) (Or.inl (Or.inr (Or.inr ⟨E, e1, l3, e3, Or.inl rfl⟩)))
  have f2 : ∀ j, h'.2.2.2 (E + 2) j = h.2.2.2 (E + 2) j := fun j => a3 _ j (by omega) (Or.inl (Or.inr (Or.inr ⟨E, e1, l3, e3, Or.inr (Or.inl rfl)⟩)))
  have f3 : ∀ j, h'.2.2.2 (E + 3) j = h.2.2.2 (E + 3) j := fun j => a3 _ j (by omega) (Or.inl (Or.inr (Or.inr ⟨E, e1, l3, e3, Or.inr (Or.inr rfl)⟩)))
  exact ⟨fun j hj => (fE j).trans (b1 j hj), fun j => (f1 j).trans (b2 j), fun j => (f2 j).trans (b3 j), fun l t u e => hx_E_same (b4 l t u e) a1 a2 fE f3⟩
/-- the layout of one edition -/
theorem hx_lay (W : hx_W h0) (J : zd_J hx_P (hx_U h0) (hx_V h0) h) (q : hx_Q h0 h) (e1 : 130 ≤ E) (e2 : E < h0.1) (e3 : hx_ed h0 E) (e : hx_E h E l t u) : ∃ (H : am_H) (P T : Int), h.2.2.2 44 0 = iv P ∧ h.2.2.2 44 2 = iv T ∧ (6 ≤ P ∧ P ≤ 60) ∧ (0 ≤ T ∧ T ≤ 4) ∧ am_ev (d + 3) 54 0 (am_ent [.ref 53, .ref E, .ref 43] 8) [] h (none, H) ∧ lyV h H E (E + 3) ∧ lyK H E (E + 3) l t u P T ∧ hx_E H E l t u := by
  obtain ⟨P, T, v0, v2, bP, bT⟩ := W.2.2
  obtain ⟨q1, q2, q3, q4, q5⟩ := q
  obtain ⟨x1, x2, x3, x4, x5, x6, x7, x8, x9, x10, x11, f6, f7, g6, g7, b6, b7, k⟩ := id e
  have vP := (q4 0).trans v0
  have vT := (q4 2).trans v2
  have OE : am_isO h E 3 = true := by
    unfold am_isO
    rw [q3 E e2, e3.1, e3.2, show Nat.blt E h.1 = true from Nat.ble_eq_true_of_le (by omega)]
    rfl
  have TE : lyE h E l t u := ⟨OE, e1, x8, x9, x10⟩
  by_cases c : f6 = P ∧ f7 = T
  · have kk := k (by omega)
    rw [c.1, c.2] at kk
    exact ⟨h, P, T, vP, vT, bP, bT, ly_54t q1 TE x11 vP vT g6 g7 bP bT b6 b7 c, lyY.v ⟨q1, rfl, rfl, fun _ _ _ _ _ => rfl, lyi.rf⟩, kk, e⟩
  · obtain ⟨H, r1, r2, r3⟩ := ly_54f (d := d) q1 TE x11 vP vT g6 g7 bP bT b6 b7 x7 (show E + 3 ≠ E by omega) (by omega) x4 x1 (by omega : l ≤ l ∧ l ≤ 1000) c
    have s1 : H.1 = h.1 := r2.2.1
    have s2 : H.2.2.1 = h.2.2.1 := r2.2.2.1
    have fE : ∀ j, j < 6 → H.2.2.2 E j = h.2.2.2 E j := fun j hj => r2.2.2.2.1 E j (by omega) (by omega) (by omega) (by omega) (by omega)
    exact ⟨H, P, T, vP, vT, bP, bT, r1, r2, r3, by rw [s1]; exact x1, by rw [s2]; exact x2, by rw [s2]; exact x3, by rw [s2]; exact x4, (fE 0 (by decide)).trans x5, (fE 1 (by decide)).trans x6, (fE 2 (by decide)).trans x7, (fE 3 (by decide)).trans x8, (fE 4 (by decide)).trans x9, (fE 5 (by decide)).trans x10, x11, P, T, r3.1, r3.2.1, by omega, by omega, fun _ => r3⟩
theorem hx_aft (W : hx_W h0) (J : zd_J hx_P (hx_U h0) (hx_V h0) h) (q : hx_Q h0 h) (e1 : 130 ≤ E) (e2 : E < h0.1) (e3 : hx_ed h0 E) {H : am_H} {l0 : Nat} {t0 u0 : Int32} (e0 : hx_E h0 E l0 t0 u0) (r : lyV h H E (E + 3)) (eH : hx_E H E l0 t0 u0) : zd_J hx_P (hx_U h0) (hx_V h0) H ∧ hx_Q h0 H := by
  obtain ⟨q1, q2, q3, q4, q5⟩ := q
  obtain ⟨r1, r2, r3, r4, r5⟩ := r
  have lo := q1.1
  have x1 := e0.1
  refine ⟨⟨fun a ua => ?_, fun c hc => ?_, fun c j a hc hj e ua => ?_, fun c hl hc => ?_⟩, r1, by rw [r2]; exact q2, fun c hc => by rw [r3]; exact q3 c hc, fun j => (r4 44 j (by decide) (by decide) (by decide) (by omega) (by omega)).trans (q4 j), fun E' a1 a2 a3 => ?_⟩
  · rw [r2, r3]
    exact J.1 a ua
  · rw [r3]
    exact J.2.1 c (by rw [← r2]; exact hc)
  · rw [r3]
    rcases r5 c j with y | ⟨v, y⟩
    · exact J.2.2.1 c j a (by rw [← r2]; exact hc) (by rw [← r3]; exact hj) (y ▸ e) ua
    · rw [y] at e
      cases e
  · rw [r3]
    exact J.2.2.2 c hl (by rw [← r2]; exact hc)
  · obtain ⟨b1, b2, b3, b4⟩ := q5 E' a1 a2 a3
    obtain ⟨l', t', u', e'⟩ := W.2.1 E' a1 a2 a3
    obtain ⟨y1, y2, y3, y4, -⟩ := e'
    obtain ⟨z1, z2, z3, z4, -⟩ := e0
    have n1 : E' + 1 ≠ E ∧ E' + 2 ≠ E ∧ E' + 3 ≠ E := ⟨fun z => by rw [z, e3.1] at y2; exact absurd y2.1 (by decide), fun z => by rw [z, e3.1] at y3; exact absurd y3 (by decide), fun z => by
      have w := e3.1
      rw [← z, y4] at w
      have w : (1 : Nat) = 0 := w
      omega⟩
    have n2 : E + 1 ≠ E' ∧ E + 2 ≠ E' ∧ E + 3 ≠ E' := ⟨fun z => by rw [z, a3.1] at z2; exact absurd z2.1 (by decide), fun z => by rw [z, a3.1] at z3; exact absurd z3 (by decide), fun z => by
      have w := a3.1
      rw [← z, z4] at w
      have w : (1 : Nat) = 0 := w
      omega⟩
    have f : ∀ c j, 130 ≤ c → c ≠ E → c ≠ E + 3 → H.2.2.2 c j = h.2.2.2 c j := fun c j k1 k2 k3 => r4 c j (by omega) (by omega) (by omega) (Or.inl k2) k3
    refine ⟨fun j hj => ?_, fun j => ?_, fun j => ?_, fun l t u e => ?_⟩
    · by_cases z : E' = E
      · subst z
        exact (r4 E' j (by omega) (by omega) (by omega) (Or.inr (Or.inl hj)) (by omega)).trans (b1 j hj)
      · exact (f E' j a1 z (fun w => n2.2.2 w.symm)).trans (b1 j hj)
    · exact (f _ j (by omega) n1.1 (by omega)).trans (b2 j)
    · exact (f _ j (by omega) n1.2.1 (by omega)).trans (b3 j)
    · by_cases z : E' = E
      · subst z
        obtain ⟨w1, w2, w3, w4, w5, w6, w7, w8, w9, w10, w11, w12⟩ := e
        obtain ⟨v1, v2, v3, v4, v5, v6, v7, v8, v9, v10, v11, v12⟩ := eH
        obtain ⟨b4', -⟩ := b4 l t u ⟨w1, w2, w3, w4, w5, w6, w7, w8, w9, w10, w11, w12⟩
        have hE : ∀ j, j < 6 → H.2.2.2 E' j = h0.2.2.2 E' j := fun j hj => (r4 E' j (by omega) (by omega) (by omega) (Or.inr (Or.inl hj)) (by omega)).trans (b1 j hj)
        have k3 := (hE 3 (by decide)).trans w8
        rw [v8] at k3
        have k3 := congrArg (fun v => match v with | Value.int x => x.toInt | _ => 0) k3
        have k3 : (Int32.ofInt (l0 : Int)).toInt = (Int32.ofInt (l : Int)).toInt := k3
        rw [fx_ti (by omega), fx_ti (by omega)] at k3
        have k3 : l0 = l := by omega
        have k4 := (hE 4 (by decide)).trans w9
        rw [v9] at k4
        have k5 := (hE 5 (by decide)).trans w10
        rw [v10] at k5
        cases k4
        cases k5
        subst k3
        exact ⟨v1, v2, v3, v4, v5, v6, v7, v8, v9, v10, v11, v12⟩
      · exact hx_E_same (b4 l t u e) (by rw [r2]; exact Nat.le_refl _) (fun c _ => by rw [r3]) (fun j => f E' j a1 z (fun w => n2.2.2 w.symm)) (fun j => f _ j (by omega) n1.2.2 (by omega))
end HXS
end
section
/-! LAYOUT, READ BACKWARDS -/
section HXZ
variable {h h0 : am_H} {d : Nat} {x : Option Value × am_H} {v1 v2 : Value} {P T : Int}
theorem hx_b54 {a : Nat} (hv : ∀ c, am_isO h c 8 = true → c = 43) (S : fS h) (vP : h.2.2.2 44 0 = iv P) (vT : h.2.2.2 44 2 = iv T) (q0 : am_ev d 54 0 [.ref 53, v1, .ref a, am_ph, am_ph, am_ph, am_ph, am_ph] [] h x) : a = 43 ∧ ∃ E, v1 = .ref E ∧ am_isO h E 3 = true := by
  obtain ⟨p1, l1, s1, g1, e1, q1⟩ := iv_step (y := 54) (pc := 0) rfl rfl q0
  have e1 : some (1, [.ref 53, v1, .ref a, am_ph, am_ph, am_ph, am_ph, am_ph], [.ref a], h) = some (p1, l1, s1, g1) := e1
  cases e1
  obtain ⟨p2, l2, s2, g2, e2, q2⟩ := iv_step (y := 54) (pc := 1) rfl rfl q1
  have e2 : some (2, [.ref 53, v1, .ref a, am_ph, am_ph, am_ph, am_ph, am_ph], [iv 0, .ref a], h) = some (p2, l2, s2, g2) := e2
  cases e2
  obtain ⟨d1, hd1, rc1, w1, y1, ev1, nx1⟩ := iv_call (y := 54) (pc := 2) rfl rfl rfl q2
  have rc1 : am_isO h a 8 = true := rc1
  have ea := hv a rc1
  subst ea
  have r1 := ax_det ev1 (ru_37a (d := d1) (i := 0) S (by omega) vP)
  have r1a : w1 = some (iv P) := congrArg Prod.fst r1
  have r1b : y1 = h := congrArg Prod.snd r1
  subst r1a r1b
  have q2 : am_ev d 54 5 [.ref 53, v1, .ref 43, am_ph, am_ph, am_ph, am_ph, am_ph] [iv P] y1 x := nx1 rfl
  obtain ⟨p3, l3, s3, g3, e3, q3⟩ := iv_step (y := 54) (pc := 5) rfl rfl q2
  have e3 : some (6, [.ref 53, v1, .ref 43, iv P, am_ph, am_ph, am_ph, am_ph], [], y1) = some (p3, l3, s3, g3) := e3
  cases e3
  obtain ⟨p4, l4, s4, g4, e4, q4⟩ := iv_step (y := 54) (pc := 6) rfl rfl q3
  have e4 : some (7, [.ref 53, v1, .ref 43, iv P, am_ph, am_ph, am_ph, am_ph], [.ref 43], y1) = some (p4, l4, s4, g4) := e4
  cases e4
  obtain ⟨p5, l5, s5, g5, e5, q5⟩ := iv_step (y := 54) (pc := 7) rfl rfl q4
  have e5 : some (8, [.ref 53, v1, .ref 43, iv P, am_ph, am_ph, am_ph, am_ph], [iv 2, .ref 43], y1) = some (p5, l5, s5, g5) := e5
  cases e5
  obtain ⟨d2, hd2, rc2, w2, y2, ev2, nx2⟩ := iv_call (y := 54) (pc := 8) rfl rfl rfl q5
  have r2 := ax_det ev2 (ru_37a (d := d2) (i := 2) S (by omega) vT)
  have r2a : w2 = some (iv T) := congrArg Prod.fst r2
  have r2b : y2 = y1 := congrArg Prod.snd r2
  subst r2a r2b
  have q5 : am_ev d 54 11 [.ref 53, v1, .ref 43, iv P, am_ph, am_ph, am_ph, am_ph] [iv T] y2 x := nx2 rfl
  obtain ⟨p6, l6, s6, g6, e6, q6⟩ := iv_step (y := 54) (pc := 11) rfl rfl q5
  have e6 : some (13, [.ref 53, v1, .ref 43, iv P, iv T, am_ph, am_ph, am_ph], [], y2) = some (p6, l6, s6, g6) := e6
  cases e6
  cases v1 with
  | ref E =>
    obtain ⟨p7, l7, s7, g7, e7, q7⟩ := iv_step (y := 54) (pc := 13) rfl rfl q6
    have e7 : some (14, [.ref 53, .ref E, .ref 43, iv P, iv T, am_ph, am_ph, am_ph], [.ref E], y2) = some (p7, l7, s7, g7) := e7
    cases e7
    obtain ⟨p8, l8, s8, g8, e8, q8⟩ := iv_step (y := 54) (pc := 14) rfl rfl q7
    have e8 : some (15, [.ref 53, .ref E, .ref 43, iv P, iv T, am_ph, am_ph, am_ph], [iv P, .ref E], y2) = some (p8, l8, s8, g8) := e8
    cases e8
    obtain ⟨p9, l9, s9, g9, e9, q9⟩ := iv_step (y := 54) (pc := 15) rfl rfl q8
    have e9 : some (17, [.ref 53, .ref E, .ref 43, iv P, iv T, am_ph, am_ph, am_ph], [iv T, iv P, .ref E], y2) = some (p9, l9, s9, g9) := e9
    cases e9
    obtain ⟨d3, hd3, rc3, w3, y3, ev3, nx3⟩ := iv_call (y := 54) (pc := 17) rfl rfl rfl q9
    exact ⟨rfl, E, rfl, rc3⟩
  | null =>
    obtain ⟨p7, l7, s7, g7, e7, q7⟩ := iv_step (y := 54) (pc := 13) rfl rfl q6
    have e7 : some (14, [.ref 53, .null, .ref 43, iv P, iv T, am_ph, am_ph, am_ph], [.null], y2) = some (p7, l7, s7, g7) := e7
    cases e7
    obtain ⟨p8, l8, s8, g8, e8, q8⟩ := iv_step (y := 54) (pc := 14) rfl rfl q7
    have e8 : some (15, [.ref 53, .null, .ref 43, iv P, iv T, am_ph, am_ph, am_ph], [iv P, .null], y2) = some (p8, l8, s8, g8) := e8
    cases e8
    obtain ⟨p9, l9, s9, g9, e9, q9⟩ := iv_step (y := 54) (pc := 15) rfl rfl q8
    have e9 : some (17, [.ref 53, .null, .ref 43, iv P, iv T, am_ph, am_ph, am_ph], [iv T, iv P, .null], y2) = some (p9, l9, s9, g9) := e9
    cases e9
    obtain ⟨d3, hd3, rc3, w3, y3, ev3, nx3⟩ := iv_call (y := 54) (pc := 17) rfl rfl rfl q9
    have rc3 : false = true := rc3
    cases rc3
  | int u =>
    obtain ⟨p0, l0, s0, g0, e0, -⟩ := iv_step (y := 54) (pc := 13) rfl rfl q6
    have e0 : (none : am_R) = some (p0, l0, s0, g0) := e0
    cases e0
  | long u =>
    obtain ⟨p0, l0, s0, g0, e0, -⟩ := iv_step (y := 54) (pc := 13) rfl rfl q6
    have e0 : (none : am_R) = some (p0, l0, s0, g0) := e0
    cases e0
  | float u =>
    obtain ⟨p0, l0, s0, g0, e0, -⟩ := iv_step (y := 54) (pc := 13) rfl rfl q6
    have e0 : (none : am_R) = some (p0, l0, s0, g0) := e0
    cases e0
  | double u =>
    obtain ⟨p0, l0, s0, g0, e0, -⟩ := iv_step (y := 54) (pc := 13) rfl rfl q6
    have e0 : (none : am_R) = some (p0, l0, s0, g0) := e0
    cases e0
  | retAddr u =>
    obtain ⟨p0, l0, s0, g0, e0, -⟩ := iv_step (y := 54) (pc := 13) rfl rfl q6
    have e0 : (none : am_R) = some (p0, l0, s0, g0) := e0
    cases e0
def hx_ir (v : Value) : Bool := match v with
  | .ref _ => true
  | .null => true
  | _ => false
theorem hx_nA {w0 w1 w2 : Value} {r : List Value} (n : hx_ir w2 = false) (q : am_ev d 54 0 (w0 :: w1 :: w2 :: r) [] h x) : False := by
  obtain ⟨p0, l0, s0, g0, e0, -⟩ := iv_step (y := 54) (pc := 0) rfl rfl q
  cases w2 with
  | ref a => cases n
  | null => cases n
  | int u =>
    have e0 : (none : am_R) = some (p0, l0, s0, g0) := e0
    cases e0
  | long u =>
    have e0 : (none : am_R) = some (p0, l0, s0, g0) := e0
    cases e0
  | float u =>
    have e0 : (none : am_R) = some (p0, l0, s0, g0) := e0
    cases e0
  | double u =>
    have e0 : (none : am_R) = some (p0, l0, s0, g0) := e0
    cases e0
  | retAddr u =>
    have e0 : (none : am_R) = some (p0, l0, s0, g0) := e0
    cases e0
theorem hx_nB {w0 w1 : Value} {r : List Value} (q : am_ev d 54 0 (w0 :: w1 :: .null :: r) [] h x) : False := by
  obtain ⟨p0, l0, s0, g0, e0, q0⟩ := iv_step (y := 54) (pc := 0) rfl rfl q
  have e0 : some (1, w0 :: w1 :: .null :: r, [.null], h) = some (p0, l0, s0, g0) := e0
  cases e0
  obtain ⟨p1, l1, s1, g1, e1, q1⟩ := iv_step (y := 54) (pc := 1) rfl rfl q0
  have e1 : some (2, w0 :: w1 :: .null :: r, [iv 0, .null], h) = some (p1, l1, s1, g1) := e1
  cases e1
  obtain ⟨d1, hd1, rc1, -⟩ := iv_call (y := 54) (pc := 2) rfl rfl rfl q1
  have rc1 : false = true := rc1
  cases rc1
theorem hx_c54 {v1 v2 : Value} (q : am_ev d 54 0 (am_ent [.ref 53, v1, v2] 8) [] h x) : ∃ a, v2 = .ref a ∧ am_ent [.ref 53, v1, v2] 8 = [.ref 53, v1, .ref a, am_ph, am_ph, am_ph, am_ph, am_ph] := by
  cases v1 <;> cases v2 <;> first
    | exact ⟨_, rfl, rfl⟩
    | exact (hx_nB q).elim
    | exact (hx_nA rfl q).elim
theorem hx_kZ (W : hx_W h0) : ∀ z, hx_P.Z z = true → ∀ n d as h x, hx_P.D z ≤ d → zd_J hx_P (hx_U h0) (hx_V h0) h → hx_Q h0 h → nhL (hx_U h0) as → as.length = (am_in z).2.1 → am_rcv z as h = true → am_run n d z 0 (am_ent as (am_in z).2.2.1) [] h = some x → zd_X hx_P (hx_U h0) (hx_V h0) (hx_Q h0) x := by
  intro z hz n d as h x hd J q nh len rc run
  have ez : z = 54 := Nat.eq_of_beq_eq_true hz
  subst ez
  have hd : 3 ≤ d := hd
  have len : as.length = 3 := len
  rcases as with _ | ⟨v0, _ | ⟨v1, _ | ⟨v2, _ | ⟨v3, as⟩⟩⟩⟩
  · cases len
  · cases len
  · cases len
  · cases v0 with
    | ref k =>
      have rc : am_isO h k 0 = true := rc
      have ok := zd_O rc
      have ek : k = 53 := (J.2.1 k ok.1 ok.2.1 (Or.inl ok.2.2)).1 ok.2.2
      subst ek
      have run : am_ev d 54 0 (am_ent [.ref 53, v1, v2] 8) [] h x := ⟨n, run⟩
      obtain ⟨a, rfl, ea⟩ := hx_c54 run
      obtain ⟨P, T, w0, w2, -, -⟩ := W.2.2
      have run2 := run
      rw [ea] at run2
      obtain ⟨ea2, E, rfl, oE⟩ := hx_b54 (fun c oc => by
        have o := zd_O oc
        exact (J.2.1 c o.1 o.2.1 (Or.inr (Or.inr o.2.2))).2.2 o.2.2) q.1 ((q.2.2.2.1 0).trans w0) ((q.2.2.2.1 2).trans w2) run2
      subst ea2
      have o := zd_O oE
      have vE := (J.2.1 E o.1 o.2.1 (Or.inr (Or.inl o.2.2))).2.1 o.2.2
      have n54 : E ≠ 54 := fun e => by
        have u : hx_U h0 E := Or.inr (Or.inl (by rw [e]; decide))
        exact nh (.ref E) (List.mem_cons_of_mem _ (List.mem_cons_self ..)) E rfl u
      have hE : 130 ≤ E ∧ E < h0.1 := by
        rcases vE with e | e
        · exact absurd e n54
        · exact e
      have ed : hx_ed h0 E := by
        have s := q.2.2.1 E hE.2
        exact ⟨by rw [← s]; exact o.2.1, by rw [← s]; exact o.2.2⟩
      obtain ⟨l, t, u, e0⟩ := W.2.1 E hE.1 hE.2 ed
      have e1 := (q.2.2.2.2 E hE.1 hE.2 ed).2.2.2 l t u e0
      obtain ⟨d', rfl⟩ : ∃ d', d = d' + 3 := ⟨d - 3, by omega⟩
      obtain ⟨H, P', T', -, -, -, -, ev, V, -, eH⟩ := hx_lay (d := d') W J q hE.1 hE.2 ed e1
      have z := ax_det run ev
      subst z
      obtain ⟨J2, Q2⟩ := hx_aft W J q hE.1 hE.2 ed e0 V eH
      exact ⟨J2, Q2, fun v z => by cases z⟩
    | null => cases rc
    | int u => cases rc
    | long u => cases rc
    | float u => cases rc
    | double u => cases rc
    | retAddr u => cases rc
  · have len : as.length + 4 = 3 := len
    omega
theorem hx_K0 (W : hx_W h0) : zd_K hx_P (hx_U h0) (hx_V h0) (hx_Q h0) := ⟨fun y hy pc e hp he => zd_all_ok (List.all_eq_true.1 hx_all y (hx_mem hy)) hp he, fun y hy pc e hp he => zd_all_ok (List.all_eq_true.1 hx_allR y (hx_mem hy)) hp he, rfl, fun j => by cases j <;> rfl, fun a b _ q _ A => hx_kQ W q A, hx_kZ W⟩
end HXZ
/-! WHAT A CALL THAT LAYS OUT LEAVES -/
section HXW
variable {h : am_H} {d y mx : Nat} {x : Option Value × am_H} {as : List Value}
theorem hx_Q0 (S : fS h) : hx_Q h h := ⟨S, Nat.le_refl _, fun _ _ => rfl, fun _ => rfl, fun _ _ _ _ => ⟨fun _ _ => rfl, fun _ => rfl, fun _ => rfl, fun _ _ _ e => e⟩⟩
theorem hx_Wt {H : am_H} (W : hx_W h) (J : zd_J hx_P (hx_U h) (hx_V h) H) (q : hx_Q h H) : hx_W H := by
  obtain ⟨q1, q2, q3, q4, q5⟩ := q
  have old : ∀ E, E < H.1 → 130 ≤ E → hx_ed H E → E < h.1 ∧ hx_ed h E := fun E a b e => by
    have v := (J.2.1 E a e.1 (Or.inr (Or.inl e.2))).2.1 e.2
    have lt : E < h.1 := by
      rcases v with v | v
      · omega
      · exact v.2
    exact ⟨lt, by rw [← q3 E lt]; exact e.1, by rw [← q3 E lt]; exact e.2⟩
  have tr : ∀ a, hx_U H a → hx_U h a := fun a u => by
    rcases u with u | u | ⟨E, u1, u2, u3, u4⟩
    · exact Or.inl u
    · exact Or.inr (Or.inl u)
    · obtain ⟨k1, k2⟩ := old E (by omega) u1 u3
      obtain ⟨l, t, w, e⟩ := W.2.1 E u1 k1 k2
      exact Or.inr (Or.inr ⟨E, u1, e.1, k2, u4⟩)
  refine ⟨⟨fun a u => J.1 a (tr a u), fun c hc k0 kk => ?_, fun c j a hc hj e u => J.2.2.1 c j a hc hj e (tr a u), J.2.2.2⟩, fun E e1 e2 e3 => ?_, ?_⟩
  · have v := J.2.1 c hc k0 kk
    refine ⟨v.1, fun k3 => ?_, v.2.2⟩
    rcases v.2.1 k3 with w | w
    · exact Or.inl w
    · exact Or.inr ⟨w.1, hc⟩
  · obtain ⟨k1, k2⟩ := old E e2 e1 e3
    obtain ⟨l, t, u, e⟩ := W.2.1 E e1 k1 k2
    exact ⟨l, t, u, (q5 E e1 k1 k2).2.2.2 l t u e⟩
  · obtain ⟨P, T, a, b, c⟩ := W.2.2
    exact ⟨P, T, (q4 0).trans a, (q4 2).trans b, c⟩
theorem hx_go (W : hx_W h) (S : fS h) (hy : hx_S y = true) (hd : hx_D y ≤ d) (n : nhL (hx_U h) as) (ev : am_ev d y 0 (am_ent as mx) [] h x) : hx_W x.2 ∧ hx_Q h x.2 ∧ ∀ v, x.1 = some v → nh (hx_U h) v := by
  obtain ⟨k, ev⟩ := ev
  obtain ⟨J, q, r⟩ := zd_run (hx_K0 W) k d y 0 _ [] h x ev hy hd W.1 (hx_Q0 S) (nhL_ent n) nhL_0
  exact ⟨hx_Wt W J q, q, r⟩
end HXW
end
section
/-! WHAT IS HIDDEN: the other calls -/
def hy_L : List Nat := [4, 5, 6, 10, 14, 15, 16, 17, 18, 19, 20, 21, 22, 23, 24, 25, 26, 27, 28, 29, 30, 31, 32, 33, 34, 35, 36, 37, 38, 39, 40, 41, 42, 74, 75, 76, 77, 78, 79, 80, 81, 82, 83, 84, 85, 86, 87, 88, 89, 90, 91, 92, 93, 94, 95, 96, 97, 98, 99, 100, 101, 102, 114, 149, 150, 156, 157, 158, 159, 160]
def hy_S (y : Nat) : Bool := hy_L.any fun z => Nat.beq z y
def hy_L2 : List Nat := [49, 66, 72]
def hy_R (y : Nat) : Bool := hy_L2.any fun z => Nat.beq z y
def hy_P : zdP := (hy_S, fun _ => false, hy_R, fun c j => Nat.beq c 3 && Nat.ble j 2 || Nat.beq c 0 && Nat.beq j 0, fun c => Nat.beq c 3, fun _ => 0)
def hz_L : List Nat := [10, 14, 15, 16, 17, 20, 21, 22, 23, 24, 26, 28, 29, 30, 31, 32, 34, 35, 36, 38, 39, 40, 41, 42, 74, 75, 76, 77, 78, 79, 80, 81, 82, 83, 84, 85, 86, 87, 88, 89, 90, 91, 92, 93, 94, 95, 96, 97, 98, 99, 100, 101, 102, 114, 149, 150, 156, 157, 158, 159, 160]
def hz_S (y : Nat) : Bool := hz_L.any fun z => Nat.beq z y
def hz_R (y : Nat) : Bool := Nat.beq y 37
def hz_P : zdP := (hz_S, fun _ => false, hz_R, fun c j => Nat.beq c 8 && Nat.beq j 0, fun _ => false, fun _ => 0)
def hw_L : List Nat := [4, 5, 18, 19, 20, 21, 22, 23, 24, 25, 26, 27, 28, 29, 30, 31, 32, 33]
def hw_S (y : Nat) : Bool := hw_L.any fun z => Nat.beq z y
def hw_P : zdP := (hw_S, fun z => Nat.beq z 6, hz_R, fun c j => Nat.beq c 8 && Nat.beq j 0, fun _ => false, fun _ => 0)
set_option maxRecDepth 20000 in
theorem hy_all : (hy_L.all fun y => zd_all (zd_E hy_P y) y) = true := by decide +kernel
set_option maxRecDepth 20000 in
theorem hz_all : (hz_L.all fun y => zd_all (zd_E hz_P y) y) = true := by decide +kernel
theorem hw_all : (hw_L.all fun y => zd_all (zd_E hw_P y) y) = true := by decide +kernel
/-- the editions' rows alone -/
def hy_U (h : am_H) (a : Nat) : Prop := (54 ≤ a ∧ a ≤ 57) ∨ ∃ E, 130 ≤ E ∧ E + 3 < h.1 ∧ hx_ed h E ∧ (a = E + 1 ∨ a = E + 2 ∨ a = E + 3)
def hy_Q (h0 h : am_H) : Prop := fS h ∧ h0.1 ≤ h.1 ∧ (∀ c, c < h0.1 → h.2.2.1 c = h0.2.2.1 c) ∧ ∀ E, 130 ≤ E → E < h0.1 → hx_ed h0 E → ∀ j, h.2.2.2 E j = h0.2.2.2 E j ∧ h.2.2.2 (E + 1) j = h0.2.2.2 (E + 1) j ∧ h.2.2.2 (E + 2) j = h0.2.2.2 (E + 2) j ∧ h.2.2.2 (E + 3) j = h0.2.2.2 (E + 3) j
section HYS
variable {h h0 h' : am_H}
theorem hy_kQ (W : hx_W h0) (q : hy_Q h0 h) (A : zd_A hy_P (hy_U h0) h h') : hy_Q h0 h' := by
  obtain ⟨q1, q2, q3, q5⟩ := q
  obtain ⟨a1, a2, a3, a4⟩ := A
  refine ⟨a4 q1, Nat.le_trans q2 a1, fun c hc => (a2 c (Nat.lt_of_lt_of_le hc q2)).trans (q3 c hc), fun E e1 e2 e3 j => ?_⟩
  obtain ⟨l0, t0, u0, e0⟩ := W.2.1 E e1 e2 e3
  obtain ⟨b1, b2, b3, b4⟩ := q5 E e1 e2 e3 j
  have l3 := e0.1
  have sE : h.2.2.1 E = h0.2.2.1 E := q3 E e2
  exact ⟨(a3 E j (by omega) (Or.inr (by rw [sE]; exact ⟨e3.1, by rw [e3.2]; rfl⟩))).trans b1, (a3 _ j (by omega) (Or.inl (Or.inr ⟨E, e1, l3, e3, Or.inl rfl⟩))).trans b2, (a3 _ j (by omega) (Or.inl (Or.inr ⟨E, e1, l3, e3, Or.inr (Or.inl rfl)⟩))).trans b3, (a3 _ j (by omega) (Or.inl (Or.inr ⟨E, e1, l3, e3, Or.inr (Or.inr rfl)⟩))).trans b4⟩
theorem hy_fx {c j k : Nat} (S : fS h) (q : (Nat.ble 40 c && Nat.blt c 130 && Nat.blt j (cq_fix c).2.2 && decide (cq_ty c j = (3, 0, 0, k, 0, 0))) = true) : h.2.2.2 c j = .ref k := by
  simp only [Bool.and_eq_true] at q
  exact S.2.2.2 c j k (Nat.le_of_ble_eq_true q.1.1.1) (Nat.le_of_ble_eq_true q.1.1.2) (Nat.le_of_ble_eq_true q.1.2) (of_decide_eq_true q.2)
theorem hy_J (W : hx_W h) (S : fS h) : zd_J hy_P (hy_U h) (hx_V h) h := by
  refine ⟨fun a u => W.1.1 a (Or.inr u), W.1.2.1, fun c j a hc hj e u => ?_, W.1.2.2.2⟩
  obtain ⟨z, k⟩ := W.1.2.2.1 c j a hc hj e (Or.inr u)
  refine ⟨z, ?_⟩
  have k : (Nat.beq (h.2.2.1 c).2.1 3 && Nat.ble j 2 || Nat.beq (h.2.2.1 c).2.1 0 && Nat.beq j 0 || Nat.beq (h.2.2.1 c).2.1 8 && Nat.beq j 0) = true := k
  show (Nat.beq (h.2.2.1 c).2.1 3 && Nat.ble j 2 || Nat.beq (h.2.2.1 c).2.1 0 && Nat.beq j 0) = true
  cases y : (Nat.beq (h.2.2.1 c).2.1 3 && Nat.ble j 2 || Nat.beq (h.2.2.1 c).2.1 0 && Nat.beq j 0) with
  | true => rfl
  | false =>
    rw [y] at k
    have k : (Nat.beq (h.2.2.1 c).2.1 8 && Nat.beq j 0) = true := k
    have k := (Bool.and_eq_true _ _ ▸ k)
    have k8 := Nat.eq_of_beq_eq_true k.1
    have j0 := Nat.eq_of_beq_eq_true k.2
    have ec := (W.1.2.1 c hc z (Or.inr (Or.inr k8))).2.2 k8
    subst ec j0
    rw [hy_fx (k := 44) S (by decide +kernel)] at e
    cases e
    rcases u with u | ⟨E, u1, -, -, u4⟩
    · omega
    · omega
theorem hz_J (W : hx_W h) (S : fS h) : zd_J hz_P (fun a => a = 44) (hx_V h) h := by
  refine ⟨fun a u => ?_, W.1.2.1, fun c j a hc hj e u => ?_, W.1.2.2.2⟩
  · subst u
    have s : h.2.2.1 44 = cq_fix 44 := S.2.1 44 (by decide) (by decide)
    have lo := S.1
    refine ⟨by decide, by omega, Or.inl ?_⟩
    rw [s]
    decide +kernel
  · subst u
    obtain ⟨z, k⟩ := W.1.2.2.1 c j 44 hc hj e (Or.inl rfl)
    refine ⟨z, ?_⟩
    have k : (Nat.beq (h.2.2.1 c).2.1 3 && Nat.ble j 2 || Nat.beq (h.2.2.1 c).2.1 0 && Nat.beq j 0 || Nat.beq (h.2.2.1 c).2.1 8 && Nat.beq j 0) = true := k
    show (Nat.beq (h.2.2.1 c).2.1 8 && Nat.beq j 0) = true
    simp only [Bool.or_eq_true, Bool.and_eq_true] at k
    rcases k with (⟨k1, k2⟩ | ⟨k1, k2⟩) | k
    · exfalso
      have k3 := Nat.eq_of_beq_eq_true k1
      have k2 := Nat.le_of_ble_eq_true k2
      have v := (W.1.2.1 c hc z (Or.inr (Or.inl k3))).2.1 k3
      have hj3 : j = 0 ∨ j = 1 ∨ j = 2 := by omega
      rcases v with v | ⟨v1, v2⟩
      · subst v
        rcases hj3 with rfl | rfl | rfl
        · rw [hy_fx (k := 55) S (by decide +kernel)] at e
          cases e
        · rw [hy_fx (k := 56) S (by decide +kernel)] at e
          cases e
        · rw [hy_fx (k := 57) S (by decide +kernel)] at e
          cases e
      · obtain ⟨l, t, u, -, -, -, -, f0, f1, f2, -⟩ := W.2.1 c v1 v2 ⟨z, k3⟩
        rcases hj3 with rfl | rfl | rfl
        · rw [f0] at e
          have e : c + 1 = (44 : Nat) := Value.ref.inj e
          omega
        · rw [f1] at e
          have e : c + 2 = (44 : Nat) := Value.ref.inj e
          omega
        · rw [f2] at e
          have e : c + 3 = (44 : Nat) := Value.ref.inj e
          omega
    · exfalso
      have k3 := Nat.eq_of_beq_eq_true k1
      have j0 := Nat.eq_of_beq_eq_true k2
      have ec := (W.1.2.1 c hc z (Or.inl k3)).1 k3
      subst ec j0
      rw [hy_fx (k := 54) S (by decide +kernel)] at e
      cases e
    · rw [k.1, k.2]
      rfl
theorem hy_mem {L : List Nat} {y : Nat} {c : am_E → Bool} {f : Nat → am_E → Bool} (q : (L.all fun y => zd_all (f y) y) = true) (hy : (L.any fun z => Nat.beq z y) = true) : ∀ pc e, pc < am_bd y → am_code y pc = some e → f y e = true := fun pc e hp he => zd_all_ok (List.all_eq_true.1 q y (hx_mem hy)) hp he
theorem hy_K0 (W : hx_W h0) : zd_K hy_P (hy_U h0) (hx_V h0) (hy_Q h0) := ⟨fun y hy => hy_mem (c := fun _ => true) (f := fun y => zd_E hy_P y) hy_all hy, fun y hy pc e hp he => zd_all_ok (List.all_eq_true.1 hx_allR y (hx_mem (show hx_R y = true from by
    have m : y ∈ hy_L2 := hx_mem hy
    have m : y = 49 ∨ y = 66 ∨ y = 72 := by simpa [hy_L2] using m
    rcases m with rfl | rfl | rfl <;> rfl))) hp he, rfl, fun j => by cases j <;> rfl, fun a b _ q _ A => hy_kQ W q A, fun z hz => by cases hz⟩
theorem hz_K0 : zd_K hz_P (fun a => a = 44) (hx_V h0) (fun _ => True) := ⟨fun y hy => hy_mem (c := fun _ => true) (f := fun y => zd_E hz_P y) hz_all hy, fun y hy pc e hp he => zd_all_ok (List.all_eq_true.1 hx_allR y (hx_mem (show hx_R y = true from by
    have m : y = 37 := Nat.eq_of_beq_eq_true hy
    subst m
    rfl))) hp he, rfl, fun j => by cases j <;> rfl, fun _ _ _ _ _ _ => trivial, fun z hz => by cases hz⟩
/-- both together -/
theorem hy_W {H : am_H} (W : hx_W h) (J1 : zd_J hy_P (hy_U h) (hx_V h) H) (J2 : zd_J hz_P (fun a => a = 44) (hx_V h) H) : zd_J hx_P (hx_U h) (hx_V h) H := by
  refine ⟨fun a u => ?_, J1.2.1, fun c j a hc hj e u => ?_, J1.2.2.2⟩
  · rcases u with u | u
    · obtain ⟨x1, x2, x3⟩ := J2.1 a u
      refine ⟨x1, x2, ?_⟩
      rcases x3 with x3 | ⟨-, x3⟩
      · exact Or.inl x3
      · cases x3
    · exact J1.1 a u
  · rcases u with u | u
    · obtain ⟨z, k⟩ := J2.2.2.1 c j a hc hj e u
      refine ⟨z, ?_⟩
      have k : (Nat.beq (H.2.2.1 c).2.1 8 && Nat.beq j 0) = true := k
      show (Nat.beq (H.2.2.1 c).2.1 3 && Nat.ble j 2 || Nat.beq (H.2.2.1 c).2.1 0 && Nat.beq j 0 || Nat.beq (H.2.2.1 c).2.1 8 && Nat.beq j 0) = true
      rw [k, Bool.or_true]
    · obtain ⟨z, k⟩ := J1.2.2.1 c j a hc hj e u
      refine ⟨z, ?_⟩
      have k : (Nat.beq (H.2.2.1 c).2.1 3 && Nat.ble j 2 || Nat.beq (H.2.2.1 c).2.1 0 && Nat.beq j 0) = true := k
      show (Nat.beq (H.2.2.1 c).2.1 3 && Nat.ble j 2 || Nat.beq (H.2.2.1 c).2.1 0 && Nat.beq j 0 || Nat.beq (H.2.2.1 c).2.1 8 && Nat.beq j 0) = true
      rw [k, Bool.true_or]
theorem hy_E {H : am_H} {E : Nat} (W : hx_W h) (q : hy_Q h H) (e1 : 130 ≤ E) (e2 : E < h.1) (e3 : hx_ed h E) {l : Nat} {t u : Int32} (e : hx_E h E l t u) : hx_E H E l t u := hx_E_same e q.2.1 q.2.2.1 (fun j => (q.2.2.2 E e1 e2 e3 j).1) (fun j => (q.2.2.2 E e1 e2 e3 j).2.2.2)
/-- behind a call that lays out nothing -/
theorem hy_go {d y mx : Nat} {x : Option Value × am_H} {as : List Value} (W : hx_W h) (S : fS h) (hy : hy_S y = true) (hz : hz_S y = true) (n : ∀ v ∈ as, ∀ a : Nat, v = .ref a → a = 40) (ev : am_ev d y 0 (am_ent as mx) [] h x) (r : ∃ P T : Int, x.2.2.2.2 44 0 = iv P ∧ x.2.2.2.2 44 2 = iv T ∧ (6 ≤ P ∧ P ≤ 60) ∧ (0 ≤ T ∧ T ≤ 4)) : hx_W x.2 ∧ hy_Q h x.2 := by
  obtain ⟨k, ev⟩ := ev
  have n1 : nhL (hy_U h) as := fun v hv a e u => by
    have ea : @Eq Nat a 40 := n v hv a e
    rcases u with u | ⟨E, u1, -, -, u4⟩
    · omega
    · omega
  have n2 : nhL (fun a => a = 44) as := fun v hv a e u => by
    have ea : @Eq Nat a 40 := n v hv a e
    omega
  obtain ⟨J1, q, -⟩ := zd_run (hy_K0 W) k d y 0 _ [] h x ev hy (Nat.zero_le _) (hy_J W S) ⟨S, Nat.le_refl _, fun _ _ => rfl, fun _ _ _ _ _ => ⟨rfl, rfl, rfl, rfl⟩⟩ (nhL_ent n1) nhL_0
  obtain ⟨J2, -, -⟩ := zd_run (hz_K0 (h0 := h)) k d y 0 _ [] h x ev hz (Nat.zero_le _) (hz_J W S) trivial (nhL_ent n2) nhL_0
  have J := hy_W W J1 J2
  have old : ∀ E, E < x.2.1 → 130 ≤ E → hx_ed x.2 E → E < h.1 ∧ hx_ed h E := fun E a b e => by
    have v := (J.2.1 E a e.1 (Or.inr (Or.inl e.2))).2.1 e.2
    have lt : E < h.1 := by
      rcases v with v | v
      · omega
      · exact v.2
    exact ⟨lt, by rw [← q.2.2.1 E lt]; exact e.1, by rw [← q.2.2.1 E lt]; exact e.2⟩
  have tr : ∀ a, hx_U x.2 a → hx_U h a := fun a u => by
    rcases u with u | u | ⟨E, u1, u2, u3, u4⟩
    · exact Or.inl u
    · exact Or.inr (Or.inl u)
    · obtain ⟨k1, k2⟩ := old E (by omega) u1 u3
      obtain ⟨l, t, w, e⟩ := W.2.1 E u1 k1 k2
      exact Or.inr (Or.inr ⟨E, u1, e.1, k2, u4⟩)
  refine ⟨⟨⟨fun a u => J.1 a (tr a u), fun c hc k0 kk => ?_, fun c j a hc hj e u => J.2.2.1 c j a hc hj e (tr a u), J.2.2.2⟩, fun E e1 e2 e3 => ?_, r⟩, q⟩
  · have v := J.2.1 c hc k0 kk
    refine ⟨v.1, fun k3 => ?_, v.2.2⟩
    rcases v.2.1 k3 with w | w
    · exact Or.inl w
    · exact Or.inr ⟨w.1, hc⟩
  · obtain ⟨k1, k2⟩ := old E e2 e1 e3
    obtain ⟨l, t, u, e⟩ := W.2.1 E e1 k1 k2
    exact ⟨l, t, u, hy_E W q e1 k1 k2 e⟩
end HYS
end
