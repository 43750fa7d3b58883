/-! ORDER, the model's row -/
section ORM3
variable {h g G : am_H} {d n K W : Nat} {S0 : Int32} {M : Nat → Nat} {x3 x4 x5 x6 x7 x8 : Value} {st : Nat → Nat → Bool} {w : Nat → Nat → Int} {tot : Int}
theorem om_D (X : oX h n K M g) (hn : n ≤ 14) (hK : K ≤ 10) (bW : W < 1024) (hw : ∀ a b, 0 ≤ w a b ∧ w a b ≤ 2100) (est : ∀ a b, a < K → b < K → st a b = stN h (M a) (M b) ∧ w a b = stS h (M a) (M b)) {part : Nat} (hp : part ≤ W) : ∀ (m f : Nat) (G : am_H) (x6 x7 x8 : Value), f + m = K → oE (fun c => c = 124) g G → oTM st w K W G part f → ∃ (G' : am_H) (y6 y7 y8 : Value), (∀ x, am_ev (d + 10) 239 115 [.ref 78, .int S0, iv K, iv W, iv ((part + 1 : Nat) : Int), iv K, y6, y7, y8] [] G' x → am_ev (d + 10) 239 124 [.ref 78, .int S0, iv K, iv W, iv part, iv f, x6, x7, x8] [] G x) ∧ oE (fun c => c = 124) g G' ∧ oTM st w K W G' (part + 1) 0 := fun m => by
  induction m with
  | zero =>
    intro f G x6 x7 x8 hf E Q
    have ef : f = K := hf
    subst ef
    exact ⟨G, x6, x7, x8, fun x r => or_239n E.1 hK bW hp rfl r, E, fun p f' a b c o => Q p f' a b c (by omega)⟩
  | succ m ih =>
    intro f G x6 x7 x8 hf E Q
    have XG : oX h n K M G := X.mono (fun a j q => E.2.2.2 a j (by omega))
    have eb := o_bt part (by omega) f (by omega)
    have put : ∀ v : Value, oE (fun c => c = 124) g (am_put G 124 (10 * part + f) v) := fun v => ⟨E.1.pa rfl, E.2.1, E.2.2.1, fun c j nc => (ax_put_o (Or.inl nc) rfl).trans (E.2.2.2 c j nc)⟩
    cases t : part.testBit f with
    | true =>
      have p0 : part ≠ 0 := fun z => by
        rw [z, Nat.zero_testBit] at t
        cases t
      obtain ⟨G', y6, y7, y8, r, r2⟩ := ih (f + 1) (am_put G 124 (10 * part + f) (iv 1000000000)) (iv 1000000000) (iv 0) x8 (by omega) (put _) (fun p f' a b c o => by
        by_cases e : 10 * p + f' = 10 * part + f
        · have e1 : p = part := by omega
          have e2 : f' = f := by omega
          rw [e1, e2, t] at c
          cases c
        · exact ax_put_o (Or.inr e) (Q p f' a b c (by omega)))
      exact ⟨G', y6, y7, y8, fun x k => or_239p E.1 hK bW hp (by omega) p0 (or_239r (j := 0) E.1 hK bW hp (by omega) (by omega) (by omega) (eb.trans t) (r x k)), r2⟩
    | false =>
      have TB : ∀ j, j < K → part.testBit j = true → G.2.2.2 124 (10 * (part - 2 ^ j) + j) = iv (oW K st w (part - 2 ^ j) j) := fun j hj tj => by
        have a := o_sub part (by omega) j (by omega) tj
        have p2 := Nat.two_pow_pos j
        have b := o_bit part (by omega) j (by omega) tj j (by omega)
        rw [tj, show Nat.beq j j = true from Nat.beq_refl j] at b
        exact Q (part - 2 ^ j) j (by omega) hj b (Or.inl (by omega))
      have eW := oW_eq (st := st) (w := w) hK (show part < 1024 by omega) f
      have go : ∀ i0 : Int, (if part = 0 then (0 : Int) else 1000000000) = i0 → (0 ≤ i0 ∧ i0 ≤ 1000000000) → ∃ (G' : am_H) (y6 y7 y8 : Value), (∀ x, am_ev (d + 10) 239 115 [.ref 78, .int S0, iv K, iv W, iv ((part + 1 : Nat) : Int), iv K, y6, y7, y8] [] G' x → am_ev (d + 10) 239 147 [.ref 78, .int S0, iv K, iv W, iv part, iv f, iv i0, iv 0, x8] [] G x) ∧ oE (fun c => c = 124) g G' ∧ oTM st w K W G' (part + 1) 0 := fun i0 ei bi => by
        rw [ei] at eW
        obtain ⟨G', y6, y7, y8, r, r2⟩ := ih (f + 1) (am_put G 124 (10 * part + f) (iv (oS (oR st w (oW K st w) part f) K 0 i0))) (iv (oS (oR st w (oW K st w) part f) K 0 i0)) (iv K) x8 (by omega) (put _) (fun p f' a b c o => by
          by_cases e : 10 * p + f' = 10 * part + f
          · have e1 : p = part := by omega
            have e2 : f' = f := by omega
            rw [e1, e2, eW]
            exact ax_put_s _ _ _
          · exact ax_put_o (Or.inr e) (Q p f' a b c (by omega)))
        exact ⟨G', y6, y7, y8, fun x k => om_E XG E.1 hn hK bW hw est hp (by omega) t TB K 0 i0 x8 x (by omega) bi (r x k), r2⟩
      by_cases p0 : part = 0
      · obtain ⟨G', y6, y7, y8, r, r2⟩ := go 0 (if_pos p0) (by omega)
        exact ⟨G', y6, y7, y8, fun x k => or_239o E.1 hK bW hp (by omega) p0 (r x k), r2⟩
      · obtain ⟨G', y6, y7, y8, r, r2⟩ := go 1000000000 (if_neg p0) (by omega)
        exact ⟨G', y6, y7, y8, fun x k => or_239p E.1 hK bW hp (by omega) p0 (r x k), r2⟩
theorem om_C (X : oX h n K M g) (hn : n ≤ 14) (hK : K ≤ 10) (bW : W < 1024) (hw : ∀ a b, 0 ≤ w a b ∧ w a b ≤ 2100) (est : ∀ a b, a < K → b < K → st a b = stN h (M a) (M b) ∧ w a b = stS h (M a) (M b)) : ∀ (m part : Nat) (G : am_H) (x5 x6 x7 x8 : Value), part + m = W + 1 → oE (fun c => c = 124) g G → oTM st w K W G part 0 → ∃ (G' : am_H) (y6 y7 y8 : Value), (∀ x, am_ev (d + 10) 239 221 [.ref 78, .int S0, iv K, iv W, iv 1000000000, iv 0, y6, y7, y8] [] G' x → am_ev (d + 10) 239 115 [.ref 78, .int S0, iv K, iv W, iv part, x5, x6, x7, x8] [] G x) ∧ oE (fun c => c = 124) g G' ∧ oTM st w K W G' (W + 1) 0 := fun m => by
  induction m with
  | zero =>
    intro part G x5 x6 x7 x8 hp E Q
    have ep : part = W + 1 := hp
    subst ep
    exact ⟨G, x6, x7, x8, fun x r => or_239l E.1 hK bW rfl r, E, Q⟩
  | succ m ih =>
    intro part G x5 x6 x7 x8 hp E Q
    obtain ⟨G1, y6, y7, y8, r, E1, Q1⟩ := om_D (d := d) (S0 := S0) X hn hK bW hw est (show part ≤ W by omega) K 0 G x6 x7 x8 (by omega) E Q
    obtain ⟨G', z6, z7, z8, r1, r2⟩ := ih (part + 1) G1 (iv K) y6 y7 y8 (by omega) E1 Q1
    exact ⟨G', z6, z7, z8, fun x k => or_239m E.1 hK bW (by omega) (r _ (r1 x k)), r2⟩
theorem om_W (hK : 1 ≤ K ∧ K ≤ 10) (eW : W = 2 ^ K - 1) (Q : oTM st w K W G (W + 1) 0) : W < 1024 ∧ wkM K = Int32.ofInt (W : Int) ∧ s10 W = K ∧ ∀ j, j < K → W.testBit j = true ∧ G.2.2.2 124 (10 * (W - 2 ^ j) + j) = iv (oW K st w (W - 2 ^ j) j) := by
  obtain ⟨hW, bW, sW⟩ := o_w K (by omega)
  rw [← eW] at bW hW sW
  refine ⟨bW, hW, sW, fun j hj => ?_⟩
  have tj : W.testBit j = true := by
    rw [eW, o_wb K (by omega) j (by omega)]
    exact decide_eq_true hj
  have b := o_bit W bW j (by omega) tj j (by omega)
  rw [tj, show Nat.beq j j = true from Nat.beq_refl j] at b
  exact ⟨tj, Q (W - 2 ^ j) j (Nat.sub_le _ _) hj b (Or.inl (Nat.lt_succ_of_le (Nat.sub_le _ _)))⟩
theorem om_F (S : fS G) (hK : 1 ≤ K ∧ K ≤ 10) (bW : W < 1024) {u : Nat → Int} (hu : ∀ j, j < K → (0 ≤ u j ∧ u j ≤ 1000000000) ∧ W.testBit j = true ∧ G.2.2.2 124 (10 * (W - 2 ^ j) + j) = iv (u j)) : ∀ (m j : Nat) (b : Int) (x : Option Value × am_H), j + m = K → (0 ≤ b ∧ b ≤ 1000000000) → am_ev (d + 10) 239 221 [.ref 78, .int S0, iv K, iv W, iv (oS u m j b), iv K, x6, x7, x8] [] G x → am_ev (d + 10) 239 221 [.ref 78, .int S0, iv K, iv W, iv b, iv j, x6, x7, x8] [] G x := fun m => by
  induction m with
  | zero =>
    intro j b x hj bb r
    have ej : j = K := hj
    rw [ej]
    exact r
  | succ m ih =>
    intro j b x hj bb r
    obtain ⟨bu, t, v⟩ := hu j (by omega)
    have y : W - 2 ^ j < 1024 := Nat.lt_of_le_of_lt (Nat.sub_le _ _) bW
    have hA := o_and W bW j (by omega) t
    have r' : am_ev (d + 10) 239 221 [.ref 78, .int S0, iv K, iv W, iv (oS u m (j + 1) (if u j < b then u j else b)), iv K, x6, x7, x8] [] G x := r
    by_cases c : u j < b
    · rw [if_pos c] at r'
      exact or_239t S hK.2 bW bb (by omega) hA y v bu (Or.inl ⟨c, rfl⟩) (ih (j + 1) _ x (by omega) bu r')
    · rw [if_neg c] at r'
      exact or_239t S hK.2 bW bb (by omega) hA y v bu (Or.inr ⟨c, rfl⟩) (ih (j + 1) _ x (by omega) bb r')
theorem om_G (S : fS G) (hK : 1 ≤ K ∧ K ≤ 10) (bW : W < 1024) {u : Nat → Int} {b : Int} (bb : 0 ≤ b ∧ b ≤ 1000000000) (hM : ∀ j, j < K → G.2.2.2 123 j = iv (M j) ∧ M j < 14) (hu : ∀ j, j < K → (0 ≤ u j ∧ u j ≤ 1000000000) ∧ W.testBit j = true ∧ G.2.2.2 124 (10 * (W - 2 ^ j) + j) = iv (u j)) {x : Option Value × am_H} : ∀ (m j : Nat), j + m = K → (∃ i, j ≤ i ∧ i < j + m ∧ decide (u i = b) = true) → (∀ J, J = oF (fun i => decide (u i = b)) m j → am_ev (d + 10) 239 332 [.ref 78, .int S0, iv K, iv W, iv b, iv J, iv ((W - 2 ^ J : Nat) : Int), iv b, x8] [] (am_put (am_put (am_put G 78 55 (iv 0)) 118 0 (iv (M J))) 78 55 (iv 1)) x) → am_ev (d + 10) 239 272 [.ref 78, .int S0, iv K, iv W, iv b, iv j, x6, x7, x8] [] G x := fun m => by
  induction m with
  | zero => intro j hj ⟨i, a, c, _⟩; omega
  | succ m ih =>
    intro j hj ⟨i, a, c, di⟩ r
    obtain ⟨bu, t, v⟩ := hu j (by omega)
    obtain ⟨f1, m1⟩ := hM j (by omega)
    have y : W - 2 ^ j < 1024 := Nat.lt_of_le_of_lt (Nat.sub_le _ _) bW
    have hA := o_and W bW j (by omega) t
    by_cases e : u j = b
    · have eJ : j = oF (fun i => decide (u i = b)) (m + 1) j := by
        show j = if decide (u j = b) = true then j else _
        rw [if_pos (decide_eq_true e)]
      have S2 : fS (am_put G 78 55 (iv 0)) := S.po rfl rfl
      exact or_239x S hK.2 bW bb (by omega) hA y v bu e f1 (la_245 (i := 0) S2 (ax_put_s _ _ _) (by decide) m1) (S2.pa rfl |>.po rfl rfl) (r j eJ)
    · have ne : i ≠ j := fun q => e (q ▸ of_decide_eq_true di)
      refine or_239w S hK.2 bW bb (by omega) hA y v bu e (ih (j + 1) (by omega) ⟨i, by omega, by omega, di⟩ (fun J eJ => r J ?_))
      rw [eJ]
      show _ = if decide (u j = b) = true then j else _
      rw [if_neg (fun q => e (of_decide_eq_true q))]
theorem om_H (X : oX h n K M g) (hn : n ≤ 14) (hK : 1 ≤ K ∧ K ≤ 10) (bW : W < 1024) (hw : ∀ a b, 0 ≤ w a b ∧ w a b ≤ 2100) (est : ∀ a b, a < K → b < K → st a b = stN h (M a) (M b) ∧ w a b = stS h (M a) (M b)) (btot : 0 ≤ tot ∧ tot ≤ 1000000000) (Q : oTM st w K W g (W + 1) 0) : ∀ (m i r one : Nat) (G : am_H) (x8 : Value), i + m = K → s10 r = m → r ≤ W → one < K → oW K st w r one < 1000000000 → fS G → (∀ a j, a ≠ 78 → a ≠ 118 → G.2.2.2 a j = g.2.2.2 a j) → G.2.2.2 78 55 = iv i → ∃ G', am_ev (d + 10) 239 332 [.ref 78, .int S0, iv K, iv W, iv tot, iv one, iv r, iv (oW K st w r one), x8] [] G (some (iv tot), G') ∧ (∀ t, t < m → G'.2.2.2 118 (i + t) = iv (M ((oQ K st w m r one).getD t 0))) ∧ (∀ t, t < i → G'.2.2.2 118 t = G.2.2.2 118 t) ∧ G'.2.2.2 78 55 = iv K := fun m => by
  induction m with
  | zero =>
    intro i r one G x8 hi s0 hr ho fin S fr v55
    have ei : i = K := hi
    subst ei
    refine ⟨_, or_239y S hK.2 bW btot (o_s0 r (by omega) s0) (la_246 S) (S.po rfl rfl |>.po rfl rfl |>.po rfl rfl), fun t ht => absurd ht (Nat.not_lt_zero t), fun t ht => ax_put_o (Or.inl (by decide)) (ax_put_o (Or.inl (by decide)) (ax_put_o (Or.inl (by decide)) rfl)), ax_put_o (Or.inr (by decide)) (ax_put_o (Or.inr (by decide)) (ax_put_o (Or.inr (by decide)) v55))⟩
  | succ m ih =>
    intro i r one G x8 hi s0 hr ho fin S fr v55
    have r0 : r ≠ 0 := fun z => by
      rw [z] at s0
      exact absurd s0.symm (Nat.succ_ne_zero m)
    have r10 : r < 1024 := by omega
    obtain ⟨p1, p2, p3, p4, p5⟩ := oP_at (st := st) (w := w) hK.2 r10 r0 fin
    have XG : oX h n K M G := X.mono (fun a j q => fr a j (by omega) (by omega))
    have bo := (oC_b (by decide) ((oW_b (st := st) hK.2 hw r one r10).up (o_s9 r r10))).2.2.2.1 fin
    have b0 : 0 ≤ oW K st w r one := by
      rcases oW_b (st := st) hK.2 hw r one r10 with z | z <;> omega
    have o2 := o_sub r r10 (oP K st w r one) (by omega) p2
    have TB : ∀ j, j < K → r.testBit j = true → G.2.2.2 124 (10 * (r - 2 ^ j) + j) = iv (oW K st w (r - 2 ^ j) j) := fun j hj tj => by
      have b := o_bit r r10 j (by omega) tj j (by omega)
      rw [tj, show Nat.beq j j = true from Nat.beq_refl j] at b
      exact (fr 124 _ (by decide) (by decide)).trans (Q (r - 2 ^ j) j (Nat.le_trans (Nat.sub_le _ _) hr) hj b (Or.inl (Nat.lt_succ_of_le (Nat.le_trans (Nat.sub_le _ _) hr))))
    obtain ⟨f1, m1⟩ := XG.1 one ho
    obtain ⟨f2, m2⟩ := XG.1 _ p1
    obtain ⟨-, ew⟩ := est one _ ho p1
    have H244 := om_244 (d := d + 8) S XG hn m1 m2
    rw [← ew] at H244
    have ww := hw one (oP K st w r one)
    have b9 : 0 ≤ oW K st w (r - 2 ^ oP K st w r one) (oP K st w r one) := by
      rcases oW9 (st := st) hK.2 hw r10 (show oP K st w r one < 10 by omega) p2 with z | z <;> omega
    have hA := o_and r r10 (oP K st w r one) (by omega) p2
    have S2 : fS (am_put (am_put G 118 i (iv (M (oP K st w r one)))) 78 55 (iv ((i : Int) + 1))) := (S.pa rfl |>.po rfl rfl)
    obtain ⟨G', r1, q1, q2, q3⟩ := ih (i + 1) (r - 2 ^ oP K st w r one) (oP K st w r one) (am_put (am_put G 118 i (iv (M (oP K st w r one)))) 78 55 (iv ((i : Int) + 1))) (iv (oP K st w r one)) (by omega) (by omega) (Nat.le_trans (Nat.sub_le _ _) hr) p1 p4 S2 (fun a j n1 n2 => (ax_put_o (Or.inl n1) (ax_put_o (Or.inl n2) rfl)).trans (fr a j n1 n2)) (by
      rw [show (((i + 1 : Nat)) : Int) = (i : Int) + 1 by omega]
      exact ax_put_s _ _ _)
    have H245 := la_245 (d := d + 9) S v55 (show i < 14 by omega) (show M (oP K st w r one) < 14 by omega)
    have find : ∀ (m' j : Nat), j + m' = K → (∃ i, j ≤ i ∧ i < j + m' ∧ decide (oR st w (oW K st w) r one i = oW K st w r one) = true) → oF (fun j => decide (oR st w (oW K st w) r one j = oW K st w r one)) m' j = oP K st w r one → am_ev (d + 10) 239 340 [.ref 78, .int S0, iv K, iv W, iv tot, iv one, iv r, iv (oW K st w r one), iv j] [] G (some (iv tot), G') := fun m' => by
      induction m' with
      | zero => intro j hj ⟨i, a, b, _⟩; omega
      | succ m' ih2 =>
        intro j hj ⟨i', a, b, di⟩ eJ
        obtain ⟨H, v0, v1⟩ := om_243 (d := d + 7) (st := st) (w := w) S XG hn hK.2 hw est r10 ho (show j < K by omega) (TB j (by omega))
        have eJ : (if decide (oR st w (oW K st w) r one j = oW K st w r one) = true then j else oF (fun j => decide (oR st w (oW K st w) r one j = oW K st w r one)) m' (j + 1)) = oP K st w r one := eJ
        by_cases e : oR st w (oW K st w) r one j = oW K st w r one
        · rw [if_pos (decide_eq_true e)] at eJ
          rw [eJ] at H v0 v1 e ⊢
          have r2 : am_ev (d + 10) 239 332 [.ref 78, .int S0, iv K, iv W, iv tot, iv (oP K st w r one), iv ((r - 2 ^ oP K st w r one : Nat) : Int), iv (oW K st w r one - w one (oP K st w r one)), iv (oP K st w r one)] [] (am_put (am_put G 118 i (iv (M (oP K st w r one)))) 78 55 (iv ((i : Int) + 1))) (some (iv tot), G') := by
            rw [show oW K st w r one - w one (oP K st w r one) = oW K st w (r - 2 ^ oP K st w r one) (oP K st w r one) by omega]
            exact r1
          exact or_239B S hK.2 p1 (by omega) H ⟨v0, v1⟩ e (by omega) f1 f2 H244 (by omega) hA H245 S2 r2
        · rw [if_neg (fun q => e (of_decide_eq_true q))] at eJ
          have ne : i' ≠ j := fun q => e (q ▸ of_decide_eq_true di)
          exact or_239A S hK.2 (by omega) (by omega) H ⟨v0, v1⟩ e (ih2 (j + 1) (by omega) ⟨i', by omega, by omega, di⟩ eJ)
    refine ⟨G', or_239z S r0 r10 (find K 0 (by omega) ⟨oP K st w r one, Nat.zero_le _, by omega, decide_eq_true ?_⟩ rfl), fun t ht => ?_, fun t ht => (q2 t (by omega)).trans (ax_put_o (Or.inl (by decide)) (ax_put_o (Or.inr (by omega)) rfl)), q3⟩
    · unfold oR
      rw [if_pos ⟨p2, p3⟩, if_neg (by omega)]
      exact p5.symm
    · have e : oQ K st w (m + 1) r one = oP K st w r one :: oQ K st w m (r - 2 ^ oP K st w r one) (oP K st w r one) := rfl
      rw [e]
      cases t with
      | zero => exact (q2 i (by omega)).trans (ax_put_o (Or.inl (by decide)) (ax_put_s _ _ _))
      | succ t =>
        have z := q1 t (by omega)
        rw [show i + 1 + t = i + (t + 1) by omega] at z
        exact z
/-- from the table to the row -/
theorem om_row (S : fS g) (X : oX h n K M g) (hn : n ≤ 14) (hK : 1 ≤ K ∧ K ≤ 10) (eW : W = 2 ^ K - 1) (hw : ∀ a b, 0 ≤ w a b ∧ w a b ≤ 2100) (est : ∀ a b, a < K → b < K → st a b = stN h (M a) (M b) ∧ w a b = stS h (M a) (M b)) : ∃ G', am_ev (d + 10) 239 115 [.ref 78, .int S0, iv K, iv W, iv 0, x5, x6, x7, x8] [] g (some (iv (if oT0 K st w W < 1000000000 then oT0 K st w W else -1)), G') ∧ (oT0 K st w W < 1000000000 → (∀ t, t < K → G'.2.2.2 118 t = iv (M (oQQ K st w W t))) ∧ G'.2.2.2 78 55 = iv K) ∧ (¬ oT0 K st w W < 1000000000 → ∀ a j, a ≠ 124 → G'.2.2.2 a j = g.2.2.2 a j) := by
  obtain ⟨-, bW, -⟩ := o_w K (by omega)
  rw [← eW] at bW
  obtain ⟨G1, y6, y7, y8, r1, E1, Q⟩ := om_C (d := d) (S0 := S0) X hn hK.2 bW hw est (W + 1) 0 g x5 x6 x7 x8 (by omega) (oE.rf S) (fun p f a b c o => by omega)
  obtain ⟨-, -, sW, tW⟩ := om_W hK eW Q
  have X1 : oX h n K M G1 := X.mono (fun a j q => E1.2.2.2 a j (by omega))
  have hu : ∀ j, j < K → (0 ≤ oW K st w (W - 2 ^ j) j ∧ oW K st w (W - 2 ^ j) j ≤ 1000000000) ∧ W.testBit j = true ∧ G1.2.2.2 124 (10 * (W - 2 ^ j) + j) = iv (oW K st w (W - 2 ^ j) j) := fun j hj => by
    have k9 := oW9 (st := st) hK.2 hw bW (show j < 10 by omega) (tW j hj).1
    exact ⟨by rcases k9 with z | z <;> omega, tW j hj⟩
  have b9 : 0 ≤ oT0 K st w W ∧ oT0 K st w W ≤ 1000000000 := by
    have a := oS_le (f := fun j => oW K st w (W - 2 ^ j) j) K 0 1000000000
    have a : oT0 K st w W ≤ 1000000000 := a
    rcases oS_at (f := fun j => oW K st w (W - 2 ^ j) j) K 0 1000000000 with z | ⟨i, -, b, c⟩
    · have z : oT0 K st w W = 1000000000 := z
      omega
    · have c : oW K st w (W - 2 ^ i) i = oT0 K st w W := c
      have := (hu i (by omega)).1
      omega
  have main : ∀ x, am_ev (d + 10) 239 221 [.ref 78, .int S0, iv K, iv W, iv (oT0 K st w W), iv K, y6, y7, y8] [] G1 x → am_ev (d + 10) 239 115 [.ref 78, .int S0, iv K, iv W, iv 0, x5, x6, x7, x8] [] g x := fun x r => r1 x (om_F E1.1 hK bW (u := fun j => oW K st w (W - 2 ^ j) j) hu K 0 1000000000 x (by omega) (by omega) r)
  by_cases fin : oT0 K st w W < 1000000000
  · rw [if_pos fin]
    obtain ⟨p1, p2⟩ := oP0_at fin
    have f2 : oW K st w (W - 2 ^ oP0 K st w W) (oP0 K st w W) < 1000000000 := by
      rw [p2]
      exact fin
    have o2 := o_sub W bW (oP0 K st w W) (by omega) (tW _ p1).1
    obtain ⟨G', r, q1, q2, q3⟩ := om_H (d := d) (S0 := S0) (tot := oT0 K st w W) X1 hn hK bW hw est b9 Q (K - 1) 1 (W - 2 ^ oP0 K st w W) (oP0 K st w W) (am_put (am_put (am_put G1 78 55 (iv 0)) 118 0 (iv (M (oP0 K st w W)))) 78 55 (iv 1)) y8 (by omega) (by omega) (Nat.sub_le _ _) p1 f2 (E1.1.po rfl rfl |>.pa rfl |>.po rfl rfl) (fun a j n1 n2 => ax_put_o (Or.inl n1) (ax_put_o (Or.inl n2) (ax_put_o (Or.inl n1) rfl))) (ax_put_s _ _ _)
    rw [p2] at r
    refine ⟨G', main _ (or_239v E1.1 hK.2 bW b9 rfl fin (om_G E1.1 hK bW b9 (fun j hj => ⟨(X1.1 j hj).1, by have := (X1.1 j hj).2; omega⟩) hu K 0 (by omega) ⟨oP0 K st w W, Nat.zero_le _, by omega, decide_eq_true p2⟩ (fun J eJ => by
      have eJ : J = oP0 K st w W := eJ
      rw [eJ]
      exact r))), fun _ => ⟨fun t ht => ?_, q3⟩, fun z => absurd fin z⟩
    unfold oQQ
    by_cases z : t = 0
    · rw [if_pos z, z]
      exact (q2 0 (by omega)).trans (ax_put_o (Or.inl (by decide)) (ax_put_s _ _ _))
    · rw [if_neg z]
      have y := q1 (t - 1) (by omega)
      rw [show 1 + (t - 1) = t by omega] at y
      exact y
  · rw [if_neg fin]
    exact ⟨G1, main _ (or_239u E1.1 hK.2 bW b9 rfl (by omega)), fun z => absurd z fin, fun _ a j na => E1.2.2.2 a j na⟩
end ORM3
