/-! ORDER, the program's row -/
def oT0 (K : Nat) (st : Nat → Nat → Bool) (w : Nat → Nat → Int) (W : Nat) : Int := oS (fun j => oW K st w (W - 2 ^ j) j) K 0 1000000000
def oP0 (K : Nat) (st : Nat → Nat → Bool) (w : Nat → Nat → Int) (W : Nat) : Nat := oF (fun j => decide (oW K st w (W - 2 ^ j) j = oT0 K st w W)) K 0
def oP (K : Nat) (st : Nat → Nat → Bool) (w : Nat → Nat → Int) (r one : Nat) : Nat := oF (fun j => decide (oR st w (oW K st w) r one j = oW K st w r one)) K 0
def oQ (K : Nat) (st : Nat → Nat → Bool) (w : Nat → Nat → Int) : Nat → Nat → Nat → List Nat
  | 0, _, _ => []
  | m + 1, r, one => oP K st w r one :: oQ K st w m (r - 2 ^ oP K st w r one) (oP K st w r one)
def oQQ (K : Nat) (st : Nat → Nat → Bool) (w : Nat → Nat → Int) (W t : Nat) : Nat := if t = 0 then oP0 K st w W else (oQ K st w (K - 1) (W - 2 ^ oP0 K st w W) (oP0 K st w W)).getD (t - 1) 0
section ORQ
variable {h g G : am_H} {d n K W : Nat} {S0 : Int32} {M : Nat → Nat} {x5 x6 x7 : Value} {st : Nat → Nat → Bool} {w : Nat → Nat → Int} {tot : Int}
theorem oC_lt {m : Nat} (hm : m ≤ 20) {x y : Int} (hx : oK m x) (hy : oK m y) : (oC x < oC y ↔ x < y) := by
  have a := oC_b hm hx
  have b := oC_b hm hy
  by_cases p : 1000000000 ≤ x
  · have e := a.2.2.2.2 p
    have q : x = 1000000000 := by rcases hx with z | z <;> omega
    refine ⟨fun z => by omega, fun z => ?_⟩
    rcases hy with y1 | y1 <;> omega
  · have e := a.2.2.2.1 (by omega)
    by_cases q : 1000000000 ≤ y
    · have f := b.2.2.2.2 q
      exact ⟨fun z => by omega, fun z => by omega⟩
    · have f := b.2.2.2.1 (by omega)
      exact ⟨fun z => by omega, fun z => by omega⟩
/-- a pick: it is there, and what follows is known -/
theorem oP_at (hK : K ≤ 10) {r one : Nat} (hr : r < 1024) (r0 : r ≠ 0) (fin : oW K st w r one < 1000000000) : oP K st w r one < K ∧ r.testBit (oP K st w r one) = true ∧ st one (oP K st w r one) = true ∧ oW K st w (r - 2 ^ oP K st w r one) (oP K st w r one) < 1000000000 ∧ oW K st w r one = w one (oP K st w r one) + oW K st w (r - 2 ^ oP K st w r one) (oP K st w r one) := by
  have e := oW_eq (st := st) (w := w) hK hr one
  rw [if_neg r0] at e
  have ex : ∃ i, 0 ≤ i ∧ i < 0 + K ∧ decide (oR st w (oW K st w) r one i = oW K st w r one) = true := by
    rcases oS_at (f := oR st w (oW K st w) r one) K 0 1000000000 with z | ⟨i, a, b, c⟩
    · rw [← e] at z
      omega
    · exact ⟨i, a, b, decide_eq_true (c.trans e.symm)⟩
  obtain ⟨-, p2, p3⟩ := oF_at K 0 ex
  have p3 : oR st w (oW K st w) r one (oP K st w r one) = oW K st w r one := of_decide_eq_true p3
  have p2 : oP K st w r one < 0 + K := p2
  generalize oP K st w r one = j at p2 p3 ⊢
  unfold oR at p3
  by_cases c : r.testBit j = true ∧ st one j = true
  · rw [if_pos c] at p3
    by_cases z : 1000000000 ≤ oW K st w (r - 2 ^ j) j
    · rw [if_pos z] at p3
      omega
    · rw [if_neg z] at p3
      exact ⟨by omega, c.1, c.2, by omega, p3.symm⟩
  · rw [if_neg c] at p3
    omega
theorem oP0_at (fin : oT0 K st w W < 1000000000) : oP0 K st w W < K ∧ oW K st w (W - 2 ^ oP0 K st w W) (oP0 K st w W) = oT0 K st w W := by
  have ex : ∃ i, 0 ≤ i ∧ i < 0 + K ∧ decide (oW K st w (W - 2 ^ i) i = oT0 K st w W) = true := by
    rcases oS_at (f := fun j => oW K st w (W - 2 ^ j) j) K 0 1000000000 with z | ⟨i, a, b, c⟩
    · have z : oT0 K st w W = 1000000000 := z
      omega
    · exact ⟨i, a, b, decide_eq_true c⟩
  obtain ⟨-, p2, p3⟩ := oF_at K 0 ex
  exact ⟨by have p2 : oP0 K st w W < 0 + K := p2; omega, of_decide_eq_true p3⟩
/-! firstWith -/
theorem op_126l (S : fS G) (v4 : G.2.2.2 67 4 = iv K) (hK : K ≤ 10) {r one : Nat} (hr : r < 1024) (ho : one < 10) {due : Int} (bd : 0 ≤ due ∧ due ≤ 1000000) {l : Nat → Int} {f : Nat → Bool} (H : ∀ j, j < K → r.testBit j = true → am_ev d 124 0 (am_ent [.ref 67, iv r, iv one, iv j] 4) [] G (some (iv (l j)), G) ∧ (0 ≤ l j ∧ l j ≤ 2000000) ∧ (f j = true ↔ l j = due)) (H0 : ∀ j, j < K → r.testBit j = false → f j = false) : ∀ (m j : Nat) (x5 : Value), j + m = K → (∃ i, j ≤ i ∧ i < j + m ∧ f i = true) → am_ev (d + 1) 126 3 [.ref 67, iv r, iv one, iv due, iv j, x5] [] G (some (iv (oF f m j)), G) := fun m => by
  induction m with
  | zero => intro j x5 hj ⟨i, a, b, _⟩; omega
  | succ m ih =>
    intro j x5 hj ⟨i, a, b, c⟩
    show am_ev _ _ _ _ _ _ (some (iv ((if f j = true then j else oF f m (j + 1) : Nat) : Int)), G)
    have eb := o_bt r hr j (by omega)
    cases t : r.testBit j with
    | false =>
      have fj := H0 j (by omega) t
      rw [fj, if_neg (by decide)]
      have ne : i ≠ j := fun e => by
        rw [e, fj] at c
        cases c
      exact or_126n S v4 hK (by omega) bd ho (eb.trans t) (ih (j + 1) x5 (by omega) ⟨i, by omega, by omega, c⟩)
    | true =>
      obtain ⟨H1, l0, fj⟩ := H j (by omega) t
      by_cases z : f j = true
      · rw [if_pos z]
        exact or_126y S v4 hK (by omega) bd ho (eb.trans t) H1 l0 (fj.1 z)
      · rw [if_neg z]
        have ne : i ≠ j := fun e => z (e ▸ c)
        exact or_126x S v4 hK (by omega) bd ho (eb.trans t) H1 l0 (fun y => z (fj.2 y)) (ih (j + 1) _ (by omega) ⟨i, by omega, by omega, c⟩)
theorem op_126f (S : fS G) (v4 : G.2.2.2 67 4 = iv K) (hK : K ≤ 10) {r : Nat} (hr : r < 1024) {due : Int} (bd : 0 ≤ due ∧ due ≤ 1000000) {l : Nat → Int} {f : Nat → Bool} (H : ∀ j, j < K → r.testBit j = true ∧ G.2.2.2 71 (10 * r + j) = iv (l j) ∧ (0 ≤ l j ∧ l j ≤ 2000000) ∧ (f j = true ↔ l j = due)) : ∀ (m j : Nat) (x5 : Value), j + m = K → (∃ i, j ≤ i ∧ i < j + m ∧ f i = true) → am_ev (d + 1) 126 3 [.ref 67, iv r, iv (-1), iv due, iv j, x5] [] G (some (iv (oF f m j)), G) := fun m => by
  induction m with
  | zero => intro j x5 hj ⟨i, a, b, _⟩; omega
  | succ m ih =>
    intro j x5 hj ⟨i, a, b, c⟩
    show am_ev _ _ _ _ _ _ (some (iv ((if f j = true then j else oF f m (j + 1) : Nat) : Int)), G)
    have eb := o_bt r hr j (by omega)
    obtain ⟨t, H1, l0, fj⟩ := H j (by omega)
    by_cases z : f j = true
    · rw [if_pos z]
      exact or_126y0 S v4 hK (by omega) bd (eb.trans t) hr H1 l0 (fj.1 z)
    · rw [if_neg z]
      have ne : i ≠ j := fun e => z (e ▸ c)
      exact or_126x0 S v4 hK (by omega) bd (eb.trans t) hr H1 l0 (fun y => z (fj.2 y)) (ih (j + 1) _ (by omega) ⟨i, by omega, by omega, c⟩)
/-! trace -/
theorem op_125l (v4 : g.2.2.2 67 4 = iv K) (hK : K ≤ 10) (bW : W < 1024) (hw : ∀ a b, 0 ≤ w a b ∧ w a b ≤ 2100) (f69 : ∀ j, j < K → g.2.2.2 69 j = iv (M j)) (hM : ∀ j, j < K → M j < 14) (H70 : ∀ a b, a < K → b < K → g.2.2.2 70 (10 * a + b) = iv (oLk st w a b)) (Q : oTB st w K W g (W + 1) 0) : ∀ (m i r one : Nat) (G : am_H) (x7 : Value), i + m = K → s10 r = m → r ≤ W → one < K → oW K st w r one < 1000000000 → oE (fun c => c = 68) g G → ∃ G', am_ev (d + 2) 125 11 [.ref 67, iv W, iv tot, iv r, iv one, iv (oW K st w r one), iv i, x7] [] G (none, G') ∧ oE (fun c => c = 68) g G' ∧ (∀ t, t < m → G'.2.2.2 68 (i + t) = iv (M ((oQ K st w m r one).getD t 0))) ∧ ∀ t, t < i → G'.2.2.2 68 t = G.2.2.2 68 t := fun m => by
  induction m with
  | zero =>
    intro i r one G x7 hi s0 hr ho fin E
    exact ⟨G, or_125e E.1 ((E.2.2.2 67 4 (by decide)).trans v4) hK hi, E, fun t ht => absurd ht (Nat.not_lt_zero t), fun _ _ => rfl⟩
  | succ m ih =>
    intro i r one G x7 hi s0 hr ho fin E
    have r0 : r ≠ 0 := fun z => by
      rw [z] at s0
      exact absurd s0.symm (Nat.succ_ne_zero m)
    have r10 : r < 1024 := by omega
    obtain ⟨p1, p2, p3, p4, p5⟩ := oP_at (st := st) (w := w) hK r10 r0 fin
    have S := E.1
    have v4' := (E.2.2.2 67 4 (by decide)).trans v4
    have bo := (oC_b (by decide) ((oW_b (st := st) hK hw r one r10).up (o_s9 r r10))).2.2.2.1 fin
    have b0 : 0 ≤ oW K st w r one := by
      rcases oW_b (st := st) hK hw r one r10 with z | z <;> omega
    have w71 : ∀ j, j < K → r.testBit j = true → G.2.2.2 71 (10 * r + j) = iv (oC (oW K st w (r - 2 ^ j) j)) := fun j hj t => (E.2.2.2 71 _ (by decide)).trans (Q r j hr hj t (Or.inl (by omega)))
    have H : ∀ j, j < K → r.testBit j = true → am_ev d 124 0 (am_ent [.ref 67, iv r, iv one, iv j] 4) [] G (some (iv (oLk st w one j + oC (oW K st w (r - 2 ^ j) j))), G) ∧ (0 ≤ oLk st w one j + oC (oW K st w (r - 2 ^ j) j) ∧ oLk st w one j + oC (oW K st w (r - 2 ^ j) j) ≤ 2000000) ∧ (decide (oR st w (oW K st w) r one j = oW K st w r one) = true ↔ oLk st w one j + oC (oW K st w (r - 2 ^ j) j) = oW K st w r one) := fun j hj t => by
      have k9 := oW9 (st := st) hK hw r10 (show j < 10 by omega) t
      have q := oC_b (by decide) k9
      have ww := hw one j
      have lb : 0 ≤ oLk st w one j ∧ oLk st w one j ≤ 1000000 := by
        unfold oLk
        split <;> omega
      refine ⟨or_124 S (by omega) (by omega) r10 ((E.2.2.2 70 _ (by decide)).trans (H70 one j ho hj)) (w71 j hj t) lb ⟨q.1, q.2.1⟩, by omega, ?_⟩
      rw [decide_eq_true_iff]
      rcases oT (hw := hw) (one := one) (st := st) t (k9.up (by decide)) with ⟨y1, y2⟩ | ⟨y1, y2⟩
      · rw [y2]
      · exact ⟨fun z => by omega, fun z => by omega⟩
    have H126 : am_ev (d + 1) 126 0 (am_ent [.ref 67, iv r, iv one, iv (oW K st w r one)] 6) [] G (some (iv (oP K st w r one)), G) := or_126s (op_126l S v4' hK r10 (by omega) (by omega) H (fun j hj t => decide_eq_false (fun z => by
      have e : oR st w (oW K st w) r one j = 1000000000 := if_neg (fun y => by
        rw [t] at y
        cases y.1)
      omega)) K 0 am_ph (by omega) ⟨oP K st w r one, Nat.zero_le _, by omega, by
        refine decide_eq_true ?_
        unfold oR
        rw [if_pos ⟨p2, p3⟩, if_neg (by omega)]
        exact p5.symm⟩)
    have o2 := o_sub r r10 (oP K st w r one) (by omega) p2
    have vd := w71 _ p1 p2
    have k9 := oW9 (st := st) hK hw r10 (show oP K st w r one < 10 by omega) p2
    rw [((oC_b (by decide) k9).2.2.2.1 p4).1] at vd
    have hA := o_and r r10 (oP K st w r one) (by omega) p2
    have vj := (E.2.2.2 69 (oP K st w r one) (by decide)).trans (f69 _ p1)
    obtain ⟨G', r1, E', q1, q2⟩ := ih (i + 1) (r - 2 ^ oP K st w r one) (oP K st w r one) (am_put G 68 i (iv (M (oP K st w r one)))) (iv (oP K st w r one)) (by omega) (by omega) (Nat.le_trans (Nat.sub_le _ _) hr) p1 p4 ⟨S.pa rfl, E.2.1, E.2.2.1, fun a j na => (ax_put_o (Or.inl na) rfl).trans (E.2.2.2 a j na)⟩
    refine ⟨G', or_125y S v4' hK (by omega) r10 (by omega) (hM _ p1) H126 vj vd hA r1, E', fun t ht => ?_, fun t ht => (q2 t (by omega)).trans (ax_put_o (Or.inr (by omega)) rfl)⟩
    have e : oQ K st w (m + 1) r one = oP K st w r one :: oQ K st w m (r - 2 ^ oP K st w r one) (oP K st w r one) := rfl
    rw [e]
    cases t with
    | zero => exact (q2 i (by omega)).trans (ax_put_s _ _ _)
    | succ t =>
      have z := q1 t (by omega)
      rw [show i + 1 + t = i + (t + 1) by omega] at z
      exact z
theorem op_125 (S : fS g) (v4 : g.2.2.2 67 4 = iv K) (hK : 1 ≤ K ∧ K ≤ 10) (eW : W = 2 ^ K - 1) (hw : ∀ a b, 0 ≤ w a b ∧ w a b ≤ 2100) (f69 : ∀ j, j < K → g.2.2.2 69 j = iv (M j)) (hM : ∀ j, j < K → M j < 14) (H70 : ∀ a b, a < K → b < K → g.2.2.2 70 (10 * a + b) = iv (oLk st w a b)) (Q : oTB st w K W g (W + 1) 0) (fin : oT0 K st w W < 1000000000) : ∃ G', am_ev (d + 2) 125 0 (am_ent [.ref 67, iv W, iv (oT0 K st w W)] 8) [] g (none, G') ∧ oE (fun c => c = 68) g G' ∧ ∀ t, t < K → G'.2.2.2 68 t = iv (M (oQQ K st w W t)) := by
  obtain ⟨-, bW, sW⟩ := o_w K (by omega)
  rw [← eW] at bW sW
  have tW : ∀ j, j < K → W.testBit j = true := fun j hj => by
    rw [eW, o_wb K (by omega) j (by omega)]
    exact decide_eq_true hj
  obtain ⟨p1, p2⟩ := oP0_at fin
  have w71 : ∀ j, j < K → g.2.2.2 71 (10 * W + j) = iv (oC (oW K st w (W - 2 ^ j) j)) := fun j hj => Q W j (Nat.le_refl _) hj (tW j hj) (Or.inl (by omega))
  have b0 : oK 9 (oT0 K st w W) := by
    rw [← p2]
    exact oW9 hK.2 hw bW (by omega) (tW _ p1)
  have bo := (oC_b (by decide) b0).2.2.2.1 fin
  have b1 : 0 ≤ oT0 K st w W := by rcases b0 with z | z <;> omega
  have H126 : am_ev (d + 1) 126 0 (am_ent [.ref 67, iv W, iv (-1), iv (oT0 K st w W)] 6) [] g (some (iv (oP0 K st w W)), g) := or_126s0 (op_126f S v4 hK.2 bW (by omega) (l := fun j => oC (oW K st w (W - 2 ^ j) j)) (f := fun j => decide (oW K st w (W - 2 ^ j) j = oT0 K st w W)) (fun j hj => by
    have k9 := oW9 (st := st) hK.2 hw bW (show j < 10 by omega) (tW j hj)
    have q := oC_b (by decide) k9
    refine ⟨tW j hj, w71 j hj, ⟨q.1, by show oC _ ≤ 2000000; omega⟩, ?_⟩
    show decide _ = true ↔ oC _ = _
    rw [decide_eq_true_iff]
    by_cases y : 1000000000 ≤ oW K st w (W - 2 ^ j) j
    · have := q.2.2.2.2 y
      exact ⟨fun z => by omega, fun z => by omega⟩
    · rw [(q.2.2.2.1 (by omega)).1]) K 0 am_ph (by omega) ⟨oP0 K st w W, Nat.zero_le _, by omega, decide_eq_true p2⟩)
  have o2 := o_sub W bW (oP0 K st w W) (by omega) (tW _ p1)
  have vd := w71 _ p1
  have f2 : oW K st w (W - 2 ^ oP0 K st w W) (oP0 K st w W) < 1000000000 := by
    rw [p2]
    exact fin
  have k9 := oW9 (st := st) hK.2 hw bW (show oP0 K st w W < 10 by omega) (tW _ p1)
  rw [((oC_b (by decide) k9).2.2.2.1 f2).1] at vd
  obtain ⟨G', r1, E', q1, q2⟩ := op_125l (d := d) (tot := oT0 K st w W) v4 hK.2 bW hw f69 hM H70 Q (K - 1) 1 (W - 2 ^ oP0 K st w W) (oP0 K st w W) (am_put g 68 0 (iv (M (oP0 K st w W)))) (iv (oP0 K st w W)) (by omega) (by omega) (Nat.sub_le _ _) p1 f2 ⟨S.pa rfl, rfl, rfl, fun a j na => ax_put_o (Or.inl na) rfl⟩
  refine ⟨G', or_125s (or_125y0 (i := 0) S v4 hK.2 (by omega) bW (by omega) (hM _ p1) H126 (f69 _ p1) vd (o_and W bW _ (by omega) (tW _ p1)) r1), E', fun t ht => ?_⟩
  unfold oQQ
  by_cases z : t = 0
  · rw [if_pos z, z]
    exact (q2 0 (by omega)).trans (ax_put_s _ _ _)
  · rw [if_neg z]
    have y := q1 (t - 1) (by omega)
    rw [show 1 + (t - 1) = t by omega] at y
    exact y
theorem op_119m (S : fS G) (v4 : G.2.2.2 67 4 = iv K) (hK : 1 ≤ K ∧ K ≤ 10) (bW : W < 1024) {u : Nat → Int} (hu : ∀ j, j < K → oK 9 (u j)) (w71 : ∀ j, j < K → G.2.2.2 71 (10 * W + j) = iv (oC (u j))) : ∀ (m j : Nat) (b : Int) (x : Option Value × am_H), j + m = K → oK 9 b → am_ev (d + 4) 119 96 [.ref 67, .int S0, .ref 74, iv n, iv W, iv (oC (oS u m j b)), iv K] [] G x → am_ev (d + 4) 119 96 [.ref 67, .int S0, .ref 74, iv n, iv W, iv (oC b), iv j] [] G x := fun m => by
  induction m with
  | zero =>
    intro j b x hj hb r
    have ej : j = K := hj
    rw [ej]
    exact r
  | succ m ih =>
    intro j b x hj hb r
    have q := oC_b (by decide) hb
    have y := oC_b (by decide) (hu j (by omega))
    have lt := oC_lt (by decide) (hu j (by omega)) hb
    have hb2 : oK 9 (if u j < b then u j else b) := by
      split
      · exact hu j (by omega)
      · exact hb
    have z := ih (j + 1) (if u j < b then u j else b) x (by omega) hb2 r
    refine or_119m S v4 hK.2 bW ⟨q.1, q.2.1⟩ (by omega) (w71 j (by omega)) ⟨y.1, y.2.1⟩ (m := oC (if u j < b then u j else b)) ?_ z
    by_cases c : u j < b
    · rw [if_pos c]
      exact Or.inl ⟨lt.2 c, rfl⟩
    · rw [if_neg c]
      exact Or.inr ⟨fun z => c (lt.1 z), rfl⟩
theorem op_119 (S : fS g) (hn : n ≤ 14) (eK : mbK S0 n = K) (hK : 1 ≤ K ∧ K ≤ 10) (eW : W = 2 ^ K - 1) (hw : ∀ a b, 0 ≤ w a b ∧ w a b ≤ 2100) (D : ∀ j, j < K → stD h g (mbM S0 n j)) (est : ∀ a b, a < K → b < K → st a b = stN h (mbM S0 n a) (mbM S0 n b) ∧ w a b = stS h (mbM S0 n a) (mbM S0 n b)) : ∃ G, am_ev (d + 4) 119 0 (am_ent [.ref 67, .int S0, .ref 74, iv n] 7) [] g (some (iv (if oT0 K st w W < 1000000000 then oT0 K st w W else -1)), G) ∧ fS G ∧ (∀ a j, (a < 67 ∨ 71 < a) → G.2.2.2 a j = g.2.2.2 a j) ∧ (oT0 K st w W < 1000000000 → 0 ≤ oT0 K st w W ∧ oT0 K st w W ≤ 42000 ∧ ∀ t, t < K → G.2.2.2 68 t = iv (mbM S0 n (oQQ K st w W t))) := by
  obtain ⟨G1, r1, E1, v4, f69, H70⟩ := op_120 (d := d) (st := st) (w := w) S hn eK hK.2 D est
  obtain ⟨hW, bW, sW⟩ := o_w K (by omega)
  rw [← eW] at bW hW
  have tW : ∀ j, j < K → W.testBit j = true := fun j hj => by
    rw [eW, o_wb K (by omega) j (by omega)]
    exact decide_eq_true hj
  obtain ⟨G2, r2, E2, Q⟩ := op_119b (d := d) (S0 := S0) (n := n) (st := st) (w := w) E1.1 v4 hK.2 bW hw H70 W 1 G1 am_ph (by omega) (oE.rf E1.1) (fun p f a b c o => by
    have p0 : p = 0 := by omega
    rw [p0, Nat.zero_testBit] at c
    cases c)
  have v4' := (E2.2.2.2 67 4 (by decide)).trans v4
  have hu : ∀ j, j < K → oK 9 (oW K st w (W - 2 ^ j) j) := fun j hj => oW9 hK.2 hw bW (by omega) (tW j hj)
  have w71 : ∀ j, j < K → G2.2.2.2 71 (10 * W + j) = iv (oC (oW K st w (W - 2 ^ j) j)) := fun j hj => Q W j (Nat.le_refl _) hj (tW j hj) (Or.inl (by omega))
  have hM : ∀ j, j < K → mbM S0 n j < 14 := fun j hj => by
    have := (mbL_in (S0 := S0) n 0 j (by rw [← eK] at hj; exact hj)).1.2
    show (mbL S0 n 0).getD j 0 < 14
    omega
  have b9 : oK 9 (oT0 K st w W) := by
    rcases oS_at (f := fun j => oW K st w (W - 2 ^ j) j) K 0 1000000000 with z | ⟨i, a, b, c⟩
    · exact Or.inl z
    · have c : oW K st w (W - 2 ^ i) i = oT0 K st w W := c
      rw [← c]
      exact hu i (by omega)
  have bt_ := oC_b (by decide) b9
  have main : ∀ x, am_ev (d + 4) 119 96 [.ref 67, .int S0, .ref 74, iv n, iv W, iv (oC (oT0 K st w W)), iv K] [] G2 x → am_ev (d + 4) 119 0 (am_ent [.ref 67, .int S0, .ref 74, iv n] 7) [] g x := fun x r => or_119s S r1 E1.1 v4 hW (r2 x (op_119m E2.1 v4' hK bW (u := fun j => oW K st w (W - 2 ^ j) j) hu w71 K 0 1000000000 x (by omega) (Or.inl rfl) r))
  by_cases fin : oT0 K st w W < 1000000000
  · obtain ⟨e1, e2⟩ := bt_.2.2.2.1 fin
    rw [e1] at main
    have b1 : 0 ≤ oT0 K st w W := by rcases b9 with z | z <;> omega
    obtain ⟨G3, r3, E3, q3⟩ := op_125 (d := d + 1) E2.1 v4' hK eW hw (fun j hj => (E2.2.2.2 69 j (by decide)).trans (f69 j hj)) hM (fun a b ha hb => (E2.2.2.2 70 _ (by decide)).trans (H70 a b ha hb)) Q fin
    rw [if_pos fin]
    exact ⟨G3, main _ (or_119g E2.1 v4' hK.2 bW (by omega) rfl (by omega) r3 E3.1), E3.1, fun a j q => (E3.2.2.2 a j (by omega)).trans ((E2.2.2.2 a j (by omega)).trans (E1.2.2.2 a j (by omega))), fun _ => ⟨b1, e2, q3⟩⟩
  · rw [if_neg fin]
    have e1 := bt_.2.2.2.2 (by omega)
    rw [e1] at main
    exact ⟨G2, main _ (or_119f E2.1 v4' hK.2 bW (by omega) rfl (by omega)), E2.1, fun a j q => (E2.2.2.2 a j (by omega)).trans (E1.2.2.2 a j (by omega)), fun z => absurd z fin⟩
end ORQ
