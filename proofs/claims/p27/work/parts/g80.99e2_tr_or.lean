/-! ORDER, the program's side: loops -/
def mbL (S0 : Int32) : Nat → Nat → List Nat
  | 0, _ => []
  | m + 1, c => if bt S0 c = true then c :: mbL S0 m (c + 1) else mbL S0 m (c + 1)
def mbM (S0 : Int32) (n j : Nat) : Nat := (mbL S0 n 0).getD j 0
def mbK (S0 : Int32) (n : Nat) : Nat := (mbL S0 n 0).length
section MBL
variable {S0 : Int32}
theorem mbL_len : ∀ (m c : Nat), ((mbL S0 m c).length : Int) + cS (bt S0) c = cS (bt S0) (c + m) := fun m => by
  induction m with
  | zero => intro c; show ((0 : Nat) : Int) + cS (bt S0) c = cS (bt S0) c; omega
  | succ m ih =>
    intro c
    have e := ih (c + 1)
    have e2 : cS (bt S0) (c + 1) = cS (bt S0) c + b2 (bt S0 c) := rfl
    rw [show c + (m + 1) = c + 1 + m by omega, ← e, e2]
    show ((if bt S0 c = true then c :: mbL S0 m (c + 1) else mbL S0 m (c + 1)).length : Int) + _ = _
    cases b : bt S0 c with
    | true =>
      rw [if_pos rfl]
      show (((mbL S0 m (c + 1)).length + 1 : Nat) : Int) + _ = _ + (_ + 1)
      omega
    | false =>
      rw [if_neg (by decide)]
      show _ = _ + (_ + 0)
      omega
theorem mbL_in : ∀ (m c i : Nat), i < (mbL S0 m c).length → (c ≤ (mbL S0 m c).getD i 0 ∧ (mbL S0 m c).getD i 0 < c + m) ∧ bt S0 ((mbL S0 m c).getD i 0) = true := fun m => by
  induction m with
  | zero => intro c i hi; exact absurd hi (Nat.not_lt_zero i)
  | succ m ih =>
    intro c i hi
    have e : mbL S0 (m + 1) c = if bt S0 c = true then c :: mbL S0 m (c + 1) else mbL S0 m (c + 1) := rfl
    rw [e] at hi ⊢
    by_cases b : bt S0 c = true
    · rw [if_pos b] at hi ⊢
      cases i with
      | zero => exact ⟨⟨Nat.le_refl _, by show c < c + (m + 1); omega⟩, b⟩
      | succ i =>
        have z := ih (c + 1) i (Nat.lt_of_succ_lt_succ hi)
        exact ⟨⟨by show c ≤ (mbL S0 m (c + 1)).getD i 0; omega, by show (mbL S0 m (c + 1)).getD i 0 < _; omega⟩, z.2⟩
    · rw [if_neg b] at hi ⊢
      have z := ih (c + 1) i hi
      exact ⟨by omega, z.2⟩
theorem mbL_all : ∀ (m c c' : Nat), c ≤ c' → c' < c + m → bt S0 c' = true → ∃ i, i < (mbL S0 m c).length ∧ (mbL S0 m c).getD i 0 = c' := fun m => by
  induction m with
  | zero => intro c c' x y; omega
  | succ m ih =>
    intro c c' x y b'
    have e : mbL S0 (m + 1) c = if bt S0 c = true then c :: mbL S0 m (c + 1) else mbL S0 m (c + 1) := rfl
    rw [e]
    by_cases b : bt S0 c = true
    · rw [if_pos b]
      by_cases q : c' = c
      · exact ⟨0, Nat.zero_lt_succ _, q.symm⟩
      · obtain ⟨i, i1, i2⟩ := ih (c + 1) c' (by omega) (by omega) b'
        exact ⟨i + 1, Nat.succ_lt_succ i1, i2⟩
    · rw [if_neg b]
      have q : c' ≠ c := fun q => b (q ▸ b')
      exact ih (c + 1) c' (by omega) (by omega) b'
end MBL
section ORP
variable {h g G : am_H} {d n K W : Nat} {S0 : Int32} {M : Nat → Nat} {x5 x6 x7 : Value} {st : Nat → Nat → Bool} {w : Nat → Nat → Int} {tot : Int}
/-- alike but for some rows -/
def oE (p : Nat → Prop) (g G : am_H) : Prop := fS G ∧ G.1 = g.1 ∧ G.2.2.1 = g.2.2.1 ∧ ∀ a j, ¬ p a → G.2.2.2 a j = g.2.2.2 a j
theorem oE.rf {p : Nat → Prop} (S : fS g) : oE p g g := ⟨S, rfl, rfl, fun _ _ _ => rfl⟩
theorem op_120a (hn : n ≤ 14) (hK : K ≤ 10) : ∀ (m c z : Nat) (G : am_H), c + m = n → oE (fun a => a = 67 ∨ a = 69) g G → G.2.2.2 67 4 = iv z → (∀ j, j < z → G.2.2.2 69 j = iv (M j)) → z + (mbL S0 m c).length = K → (∀ i, i < (mbL S0 m c).length → (mbL S0 m c).getD i 0 = M (z + i)) → ∃ G', (∀ x, am_ev (d + 3) 120 69 [.ref 67, .int S0, .ref 74, iv n, iv 0, x5, x6] [] G' x → am_ev (d + 3) 120 8 [.ref 67, .int S0, .ref 74, iv n, iv c, x5, x6] [] G x) ∧ oE (fun a => a = 67 ∨ a = 69) g G' ∧ G'.2.2.2 67 4 = iv K ∧ ∀ j, j < K → G'.2.2.2 69 j = iv (M j) := fun m => by
  induction m with
  | zero =>
    intro c z G hc E v4 f69 hz _
    have ez : z = K := hz
    subst ez
    exact ⟨G, fun x r => or_120e E.1 v4 hK hn hc r, E, v4, f69⟩
  | succ m ih =>
    intro c z G hc E v4 f69 hz hM
    have e : mbL S0 (m + 1) c = if bt S0 c = true then c :: mbL S0 m (c + 1) else mbL S0 m (c + 1) := rfl
    by_cases z10 : z = 10
    · have ez : z = K := by omega
      subst ez
      exact ⟨G, fun x r => or_120f E.1 v4 hK hn (by omega) z10 r, E, v4, f69⟩
    · cases qb : bt S0 c with
      | false =>
        rw [e, qb, if_neg (by decide)] at hz hM
        obtain ⟨G', r, r2⟩ := ih (c + 1) z G (by omega) E v4 f69 hz hM
        exact ⟨G', fun x k => or_120n E.1 v4 (by omega) hn (by omega) (by omega) qb (r x k), r2⟩
      | true =>
        rw [e, qb, if_pos rfl] at hz hM
        have hz : z + ((mbL S0 m (c + 1)).length + 1) = K := hz
        have m0 : c = M z := hM 0 (Nat.zero_lt_succ _)
        have E2 : oE (fun a => a = 67 ∨ a = 69) g (am_put (am_put G 69 z (iv c)) 67 4 (iv ((z : Int) + 1))) := ⟨(E.1.pa rfl |>.po rfl rfl), E.2.1, E.2.2.1, fun a j na => (ax_put_o (Or.inl (fun z => na (Or.inl z))) (ax_put_o (Or.inl (fun z => na (Or.inr z))) rfl)).trans (E.2.2.2 a j na)⟩
        obtain ⟨G', r, r2⟩ := ih (c + 1) (z + 1) _ (by omega) E2 (by
          rw [show (((z + 1 : Nat) : Int)) = (z : Int) + 1 by omega]
          exact ax_put_s _ _ _) (fun j hj => by
          by_cases ej : j = z
          · rw [ej, ← m0]
            exact ax_put_o (Or.inl (by decide)) (ax_put_s _ _ _)
          · exact ax_put_o (Or.inl (by decide)) (ax_put_o (Or.inr ej) (f69 j (by omega)))) (by omega) (fun i hi => by
          have q := hM (i + 1) (Nat.succ_lt_succ hi)
          rw [show z + 1 + i = z + (i + 1) by omega]
          exact q)
        exact ⟨G', fun x k => or_120y E.1 v4 (by omega) hn (by omega) (by omega) qb (r x k), r2⟩
/-- what the links say so far -/
def oLT (st : Nat → Nat → Bool) (w : Nat → Nat → Int) (K : Nat) (G : am_H) (a b : Nat) : Prop := ∀ a' b', b' < K → (a' < a ∨ a' = a ∧ b' < b) → G.2.2.2 70 (10 * a' + b') = iv (oLk st w a' b')
theorem op_120b (hn : n ≤ 14) (hK : K ≤ 10) (E0 : fS g) (v4 : g.2.2.2 67 4 = iv K) (f69 : ∀ j, j < K → g.2.2.2 69 j = iv (M j)) (hM : ∀ j, j < K → M j < n) (D : ∀ j, j < K → stD h g (M j)) (est : ∀ a b, a < K → b < K → st a b = stN h (M a) (M b) ∧ w a b = stS h (M a) (M b)) (a : Nat) (ha : a < K) : ∀ (m b : Nat) (G : am_H) (x6 : Value), b + m = K → oE (fun c => c = 70) g G → oLT st w K G a b → ∃ (G' : am_H) (x6' : Value), (∀ x, am_ev (d + 3) 120 69 [.ref 67, .int S0, .ref 74, iv n, iv ((a + 1 : Nat) : Int), iv K, x6'] [] G' x → am_ev (d + 3) 120 81 [.ref 67, .int S0, .ref 74, iv n, iv a, iv b, x6] [] G x) ∧ oE (fun c => c = 70) g G' ∧ oLT st w K G' (a + 1) 0 := fun m => by
  induction m with
  | zero =>
    intro b G x6 hb E Q
    have eb : b = K := hb
    subst eb
    refine ⟨G, x6, fun x r => or_120i E.1 ((E.2.2.2 67 4 (by decide)).trans v4) hK hn rfl r, E, fun a' b' hb' o => Q a' b' hb' ?_⟩
    omega
  | succ m ih =>
    intro b G x6 hb E Q
    have D1 := (D a ha).mono E.2.1 E.2.2.1 (fun c j q => E.2.2.2 c j (by omega))
    have D2 := (D b (by omega)).mono E.2.1 E.2.2.1 (fun c j q => E.2.2.2 c j (by omega))
    have H := st_121 (d := d) D1 D2
    obtain ⟨s, k1, -, -, -, -, -, -, -, -, y1, -⟩ := D1
    obtain ⟨s', l1, -, -, -, -, -, -, -, -, y2, -⟩ := D2
    obtain ⟨es, ew⟩ := est a b ha (by omega)
    have f1 := (E.2.2.2 69 a (by decide)).trans (f69 a ha)
    have f2 := (E.2.2.2 69 b (by decide)).trans (f69 b (by omega))
    have v4' := (E.2.2.2 67 4 (by decide)).trans v4
    have p1 := hM a ha
    have p2 := hM b (by omega)
    have next : ∀ v : Int, v = oLk st w a b → oE (fun c => c = 70) g (am_put G 70 (10 * a + b) (iv v)) ∧ oLT st w K (am_put G 70 (10 * a + b) (iv v)) a (b + 1) := fun v ev => by
      refine ⟨⟨E.1.pa rfl, E.2.1, E.2.2.1, fun c j nc => (ax_put_o (Or.inl nc) rfl).trans (E.2.2.2 c j nc)⟩, fun a' b' hb' o => ?_⟩
      by_cases ej : 10 * a' + b' = 10 * a + b
      · have e1 : a' = a := by omega
        have e2 : b' = b := by omega
        rw [e1, e2, ← ev]
        exact ax_put_s _ _ _
      · exact ax_put_o (Or.inr ej) (Q a' b' hb' (by omega))
    unfold stB at H
    cases z : stN h (M a) (M b) with
    | false =>
      rw [z, if_neg (by decide)] at H
      obtain ⟨q1, q2⟩ := next 1000000 (by
        unfold oLk
        rw [es, z]
        rfl)
      obtain ⟨G', x6', r, r2⟩ := ih (b + 1) _ (iv (-1)) (by omega) q1 q2
      exact ⟨G', x6', fun x k => or_120j E.1 v4' hK hn ha (by omega) f1 f2 (by omega) (by omega) k1 l1 H (r x k), r2⟩
    | true =>
      rw [z, if_pos rfl] at H
      have kk := st_S h (M a) (M b)
      obtain ⟨q1, q2⟩ := next (stS h (M a) (M b)) (by
        unfold oLk
        rw [es, z, ew]
        rfl)
      obtain ⟨G', x6', r, r2⟩ := ih (b + 1) _ (iv (stS h (M a) (M b))) (by omega) q1 q2
      exact ⟨G', x6', fun x k => or_120k E.1 v4' hK hn ha (by omega) f1 f2 (by omega) (by omega) k1 l1 H (by omega) (r x k), r2⟩
theorem op_120c (hn : n ≤ 14) (hK : K ≤ 10) (E0 : fS g) (v4 : g.2.2.2 67 4 = iv K) (f69 : ∀ j, j < K → g.2.2.2 69 j = iv (M j)) (hM : ∀ j, j < K → M j < n) (D : ∀ j, j < K → stD h g (M j)) (est : ∀ a b, a < K → b < K → st a b = stN h (M a) (M b) ∧ w a b = stS h (M a) (M b)) : ∀ (m a : Nat) (G : am_H) (x5 x6 : Value), a + m = K → oE (fun c => c = 70) g G → oLT st w K G a 0 → ∃ G', am_ev (d + 3) 120 69 [.ref 67, .int S0, .ref 74, iv n, iv a, x5, x6] [] G (none, G') ∧ oE (fun c => c = 70) g G' ∧ oLT st w K G' K 0 := fun m => by
  induction m with
  | zero =>
    intro a G x5 x6 ha E Q
    have ea : a = K := ha
    subst ea
    exact ⟨G, or_120g E.1 ((E.2.2.2 67 4 (by decide)).trans v4) hK hn rfl, E, Q⟩
  | succ m ih =>
    intro a G x5 x6 ha E Q
    obtain ⟨G1, y6, r, E1, Q1⟩ := op_120b (d := d) (S0 := S0) hn hK E0 v4 f69 hM D est a (by omega) K 0 G x6 (by omega) E Q
    obtain ⟨G', r1, r2⟩ := ih (a + 1) G1 (iv K) y6 (by omega) E1 Q1
    exact ⟨G', or_120h E.1 ((E.2.2.2 67 4 (by decide)).trans v4) hK hn (by omega) (r _ r1), r2⟩
theorem op_120 (S : fS g) (hn : n ≤ 14) (eK : mbK S0 n = K) (hK : K ≤ 10) (D : ∀ j, j < K → stD h g (mbM S0 n j)) (est : ∀ a b, a < K → b < K → st a b = stN h (mbM S0 n a) (mbM S0 n b) ∧ w a b = stS h (mbM S0 n a) (mbM S0 n b)) : ∃ G, am_ev (d + 3) 120 0 (am_ent [.ref 67, .int S0, .ref 74, iv n] 7) [] g (none, G) ∧ oE (fun a => a = 67 ∨ a = 69 ∨ a = 70) g G ∧ G.2.2.2 67 4 = iv K ∧ (∀ j, j < K → G.2.2.2 69 j = iv (mbM S0 n j)) ∧ ∀ a b, a < K → b < K → G.2.2.2 70 (10 * a + b) = iv (oLk st w a b) := by
  have E0 : oE (fun a => a = 67 ∨ a = 69) g (am_put g 67 4 (iv 0)) := ⟨S.po rfl rfl, rfl, rfl, fun a j na => ax_put_o (Or.inl (fun z => na (Or.inl z))) rfl⟩
  obtain ⟨G1, r, E1, v4, f69⟩ := op_120a (d := d) (S0 := S0) (M := mbM S0 n) (x5 := am_ph) (x6 := am_ph) hn hK n 0 0 _ (by omega) E0 (ax_put_s _ _ _) (fun j hj => absurd hj (Nat.not_lt_zero j)) (by rw [Nat.zero_add]; exact eK) (fun i hi => by rw [Nat.zero_add]; rfl)
  have hM : ∀ j, j < K → mbM S0 n j < n := fun j hj => by
    have := (mbL_in (S0 := S0) n 0 j (by rw [← eK] at hj; exact hj)).1.2
    rw [Nat.zero_add] at this
    exact this
  have D1 : ∀ j, j < K → stD h G1 (mbM S0 n j) := fun j hj => (D j hj).mono E1.2.1 E1.2.2.1 (fun c i q => E1.2.2.2 c i (by omega))
  obtain ⟨G, r1, E2, Q⟩ := op_120c (d := d) (S0 := S0) hn hK E1.1 v4 f69 hM D1 est K 0 G1 am_ph am_ph (by omega) (oE.rf E1.1) (fun a' b' hb' o => by omega)
  refine ⟨G, or_120s S (r _ r1), ⟨E2.1, E2.2.1.trans E1.2.1, E2.2.2.1.trans E1.2.2.1, fun a j na => (E2.2.2.2 a j (fun z => na (Or.inr (Or.inr z)))).trans (E1.2.2.2 a j (fun z => na (z.elim Or.inl (fun y => Or.inr (Or.inl y)))))⟩, (E2.2.2.2 67 4 (by decide)).trans v4, fun j hj => (E2.2.2.2 69 j (by decide)).trans (f69 j hj), fun a b ha hb => Q a b hb (Or.inl ha)⟩
/-! the table -/
theorem oK.up {m n : Nat} {v : Int} (q : oK m v) (h : m ≤ n) : oK n v := q.imp id (fun z => ⟨z.1, by omega⟩)
theorem op_123l (S : fS G) (v4 : G.2.2.2 67 4 = iv K) (hK : K ≤ 10) {r one : Nat} (hr : r < 1024) (ho : one < 10) {l : Nat → Int} (H : ∀ j, j < K → r.testBit j = true → am_ev d 124 0 (am_ent [.ref 67, iv r, iv one, iv j] 4) [] G (some (iv (l j)), G) ∧ 0 ≤ l j ∧ l j ≤ 2000000) : ∀ (m j : Nat) (b : Int) (x5 : Value), j + m = K → (0 ≤ b ∧ b ≤ 1000000) → am_ev (d + 1) 123 12 [.ref 67, iv r, iv one, iv b, iv j, x5] [] G (some (iv (oL r l m j b)), G) := fun m => by
  induction m with
  | zero => intro j b x5 hj bb; exact or_123e S v4 hK bb hj
  | succ m ih =>
    intro j b x5 hj bb
    show am_ev _ _ _ _ _ _ (some (iv (if b ≤ 0 then b else oL r l m (j + 1) (if r.testBit j = true then (if l j < b then l j else b) else b))), G)
    by_cases z : b ≤ 0
    · rw [if_pos z]
      exact or_123f S v4 hK bb (by omega) z
    · rw [if_neg z]
      have eb := o_bt r hr j (by omega)
      cases t : r.testBit j with
      | false =>
        rw [if_neg (by decide)]
        exact or_123n S v4 hK bb (by omega) (by omega) (eb.trans t) (ih (j + 1) b x5 (by omega) bb)
      | true =>
        rw [if_pos rfl]
        obtain ⟨H1, l0, l1⟩ := H j (by omega) t
        by_cases y : l j < b
        · rw [if_pos y]
          exact or_123y S v4 hK bb (by omega) (by omega) (eb.trans t) H1 ⟨l0, l1⟩ y (ih (j + 1) (l j) _ (by omega) (by omega))
        · rw [if_neg y]
          exact or_123z2 S v4 hK bb (by omega) (by omega) (eb.trans t) H1 ⟨l0, l1⟩ y (ih (j + 1) b _ (by omega) bb)
theorem oW9 (hK : K ≤ 10) (hw : ∀ a b, 0 ≤ w a b ∧ w a b ≤ 2100) {r j : Nat} (hr : r < 1024) (hj : j < 10) (t : r.testBit j = true) : oK 9 (oW K st w (r - 2 ^ j) j) := by
  have a := o_sub r hr j hj t
  have b := o_s9 r hr
  have y : r - 2 ^ j < 1024 := Nat.lt_of_le_of_lt (Nat.sub_le _ _) hr
  exact (oW_b hK hw (r - 2 ^ j) j y).up (by omega)
theorem op_123 (S : fS G) (v4 : G.2.2.2 67 4 = iv K) (hK : K ≤ 10) (hw : ∀ a b, 0 ≤ w a b ∧ w a b ≤ 2100) {r one : Nat} (hr : r < 1024) (ho : one < K) (H70 : ∀ b, b < K → G.2.2.2 70 (10 * one + b) = iv (oLk st w one b)) (H71 : ∀ j, j < K → r.testBit j = true → G.2.2.2 71 (10 * r + j) = iv (oC (oW K st w (r - 2 ^ j) j))) : am_ev (d + 1) 123 0 (am_ent [.ref 67, iv r, iv one] 6) [] G (some (iv (oC (oW K st w r one))), G) := by
  by_cases z : r = 0
  · have e : oC (oW K st w r one) = 0 := by
      rw [z, oW_0]
      rfl
    rw [e]
    exact or_123z z
  · refine or_123s z hr ?_
    have hl : ∀ j, j < K → r.testBit j = true → am_ev d 124 0 (am_ent [.ref 67, iv r, iv one, iv j] 4) [] G (some (iv (oLk st w one j + oC (oW K st w (r - 2 ^ j) j))), G) ∧ 0 ≤ oLk st w one j + oC (oW K st w (r - 2 ^ j) j) ∧ oLk st w one j + oC (oW K st w (r - 2 ^ j) j) ≤ 2000000 := fun j hj t => by
      have q := oC_b (by decide) (oW9 (st := st) hK hw hr (show j < 10 by omega) t)
      have ww := hw one j
      have lb : 0 ≤ oLk st w one j ∧ oLk st w one j ≤ 1000000 := by
        unfold oLk
        split <;> omega
      exact ⟨or_124 S (by omega) (by omega) hr (H70 j hj) (H71 j hj t) lb ⟨q.1, q.2.1⟩, by omega, by omega⟩
    have e := op_123l (d := d) S v4 hK hr (show one < 10 by omega) (l := fun j => oLk st w one j + oC (oW K st w (r - 2 ^ j) j)) hl K 0 1000000 am_ph (by omega) (by omega)
    have c := oL_C (k := K) (st := st) (w := w) hK hw (v := oW K st w) (rest := r) (one := one) (fun j hj t => oW9 hK hw hr (by omega) t) (l := fun j => oLk st w one j + oC (oW K st w (r - 2 ^ j) j)) (fun j hj t => rfl) K 0 1000000000 (by omega) (Or.inl rfl)
    rw [show oC 1000000000 = 1000000 by decide] at c
    rw [c] at e
    rw [oW_eq hK hr, if_neg z]
    exact e
/-- what the table says so far -/
def oTB (st : Nat → Nat → Bool) (w : Nat → Nat → Int) (K W : Nat) (G : am_H) (part first : Nat) : Prop := ∀ p f, p ≤ W → f < K → p.testBit f = true → (p < part ∨ p = part ∧ f < first) → G.2.2.2 71 (10 * p + f) = iv (oC (oW K st w (p - 2 ^ f) f))
theorem op_119a (E0 : fS g) (v4 : g.2.2.2 67 4 = iv K) (hK : K ≤ 10) (bW : W < 1024) (hw : ∀ a b, 0 ≤ w a b ∧ w a b ≤ 2100) (H70 : ∀ a b, a < K → b < K → g.2.2.2 70 (10 * a + b) = iv (oLk st w a b)) (part : Nat) (hp : part ≤ W) : ∀ (m f : Nat) (G : am_H), f + m = K → oE (fun c => c = 71) g G → oTB st w K W G part f → ∃ G', (∀ x, am_ev (d + 4) 119 20 [.ref 67, .int S0, .ref 74, iv n, iv W, iv ((part + 1 : Nat) : Int), iv K] [] G' x → am_ev (d + 4) 119 30 [.ref 67, .int S0, .ref 74, iv n, iv W, iv part, iv f] [] G x) ∧ oE (fun c => c = 71) g G' ∧ oTB st w K W G' (part + 1) 0 := fun m => by
  induction m with
  | zero =>
    intro f G hf E Q
    have ef : f = K := hf
    subst ef
    exact ⟨G, fun x r => or_119j E.1 ((E.2.2.2 67 4 (by decide)).trans v4) hK bW hp rfl r, E, fun p f' a b c o => Q p f' a b c (by omega)⟩
  | succ m ih =>
    intro f G hf E Q
    have v4' := (E.2.2.2 67 4 (by decide)).trans v4
    have eb := o_bt part (by omega) f (by omega)
    cases t : part.testBit f with
    | false =>
      obtain ⟨G', r, r2⟩ := ih (f + 1) G (by omega) E (fun p f' a b c o => by
        by_cases e : p = part ∧ f' = f
        · rw [e.1, e.2, t] at c
          cases c
        · exact Q p f' a b c (by omega))
      exact ⟨G', fun x k => or_119n E.1 v4' hK bW hp (by omega) (eb.trans t) (r x k), r2⟩
    | true =>
      have os := o_sub part (by omega) f (by omega) t
      have p2 := Nat.two_pow_pos f
      have y : part - 2 ^ f < 1024 := Nat.lt_of_le_of_lt (Nat.sub_le _ _) (by omega)
      have H := op_123 (d := d + 2) (st := st) (w := w) E.1 v4' hK hw y (show f < K by omega) (fun b hb => (E.2.2.2 70 _ (by decide)).trans (H70 f b (by omega) hb)) (fun j hj tj => Q (part - 2 ^ f) j (by omega) hj tj (Or.inl (by omega)))
      obtain ⟨G', r, r2⟩ := ih (f + 1) (am_put G 71 (10 * part + f) (iv (oC (oW K st w (part - 2 ^ f) f)))) (by omega) ⟨E.1.pa rfl, E.2.1, E.2.2.1, fun c j nc => (ax_put_o (Or.inl nc) rfl).trans (E.2.2.2 c j nc)⟩ (fun p f' a b c o => by
        by_cases e : 10 * p + f' = 10 * part + f
        · have e1 : p = part := by omega
          have e2 : f' = f := by omega
          rw [e1, e2]
          exact ax_put_s _ _ _
        · exact ax_put_o (Or.inr e) (Q p f' a b c (by omega)))
      exact ⟨G', fun x k => or_119y E.1 v4' hK bW hp (by omega) (eb.trans t) (o_and part (by omega) f (by omega) t) H (r x k), r2⟩
theorem op_119b (E0 : fS g) (v4 : g.2.2.2 67 4 = iv K) (hK : K ≤ 10) (bW : W < 1024) (hw : ∀ a b, 0 ≤ w a b ∧ w a b ≤ 2100) (H70 : ∀ a b, a < K → b < K → g.2.2.2 70 (10 * a + b) = iv (oLk st w a b)) : ∀ (m part : Nat) (G : am_H) (x6 : Value), part + m = W + 1 → oE (fun c => c = 71) g G → oTB st w K W G part 0 → ∃ G', (∀ x, am_ev (d + 4) 119 96 [.ref 67, .int S0, .ref 74, iv n, iv W, iv 1000000, iv 0] [] G' x → am_ev (d + 4) 119 20 [.ref 67, .int S0, .ref 74, iv n, iv W, iv part, x6] [] G x) ∧ oE (fun c => c = 71) g G' ∧ oTB st w K W G' (W + 1) 0 := fun m => by
  induction m with
  | zero =>
    intro part G x6 hp E Q
    have ep : part = W + 1 := hp
    subst ep
    exact ⟨G, fun x r => or_119e E.1 ((E.2.2.2 67 4 (by decide)).trans v4) hK bW rfl r, E, Q⟩
  | succ m ih =>
    intro part G x6 hp E Q
    obtain ⟨G1, r, E1, Q1⟩ := op_119a (d := d) (S0 := S0) (n := n) E0 v4 hK bW hw H70 part (by omega) K 0 G (by omega) E Q
    obtain ⟨G', r1, r2⟩ := ih (part + 1) G1 (iv K) (by omega) E1 Q1
    exact ⟨G', fun x k => or_119i E.1 ((E.2.2.2 67 4 (by decide)).trans v4) hK bW (by omega) (r _ (r1 x k)), r2⟩
end ORP
