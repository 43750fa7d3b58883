/-! ORDER, the model's side: loops -/
section ORM2
variable {h g G B : am_H} {d n K W : Nat} {S0 : Int32} {M : Nat → Nat} {x3 x4 x5 x6 x7 x8 : Value} {st : Nat → Nat → Bool} {w : Nat → Nat → Int} {tot : Int}
theorem hd_I123 {h : am_H} (I : cq_Inv none h) {j : Nat} {x : Int32} (h0 : 0 ≤ x.toInt) (h1 : x.toInt ≤ 13) : cq_Inv none (am_put h 123 j (.int x)) := by
  refine cq_Inv_put I (by decide) (by have := I.lo; omega) (fun _ => ?_) (fun z => by omega) (fun z => by omega) (fun z => by omega) (fun z => by omega) (by decide)
  rw [hd_tyA I (by decide) (by decide) (by decide +kernel) (by decide), show cq_ar 123 = (1, 0, 13, 0, 0, 0) by decide +kernel]
  exact ⟨x, rfl, h0, h1⟩
theorem hd_I125 {h : am_H} (I : cq_Inv none h) {j : Nat} {x : Int32} (h0 : 0 ≤ x.toInt) (h1 : x.toInt ≤ 1) : cq_Inv none (am_put h 125 j (.int x)) := by
  refine cq_Inv_put I (by decide) (by have := I.lo; omega) (fun _ => ?_) (fun z => by omega) (fun z => by omega) (fun z => by omega) (fun z => by omega) (by decide)
  rw [hd_tyA I (by decide) (by decide) (by decide +kernel) (by decide), show cq_ar 125 = (1, 0, 1, 0, 0, 0) by decide +kernel]
  exact ⟨x, rfl, h0, h1⟩
theorem lk_put123 (I : cq_Inv none h) (LC : lkC h) {j c : Nat} (hc : c < 14) : cq_Inv none (am_put h 123 j (iv c)) ∧ lkC (am_put h 123 j (iv c)) ∧ lkE h (am_put h 123 j (iv c)) := by
  have I' : cq_Inv none (am_put h 123 j (iv c)) := hd_I123 I (by rw [fx_ti (by omega)]; omega) (by rw [fx_ti (by omega)]; omega)
  exact ⟨I', lk_put (m := [(false, 123, 0, 0)]) I LC I' (cq_Fr_put cq_Fr_rf (fun _ => rfl)) (by decide) (by decide +kernel)⟩
theorem lk_put125 (I : cq_Inv none h) (LC : lkC h) {j : Nat} {v : Int} (hv : 0 ≤ v ∧ v ≤ 1) : cq_Inv none (am_put h 125 j (iv v)) ∧ lkC (am_put h 125 j (iv v)) ∧ lkE h (am_put h 125 j (iv v)) := by
  have I' : cq_Inv none (am_put h 125 j (iv v)) := hd_I125 I (by rw [fx_ti (by omega)]; omega) (by rw [fx_ti (by omega)]; omega)
  exact ⟨I', lk_put (m := [(false, 125, 0, 0)]) I LC I' (cq_Fr_put cq_Fr_rf (fun _ => rfl)) (by decide) (by decide +kernel)⟩
theorem gS.pp (k : gS h g) {c j : Nat} {v : Value} (S : fS (am_put g c j v)) : gS (am_put h c j v) (am_put g c j v) := ⟨S, k.2.1, k.2.2.1, fun a ha x b m => by
  by_cases e : a = c ∧ b = j
  · rw [e.1, e.2]
    exact (ax_put_s _ _ _).trans (ax_put_s _ _ _).symm
  · have e : a ≠ c ∨ b ≠ j := by omega
    exact (ax_put_o e (k.2.2.2 a ha x b m)).trans (ax_put_o e rfl).symm⟩
theorem stN_rf (h : am_H) (c : Nat) : stN h c c = false := by
  unfold stN
  rw [decide_eq_false (fun z => z rfl)]
  rfl
/-- members -/
theorem om_A (hn : n ≤ 14) (v53 : g.2.2.2 78 53 = iv n) : ∀ (m c z : Nat) (G : am_H), c + m = n → z ≤ 10 → cq_Inv none G → lkC G → lkE g G → (∀ a j, a ≠ 123 → G.2.2.2 a j = g.2.2.2 a j) → (∀ j, j < z → G.2.2.2 123 j = iv (M j)) → z + (mbL S0 m c).length = K → (∀ i, i < (mbL S0 m c).length → (mbL S0 m c).getD i 0 = M (z + i)) → (10 < K ∧ ∃ G', am_ev (d + 10) 239 24 [.ref 78, .int S0, iv z, iv c, x4, x5, x6, x7, x8] [] G (some (iv (-2)), G') ∧ ∀ a j, a ≠ 123 → G'.2.2.2 a j = g.2.2.2 a j) ∨ (K ≤ 10 ∧ ∃ G', cq_Inv none G' ∧ lkC G' ∧ lkE g G' ∧ (∀ a j, a ≠ 123 → G'.2.2.2 a j = g.2.2.2 a j) ∧ (∀ j, j < K → G'.2.2.2 123 j = iv (M j)) ∧ ∀ x, am_ev (d + 10) 239 68 [.ref 78, .int S0, iv K, iv n, x4, x5, x6, x7, x8] [] G' x → am_ev (d + 10) 239 24 [.ref 78, .int S0, iv z, iv c, x4, x5, x6, x7, x8] [] G x) := fun m => by
  induction m with
  | zero =>
    intro c z G hc z10 I LC E fr f123 hz _
    have ez : z = K := hz
    have ec : c = n := hc
    subst ez
    subst ec
    exact Or.inr ⟨z10, G, I, LC, E, fr, f123, fun x r => or_239c (fS.of I) ((fr 78 53 (by decide)).trans v53) hn z10 rfl r⟩
  | succ m ih =>
    intro c z G hc z10 I LC E fr f123 hz hM
    have e : mbL S0 (m + 1) c = if bt S0 c = true then c :: mbL S0 m (c + 1) else mbL S0 m (c + 1) := rfl
    have S := fS.of I
    have w53 := (fr 78 53 (by decide)).trans v53
    cases qb : bt S0 c with
    | false =>
      rw [e, qb, if_neg (by decide)] at hz hM
      rcases ih (c + 1) z G (by omega) z10 I LC E fr f123 hz hM with ⟨q, G', r, r2⟩ | ⟨q, G', y1, y2, y3, y4, y5, r⟩
      · exact Or.inl ⟨q, G', or_239d S w53 hn z10 (by omega) qb r, r2⟩
      · exact Or.inr ⟨q, G', y1, y2, y3, y4, y5, fun x k => or_239d S w53 hn z10 (by omega) qb (r x k)⟩
    | true =>
      rw [e, qb, if_pos rfl] at hz hM
      have hz : z + ((mbL S0 m (c + 1)).length + 1) = K := hz
      by_cases z1 : z = 10
      · exact Or.inl ⟨by omega, G, or_239e S w53 hn z10 (by omega) qb z1, fr⟩
      · have m0 : c = M z := hM 0 (Nat.zero_lt_succ _)
        obtain ⟨I1, L1, E1⟩ := lk_put123 (j := z) I LC (show c < 14 by omega)
        have n1 : ((z + 1 : Nat) : Int) = (z : Int) + 1 := by omega
        have n2 : ((c + 1 : Nat) : Int) = (c : Int) + 1 := by omega
        have k := ih (c + 1) (z + 1) (am_put G 123 z (iv c)) (by omega) (by omega) I1 L1 (E.tr E1) (fun a j na => (ax_put_o (Or.inl na) rfl).trans (fr a j na)) (fun j hj => by
          by_cases ej : j = z
          · rw [ej, ← m0]
            exact ax_put_s _ _ _
          · exact ax_put_o (Or.inr ej) (f123 j (by omega))) (by omega) (fun i hi => by
          have q := hM (i + 1) (Nat.succ_lt_succ hi)
          rw [show z + 1 + i = z + (i + 1) by omega]
          exact q)
        rw [n1, n2] at k
        rcases k with ⟨q, G', r, r2⟩ | ⟨q, G', y1, y2, y3, y4, y5, r⟩
        · exact Or.inl ⟨q, G', or_239f S w53 hn z10 (by omega) qb (by omega) r, r2⟩
        · exact Or.inr ⟨q, G', y1, y2, y3, y4, y5, fun x k => or_239f S w53 hn z10 (by omega) qb (by omega) (r x k)⟩
theorem om_B (S : fS G) (hK : K ≤ 10) {al : Nat → Bool} (f123 : ∀ j, j < K → G.2.2.2 123 j = iv (M j)) (hM : ∀ j, j < K → M j < 14) (f119 : ∀ j, j < K → G.2.2.2 119 (M j) = iv (b2 (al (M j)))) : ∀ (m i : Nat), i + m = K → (aL (fun i => al (M i)) i m = false ∧ am_ev (d + 10) 239 74 [.ref 78, .int S0, iv K, iv i, x4, x5, x6, x7, x8] [] G (some (iv (-4)), G)) ∨ (aL (fun i => al (M i)) i m = true ∧ ∀ x, am_ev (d + 10) 239 102 [.ref 78, .int S0, iv K, iv K, x4, x5, x6, x7, x8] [] G x → am_ev (d + 10) 239 74 [.ref 78, .int S0, iv K, iv i, x4, x5, x6, x7, x8] [] G x) := fun m => by
  induction m with
  | zero =>
    intro i hi
    have ei : i = K := hi
    subst ei
    exact Or.inr ⟨rfl, fun x r => or_239h S hK rfl r⟩
  | succ m ih =>
    intro i hi
    have e : aL (fun i => al (M i)) i (m + 1) = (al (M i) && aL (fun i => al (M i)) (i + 1) m) := rfl
    rw [e]
    have v := f119 i (by omega)
    cases z : al (M i) with
    | false =>
      rw [z] at v
      exact Or.inl ⟨rfl, or_239i (t := 0) S hK (by omega) (f123 i (by omega)) (hM i (by omega)) v rfl⟩
    | true =>
      rw [z] at v
      rcases ih (i + 1) (by omega) with ⟨q, r⟩ | ⟨q, r⟩
      · exact Or.inl ⟨q, or_239j (t := 1) S hK (by omega) (f123 i (by omega)) (hM i (by omega)) v rfl r⟩
      · exact Or.inr ⟨q, fun x k => or_239j (t := 1) S hK (by omega) (f123 i (by omega)) (hM i (by omega)) v rfl (r x k)⟩
/-! findStands -/
def oST (h : am_H) (n : Nat) (G : am_H) (a b : Nat) : Prop := ∀ a' b', b' < n → (a' < a ∨ a' = a ∧ b' < b) → G.2.2.2 125 (14 * a' + b') = iv (b2 (stN h a' b'))
theorem om_240b (I : cq_Inv none h) (LC : lkC h) (hn : h.2.2.2 40 13 = iv n) (hn14 : n ≤ 14) (v53 : g.2.2.2 78 53 = iv n) (a : Nat) (ha : a < n) : ∀ (m b : Nat) (B G : am_H), b + m = n → cq_Inv none B → lkC B → lkE h B → gS B G → (∀ c j, c ≠ 125 → G.2.2.2 c j = g.2.2.2 c j) → oST h n G a b → ∃ B' G', (∀ x, am_ev (d + 9) 240 2 [.ref 78, iv ((a + 1 : Nat) : Int), iv n] [] G' x → am_ev (d + 9) 240 12 [.ref 78, iv a, iv b] [] G x) ∧ cq_Inv none B' ∧ lkC B' ∧ lkE h B' ∧ gS B' G' ∧ (∀ c j, c ≠ 125 → G'.2.2.2 c j = g.2.2.2 c j) ∧ oST h n G' (a + 1) 0 := fun m => by
  induction m with
  | zero =>
    intro b B G hb IB LB EB k fr Q
    have eb : b = n := hb
    subst eb
    exact ⟨B, G, fun x r => or_240j k.1 ((fr 78 53 (by decide)).trans v53) hn14 rfl r, IB, LB, EB, k, fr, fun a' b' hb' o => Q a' b' hb' (by omega)⟩
  | succ m ih =>
    intro b B G hb IB LB EB k fr Q
    have w53 := (fr 78 53 (by decide)).trans v53
    have next : ∀ v : Int, v = b2 (stN h a b) → ∃ B' G', (∀ x, am_ev (d + 9) 240 2 [.ref 78, iv ((a + 1 : Nat) : Int), iv n] [] G' x → am_ev (d + 9) 240 12 [.ref 78, iv a, iv ((b + 1 : Nat) : Int)] [] (am_put G 125 (14 * a + b) (iv v)) x) ∧ cq_Inv none B' ∧ lkC B' ∧ lkE h B' ∧ gS B' G' ∧ (∀ c j, c ≠ 125 → G'.2.2.2 c j = g.2.2.2 c j) ∧ oST h n G' (a + 1) 0 := fun v ev => by
      have bv : 0 ≤ v ∧ v ≤ 1 := by
        rw [ev]
        exact b2_01 _
      obtain ⟨I1, L1, E1⟩ := lk_put125 (j := 14 * a + b) IB LB bv
      exact ih (b + 1) _ _ (by omega) I1 L1 (EB.tr E1) (k.pp (k.1.pa rfl)) (fun c j nc => (ax_put_o (Or.inl nc) rfl).trans (fr c j nc)) (fun a' b' hb' o => by
        by_cases ej : 14 * a' + b' = 14 * a + b
        · have e1 : a' = a := by omega
          have e2 : b' = b := by omega
          rw [e1, e2, ← ev]
          exact ax_put_s _ _ _
        · exact ax_put_o (Or.inr ej) (Q a' b' hb' (by omega)))
    by_cases hab : a = b
    · obtain ⟨B', G', r, r2⟩ := next 0 (by
        rw [← hab, stN_rf]
        rfl)
      exact ⟨B', G', fun x q => or_240d k.1 w53 hn14 ha (by omega) hab (r x q), r2⟩
    · have hnB := EB.2.2.2.2.2.2.2.2.1.trans hn
      have H := st_241 (d := d) IB LB hnB hn14 ha (show b < n by omega) k
      rw [(st_eq I LC hn hn14 EB ha (show b < n by omega)).1] at H
      cases z : stN h a b with
      | false =>
        rw [z] at H
        obtain ⟨B', G', r, r2⟩ := next 0 (by rw [z]; rfl)
        exact ⟨B', G', fun x q => or_240n k.1 w53 hn14 ha (by omega) hab H (r x q), r2⟩
      | true =>
        rw [z] at H
        obtain ⟨B', G', r, r2⟩ := next 1 (by rw [z]; rfl)
        exact ⟨B', G', fun x q => or_240y k.1 w53 hn14 ha (by omega) hab H (r x q), r2⟩
theorem om_240a (I : cq_Inv none h) (LC : lkC h) (hn : h.2.2.2 40 13 = iv n) (hn14 : n ≤ 14) (v53 : g.2.2.2 78 53 = iv n) : ∀ (m a : Nat) (B G : am_H) (x3 : Value), a + m = n → cq_Inv none B → lkC B → lkE h B → gS B G → (∀ c j, c ≠ 125 → G.2.2.2 c j = g.2.2.2 c j) → oST h n G a 0 → ∃ G', am_ev (d + 9) 240 2 [.ref 78, iv a, x3] [] G (none, G') ∧ fS G' ∧ (∀ c j, c ≠ 125 → G'.2.2.2 c j = g.2.2.2 c j) ∧ oST h n G' n 0 := fun m => by
  induction m with
  | zero =>
    intro a B G x3 ha IB LB EB k fr Q
    have ea : a = n := ha
    subst ea
    exact ⟨G, or_240e k.1 ((fr 78 53 (by decide)).trans v53) hn14 rfl, k.1, fr, Q⟩
  | succ m ih =>
    intro a B G x3 ha IB LB EB k fr Q
    obtain ⟨B1, G1, r, y1, y2, y3, y4, y5, y6⟩ := om_240b (d := d) I LC hn hn14 v53 a (by omega) n 0 B G (by omega) IB LB EB k fr Q
    obtain ⟨G', r1, r2⟩ := ih (a + 1) B1 G1 (iv n) (by omega) y1 y2 y3 y4 y5 y6
    exact ⟨G', or_240i k.1 ((fr 78 53 (by decide)).trans v53) hn14 (by omega) (r _ r1), r2⟩
theorem om_240 (I : cq_Inv none h) (LC : lkC h) (hn : h.2.2.2 40 13 = iv n) (hn14 : n ≤ 14) (v53 : G.2.2.2 78 53 = iv n) (IB : cq_Inv none B) (LB : lkC B) (EB : lkE h B) (k : gS B G) : ∃ G', am_ev (d + 9) 240 0 (am_ent [.ref 78] 3) [] G (none, G') ∧ fS G' ∧ (∀ c j, c ≠ 125 → G'.2.2.2 c j = G.2.2.2 c j) ∧ ∀ a b, a < n → b < n → G'.2.2.2 125 (14 * a + b) = iv (b2 (stN h a b)) := by
  obtain ⟨G', r, r1, r2, r3⟩ := om_240a (d := d) (g := G) I LC hn hn14 v53 n 0 B G am_ph (by omega) IB LB EB k (fun _ _ _ => rfl) (fun a' b' hb' o => by omega)
  exact ⟨G', or_240s r, r1, r2, fun a b ha hb => r3 a b hb (Or.inl ha)⟩
/-! the table -/
/-- what restBehind looks at -/
def oX (h : am_H) (n K : Nat) (M : Nat → Nat) (g : am_H) : Prop := (∀ j, j < K → g.2.2.2 123 j = iv (M j) ∧ M j < n) ∧ (∀ a b, a < n → b < n → g.2.2.2 125 (14 * a + b) = iv (b2 (stN h a b))) ∧ ∀ c, c < n → g.2.2.2 117 c = iv (qc h c) ∧ g.2.2.2 87 (qc h c) = iv (wkyr h c) ∧ qc h c < 40 ∧ 0 ≤ wkyr h c ∧ wkyr h c ≤ 2100
theorem oX.mono (X : oX h n K M g) (f : ∀ a j, a = 123 ∨ a = 125 ∨ a = 117 ∨ a = 87 → G.2.2.2 a j = g.2.2.2 a j) : oX h n K M G := ⟨fun j hj => ⟨(f 123 j (Or.inl rfl)).trans (X.1 j hj).1, (X.1 j hj).2⟩, fun a b ha hb => (f 125 _ (Or.inr (Or.inl rfl))).trans (X.2.1 a b ha hb), fun c hc => ⟨(f 117 c (Or.inr (Or.inr (Or.inl rfl)))).trans (X.2.2 c hc).1, (f 87 _ (Or.inr (Or.inr (Or.inr rfl)))).trans (X.2.2 c hc).2.1, (X.2.2 c hc).2.2⟩⟩
theorem om_244 (S : fS G) (X : oX h n K M G) (hn : n ≤ 14) {a b : Nat} (ha : a < n) (hb : b < n) : am_ev (d + 1) 244 0 (am_ent [.ref 78, iv a, iv b] 3) [] G (some (iv (stS h a b)), G) := by
  obtain ⟨a1, a2, a3, a4, a5⟩ := X.2.2 a ha
  obtain ⟨b1, b2_, b3, b4, b5⟩ := X.2.2 b hb
  exact mp_244 S (by omega) (by omega) a1 b1 a3 b3 a2 b2_ ⟨a4, a5⟩ ⟨b4, b5⟩ (st_S h a b)
theorem om_243 (S : fS G) (X : oX h n K M G) (hn : n ≤ 14) (hK : K ≤ 10) (hw : ∀ a b, 0 ≤ w a b ∧ w a b ≤ 2100) (est : ∀ a b, a < K → b < K → st a b = stN h (M a) (M b) ∧ w a b = stS h (M a) (M b)) {r one j : Nat} (hr : r < 1024) (ho : one < K) (hj : j < K) (TB : r.testBit j = true → G.2.2.2 124 (10 * (r - 2 ^ j) + j) = iv (oW K st w (r - 2 ^ j) j)) : am_ev (d + 2) 243 0 (am_ent [.ref 78, iv one, iv j, iv r] 7) [] G (some (iv (oR st w (oW K st w) r one j)), G) ∧ 0 ≤ oR st w (oW K st w) r one j ∧ oR st w (oW K st w) r one j ≤ 1000000000 := by
  have k10 : oK 10 (oR st w (oW K st w) r one j) := oR_b hw (fun t => oW9 hK hw hr (by omega) t)
  refine ⟨?_, by rcases k10 with z | z <;> omega, by rcases k10 with z | z <;> omega⟩
  obtain ⟨f1, m1⟩ := X.1 one ho
  obtain ⟨f2, m2⟩ := X.1 j hj
  obtain ⟨es, ew⟩ := est one j ho hj
  have eb := o_bt r hr j (by omega)
  have vt := X.2.1 _ _ m1 m2
  unfold oR
  cases t : r.testBit j with
  | false =>
    rw [if_neg (fun z => by cases z.1)]
    exact or_243a S (by omega) (by omega) hr f1 f2 (by omega) (by omega) (eb.trans t)
  | true =>
    cases s : st one j with
    | false =>
      rw [if_neg (fun z => by cases z.2)]
      rw [← es, s] at vt
      exact or_243b (t := 0) S (by omega) (by omega) hr f1 f2 (by omega) (by omega) (eb.trans t) vt rfl
    | true =>
      rw [if_pos ⟨rfl, rfl⟩]
      rw [← es, s] at vt
      have hA := o_and r hr j (by omega) t
      have y : r - 2 ^ j < 1024 := Nat.lt_of_le_of_lt (Nat.sub_le _ _) hr
      have vB := TB t
      have k9 := oW9 (st := st) hK hw hr (show j < 10 by omega) t
      have bB : 0 ≤ oW K st w (r - 2 ^ j) j ∧ oW K st w (r - 2 ^ j) j ≤ 1000000000 := by rcases k9 with z | z <;> omega
      by_cases c : 1000000000 ≤ oW K st w (r - 2 ^ j) j
      · rw [if_pos c]
        exact or_243c (t := 1) S (by omega) (by omega) hr f1 f2 (by omega) (by omega) (eb.trans t) vt rfl hA y vB bB c
      · rw [if_neg c, ew]
        have H := om_244 (d := d) S X hn m1 m2
        have q := hw one j
        rw [ew] at q
        exact or_243d (t := 1) S (by omega) (by omega) hr f1 f2 (by omega) (by omega) (eb.trans t) vt rfl hA y vB bB (by omega) H q
/-- what the table says so far -/
def oTM (st : Nat → Nat → Bool) (w : Nat → Nat → Int) (K W : Nat) (G : am_H) (part first : Nat) : Prop := ∀ p f, p ≤ W → f < K → p.testBit f = false → (p < part ∨ p = part ∧ f < first) → G.2.2.2 124 (10 * p + f) = iv (oW K st w p f)
theorem om_E (X : oX h n K M G) (S : fS G) (hn : n ≤ 14) (hK : K ≤ 10) (bW : W < 1024) (hw : ∀ a b, 0 ≤ w a b ∧ w a b ≤ 2100) (est : ∀ a b, a < K → b < K → st a b = stN h (M a) (M b) ∧ w a b = stS h (M a) (M b)) {part one : Nat} (hp : part ≤ W) (ho : one < K) (t1 : part.testBit one = false) (TB : ∀ j, j < K → part.testBit j = true → G.2.2.2 124 (10 * (part - 2 ^ j) + j) = iv (oW K st w (part - 2 ^ j) j)) : ∀ (m j : Nat) (b : Int) (x8 : Value) (x : Option Value × am_H), j + m = K → (0 ≤ b ∧ b ≤ 1000000000) → am_ev (d + 10) 239 124 [.ref 78, .int S0, iv K, iv W, iv part, iv ((one + 1 : Nat) : Int), iv (oS (oR st w (oW K st w) part one) m j b), iv K, x8] [] (am_put G 124 (10 * part + one) (iv (oS (oR st w (oW K st w) part one) m j b))) x → am_ev (d + 10) 239 147 [.ref 78, .int S0, iv K, iv W, iv part, iv one, iv b, iv j, x8] [] G x := fun m => by
  induction m with
  | zero =>
    intro j b x8 x hj bb r
    have ej : j = K := hj
    subst ej
    exact or_239q S hK bW hp ho bb rfl r
  | succ m ih =>
    intro j b x8 x hj bb r
    obtain ⟨H, v0, v1⟩ := om_243 (d := d + 7) (st := st) (w := w) S X hn hK hw est (show part < 1024 by omega) ho (show j < K by omega) (TB j (by omega))
    have r' : am_ev (d + 10) 239 124 [.ref 78, .int S0, iv K, iv W, iv part, iv ((one + 1 : Nat) : Int), iv (oS (oR st w (oW K st w) part one) m (j + 1) (if oR st w (oW K st w) part one j < b then oR st w (oW K st w) part one j else b)), iv K, x8] [] (am_put G 124 (10 * part + one) (iv (oS (oR st w (oW K st w) part one) m (j + 1) (if oR st w (oW K st w) part one j < b then oR st w (oW K st w) part one j else b)))) x := r
    have eb := o_bt part (by omega) one (by omega)
    by_cases c : oR st w (oW K st w) part one j < b
    · rw [if_pos c] at r'
      exact or_239s S hK bW hp ho bb (by omega) (eb.trans t1) H ⟨v0, v1⟩ (Or.inl ⟨c, rfl⟩) (ih (j + 1) _ x8 x (by omega) ⟨v0, v1⟩ r')
    · rw [if_neg c] at r'
      exact or_239s S hK bW hp ho bb (by omega) (eb.trans t1) H ⟨v0, v1⟩ (Or.inr ⟨c, rfl⟩) (ih (j + 1) _ x8 x (by omega) bb r')
end ORM2
