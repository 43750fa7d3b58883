/-! LEAVES, both sides: bits and words of a credit -/
theorem cnt_c {τ σ : Nat → Int} : ∀ n, (∀ i, i < n → τ i = σ i) → cnt τ n = cnt σ n
  | 0, _ => rfl
  | n + 1, q => by
    show cnt τ n + τ n = cnt σ n + σ n
    rw [cnt_c n (fun i hi => q i (by omega)), q n (by omega)]
def bv (t : Int32) (i : Nat) : Int := if bt t i = true then 1 else 0
theorem bv_b (t : Int32) (i : Nat) : bv t i = 0 ∨ bv t i = 1 := by
  unfold bv
  split
  · exact Or.inr rfl
  · exact Or.inl rfl
theorem bv_set {t : Int32} {l g : Nat} (hg : g ≤ 19) (hl : l ≤ g) (q : bt t l = false) : cnt (bv (t ||| (Int32.ofInt 1 <<< (Int32.ofInt (l : Int) &&& 31)))) (g + 1) = cnt (bv t) (g + 1) + 1 := by
  have e : cnt (bv (t ||| (Int32.ofInt 1 <<< (Int32.ofInt (l : Int) &&& 31)))) (g + 1) = cnt (up1 (bv t) l 1) (g + 1) := cnt_c _ fun i hi => by
    unfold bv up1
    rw [b_set (by omega) (by omega)]
    by_cases c : i = l
    · rw [if_pos c, c]
      simp
    · rw [if_neg c, decide_eq_false c, Bool.or_false]
  have z : bv t l = 0 := if_neg (by rw [q]; decide)
  rw [e, cnt_u (g + 1) (by omega), z]
  omega
theorem bv_hi {t : Int32} {l g : Nat} (hg : g ≤ 19) (hl : l ≤ g) (q : ∀ i, g < i → i < 31 → bt t i = false) : ∀ i, g < i → i < 31 → bt (t ||| (Int32.ofInt 1 <<< (Int32.ofInt (l : Int) &&& 31))) i = false := fun i a c => by
  rw [b_set (by omega) (by omega), q i a c, decide_eq_false (by omega)]
  rfl
theorem bv_all {t : Int32} {g l : Nat} (hl : l ≤ g) (q : cnt (bv t) (g + 1) = (g : Int) + 1) : bt t l = true := by
  cases z : bt t l with
  | true => rfl
  | false =>
    have e := cnt_u (τ := bv t) (c := l) (v := 1) (g + 1) (by omega)
    have y : bv t l = 0 := if_neg (by rw [z]; decide)
    have u := cnt_b (τ := up1 (bv t) l 1) (g + 1) (fun i hi => by
      unfold up1
      split
      · exact Or.inr rfl
      · exact bv_b t i)
    omega
theorem bv_ne {t : Int32} {g : Nat} (hg : g ≤ 19) (q : ∀ i, g < i → i < 31 → bt t i = false) : t ≠ Int32.ofInt (-1) := fun z => by
  have a := q 30 (by omega) (by decide)
  rw [z] at a
  have c : bt (Int32.ofInt (-1)) 30 = true := by decide +kernel
  rw [c] at a
  cases a
/-- how bits come to their end: well; the sign that ends the clause fails; another fault -/
def BR (d : Nat) (h0 g0 : am_H) (b : Nat → Int) (L g : Nat) (h G : am_H) (l1 : List Value) (pc2 : Nat) (l2 : List Value) : Prop := ∃ H M : am_H,
  (∃ (t : Int32) (p s e : Nat) (v w : Int), am_ev (d + 3) 79 4 l1 [] h (some (.int t), H) ∧ am_ev (d + 3) 212 pc2 l2 [] G (some (.int t), M) ∧ t ≠ Int32.ofInt (-1) ∧ (∀ i, g < i → i < 31 → bt t i = false) ∧ cT H h0 b L e ∧ mT M g0 b L p s e 59 v w) ∨
  (∃ (t : Int32) (p s e : Nat) (k v w : Int), am_ev (d + 3) 79 4 l1 [] h (some (iv (-1)), H) ∧ am_ev (d + 3) 212 pc2 l2 [] G (some (.int t), M) ∧ k ≠ 59 ∧ cX H h0 1 s ∧ mT M g0 b L p s e k v w) ∨
  (∃ (f : Int) (s : Nat), am_ev (d + 3) 79 4 l1 [] h (some (iv (-1)), H) ∧ am_ev (d + 3) 212 pc2 l2 [] G (some (.retAddr (79 + 1)), M) ∧ cX H h0 f s ∧ mX M g0 f s)
section BRA
variable {d : Nat} {h0 g0 : am_H} {b : Nat → Int} {L g : Nat}
theorem BR.on {h G h' G' : am_H} {l1 l1' l2 l2' : List Value} {pc2 pc2' : Nat} (a : ∀ x, am_ev (d + 3) 79 4 l1' [] h' x → am_ev (d + 3) 79 4 l1 [] h x) (c : ∀ x, am_ev (d + 3) 212 pc2' l2' [] G' x → am_ev (d + 3) 212 pc2 l2 [] G x) (q : BR d h0 g0 b L g h' G' l1' pc2' l2') : BR d h0 g0 b L g h G l1 pc2 l2 := by
  obtain ⟨H, M, ⟨t, p, s, e, v, w, q1, q2, q3⟩ | ⟨t, p, s, e, k, v, w, q1, q2, q3⟩ | ⟨f, s, q1, q2, q3⟩⟩ := q
  · exact ⟨H, M, Or.inl ⟨t, p, s, e, v, w, a _ q1, c _ q2, q3⟩⟩
  · exact ⟨H, M, Or.inr (Or.inl ⟨t, p, s, e, k, v, w, a _ q1, c _ q2, q3⟩)⟩
  · exact ⟨H, M, Or.inr (Or.inr ⟨f, s, a _ q1, c _ q2, q3⟩)⟩
theorem BR.fail {h G : am_H} {l1 l2 : List Value} {pc2 s : Nat} {f : Int} (a : ∃ H : am_H, am_ev (d + 3) 79 4 l1 [] h (some (iv (-1)), H) ∧ cX H h0 f s) (c : ∃ M : am_H, am_ev (d + 3) 212 pc2 l2 [] G (some (.retAddr (79 + 1)), M) ∧ mX M g0 f s) : BR d h0 g0 b L g h G l1 pc2 l2 := by
  obtain ⟨H, a1, a2⟩ := a
  obtain ⟨M, c1, c2⟩ := c
  exact ⟨H, M, Or.inr (Or.inr ⟨f, s, a1, c1, a2, c2⟩)⟩
theorem br_loop (hb : tz_r b) (hL : L ≤ 1600) (hg : g ≤ 19) : ∀ (m n p s e : Nat) (k v w : Int) (t : Int32) (h G : am_H) (x3 : Value), g + 2 - n ≤ m → 1 ≤ n → cnt (bv t) (g + 1) = (n : Int) → (∀ i, g < i → i < 31 → bt t i = false) → cT h h0 b L p → mT G g0 b L p s e k v w → BR d h0 g0 b L g h G [.ref 41, iv g, .int t, iv n] 39 [.ref 78, iv ((g : Int) + 1), .int t, x3]
  | 0, n, p, s, e, k, v, w, t, h, G, x3, hm, n1, hc, hi, C, M => by
    have := cnt_b (τ := bv t) (g + 1) (fun i _ => bv_b t i)
    omega
  | m + 1, n, p, s, e, k, v, w, t, h, G, x3, hm, n1, hc, hi, C, M => by
    have hn : n ≤ g + 1 := by
      have := cnt_b (τ := bv t) (g + 1) (fun i _ => bv_b t i)
      omega
    have t0 : tz_t b L p s e k v := M.2.2.2.1
    have f0 := t0.f5 hb
    by_cases k2 : k = 2
    · have on := mb_on (d := d) (t := t) (g := g) (x3 := x3) hb hL M k2
      have u0 := t0.bd hb k2
      by_cases c1 : (g : Int) < v
      · obtain ⟨M1, x1, x2⟩ := mb_B (d := d) (t := t) (x3 := x3) hb hL M hg k2 c1
        exact BR.fail (cb_B1 (d := d + 1) hb hL C t0 hn hg n1 k2 c1) ⟨M1, on _ x1, x2⟩
      · obtain ⟨l, el⟩ : ∃ l : Nat, v = (l : Int) := ⟨v.toNat, by omega⟩
        subst el
        have hl : l ≤ g := by omega
        cases q2 : bt t l with
        | true =>
          obtain ⟨M1, x1, x2⟩ := mb_C (d := d) (x3 := x3) hb hL M hg hl k2 q2
          exact BR.fail (cb_C1 (d := d + 1) hb hL C t0 hn hg n1 hl k2 q2) ⟨M1, on _ x1, x2⟩
        | false =>
          obtain ⟨s1, e1, k1, v1, t1⟩ := tz_t_ex (b := b) f0.2.2.1
          obtain ⟨H1, C1, a1⟩ := cb_N1 (d := d + 1) hb hL C t0 hn hg n1 hl k2 q2
          obtain ⟨G1, M1, a2⟩ := mb_N (d := d) (x3 := x3) hb hL M hg hl k2 q2 t1
          have IH := br_loop hb hL hg m (n + 1) e s1 e1 k1 v1 _ _ H1 G1 (iv l) (by omega) (by omega) (by rw [bv_set hg hl q2]; omega) (bv_hi hg hl hi) C1 M1
          exact IH.on (fun x y => a1 x (rr_n ▸ y)) (fun x y => on x (a2 x y))
    · have R := mb_R (d := d) (t := t) (g := g) (x3 := x3) hb hL M k2
      by_cases k59 : k = 59
      · subst k59
        obtain ⟨H, x1, x2⟩ := cb_R (d := d + 1) hb hL C t0 hn hg n1 rfl
        exact ⟨H, G, Or.inl ⟨t, p, s, e, v, w, x1, R, bv_ne hg hi, hi, x2, M⟩⟩
      · obtain ⟨H, x1, x2⟩ := cb_A1 (d := d + 1) hb hL C t0 hn hg n1 k2 k59
        exact ⟨H, G, Or.inr (Or.inl ⟨t, p, s, e, k, v, w, x1, R, k59, x2, M⟩)⟩
theorem br_all (hb : tz_r b) (hL : L ≤ 1600) (hg : g ≤ 19) {p s e : Nat} {k v w : Int} {h G : am_H} (C : cT h h0 b L p) (M : mT G g0 b L p s e k v w) : BR d h0 g0 b L g h G [.ref 41, iv g, .int (Int32.ofInt 0), iv 0] 2 [.ref 78, iv ((g : Int) + 1), .int (Int32.ofInt 0), am_ph] := by
  have t0 : tz_t b L p s e k v := M.2.2.2.1
  have f0 := t0.f5 hb
  by_cases k2 : k = 2
  · have u0 := t0.bd hb k2
    by_cases c1 : (g : Int) < v
    · exact BR.fail (cb_B0 (d := d + 1) (n := 0) hb hL C t0 (by omega) hg rfl k2 c1) (mb_B (d := d) hb hL M hg k2 c1)
    · obtain ⟨l, el⟩ : ∃ l : Nat, v = (l : Int) := ⟨v.toNat, by omega⟩
      subst el
      have hl : l ≤ g := by omega
      have q2 : bt (Int32.ofInt 0) l = false := bt_0 l (by omega)
      obtain ⟨s1, e1, k1, v1, t1⟩ := tz_t_ex (b := b) f0.2.2.1
      obtain ⟨H1, C1, a1⟩ := cb_N0 (d := d + 1) (n := 0) hb hL C t0 (by omega) hg rfl hl k2 q2
      obtain ⟨G1, M1, a2⟩ := mb_N (d := d) (x3 := am_ph) hb hL M hg hl k2 q2 t1
      have z0 : cnt (bv (Int32.ofInt 0)) (g + 1) = 0 := by
        have e : cnt (bv (Int32.ofInt 0)) (g + 1) = cnt (fun _ => 0) (g + 1) := cnt_c _ fun i hi => if_neg (by rw [bt_0 i (by omega)]; decide)
        rw [e]
        have : ∀ n, cnt (fun _ => (0 : Int)) n = 0 := fun n => by
          induction n with
          | zero => rfl
          | succ n ih =>
            show cnt (fun _ => (0 : Int)) n + 0 = 0
            rw [ih]
            rfl
        exact this _
      have IH := br_loop (d := d) hb hL hg (g + 2) 1 e s1 e1 k1 v1 _ _ H1 G1 (iv l) (by omega) (by omega) (by rw [bv_set hg hl q2, z0]; rfl) (bv_hi hg hl (fun i a c => bt_0 i (by omega))) C1 M1
      exact IH.on (fun x y => a1 x y) (fun x y => a2 x y)
  · exact BR.fail (cb_A0 (d := d + 1) (n := 0) hb hL C t0 (by omega) hg rfl k2) (mb_A (d := d) hb hL M hg k2)
/-- how a credit comes to its end -/
def CRr (d : Nat) (h0 g0 : am_H) (b : Nat → Int) (L q : Nat) (h G : am_H) (l1 l2 : List Value) : Prop := ∃ H M : am_H,
  (∃ (n p s e : Nat) (v w : Int), am_ev (d + 3) 84 2 l1 [] h (some (iv 1), am_put H q 8 (iv n)) ∧ am_ev (d + 4) 211 208 l2 [] G (none, M) ∧ cT H h0 b L e ∧ mC M g0 b L p s e 59 v w n) ∨
  (∃ (n p s e : Nat) (k v w : Int), am_ev (d + 3) 84 2 l1 [] h (some (iv 0), H) ∧ am_ev (d + 4) 211 208 l2 [] G (none, M) ∧ k ≠ 59 ∧ cX H h0 1 s ∧ mC M g0 b L p s e k v w n) ∨
  (∃ (f : Int) (s : Nat), am_ev (d + 3) 84 2 l1 [] h (some (iv 0), H) ∧ am_ev (d + 4) 211 208 l2 [] G (some (.retAddr (79 + 1)), M) ∧ cX H h0 f s ∧ mCX M g0 f s)
theorem CRr.on {q : Nat} {h G h' G' : am_H} {l1 l1' l2 l2' : List Value} (a : ∀ x, am_ev (d + 3) 84 2 l1' [] h' x → am_ev (d + 3) 84 2 l1 [] h x) (c : ∀ x, am_ev (d + 4) 211 208 l2' [] G' x → am_ev (d + 4) 211 208 l2 [] G x) (z : CRr d h0 g0 b L q h' G' l1' l2') : CRr d h0 g0 b L q h G l1 l2 := by
  obtain ⟨H, M, ⟨n, p, s, e, v, w, q1, q2, q3⟩ | ⟨n, p, s, e, k, v, w, q1, q2, q3⟩ | ⟨f, s, q1, q2, q3⟩⟩ := z
  · exact ⟨H, M, Or.inl ⟨n, p, s, e, v, w, a _ q1, c _ q2, q3⟩⟩
  · exact ⟨H, M, Or.inr (Or.inl ⟨n, p, s, e, k, v, w, a _ q1, c _ q2, q3⟩)⟩
  · exact ⟨H, M, Or.inr (Or.inr ⟨f, s, a _ q1, c _ q2, q3⟩)⟩
theorem cr_loop {q : Nat} (hb : tz_r b) (hL : L ≤ 1600) (hq : 130 ≤ q) : ∀ (m n p s e : Nat) (k v w : Int) (h G : am_H) (x1 : Value), 6 - n ≤ m → n ≤ 6 → (n = 0 → k = 1) → am_isO h q 4 = true → am_isO h0 q 4 = true → cT h h0 b L p → mC G g0 b L p s e k v w n → CRr d h0 g0 b L q h G [.ref q, .ref 41, iv n] [.ref 78, x1]
  | m, n, p, s, e, k, v, w, h, G, x1, hm, hn, n0, O, O0, C, M => by
    have t0 : tz_t b L p s e k v := M.2.2.2.1
    have f0 := t0.f5 hb
    by_cases k1 : k = 1
    · by_cases n6 : n = 6
      · obtain ⟨H, a1, a2⟩ := cc_7 (d := d + 1) hb hL C t0 O hq n6 k1
        obtain ⟨M1, c1, c2⟩ := mc_7 (d := d + 1) (x1 := x1) hb hL M k1 n6
        exact ⟨H, M1, Or.inr (Or.inr ⟨4, s, a1, c1, a2, c2⟩)⟩
      · obtain ⟨s1, e1, k1', v1, t1⟩ := tz_t_ex (b := b) f0.2.2.1
        obtain ⟨G1, M1, c1⟩ := mc_N (d := d + 1) (x1 := x1) hb hL M k1 (by omega) t1
        have hc : ∃ H : am_H, cT H h0 b L e ∧ ∀ x, am_ev (d + 3) 84 2 [.ref q, .ref 41, iv ((n : Int) + 1)] [] H x → am_ev (d + 3) 84 2 [.ref q, .ref 41, iv (n : Int)] [] h x := by
          by_cases z : n = 0
          · exact cc_N0 (d := d + 1) hb hL C t0 O hq z k1
          · exact cc_N1 (d := d + 1) hb hL C t0 O hq (by omega) (by omega) k1
        obtain ⟨H1, C1, a1⟩ := hc
        have O1 : am_isO H1 q 4 = true := by
          have z := C1.2.2.2.2.2.2.1
          unfold am_isO at O0 ⊢
          rw [z.1, z.2]
          exact O0
        cases m with
        | zero => omega
        | succ m =>
          have IH := cr_loop hb hL hq m (n + 1) e s1 e1 k1' v1 _ H1 G1 x1 (by omega) (by omega) (fun z => by omega) O1 O0 C1 M1
          exact IH.on (fun x y => a1 x (rr_n ▸ y)) (fun x y => c1 x y)
    · have n1 : 1 ≤ n := by
        rcases Nat.eq_zero_or_pos n with z | z
        · exact absurd (n0 z) k1
        · exact z
      have R := mc_R (d := d + 1) (x1 := x1) hb hL M k1
      by_cases k59 : k = 59
      · subst k59
        obtain ⟨H, a1, a2⟩ := cc_R (d := d + 1) hb hL C t0 O hq n1 hn rfl
        exact ⟨H, G, Or.inl ⟨n, p, s, e, v, w, a1, R, a2, M⟩⟩
      · obtain ⟨H, a1, a2⟩ := cc_A1 (d := d + 1) hb hL C t0 O hq n1 hn k1 k59
        exact ⟨H, G, Or.inr (Or.inl ⟨n, p, s, e, k, v, w, a1, R, k59, a2, M⟩)⟩
end BRA
