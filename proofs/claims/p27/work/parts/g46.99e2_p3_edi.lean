section
/-! EDITIONS: alike -/
/-- a line's end on both sides -/
def EL (d : Nat) (h0 g0 : am_H) (b : Nat → Int) (L l : Nat) (h G : am_H) (pc1 : Nat) (l1 : List Value) (pc2 : Nat) (l2 : List Value) : Prop := ∃ H M : am_H,
  (∃ (p s e : Nat) (k v w : Int) (st : Nat → Nat), am_ev (d + 5) 45 pc1 l1 [] h (some (iv 1), H) ∧ am_ev (d + 5) 192 pc2 l2 [] G (none, M) ∧ (k = 0 ∨ k = 59 ∨ k = 47) ∧ eH H h0 b L s e k (l + 1) (st (l + 1)) ∧ st (l + 1) ≤ 8 * (l + 1) ∧ mE M g0 b L p s e k v w (l + 1) ∧ tC H M (l + 1) 0 (l + 1) st) ∨
  (∃ (p s e : Nat) (k v w : Int), am_ev (d + 5) 45 pc1 l1 [] h (some (iv 0), H) ∧ am_ev (d + 5) 192 pc2 l2 [] G (none, M) ∧ (k ≠ 0 ∧ k ≠ 59 ∧ k ≠ 47) ∧ eX H h0 1 s ∧ mE M g0 b L p s e k v w (l + 1)) ∨
  (∃ (f : Int) (s : Nat), am_ev (d + 5) 45 pc1 l1 [] h (some (iv 0), H) ∧ am_ev (d + 5) 192 pc2 l2 [] G (some (.retAddr (79 + 1)), M) ∧ eX H h0 f s ∧ mEX M g0 f s)
section EDL
variable {d : Nat} {h0 g0 : am_H} {b : Nat → Int} {L l z : Nat} {st : Nat → Nat}
theorem EL.on {h G h' G' : am_H} {l1 l1' l2 l2' : List Value} {pc1 pc1' pc2 pc2' : Nat} (a : ∀ x, am_ev (d + 5) 45 pc1' l1' [] h' x → am_ev (d + 5) 45 pc1 l1 [] h x) (c : ∀ x, am_ev (d + 5) 192 pc2' l2' [] G' x → am_ev (d + 5) 192 pc2 l2 [] G x) (q : EL d h0 g0 b L l h' G' pc1' l1' pc2' l2') : EL d h0 g0 b L l h G pc1 l1 pc2 l2 := by
  obtain ⟨H, M, ⟨p, s, e, k, v, w, st, q1, q2, q3⟩ | ⟨p, s, e, k, v, w, q1, q2, q3⟩ | ⟨f, s, q1, q2, q3⟩⟩ := q
  · exact ⟨H, M, Or.inl ⟨p, s, e, k, v, w, st, a _ q1, c _ q2, q3⟩⟩
  · exact ⟨H, M, Or.inr (Or.inl ⟨p, s, e, k, v, w, a _ q1, c _ q2, q3⟩)⟩
  · exact ⟨H, M, Or.inr (Or.inr ⟨f, s, a _ q1, c _ q2, q3⟩)⟩
theorem EL.bad {h G : am_H} {l1 l2 : List Value} {pc1 pc2 s : Nat} {f : Int} (a : ∃ H : am_H, am_ev (d + 5) 45 pc1 l1 [] h (some (iv 0), H) ∧ eX H h0 f s) (c : ∃ M : am_H, am_ev (d + 5) 192 pc2 l2 [] G (some (.retAddr (79 + 1)), M) ∧ mEX M g0 f s) : EL d h0 g0 b L l h G pc1 l1 pc2 l2 := by
  obtain ⟨H, a1, a2⟩ := a
  obtain ⟨M, c1, c2⟩ := c
  exact ⟨H, M, Or.inr (Or.inr ⟨f, s, a1, c1, a2, c2⟩)⟩
theorem EL.end {h G H M : am_H} {l1 l2 : List Value} {pc1 pc2 p s e z : Nat} {k v w : Int} (hz : z ≤ 8 * (l + 1)) (kq : k = 0 ∨ k = 59 ∨ k = 47) (a1 : am_ev (d + 5) 45 pc1 l1 [] h (some (iv 1), H)) (a2 : eH H h0 b L s e k (l + 1) z) (c1 : am_ev (d + 5) 192 pc2 l2 [] G (none, M)) (c2 : mE M g0 b L p s e k v w (l + 1)) (T : tC H M (l + 1) 0 (l + 1) st ∧ st (l + 1) = z) : EL d h0 g0 b L l h G pc1 l1 pc2 l2 := by
  obtain ⟨T1, rfl⟩ := T
  exact ⟨H, M, Or.inl ⟨p, s, e, k, v, w, st, a1, c1, kq, a2, hz, c2, T1⟩⟩
theorem EL.odd {h G : am_H} {l1 l2 : List Value} {pc1 pc2 p s e : Nat} {k v w : Int} {P : am_H → Prop} (kq : k ≠ 0 ∧ k ≠ 59 ∧ k ≠ 47) (a : ∃ H : am_H, am_ev (d + 5) 45 pc1 l1 [] h (some (iv 0), H) ∧ eX H h0 1 s) (c : ∃ M : am_H, am_ev (d + 5) 192 pc2 l2 [] G (none, M) ∧ mE M g0 b L p s e k v w (l + 1) ∧ P M) : EL d h0 g0 b L l h G pc1 l1 pc2 l2 := by
  obtain ⟨H, a1, a2⟩ := a
  obtain ⟨M, c1, c2, -⟩ := c
  exact ⟨H, M, Or.inr (Or.inl ⟨p, s, e, k, v, w, a1, c1, kq, a2, c2⟩)⟩
theorem er_loop (hb : tz_r b) (hL : L ≤ 1600) (hl : l ≤ 29) (hz : st l ≤ 8 * l) : ∀ (m n p s e : Nat) (k v w : Int) (h G : am_H), 8 - n ≤ m → n ≤ 8 → (1 ≤ n ∨ k = 1) → eH h h0 b L s e k l (st l) → mE G g0 b L p s e k v w l → G.2.2.2 94 (l + 3600) = iv (n : Int) → tC h G l n (l + 1) st → EL d h0 g0 b L l h G 55 [.ref 54, .ref 41, iv ((st l : Int) + (n : Int)), iv (n : Int)] 60 [.ref 78, iv ((l : Int) + 3600)]
  | m, n, p, s, e, k, v, w, h, G, hm, hn, hk, C, M, gn, T => by
    have t0 : tz_t b L p s e k v := M.2.2.2.1
    have f0 := t0.f5 hb
    obtain ⟨s1, e1, k1, v1, t1⟩ := tz_t_ex (b := b) f0.2.2.1
    by_cases q : k = 1
    · by_cases n8 : n = 8
      · exact EL.bad (el_d (d := d + 3) (n := n) hb hL C t0 q n8) (em_d (d := d) hb hL M q hl n8 gn)
      · obtain ⟨H1, C1, ⟨x55, xf⟩, a1⟩ := el_e (d := d + 3) (n := n) hb hL C t0 q (by omega) (by omega) t1
        obtain ⟨G1, M1, gn1, ⟨y95, -, yf⟩, c1⟩ := em_e (d := d) hb hL M q hl (by omega) gn t1
        have T1 : tC H1 G1 l (n + 1) (l + 1) st := tC_e T hl (by omega) (tz_wT t0 q) x55 xf y95 yf
        cases m with
        | zero => omega
        | succ m =>
          have IH := er_loop hb hL hl hz m (n + 1) e s1 e1 k1 v1 _ H1 G1 (by omega) (by omega) (Or.inl (by omega)) C1 M1 gn1 T1
          refine IH.on (fun x y => a1 x ?_) c1
          rw [show (st l : Int) + (n : Int) + 1 = (st l : Int) + ((n + 1 : Nat) : Int) by omega, show ((n : Int) + 1) = ((n + 1 : Nat) : Int) by omega]
          exact y
    · have h1n : 1 ≤ n := hk.resolve_right q
      by_cases q43 : k = 43
      · by_cases r0 : k1 = 0
        · obtain ⟨H1, a1, a2, ht, h56, hf⟩ := el_g0 (d := d + 3) hb hL C t0 q43 t1 r0 q hn hl
          obtain ⟨M1, m1, m2, m3, m4⟩ := em_g (d := d) hb hL M q q43 t1 hl gn
          exact EL.end (by omega) (Or.inl r0) a1 a2 m1 m2 (tC_f (gl := true) T hl h1n hn rfl gn h56 ht (fun t i hi => bt_or (by omega) i hi) hf m3 m4)
        · by_cases r59 : k1 = 59
          · obtain ⟨H1, a1, a2, ht, h56, hf⟩ := el_g59 (d := d + 3) hb hL C t0 q43 t1 r59 q hn hl
            obtain ⟨M1, m1, m2, m3, m4⟩ := em_g (d := d) hb hL M q q43 t1 hl gn
            exact EL.end (by omega) (Or.inr (Or.inl r59)) a1 a2 m1 m2 (tC_f (gl := true) T hl h1n hn rfl gn h56 ht (fun t i hi => bt_or (by omega) i hi) hf m3 m4)
          · by_cases r47 : k1 = 47
            · obtain ⟨H1, a1, a2, ht, h56, hf⟩ := el_g47 (d := d + 3) hb hL C t0 q43 t1 r47 q hn hl
              obtain ⟨M1, m1, m2, m3, m4⟩ := em_g (d := d) hb hL M q q43 t1 hl gn
              exact EL.end (by omega) (Or.inr (Or.inr r47)) a1 a2 m1 m2 (tC_f (gl := true) T hl h1n hn rfl gn h56 ht (fun t i hi => bt_or (by omega) i hi) hf m3 m4)
            · exact EL.odd ⟨r0, r59, r47⟩ (el_i (d := d + 3) hb hL C t0 q hn q43 t1 r0 r59 r47) (em_g (d := d) hb hL M q q43 t1 hl gn)
      · by_cases r0 : k = 0
        · obtain ⟨H1, a1, a2, h56, hf⟩ := el_f0 (d := d + 3) hb hL C t0 r0 q hn hl
          obtain ⟨M1, m1, m2, m3, m4⟩ := em_f (d := d) hb hL M q q43 hl gn
          exact EL.end (by omega) (Or.inl r0) a1 a2 m1 m2 (tC_f (T := fun t => t) (gl := false) T hl h1n hn rfl gn h56 (fun t ht => (hf 54 4 (Or.inr (Or.inr ⟨rfl, Or.inl rfl⟩)) (Or.inl (by decide))).trans ht) (fun t i _ => bt_no i) (fun c j hc _ n2 => hf c j hc n2) m3 m4)
        · by_cases r59 : k = 59
          · obtain ⟨H1, a1, a2, h56, hf⟩ := el_f59 (d := d + 3) hb hL C t0 r59 q hn hl
            obtain ⟨M1, m1, m2, m3, m4⟩ := em_f (d := d) hb hL M q q43 hl gn
            exact EL.end (by omega) (Or.inr (Or.inl r59)) a1 a2 m1 m2 (tC_f (T := fun t => t) (gl := false) T hl h1n hn rfl gn h56 (fun t ht => (hf 54 4 (Or.inr (Or.inr ⟨rfl, Or.inl rfl⟩)) (Or.inl (by decide))).trans ht) (fun t i _ => bt_no i) (fun c j hc _ n2 => hf c j hc n2) m3 m4)
          · by_cases r47 : k = 47
            · obtain ⟨H1, a1, a2, h56, hf⟩ := el_f47 (d := d + 3) hb hL C t0 r47 q hn hl
              obtain ⟨M1, m1, m2, m3, m4⟩ := em_f (d := d) hb hL M q q43 hl gn
              exact EL.end (by omega) (Or.inr (Or.inr r47)) a1 a2 m1 m2 (tC_f (T := fun t => t) (gl := false) T hl h1n hn rfl gn h56 (fun t ht => (hf 54 4 (Or.inr (Or.inr ⟨rfl, Or.inl rfl⟩)) (Or.inl (by decide))).trans ht) (fun t i _ => bt_no i) (fun c j hc _ n2 => hf c j hc n2) m3 m4)
            · exact EL.odd ⟨r0, r59, r47⟩ (el_h (d := d + 3) hb hL C t0 q hn q43 r0 r59 r47) (em_f (d := d) hb hL M q q43 hl gn)
theorem er_line {p s e : Nat} {k v w : Int} {h G : am_H} (hb : tz_r b) (hL : L ≤ 1600) (hl : l ≤ 30) (hz : st l ≤ 8 * l) (C : eH h h0 b L s e k l (st l)) (M : mE G g0 b L p s e k v w l) (T : tC h G l 0 (l + 1) st) : EL d h0 g0 b L l h G 0 (am_ent [.ref 54, .ref 41] 4) 0 (am_ent [.ref 78] 2) := by
  have t0 : tz_t b L p s e k v := M.2.2.2.1
  by_cases q : k = 1
  · by_cases l30 : l = 30
    · exact EL.bad (el_b (d := d + 3) hb hL C t0 q l30) (em_b (d := d) hb hL M q l30)
    · obtain ⟨G1, M1, gn, ⟨-, gf⟩, c1⟩ := em_c (d := d) hb hL M q (by omega)
      have R := er_loop (d := d) hb hL (by omega) hz 8 0 p s e k v w h G1 (by omega) (by omega) (Or.inr q) C M1 gn (tC_q T (fun _ _ _ => rfl) gf)
      refine R.on (fun x y => el_c (d := d + 3) hb hL C t0 q (by omega) ?_) c1
      rw [show (st l : Int) + ((0 : Nat) : Int) = (st l : Int) by omega] at y
      exact y
  · exact EL.bad (el_a (d := d + 3) hb hL C t0 q) (em_a (d := d) hb hL M q)
/-- a text's end on both sides -/
def ET (d : Nat) (h0 g0 : am_H) (b : Nat → Int) (L : Nat) (h G : am_H) (pc1 : Nat) (l1 : List Value) (pc2 : Nat) (l2 : List Value) : Prop := ∃ H M : am_H,
  (∃ (p s e l : Nat) (v w : Int) (st : Nat → Nat), am_ev (d + 6) 44 pc1 l1 [] h (some (iv 1), H) ∧ am_ev (d + 6) 190 pc2 l2 [] G (none, M) ∧ (1 ≤ l ∧ l ≤ 30 ∧ st l ≤ 8 * l) ∧ eH H h0 b L s e 0 l (st l) ∧ mE M g0 b L p s e 0 v w l ∧ tC H M l 0 l st) ∨
  (∃ (f : Int) (s : Nat), am_ev (d + 6) 44 pc1 l1 [] h (some (iv 0), H) ∧ am_ev (d + 6) 190 pc2 l2 [] G (some (.retAddr (79 + 1)), M) ∧ eX H h0 f s ∧ mEX M g0 f s)
theorem ET.on {h G h' G' : am_H} {l1 l1' l2 l2' : List Value} {pc1 pc1' pc2 pc2' : Nat} (a : ∀ x, am_ev (d + 6) 44 pc1' l1' [] h' x → am_ev (d + 6) 44 pc1 l1 [] h x) (c : ∀ x, am_ev (d + 6) 190 pc2' l2' [] G' x → am_ev (d + 6) 190 pc2 l2 [] G x) (q : ET d h0 g0 b L h' G' pc1' l1' pc2' l2') : ET d h0 g0 b L h G pc1 l1 pc2 l2 := by
  obtain ⟨H, M, ⟨p, s, e, l, v, w, st, q1, q2, q3⟩ | ⟨f, s, q1, q2, q3⟩⟩ := q
  · exact ⟨H, M, Or.inl ⟨p, s, e, l, v, w, st, a _ q1, c _ q2, q3⟩⟩
  · exact ⟨H, M, Or.inr ⟨f, s, a _ q1, c _ q2, q3⟩⟩
theorem er_30 {p s e : Nat} {k v w : Int} {h G : am_H} (hb : tz_r b) (hL : L ≤ 1600) (l30 : l = 30) (C : eH h h0 b L s e k l z) (M : mE G g0 b L p s e k v w l) : ∃ H : am_H, am_ev (d + 5) 45 0 (am_ent [.ref 54, .ref 41] 4) [] h (some (iv 0), H) := by
  have t0 : tz_t b L p s e k v := M.2.2.2.1
  by_cases q : k = 1
  · obtain ⟨H, a, -⟩ := el_b (d := d + 3) hb hL C t0 q l30
    exact ⟨H, a⟩
  · obtain ⟨H, a, -⟩ := el_a (d := d + 3) hb hL C t0 q
    exact ⟨H, a⟩
theorem et_line95 {l0 : Nat} (hb : tz_r b) (hL : L ≤ 1600) (NX : ∀ (l p s e : Nat) (st : Nat → Nat) (k v w : Int) (h G : am_H) (x1 : Value), l + 1 ≤ 30 → st (l + 1) ≤ 8 * (l + 1) → eH h h0 b L s e k (l + 1) (st (l + 1)) → mE G g0 b L p s e k v w (l + 1) → tC h G (l + 1) 0 (l + 2) st → l0 ≤ l → ET d h0 g0 b L h G 31 [.ref 54, .ref 41, iv ((l + 1 : Nat) : Int)] 95 [.ref 78, x1]) {p s e : Nat} {k v w : Int} {h G : am_H} {x1 : Value} (hl : l0 ≤ 30) (hz : st l0 ≤ 8 * l0) (C : eH h h0 b L s e k l0 (st l0)) (M : mE G g0 b L p s e k v w l0) (T : tC h G l0 0 (l0 + 1) st) : ET d h0 g0 b L h G 31 [.ref 54, .ref 41, iv (l0 : Int)] 95 [.ref 78, x1] := by
  have R := er_line (d := d) hb hL hl hz C M T
  have Sh := C.1
  have SG := M.1
  obtain ⟨H, M1, ⟨p', s', e', k', v', w', st', q1, q2, kq, C1, hz1, m1, T1⟩ | ⟨p', s', e', k', v', w', q1, q2, kq, X, m1⟩ | ⟨f, s', q1, q2, X, Y⟩⟩ := R
  · have t0 : tz_t b L p' s' e' k' v' := m1.2.2.2.1
    have f0 := t0.f5 hb
    obtain ⟨s1, e1, k1, v1, t1⟩ := tz_t_ex (b := b) f0.2.2.1
    have l29 : l0 ≤ 29 := by
      rcases Nat.lt_or_ge l0 30 with y | y
      · omega
      · have z30 : l0 = 30 := by omega
        have y := er_30 (d := d) hb hL z30 C M
        have y2 := (Prod.mk.inj (ax_det q1 y.choose_spec)).1
        exact absurd (Value.int.inj (Option.some.inj y2)) (by decide)
    rcases kq with r | r | r
    · subst r
      exact ⟨H, M1, Or.inl ⟨p', s', e', l0 + 1, v', w', st', et_0 (d := d) hb hL Sh C1 t0 l29 q1 rfl, eq_c95 SG q2 (eq_0 (d := d) hb hL m1 rfl), ⟨by omega, by omega, hz1⟩, C1, m1, T1⟩⟩
    · obtain ⟨K, CK, fK, aK⟩ := et_59 (d := d) hb hL Sh C1 t0 l29 q1 r t1
      by_cases h9 : l0 = 29
      · obtain ⟨G2, M2, gK, c2⟩ := eq_59b (d := d) (x1 := x1) hb hL m1 r (by omega) t1
        have T2 : tC K G2 (l0 + 1) 0 (l0 + 2) st' := tC_30 (tC_q T1 fK (fun c j a b _ => gK c j a b)) (by omega)
        exact (NX l0 e' s1 e1 st' k1 v1 _ K G2 _ (by omega) hz1 CK M2 T2 (Nat.le_refl _)).on (fun x y => aK x (rr_n ▸ y)) (fun x y => eq_c95 SG q2 (c2 x y))
      · obtain ⟨G2, M2, ⟨g96, gK⟩, c2⟩ := eq_59a (d := d) (x1 := x1) hb hL m1 r (by omega) t1
        have T2 : tC K G2 (l0 + 1) 0 (l0 + 2) st' := tC_s (U := fun u => u) (sz := false) T1 (by omega) (fun u hu => (fK 54 5 (Or.inr (Or.inr ⟨rfl, Or.inr rfl⟩))).trans hu) (fun u i _ => bt_no i) (fun c j hc _ => fK c j hc) g96 gK
        exact (NX l0 e' s1 e1 st' k1 v1 _ K G2 _ (by omega) hz1 CK M2 T2 (Nat.le_refl _)).on (fun x y => aK x (rr_n ▸ y)) (fun x y => eq_c95 SG q2 (c2 x y))
    · by_cases h9 : l0 = 29
      · obtain ⟨K, CK, fK, aK⟩ := et_47b (d := d) hb hL Sh C1 t0 l29 q1 r h9 t1
        obtain ⟨G2, M2, gK, c2⟩ := eq_47b (d := d) (x1 := x1) hb hL m1 r (by omega) t1
        have T2 : tC K G2 (l0 + 1) 0 (l0 + 2) st' := tC_30 (tC_q T1 fK (fun c j a b _ => gK c j a b)) (by omega)
        exact (NX l0 e' s1 e1 st' k1 v1 _ K G2 _ (by omega) hz1 CK M2 T2 (Nat.le_refl _)).on (fun x y => aK x (rr_n ▸ y)) (fun x y => eq_c95 SG q2 (c2 x y))
      · obtain ⟨K, CK, ⟨hu, fK⟩, aK⟩ := et_47a (d := d) hb hL Sh C1 t0 l29 q1 r (by omega) t1
        obtain ⟨G2, M2, ⟨g96, gK⟩, c2⟩ := eq_47a (d := d) (x1 := x1) hb hL m1 r (by omega) t1
        have T2 : tC K G2 (l0 + 1) 0 (l0 + 2) st' := tC_s (U := fun u => u ||| ((Int32.ofInt 1) <<< ((Int32.ofInt ((l0 : Int) + 1)) &&& 31))) (sz := true) T1 (by omega) hu (fun u i hi => by
          rw [show ((l0 : Int) + 1) = ((l0 + 1 : Nat) : Int) by omega]
          exact bt_or (by omega) i hi) fK g96 gK
        exact (NX l0 e' s1 e1 st' k1 v1 _ K G2 _ (by omega) hz1 CK M2 T2 (Nat.le_refl _)).on (fun x y => aK x (rr_n ▸ y)) (fun x y => eq_c95 SG q2 (c2 x y))
  · obtain ⟨M2, c1, c2⟩ := eq_b (d := d) (x1 := x1) hb hL m1 kq.1 kq.2.1 kq.2.2
    exact ⟨H, M2, Or.inr ⟨1, s', et_f (d := d) Sh q1, eq_c95 SG q2 c1, X, c2⟩⟩
  · exact ⟨H, M1, Or.inr ⟨f, s', et_f (d := d) Sh q1, eq_t95 SG Y.1 q2, X, Y⟩⟩
theorem et_line20 {l0 : Nat} (hb : tz_r b) (hL : L ≤ 1600) (NX : ∀ (l p s e : Nat) (st : Nat → Nat) (k v w : Int) (h G : am_H) (x1 : Value), l + 1 ≤ 30 → st (l + 1) ≤ 8 * (l + 1) → eH h h0 b L s e k (l + 1) (st (l + 1)) → mE G g0 b L p s e k v w (l + 1) → tC h G (l + 1) 0 (l + 2) st → l0 ≤ l → ET d h0 g0 b L h G 31 [.ref 54, .ref 41, iv ((l + 1 : Nat) : Int)] 95 [.ref 78, x1]) {p s e : Nat} {k v w : Int} {h G : am_H} {x1 : Value} (hl : l0 ≤ 30) (hz : st l0 ≤ 8 * l0) (C : eH h h0 b L s e k l0 (st l0)) (M : mE G g0 b L p s e k v w l0) (T : tC h G l0 0 (l0 + 1) st) : ET d h0 g0 b L h G 31 [.ref 54, .ref 41, iv (l0 : Int)] 20 [.ref 78, x1] := by
  have R := er_line (d := d) hb hL hl hz C M T
  have Sh := C.1
  have SG := M.1
  obtain ⟨H, M1, ⟨p', s', e', k', v', w', st', q1, q2, kq, C1, hz1, m1, T1⟩ | ⟨p', s', e', k', v', w', q1, q2, kq, X, m1⟩ | ⟨f, s', q1, q2, X, Y⟩⟩ := R
  · have t0 : tz_t b L p' s' e' k' v' := m1.2.2.2.1
    have f0 := t0.f5 hb
    obtain ⟨s1, e1, k1, v1, t1⟩ := tz_t_ex (b := b) f0.2.2.1
    have l29 : l0 ≤ 29 := by
      rcases Nat.lt_or_ge l0 30 with y | y
      · omega
      · have z30 : l0 = 30 := by omega
        have y := er_30 (d := d) hb hL z30 C M
        have y2 := (Prod.mk.inj (ax_det q1 y.choose_spec)).1
        exact absurd (Value.int.inj (Option.some.inj y2)) (by decide)
    rcases kq with r | r | r
    · subst r
      exact ⟨H, M1, Or.inl ⟨p', s', e', l0 + 1, v', w', st', et_0 (d := d) hb hL Sh C1 t0 l29 q1 rfl, eq_c20 SG q2 (eq_0 (d := d) hb hL m1 rfl), ⟨by omega, by omega, hz1⟩, C1, m1, T1⟩⟩
    · obtain ⟨K, CK, fK, aK⟩ := et_59 (d := d) hb hL Sh C1 t0 l29 q1 r t1
      by_cases h9 : l0 = 29
      · obtain ⟨G2, M2, gK, c2⟩ := eq_59b (d := d) (x1 := x1) hb hL m1 r (by omega) t1
        have T2 : tC K G2 (l0 + 1) 0 (l0 + 2) st' := tC_30 (tC_q T1 fK (fun c j a b _ => gK c j a b)) (by omega)
        exact (NX l0 e' s1 e1 st' k1 v1 _ K G2 _ (by omega) hz1 CK M2 T2 (Nat.le_refl _)).on (fun x y => aK x (rr_n ▸ y)) (fun x y => eq_c20 SG q2 (c2 x y))
      · obtain ⟨G2, M2, ⟨g96, gK⟩, c2⟩ := eq_59a (d := d) (x1 := x1) hb hL m1 r (by omega) t1
        have T2 : tC K G2 (l0 + 1) 0 (l0 + 2) st' := tC_s (U := fun u => u) (sz := false) T1 (by omega) (fun u hu => (fK 54 5 (Or.inr (Or.inr ⟨rfl, Or.inr rfl⟩))).trans hu) (fun u i _ => bt_no i) (fun c j hc _ => fK c j hc) g96 gK
        exact (NX l0 e' s1 e1 st' k1 v1 _ K G2 _ (by omega) hz1 CK M2 T2 (Nat.le_refl _)).on (fun x y => aK x (rr_n ▸ y)) (fun x y => eq_c20 SG q2 (c2 x y))
    · by_cases h9 : l0 = 29
      · obtain ⟨K, CK, fK, aK⟩ := et_47b (d := d) hb hL Sh C1 t0 l29 q1 r h9 t1
        obtain ⟨G2, M2, gK, c2⟩ := eq_47b (d := d) (x1 := x1) hb hL m1 r (by omega) t1
        have T2 : tC K G2 (l0 + 1) 0 (l0 + 2) st' := tC_30 (tC_q T1 fK (fun c j a b _ => gK c j a b)) (by omega)
        exact (NX l0 e' s1 e1 st' k1 v1 _ K G2 _ (by omega) hz1 CK M2 T2 (Nat.le_refl _)).on (fun x y => aK x (rr_n ▸ y)) (fun x y => eq_c20 SG q2 (c2 x y))
      · obtain ⟨K, CK, ⟨hu, fK⟩, aK⟩ := et_47a (d := d) hb hL Sh C1 t0 l29 q1 r (by omega) t1
        obtain ⟨G2, M2, ⟨g96, gK⟩, c2⟩ := eq_47a (d := d) (x1 := x1) hb hL m1 r (by omega) t1
        have T2 : tC K G2 (l0 + 1) 0 (l0 + 2) st' := tC_s (U := fun u => u ||| ((Int32.ofInt 1) <<< ((Int32.ofInt ((l0 : Int) + 1)) &&& 31))) (sz := true) T1 (by omega) hu (fun u i hi => by
          rw [show ((l0 : Int) + 1) = ((l0 + 1 : Nat) : Int) by omega]
          exact bt_or (by omega) i hi) fK g96 gK
        exact (NX l0 e' s1 e1 st' k1 v1 _ K G2 _ (by omega) hz1 CK M2 T2 (Nat.le_refl _)).on (fun x y => aK x (rr_n ▸ y)) (fun x y => eq_c20 SG q2 (c2 x y))
  · obtain ⟨M2, c1, c2⟩ := eq_b (d := d) (x1 := x1) hb hL m1 kq.1 kq.2.1 kq.2.2
    exact ⟨H, M2, Or.inr ⟨1, s', et_f (d := d) Sh q1, eq_c20 SG q2 c1, X, c2⟩⟩
  · exact ⟨H, M1, Or.inr ⟨f, s', et_f (d := d) Sh q1, eq_t20 SG Y.1 q2, X, Y⟩⟩
theorem et_loop (hb : tz_r b) (hL : L ≤ 1600) : ∀ (m l p s e : Nat) (st : Nat → Nat) (k v w : Int) (h G : am_H) (x1 : Value), 30 - l ≤ m → l ≤ 30 → st l ≤ 8 * l → eH h h0 b L s e k l (st l) → mE G g0 b L p s e k v w l → tC h G l 0 (l + 1) st → ET d h0 g0 b L h G 31 [.ref 54, .ref 41, iv (l : Int)] 95 [.ref 78, x1]
  | 0, l, p, s, e, st, k, v, w, h, G, x1, hm, hl, hz, C, M, T => et_line95 hb hL (fun l' p' s' e' st' k' v' w' h' G' x' a _ _ _ _ a2 => absurd a (by omega)) hl hz C M T
  | m + 1, l, p, s, e, st, k, v, w, h, G, x1, hm, hl, hz, C, M, T => et_line95 hb hL (fun l' p' s' e' st' k' v' w' h' G' x' a a1 C1 M1 T1 a2 => et_loop hb hL m (l' + 1) p' s' e' st' k' v' w' h' G' x' (by omega) a a1 C1 M1 T1) hl hz C M T
theorem et_all {p s e : Nat} {k v w : Int} {h G : am_H} {x1 : Value} (hb : tz_r b) (hL : L ≤ 1600) (C : eH h h0 b L s e k 0 0) (M : mE G g0 b L p s e k v w 0) (T : tC h G 0 0 1 (fun _ => 0)) : ET d h0 g0 b L h G 31 [.ref 54, .ref 41, iv ((0 : Nat) : Int)] 20 [.ref 78, x1] :=
  et_line20 (st := fun _ => 0) hb hL (fun l' p' s' e' st' k' v' w' h' G' x' a a1 C1 M1 T1 _ => et_loop hb hL 30 (l' + 1) p' s' e' st' k' v' w' h' G' x' (by omega) a a1 C1 M1 T1) (by omega) (by omega) C M T
end EDL
end
section
/-! EDITIONS: the copies and the counts -/
section EDU
variable {d : Nat} {h M : am_H} {t i j P c l : Nat}
theorem ed_191g : am_ev d 191 0 (am_ent [iv t, iv i] 2) [] h (some (iv (30 * (t : Int) + (i : Int))), h) := by
  show am_ev d 191 0 [iv t, iv i] [] h _
  refine fx_bip (p' := 2) rfl rfl rfl ?_
  refine am_ev.step (pc' := 3) rfl rfl ?_
  refine fx_mul (p' := 4) (e := (30 * (t : Int))) rfl rfl (by omega) ?_
  refine am_ev.step (pc' := 5) rfl rfl ?_
  refine fx_add (p' := 6) (e := (30 * (t : Int) + (i : Int))) rfl rfl (by omega) ?_
  exact fx_reti rfl rfl rfl
theorem ed_194 : am_ev d 194 0 (am_ent [iv P, iv c] 2) [] h (some (iv (3 * (P : Int) + (c : Int))), h) := by
  show am_ev d 194 0 [iv P, iv c] [] h _
  refine am_ev.step (pc' := 1) rfl rfl ?_
  refine am_ev.step (pc' := 2) rfl rfl ?_
  refine fx_mul (p' := 3) (e := (3 * (P : Int))) rfl rfl (by omega) ?_
  refine am_ev.step (pc' := 4) rfl rfl ?_
  refine fx_add (p' := 5) (e := (3 * (P : Int) + (c : Int))) rfl rfl (by omega) ?_
  exact fx_reti rfl rfl rfl
/-- while a text is copied: nothing but the five rows has changed, and the draft's places have values of their kinds -/
def cK (M h : am_H) : Prop := fS h ∧ (∀ c j, (c < 93 ∨ 97 < c) → h.2.2.2 c j = M.2.2.2 c j) ∧ (∀ i, i < 30 → (∃ x : Int32, h.2.2.2 94 (i + 3600) = .int x) ∧ (∃ x : Int32, h.2.2.2 96 (i + 3600) = .int x ∧ x &&& 1 = x) ∧ ∃ x : Int32, h.2.2.2 97 (i + 3600) = .int x ∧ x &&& 1 = x) ∧ ∀ j, j < 240 → ∃ x : Int64, h.2.2.2 95 (j + 28800) = .long x
theorem cK.p4 (K : cK M h) {k : Nat} {v : Value} {c : Nat} (S : fS (am_put h c k v)) (hc : c = 93 ∨ ((c = 94 ∨ c = 96 ∨ c = 97) ∧ k < 3600) ∨ (c = 95 ∧ k < 28800)) : cK M (am_put h c k v) := by
  obtain ⟨-, q1, q2, q3⟩ := K
  refine ⟨S, fun c' j' n => ax_put_o (Or.inl (by omega)) (q1 c' j' n), fun i hi => ?_, fun j hj => ?_⟩
  · obtain ⟨⟨x, a⟩, ⟨y, a1, a2⟩, ⟨z, b1, b2⟩⟩ := q2 i hi
    exact ⟨⟨x, ax_put_o (by omega) a⟩, ⟨y, ax_put_o (by omega) a1, a2⟩, ⟨z, ax_put_o (by omega) b1, b2⟩⟩
  · obtain ⟨x, a⟩ := q3 j hj
    exact ⟨x, ax_put_o (by omega) a⟩
theorem ck_j (ht : t < 120) (hi : i < 30) : ∀ (m j : Nat) (h : am_H), j + m = 8 → cK M h → ∃ H, cK M H ∧ ∀ x, am_ev (d + 1) 189 186 [.ref 78, iv P, iv t, iv i, iv ((8 : Nat) : Int)] [] H x → am_ev (d + 1) 189 140 [.ref 78, iv P, iv t, iv i, iv j] [] h x
  | 0, j, h, hj, K => by
    have S := K.1
    have e : j = 8 := by omega
    subst e
    refine ⟨h, K, fun x q9 => ?_⟩
    refine am_ev.step (pc' := 142) rfl rfl ?_
    refine fx_bip (p' := 144) rfl rfl rfl ?_
    refine fx_c_ge_T (pT := 186) rfl (by omega) (by omega) rfl (by omega) ?_
    exact q9
  | m + 1, j, h, hj, K => by
    have S := K.1
    obtain ⟨x, gx⟩ := K.2.2.2 (8 * i + j) (by omega)
    obtain ⟨H, KH, q2⟩ := ck_j ht hi m (j + 1) (am_put h 95 (8 * (30 * t + i) + j) (.long x)) (by omega) (K.p4 (S.pa rfl) (by omega))
    refine ⟨H, KH, fun x q9 => ?_⟩
    refine am_ev.step (pc' := 142) rfl rfl ?_
    refine fx_bip (p' := 144) rfl rfl rfl ?_
    refine fx_c_ge_F (pF := 147) rfl (by omega) (by omega) rfl (by omega) ?_
    refine am_ev.step (pc' := 148) rfl rfl ?_
    refine ax_gf (p' := 151) rfl rfl (S.ob rfl) (S.rf rfl rfl) ?_
    refine fx_bip (p' := 153) rfl rfl rfl ?_
    refine am_ev.step (pc' := 154) rfl rfl ?_
    refine am_ev.step (pc' := 155) rfl rfl ?_
    refine ax_call (z := 191) (p' := 158) (as := [_, _]) rfl (Or.inl ⟨_, rfl⟩) rfl rfl rfl rfl rfl rfl rfl rfl (ed_191g (t := t) (i := i)) rfl ?_
    refine fx_mul (p' := 159) (e := (240 * (t : Int) + 8 * (i : Int))) rfl rfl (by omega) ?_
    refine am_ev.step (pc' := 161) rfl rfl ?_
    refine fx_add (p' := 162) (e := (240 * (t : Int) + 8 * (i : Int) + (j : Int))) rfl rfl (by omega) ?_
    refine am_ev.step (pc' := 163) rfl rfl ?_
    refine ax_gf (p' := 166) rfl rfl (S.ob rfl) (S.rf rfl rfl) ?_
    refine fx_bip (p' := 168) rfl rfl rfl ?_
    refine fx_bip (p' := 170) rfl rfl rfl ?_
    refine am_ev.step (pc' := 171) rfl rfl ?_
    refine ax_call (z := 191) (p' := 174) (as := [_, _]) rfl (Or.inl ⟨_, rfl⟩) rfl rfl rfl rfl rfl rfl rfl rfl (ed_191 (s := i)) rfl ?_
    refine fx_mul (p' := 175) (e := (8 * (i : Int) + 28800)) rfl rfl (by omega) ?_
    refine am_ev.step (pc' := 177) rfl rfl ?_
    refine fx_add (p' := 178) (e := (8 * (i : Int) + (j : Int) + 28800)) rfl rfl (by omega) ?_
    refine ax_laload (p' := 179) rfl rfl (S.rd (k := 8 * i + j + 28800) rfl rfl rfl rfl (by omega) (by omega) gx) ?_
    refine fx_las (p' := 180) rfl rfl (S.wr (k := 8 * (30 * t + i) + j) rfl rfl rfl (by omega) (by omega)) ?_
    refine fx_inc (p' := 183) (e := ((j : Int) + 1)) (ls' := [.ref 78, iv ((P : Int)), iv ((t : Int)), iv ((i : Int)), iv ((j : Int) + 1)]) rfl rfl rfl (by omega) rfl ?_
    refine am_ev.step (pc' := 140) rfl rfl ?_
    exact q2 x (rr_n ▸ q9)
theorem ck_i (ht : t < 120) : ∀ (m i : Nat) (x4 : Value) (h : am_H), i + m = 30 → cK M h → ∃ (H : am_H) (y4 : Value), cK M H ∧ ∀ x, am_ev (d + 1) 189 192 [.ref 78, iv P, iv t, iv ((30 : Nat) : Int), y4] [] H x → am_ev (d + 1) 189 68 [.ref 78, iv P, iv t, iv i, x4] [] h x
  | 0, i, x4, h, hi, K => by
    have S := K.1
    have e : i = 30 := by omega
    subst e
    refine ⟨h, x4, K, fun x q9 => ?_⟩
    refine am_ev.step (pc' := 69) rfl rfl ?_
    refine fx_bip (p' := 71) rfl rfl rfl ?_
    refine fx_c_ge_T (pT := 192) rfl (by omega) (by omega) rfl (by omega) ?_
    exact q9
  | m + 1, i, x4, h, hi, K => by
    have S := K.1
    obtain ⟨⟨x, gx⟩, ⟨y, gy, uy⟩, ⟨w, gw, uw⟩⟩ := K.2.2.1 i (by omega)
    have K1 := K.p4 (c := 94) (k := 30 * t + i) (v := .int x) (S.pa rfl) (by omega)
    have K2 := K1.p4 (c := 96) (k := 30 * t + i) (v := .int y) (K1.1.pa rfl) (by omega)
    have K3 := K2.p4 (c := 97) (k := 30 * t + i) (v := .int w) (K2.1.pa rfl) (by omega)
    obtain ⟨H, KH, q2⟩ := ck_j (d := d) (P := P) ht (by omega : i < 30) 8 0 _ (by omega) K3
    have SH := KH.1
    obtain ⟨H', y4, KH', q3⟩ := ck_i ht m (i + 1) (iv ((8 : Nat) : Int)) H (by omega) KH
    refine ⟨H', y4, KH', fun x q9 => ?_⟩
    refine am_ev.step (pc' := 69) rfl rfl ?_
    refine fx_bip (p' := 71) rfl rfl rfl ?_
    refine fx_c_ge_F (pF := 74) rfl (by omega) (by omega) rfl (by omega) ?_
    refine am_ev.step (pc' := 75) rfl rfl ?_
    refine ax_gf (p' := 78) rfl rfl (S.ob rfl) (S.rf rfl rfl) ?_
    refine am_ev.step (pc' := 79) rfl rfl ?_
    refine am_ev.step (pc' := 80) rfl rfl ?_
    refine ax_call (z := 191) (p' := 83) (as := [_, _]) rfl (Or.inl ⟨_, rfl⟩) rfl rfl rfl rfl rfl rfl rfl rfl (ed_191g (t := t) (i := i)) rfl ?_
    refine am_ev.step (pc' := 84) rfl rfl ?_
    refine ax_gf (p' := 87) rfl rfl (S.ob rfl) (S.rf rfl rfl) ?_
    refine fx_bip (p' := 89) rfl rfl rfl ?_
    refine am_ev.step (pc' := 90) rfl rfl ?_
    refine ax_call (z := 191) (p' := 93) (as := [_, _]) rfl (Or.inl ⟨_, rfl⟩) rfl rfl rfl rfl rfl rfl rfl rfl (ed_191 (s := i)) rfl ?_
    refine ax_iaload (p' := 94) rfl rfl (S.rd (k := (i + 3600)) rfl rfl rfl rfl (by omega) (by omega) gx) ?_
    refine ax_iastore (p' := 95) rfl rfl (S.wr (k := 30 * t + i) rfl rfl rfl (by omega) (by omega)) ?_
    refine am_ev.step (pc' := 96) rfl rfl ?_
    refine ax_gf (p' := 99) rfl rfl (fO (S.ob rfl)) (ax_put_o (Or.inl (by decide)) (S.rf rfl rfl)) ?_
    refine am_ev.step (pc' := 100) rfl rfl ?_
    refine am_ev.step (pc' := 101) rfl rfl ?_
    refine ax_call (z := 191) (p' := 104) (as := [_, _]) rfl (Or.inl ⟨_, rfl⟩) rfl rfl rfl rfl rfl rfl rfl rfl (ed_191g (t := t) (i := i)) rfl ?_
    refine am_ev.step (pc' := 105) rfl rfl ?_
    refine ax_gf (p' := 108) rfl rfl (fO (S.ob rfl)) (ax_put_o (Or.inl (by decide)) (S.rf rfl rfl)) ?_
    refine fx_bip (p' := 110) rfl rfl rfl ?_
    refine am_ev.step (pc' := 111) rfl rfl ?_
    refine ax_call (z := 191) (p' := 114) (as := [_, _]) rfl (Or.inl ⟨_, rfl⟩) rfl rfl rfl rfl rfl rfl rfl rfl (ed_191 (s := i)) rfl ?_
    refine ax_baload (p' := 115) rfl rfl ((S.pa rfl).rd (k := (i + 3600)) rfl rfl rfl rfl (by omega) (by omega) (ax_put_o (by omega) gy)) ?_
    refine ax_bas2 (p' := 116) rfl rfl ((S.pa rfl).wr (k := 30 * t + i) rfl rfl rfl (by omega) (by omega)) ((S.pa rfl).sb rfl rfl) uy ?_
    refine am_ev.step (pc' := 117) rfl rfl ?_
    refine ax_gf (p' := 120) rfl rfl (fO (fO (S.ob rfl))) (ax_put_o (Or.inl (by decide)) (ax_put_o (Or.inl (by decide)) (S.rf rfl rfl))) ?_
    refine am_ev.step (pc' := 121) rfl rfl ?_
    refine am_ev.step (pc' := 122) rfl rfl ?_
    refine ax_call (z := 191) (p' := 125) (as := [_, _]) rfl (Or.inl ⟨_, rfl⟩) rfl rfl rfl rfl rfl rfl rfl rfl (ed_191g (t := t) (i := i)) rfl ?_
    refine am_ev.step (pc' := 126) rfl rfl ?_
    refine ax_gf (p' := 129) rfl rfl (fO (fO (S.ob rfl))) (ax_put_o (Or.inl (by decide)) (ax_put_o (Or.inl (by decide)) (S.rf rfl rfl))) ?_
    refine fx_bip (p' := 131) rfl rfl rfl ?_
    refine am_ev.step (pc' := 132) rfl rfl ?_
    refine ax_call (z := 191) (p' := 135) (as := [_, _]) rfl (Or.inl ⟨_, rfl⟩) rfl rfl rfl rfl rfl rfl rfl rfl (ed_191 (s := i)) rfl ?_
    refine ax_baload (p' := 136) rfl rfl (((S.pa rfl).pa rfl).rd (k := (i + 3600)) rfl rfl rfl rfl (by omega) (by omega) (ax_put_o (by omega) (ax_put_o (by omega) gw))) ?_
    refine ax_bas2 (p' := 137) rfl rfl (((S.pa rfl).pa rfl).wr (k := 30 * t + i) rfl rfl rfl (by omega) (by omega)) (((S.pa rfl).pa rfl).sb rfl rfl) uw ?_
    refine am_ev.step (pc' := 138) rfl rfl ?_
    refine am_ev.step (pc' := 140) (ls' := [.ref 78, iv ((P : Int)), iv ((t : Int)), iv ((i : Int)), iv 0]) rfl rfl ?_
    exact q2 _ (by
      refine fx_inc (p' := 189) (e := ((i : Int) + 1)) (ls' := [.ref 78, iv ((P : Int)), iv ((t : Int)), iv ((i : Int) + 1), iv 8]) rfl rfl rfl (by omega) rfl ?_
      refine am_ev.step (pc' := 68) rfl rfl ?_
      exact q3 _ (rr_n ▸ q9))
end EDU
end
section
/-! EDITIONS: the ends of both calls -/
section EDV
variable {d : Nat} {h H K K2 : am_H} {s E D t P c l : Nat} {pp : Int32}
theorem eq_w (hP : P ≤ 39) (hc : c ≤ 2) (S : fS h) (kt : kT h) (g92 : h.2.2.2 92 P = iv c) (gl : h.2.2.2 93 120 = iv l) {x2 x3 x4 : Value} : ∃ H : am_H, am_ev (d + 1) 189 42 [.ref 78, iv P, x2, x3, x4] [] h (some (iv c), H) ∧ H.2.2.2 92 P = iv ((c : Int) + 1) ∧ ∀ c' j, (c' < 92 ∨ 97 < c' ∨ (c' = 92 ∧ j ≠ P)) → H.2.2.2 c' j = h.2.2.2 c' j := by
  obtain ⟨t, et⟩ : ∃ t, t = 3 * P + c := ⟨_, rfl⟩
  have e194 : am_ev d 194 0 (am_ent [iv P, iv c] 2) [] h (some (iv (t : Int)), h) := by
    rw [show (t : Int) = (3 * (P : Int) + (c : Int)) by omega]
    exact ed_194
  obtain ⟨K, y4, KK, q2⟩ := ck_i (d := d) (M := h) (P := P) (t := t) (by omega) 30 0 x4 (am_put h 93 t (iv l)) (by omega) (cK.p4 (⟨S, fun _ _ _ => rfl, kt.1, kt.2⟩ : cK h h) (S.pa rfl) (Or.inl rfl))
  have SK := KK.1
  have gK : K.2.2.2 92 P = iv c := (KK.2.1 92 P (by omega)).trans g92
  refine ⟨am_put K 92 P (iv ((c : Int) + 1)), ?_, ax_put_s _ _ _, fun c' j n => ax_put_o (by omega) (KK.2.1 c' j (by omega))⟩
  refine am_ev.step (pc' := 43) rfl rfl ?_
  refine am_ev.step (pc' := 44) rfl rfl ?_
  refine ax_gf (p' := 47) rfl rfl (S.ob rfl) (S.rf rfl rfl) ?_
  refine am_ev.step (pc' := 48) rfl rfl ?_
  refine ax_iaload (p' := 49) rfl rfl (S.rd (k := P) rfl rfl rfl rfl rfl (by omega) g92) ?_
  refine ax_call (z := 194) (p' := 52) (as := [_, _]) rfl (Or.inl ⟨_, rfl⟩) rfl rfl rfl rfl rfl rfl rfl rfl e194 rfl ?_
  refine am_ev.step (pc' := 53) (ls' := [.ref 78, iv ((P : Int)), iv ((t : Int)), x3, x4]) rfl rfl ?_
  refine am_ev.step (pc' := 54) rfl rfl ?_
  refine ax_gf (p' := 57) rfl rfl (S.ob rfl) (S.rf rfl rfl) ?_
  refine am_ev.step (pc' := 58) rfl rfl ?_
  refine am_ev.step (pc' := 59) rfl rfl ?_
  refine ax_gf (p' := 62) rfl rfl (S.ob rfl) (S.rf rfl rfl) ?_
  refine fx_bip (p' := 64) rfl rfl rfl ?_
  refine ax_iaload (p' := 65) rfl rfl (S.rd (k := 120) rfl rfl rfl rfl rfl (by decide) gl) ?_
  refine ax_iastore (p' := 66) rfl rfl (S.wr (k := t) rfl rfl rfl rfl (by omega)) ?_
  refine am_ev.step (pc' := 67) rfl rfl ?_
  refine am_ev.step (pc' := 68) (ls' := [.ref 78, iv ((P : Int)), iv ((t : Int)), iv 0, x4]) rfl rfl ?_
  refine q2 _ ?_
  refine am_ev.step (pc' := 193) rfl rfl ?_
  refine ax_gf (p' := 196) rfl rfl (SK.ob rfl) (SK.rf rfl rfl) ?_
  refine am_ev.step (pc' := 197) rfl rfl ?_
  refine am_ev.step (pc' := 198) rfl rfl ?_
  refine ax_iaload (p' := 199) rfl rfl (SK.rd (k := P) rfl rfl rfl rfl rfl (by omega) gK) ?_
  refine am_ev.step (pc' := 200) rfl rfl ?_
  refine fx_add (p' := 201) (e := ((c : Int) + 1)) rfl rfl (by omega) ?_
  refine ax_iastore (p' := 202) rfl rfl (SK.wr (k := P) rfl rfl rfl rfl (by omega)) ?_
  refine am_ev.step (pc' := 203) rfl rfl ?_
  refine ax_gf (p' := 206) rfl rfl (fO (SK.ob rfl)) (ax_put_o (Or.inl (by decide)) (SK.rf rfl rfl)) ?_
  refine am_ev.step (pc' := 207) rfl rfl ?_
  refine ax_iaload (p' := 208) rfl rfl ((SK.pa rfl).rd (k := P) rfl rfl rfl rfl rfl (by omega) (ax_put_s _ _ _)) ?_
  refine am_ev.step (pc' := 209) rfl rfl ?_
  refine fx_sub (p' := 210) (e := ((c : Int))) rfl rfl (by omega) ?_
  exact fx_reti rfl rfl rfl
end EDV
section EDW
variable {d : Nat} {h H K K2 : am_H} {s E D c : Nat} {pp : Int32}
theorem ep_50 (S : fS h) (Os : am_isO h s 6 = true) (v6 : h.2.2.2 s 6 = iv c) (hc : c ≤ 2) (v7 : h.2.2.2 s 7 = .ref D) (hne : s ≠ D) (wr : am_isO h E (h.2.2.1 E).2.1 = true ∧ am_isA ((h.2.2.1 E).2.1 + 4) = true ∧ am_wr h D (Int32.ofInt (c : Int)) ((h.2.2.1 E).2.1 + 4) (.ref E) = some (am_put h D c (.ref E))) : am_ev d 50 0 (am_ent [.ref s, .ref E] 2) [] h (some (iv ((c : Int))), (am_put (am_put h D c (.ref E)) s 6 (iv ((c : Int) + 1)))) := by
  show am_ev d 50 0 [.ref s, .ref E] [] h _
  refine am_ev.step (pc' := 1) rfl rfl ?_
  refine ax_gf (p' := 4) rfl rfl Os v6 ?_
  refine fx_z_lt_F (pF := 7) rfl (by omega) rfl (by omega) ?_
  refine am_ev.step (pc' := 8) rfl rfl ?_
  refine ax_gf (p' := 11) rfl rfl Os v6 ?_
  refine am_ev.step (pc' := 12) rfl rfl ?_
  refine fx_c_lt_T (pT := 18) rfl (by omega) (by omega) rfl (by omega) ?_
  refine am_ev.step (pc' := 19) rfl rfl ?_
  refine ax_gf (p' := 22) rfl rfl Os v7 ?_
  refine am_ev.step (pc' := 23) rfl rfl ?_
  refine ax_gf (p' := 26) rfl rfl Os v6 ?_
  refine am_ev.step (pc' := 27) rfl rfl ?_
  refine ax_aastore (p' := 28) rfl rfl wr ?_
  refine am_ev.step (pc' := 29) rfl rfl ?_
  refine am_ev.step (pc' := 30) rfl rfl ?_
  refine ax_gf (p' := 33) rfl rfl (fO Os) (ax_put_o (Or.inl hne) v6) ?_
  refine am_ev.step (pc' := 34) rfl rfl ?_
  refine fx_add (p' := 35) (e := ((c : Int) + 1)) rfl rfl (by omega) ?_
  refine ax_pf (p' := 38) rfl rfl (fO Os) rfl ?_
  refine am_ev.step (pc' := 39) rfl rfl ?_
  refine ax_gf (p' := 42) rfl rfl (fO (fO Os)) (ax_put_s _ _ _) ?_
  refine am_ev.step (pc' := 43) rfl rfl ?_
  refine fx_sub (p' := 44) (e := ((c : Int))) rfl rfl (by omega) ?_
  exact fx_reti rfl rfl rfl
theorem ep_43n (S : fS h) (z42 : am_ev (d + 6) 42 0 (am_ent [.ref 40, .int pp] 2) [] h (some .null, h)) : am_ev (d + 7) 43 0 (am_ent [.ref 40, .int pp] 4) [] h (some (iv (-2)), (am_put h 41 1 (iv 0))) := by
  show am_ev (d + 7) 43 0 [.ref 40, .int pp, am_ph, am_ph] [] h _
  refine am_ev.step (pc' := 1) rfl rfl ?_
  refine am_ev.step (pc' := 2) rfl rfl ?_
  refine ax_call (z := 42) (p' := 5) (as := [_, _]) rfl (Or.inr (Or.inl ⟨_, rfl⟩)) rfl rfl rfl rfl rfl rfl (S.ob rfl) rfl z42 rfl ?_
  refine am_ev.step (pc' := 6) (ls' := [.ref 40, .int pp, .null, am_ph]) rfl rfl ?_
  refine am_ev.step (pc' := 7) rfl rfl ?_
  refine am_ev.step (pc' := 8) (ls' := [.ref 40, .int pp, .null, iv (-1)]) rfl rfl ?_
  refine am_ev.step (pc' := 9) rfl rfl ?_
  refine am_ev.step (pc' := 12) rfl rfl ?_
  refine fx_bip (p' := 14) rfl rfl rfl ?_
  refine am_ev.step (pc' := 15) (ls' := [.ref 40, .int pp, .null, iv (-2)]) rfl rfl ?_
  refine am_ev.step (pc' := 64) rfl rfl ?_
  refine am_ev.step (pc' := 65) rfl rfl ?_
  refine ax_gf (p' := 68) rfl rfl (S.ob rfl) (S.rf rfl rfl) ?_
  refine am_ev.step (pc' := 69) rfl rfl ?_
  refine ax_pf (p' := 72) rfl rfl (S.ob rfl) rfl ?_
  refine am_ev.step (pc' := 73) rfl rfl ?_
  exact fx_reti rfl rfl rfl
theorem ep_43t (S : fS h) (z42 : am_ev (d + 6) 42 0 (am_ent [.ref 40, .int pp] 2) [] h (some (.ref s), h)) (Os : am_isO h s 6 = true) (v6 : h.2.2.2 s 6 = iv c) (hc : c = 3) : am_ev (d + 7) 43 0 (am_ent [.ref 40, .int pp] 4) [] h (some (iv (-3)), (am_put h 41 1 (iv 0))) := by
  show am_ev (d + 7) 43 0 [.ref 40, .int pp, am_ph, am_ph] [] h _
  refine am_ev.step (pc' := 1) rfl rfl ?_
  refine am_ev.step (pc' := 2) rfl rfl ?_
  refine ax_call (z := 42) (p' := 5) (as := [_, _]) rfl (Or.inr (Or.inl ⟨_, rfl⟩)) rfl rfl rfl rfl rfl rfl (S.ob rfl) rfl z42 rfl ?_
  refine am_ev.step (pc' := 6) (ls' := [.ref 40, .int pp, .ref s, am_ph]) rfl rfl ?_
  refine am_ev.step (pc' := 7) rfl rfl ?_
  refine am_ev.step (pc' := 8) (ls' := [.ref 40, .int pp, .ref s, iv (-1)]) rfl rfl ?_
  refine am_ev.step (pc' := 9) rfl rfl ?_
  refine am_ev.step (pc' := 18) rfl rfl ?_
  refine am_ev.step (pc' := 19) rfl rfl ?_
  refine ax_gf (p' := 22) rfl rfl Os v6 ?_
  refine am_ev.step (pc' := 23) rfl rfl ?_
  refine fx_c_lt_F (pF := 26) rfl (by omega) (by omega) rfl (by omega) ?_
  refine fx_bip (p' := 28) rfl rfl rfl ?_
  refine am_ev.step (pc' := 29) (ls' := [.ref 40, .int pp, .ref s, iv (-3)]) rfl rfl ?_
  refine am_ev.step (pc' := 64) rfl rfl ?_
  refine am_ev.step (pc' := 65) rfl rfl ?_
  refine ax_gf (p' := 68) rfl rfl (S.ob rfl) (S.rf rfl rfl) ?_
  refine am_ev.step (pc' := 69) rfl rfl ?_
  refine ax_pf (p' := 72) rfl rfl (S.ob rfl) rfl ?_
  refine am_ev.step (pc' := 73) rfl rfl ?_
  exact fx_reti rfl rfl rfl
theorem ep_43f (S : fS h) (z42 : am_ev (d + 6) 42 0 (am_ent [.ref 40, .int pp] 2) [] h (some (.ref s), h)) (Os : am_isO h s 6 = true) (v6 : h.2.2.2 s 6 = iv c) (hc : c ≤ 2) (z44 : am_ev (d + 6) 44 0 (am_ent [.ref 54, .ref 41] 3) [] h (some (iv 0), H)) (SH : fS H) : am_ev (d + 7) 43 0 (am_ent [.ref 40, .int pp] 4) [] h (some (iv (-1)), (am_put H 41 1 (iv 0))) := by
  show am_ev (d + 7) 43 0 [.ref 40, .int pp, am_ph, am_ph] [] h _
  refine am_ev.step (pc' := 1) rfl rfl ?_
  refine am_ev.step (pc' := 2) rfl rfl ?_
  refine ax_call (z := 42) (p' := 5) (as := [_, _]) rfl (Or.inr (Or.inl ⟨_, rfl⟩)) rfl rfl rfl rfl rfl rfl (S.ob rfl) rfl z42 rfl ?_
  refine am_ev.step (pc' := 6) (ls' := [.ref 40, .int pp, .ref s, am_ph]) rfl rfl ?_
  refine am_ev.step (pc' := 7) rfl rfl ?_
  refine am_ev.step (pc' := 8) (ls' := [.ref 40, .int pp, .ref s, iv (-1)]) rfl rfl ?_
  refine am_ev.step (pc' := 9) rfl rfl ?_
  refine am_ev.step (pc' := 18) rfl rfl ?_
  refine am_ev.step (pc' := 19) rfl rfl ?_
  refine ax_gf (p' := 22) rfl rfl Os v6 ?_
  refine am_ev.step (pc' := 23) rfl rfl ?_
  refine fx_c_lt_T (pT := 32) rfl (by omega) (by omega) rfl (by omega) ?_
  refine am_ev.step (pc' := 33) rfl rfl ?_
  refine ax_gf (p' := 36) rfl rfl (S.ob rfl) (S.rf rfl rfl) ?_
  refine ax_gf (p' := 39) rfl rfl (S.ob rfl) (S.rf rfl rfl) ?_
  refine am_ev.step (pc' := 40) rfl rfl ?_
  refine ax_gf (p' := 43) rfl rfl (S.ob rfl) (S.rf rfl rfl) ?_
  refine ax_call (z := 44) (p' := 46) (as := [_, _]) rfl (Or.inr (Or.inl ⟨_, rfl⟩)) rfl rfl rfl rfl rfl rfl (S.ob rfl) rfl z44 rfl ?_
  refine fx_z_eq_T (pT := 64) rfl (by omega) rfl (by omega) ?_
  refine am_ev.step (pc' := 65) rfl rfl ?_
  refine ax_gf (p' := 68) rfl rfl (SH.ob rfl) (SH.rf rfl rfl) ?_
  refine am_ev.step (pc' := 69) rfl rfl ?_
  refine ax_pf (p' := 72) rfl rfl (SH.ob rfl) rfl ?_
  refine am_ev.step (pc' := 73) rfl rfl ?_
  exact fx_reti rfl rfl rfl
theorem ep_43s (S : fS h) (z42 : am_ev (d + 6) 42 0 (am_ent [.ref 40, .int pp] 2) [] h (some (.ref s), h)) (Os : am_isO h s 6 = true) (v6 : h.2.2.2 s 6 = iv c) (hc : c ≤ 2) (z44 : am_ev (d + 6) 44 0 (am_ent [.ref 54, .ref 41] 3) [] h (some (iv 1), H)) (SH : fS H) (z47 : am_ev (d + 6) 47 0 (am_ent [.ref 54] 4) [] H (some (.ref E), K)) (OsK : am_isO K s 6 = true) (z50 : am_ev (d + 6) 50 0 (am_ent [.ref s, .ref E] 2) [] K (some (iv c), K2)) (SK : fS K2) : am_ev (d + 7) 43 0 (am_ent [.ref 40, .int pp] 4) [] h (some (iv ((c : Int))), (am_put K2 41 1 (iv 0))) := by
  show am_ev (d + 7) 43 0 [.ref 40, .int pp, am_ph, am_ph] [] h _
  refine am_ev.step (pc' := 1) rfl rfl ?_
  refine am_ev.step (pc' := 2) rfl rfl ?_
  refine ax_call (z := 42) (p' := 5) (as := [_, _]) rfl (Or.inr (Or.inl ⟨_, rfl⟩)) rfl rfl rfl rfl rfl rfl (S.ob rfl) rfl z42 rfl ?_
  refine am_ev.step (pc' := 6) (ls' := [.ref 40, .int pp, .ref s, am_ph]) rfl rfl ?_
  refine am_ev.step (pc' := 7) rfl rfl ?_
  refine am_ev.step (pc' := 8) (ls' := [.ref 40, .int pp, .ref s, iv (-1)]) rfl rfl ?_
  refine am_ev.step (pc' := 9) rfl rfl ?_
  refine am_ev.step (pc' := 18) rfl rfl ?_
  refine am_ev.step (pc' := 19) rfl rfl ?_
  refine ax_gf (p' := 22) rfl rfl Os v6 ?_
  refine am_ev.step (pc' := 23) rfl rfl ?_
  refine fx_c_lt_T (pT := 32) rfl (by omega) (by omega) rfl (by omega) ?_
  refine am_ev.step (pc' := 33) rfl rfl ?_
  refine ax_gf (p' := 36) rfl rfl (S.ob rfl) (S.rf rfl rfl) ?_
  refine ax_gf (p' := 39) rfl rfl (S.ob rfl) (S.rf rfl rfl) ?_
  refine am_ev.step (pc' := 40) rfl rfl ?_
  refine ax_gf (p' := 43) rfl rfl (S.ob rfl) (S.rf rfl rfl) ?_
  refine ax_call (z := 44) (p' := 46) (as := [_, _]) rfl (Or.inr (Or.inl ⟨_, rfl⟩)) rfl rfl rfl rfl rfl rfl (S.ob rfl) rfl z44 rfl ?_
  refine fx_z_eq_F (pF := 49) rfl (by omega) rfl (by omega) ?_
  refine am_ev.step (pc' := 50) rfl rfl ?_
  refine am_ev.step (pc' := 51) rfl rfl ?_
  refine ax_gf (p' := 54) rfl rfl (SH.ob rfl) (SH.rf rfl rfl) ?_
  refine ax_gf (p' := 57) rfl rfl (SH.ob rfl) (SH.rf rfl rfl) ?_
  refine ax_call (z := 47) (p' := 60) (as := [_]) rfl (Or.inr (Or.inl ⟨_, rfl⟩)) rfl rfl rfl rfl rfl rfl (SH.ob rfl) rfl z47 rfl ?_
  refine ax_call (z := 50) (p' := 63) (as := [_, _]) rfl (Or.inr (Or.inl ⟨_, rfl⟩)) rfl rfl rfl rfl rfl rfl OsK rfl z50 rfl ?_
  refine am_ev.step (pc' := 64) (ls' := [.ref 40, .int pp, .ref s, iv ((c : Int))]) rfl rfl ?_
  refine am_ev.step (pc' := 65) rfl rfl ?_
  refine ax_gf (p' := 68) rfl rfl (SK.ob rfl) (SK.rf rfl rfl) ?_
  refine am_ev.step (pc' := 69) rfl rfl ?_
  refine ax_pf (p' := 72) rfl rfl (SK.ob rfl) rfl ?_
  refine am_ev.step (pc' := 73) rfl rfl ?_
  exact fx_reti rfl rfl rfl
end EDW
end
section
/-! EDITIONS: the model's call up to its copies -/
section EDX
variable {d : Nat} {h M : am_H} {b : Nat → Int} {L s e P c : Nat} {k v w : Int} {pp : Int32}
theorem eq_189r (S : fS h) (v2 : h.2.2.2 78 2 = iv L) (z : am_ev (d + 2) 188 0 (am_ent [.ref 78, .int pp] 2) [] (am_put (am_put (am_put h 78 3 (iv ((L : Int)))) 78 2 (iv 0)) 78 5 (iv 0)) (some (iv 0), (am_put (am_put (am_put h 78 3 (iv ((L : Int)))) 78 2 (iv 0)) 78 5 (iv 0)))) : am_ev (d + 3) 189 0 (am_ent [.ref 78, .int pp] 5) [] h (some (iv (-2)), (am_put (am_put (am_put h 78 3 (iv ((L : Int)))) 78 2 (iv 0)) 78 5 (iv 0))) := by
  show am_ev (d + 3) 189 0 [.ref 78, .int pp, am_ph, am_ph, am_ph] [] h _
  refine am_ev.step (pc' := 1) rfl rfl ?_
  refine ax_call (z := 168) (p' := 4) (as := [_]) rfl (Or.inr (Or.inl ⟨_, rfl⟩)) rfl rfl rfl rfl rfl rfl (S.ob rfl) rfl (rw_168 S v2) rfl ?_
  refine am_ev.step (pc' := 5) rfl rfl ?_
  refine am_ev.step (pc' := 6) rfl rfl ?_
  refine ax_call (z := 188) (p' := 9) (as := [_, _]) rfl (Or.inr (Or.inl ⟨_, rfl⟩)) rfl rfl rfl rfl rfl rfl (fO (fO (fO (S.ob rfl)))) rfl z rfl ?_
  refine fx_z_ne_F (pF := 12) rfl (by omega) rfl (by omega) ?_
  refine fx_bip (p' := 14) rfl rfl rfl ?_
  exact fx_reti rfl rfl rfl
theorem eq_189f (S : fS h) (v2 : h.2.2.2 78 2 = iv L) (hP : P ≤ 39) (g92 : h.2.2.2 92 P = iv c) (hc : c = 3) (z : am_ev (d + 2) 188 0 (am_ent [.ref 78, iv P] 2) [] (am_put (am_put (am_put h 78 3 (iv ((L : Int)))) 78 2 (iv 0)) 78 5 (iv 0)) (some (iv 1), (am_put (am_put (am_put h 78 3 (iv ((L : Int)))) 78 2 (iv 0)) 78 5 (iv 0)))) : am_ev (d + 3) 189 0 (am_ent [.ref 78, iv ((P : Int))] 5) [] h (some (iv (-3)), (am_put (am_put (am_put h 78 3 (iv ((L : Int)))) 78 2 (iv 0)) 78 5 (iv 0))) := by
  show am_ev (d + 3) 189 0 [.ref 78, iv ((P : Int)), am_ph, am_ph, am_ph] [] h _
  refine am_ev.step (pc' := 1) rfl rfl ?_
  refine ax_call (z := 168) (p' := 4) (as := [_]) rfl (Or.inr (Or.inl ⟨_, rfl⟩)) rfl rfl rfl rfl rfl rfl (S.ob rfl) rfl (rw_168 S v2) rfl ?_
  refine am_ev.step (pc' := 5) rfl rfl ?_
  refine am_ev.step (pc' := 6) rfl rfl ?_
  refine ax_call (z := 188) (p' := 9) (as := [_, _]) rfl (Or.inr (Or.inl ⟨_, rfl⟩)) rfl rfl rfl rfl rfl rfl (fO (fO (fO (S.ob rfl)))) rfl z rfl ?_
  refine fx_z_ne_T (pT := 15) rfl (by omega) rfl (by omega) ?_
  refine am_ev.step (pc' := 16) rfl rfl ?_
  refine ax_gf (p' := 19) rfl rfl (fO (fO (fO (S.ob rfl)))) (ax_put_o (Or.inr (by decide)) (ax_put_o (Or.inr (by decide)) (ax_put_o (Or.inr (by decide)) (S.rf rfl rfl)))) ?_
  refine am_ev.step (pc' := 20) rfl rfl ?_
  refine ax_iaload (p' := 21) rfl rfl ((((S.po rfl rfl).po rfl rfl).po rfl rfl).rd (k := P) rfl rfl rfl rfl rfl (by omega) (ax_put_o (Or.inl (by decide)) (ax_put_o (Or.inl (by decide)) (ax_put_o (Or.inl (by decide)) g92)))) ?_
  refine am_ev.step (pc' := 22) rfl rfl ?_
  refine fx_c_ne_F (pF := 25) rfl (by omega) (by omega) rfl (by omega) ?_
  refine fx_bip (p' := 27) rfl rfl rfl ?_
  exact fx_reti rfl rfl rfl
theorem eq_189n (S : fS h) (B : tb h 80 b L) (hb : tz_r b) (hL : L ≤ 1600) (v2 : h.2.2.2 78 2 = iv L) (v7 : h.2.2.2 78 7 = iv w) (hP : P ≤ 39) (g92 : h.2.2.2 92 P = iv c) (hc : c ≤ 2) (z : am_ev (d + 9) 188 0 (am_ent [.ref 78, iv P] 2) [] (am_put (am_put (am_put h 78 3 (iv ((L : Int)))) 78 2 (iv 0)) 78 5 (iv 0)) (some (iv 1), (am_put (am_put (am_put h 78 3 (iv ((L : Int)))) 78 2 (iv 0)) 78 5 (iv 0)))) (t0 : tz_t b L 0 s e k v) (SM : fS M) (z2 : am_ev (d + 9) 190 0 (am_ent [.ref 78] 2) [] (am_put (am_put (am_put (am_put (am_put (am_put (am_put (am_put (am_put h 78 3 (iv ((L : Int)))) 78 2 (iv 0)) 78 5 (iv 0)) 78 8 (iv 0)) 78 9 (iv (-1))) 78 4 (iv ((s : Int)))) 78 7 (iv ((tV b L s (w))))) 78 5 (iv ((e : Int)))) 78 6 (iv ((tH k)))) (none, M)) {x : Option Value × am_H} (q9 : am_ev (d + 10) 189 42 [.ref 78, iv ((P : Int)), am_ph, am_ph, am_ph] [] M x) : am_ev (d + 10) 189 0 (am_ent [.ref 78, iv ((P : Int))] 5) [] h x := by
  show am_ev (d + 10) 189 0 [.ref 78, iv ((P : Int)), am_ph, am_ph, am_ph] [] h x
  refine am_ev.step (pc' := 1) rfl rfl ?_
  refine ax_call (z := 168) (p' := 4) (as := [_]) rfl (Or.inr (Or.inl ⟨_, rfl⟩)) rfl rfl rfl rfl rfl rfl (S.ob rfl) rfl (rw_168 S v2) rfl ?_
  refine am_ev.step (pc' := 5) rfl rfl ?_
  refine am_ev.step (pc' := 6) rfl rfl ?_
  refine ax_call (z := 188) (p' := 9) (as := [_, _]) rfl (Or.inr (Or.inl ⟨_, rfl⟩)) rfl rfl rfl rfl rfl rfl (fO (fO (fO (S.ob rfl)))) rfl z rfl ?_
  refine fx_z_ne_T (pT := 15) rfl (by omega) rfl (by omega) ?_
  refine am_ev.step (pc' := 16) rfl rfl ?_
  refine ax_gf (p' := 19) rfl rfl (fO (fO (fO (S.ob rfl)))) (ax_put_o (Or.inr (by decide)) (ax_put_o (Or.inr (by decide)) (ax_put_o (Or.inr (by decide)) (S.rf rfl rfl)))) ?_
  refine am_ev.step (pc' := 20) rfl rfl ?_
  refine ax_iaload (p' := 21) rfl rfl ((((S.po rfl rfl).po rfl rfl).po rfl rfl).rd (k := P) rfl rfl rfl rfl rfl (by omega) (ax_put_o (Or.inl (by decide)) (ax_put_o (Or.inl (by decide)) (ax_put_o (Or.inl (by decide)) g92)))) ?_
  refine am_ev.step (pc' := 22) rfl rfl ?_
  refine fx_c_ne_T (pT := 28) rfl (by omega) (by omega) rfl (by omega) ?_
  refine am_ev.step (pc' := 29) rfl rfl ?_
  refine ax_call (z := 169) (p' := 32) (as := [_]) rfl (Or.inr (Or.inl ⟨_, rfl⟩)) rfl rfl rfl rfl rfl rfl (fO (fO (fO (S.ob rfl)))) rfl (rw_169 (((S.po rfl rfl).po rfl rfl).po rfl rfl) (((B.put (by decide)).put (by decide)).put (by decide)) hb hL (ax_put_o (Or.inr (by decide)) (ax_put_o (Or.inr (by decide)) (ax_put_s _ _ _))) (ax_put_s _ _ _) (ax_put_o (Or.inr (by decide)) (ax_put_o (Or.inr (by decide)) (ax_put_o (Or.inr (by decide)) v7))) t0) rfl ?_
  refine am_ev.step (pc' := 33) rfl rfl ?_
  refine ax_call (z := 190) (p' := 36) (as := [_]) rfl (Or.inr (Or.inl ⟨_, rfl⟩)) rfl rfl rfl rfl rfl rfl (fO (fO (fO (fO (fO (fO (fO (fO (fO (S.ob rfl)))))))))) rfl z2 rfl ?_
  refine am_ev.step (pc' := 42) rfl rfl ?_
  exact q9
theorem eq_189t (S : fS h) (B : tb h 80 b L) (hb : tz_r b) (hL : L ≤ 1600) (v2 : h.2.2.2 78 2 = iv L) (v7 : h.2.2.2 78 7 = iv w) (hP : P ≤ 39) (g92 : h.2.2.2 92 P = iv c) (hc : c ≤ 2) (z : am_ev (d + 9) 188 0 (am_ent [.ref 78, iv P] 2) [] (am_put (am_put (am_put h 78 3 (iv ((L : Int)))) 78 2 (iv 0)) 78 5 (iv 0)) (some (iv 1), (am_put (am_put (am_put h 78 3 (iv ((L : Int)))) 78 2 (iv 0)) 78 5 (iv 0)))) (t0 : tz_t b L 0 s e k v) (SM : fS M) (z2 : am_ev (d + 9) 190 0 (am_ent [.ref 78] 2) [] (am_put (am_put (am_put (am_put (am_put (am_put (am_put (am_put (am_put h 78 3 (iv ((L : Int)))) 78 2 (iv 0)) 78 5 (iv 0)) 78 8 (iv 0)) 78 9 (iv (-1))) 78 4 (iv ((s : Int)))) 78 7 (iv ((tV b L s (w))))) 78 5 (iv ((e : Int)))) 78 6 (iv ((tH k)))) (some (.retAddr (79 + 1)), M)) : am_ev (d + 10) 189 0 (am_ent [.ref 78, iv ((P : Int))] 5) [] h (some (iv (-1)), M) := by
  show am_ev (d + 10) 189 0 [.ref 78, iv ((P : Int)), am_ph, am_ph, am_ph] [] h _
  refine am_ev.step (pc' := 1) rfl rfl ?_
  refine ax_call (z := 168) (p' := 4) (as := [_]) rfl (Or.inr (Or.inl ⟨_, rfl⟩)) rfl rfl rfl rfl rfl rfl (S.ob rfl) rfl (rw_168 S v2) rfl ?_
  refine am_ev.step (pc' := 5) rfl rfl ?_
  refine am_ev.step (pc' := 6) rfl rfl ?_
  refine ax_call (z := 188) (p' := 9) (as := [_, _]) rfl (Or.inr (Or.inl ⟨_, rfl⟩)) rfl rfl rfl rfl rfl rfl (fO (fO (fO (S.ob rfl)))) rfl z rfl ?_
  refine fx_z_ne_T (pT := 15) rfl (by omega) rfl (by omega) ?_
  refine am_ev.step (pc' := 16) rfl rfl ?_
  refine ax_gf (p' := 19) rfl rfl (fO (fO (fO (S.ob rfl)))) (ax_put_o (Or.inr (by decide)) (ax_put_o (Or.inr (by decide)) (ax_put_o (Or.inr (by decide)) (S.rf rfl rfl)))) ?_
  refine am_ev.step (pc' := 20) rfl rfl ?_
  refine ax_iaload (p' := 21) rfl rfl ((((S.po rfl rfl).po rfl rfl).po rfl rfl).rd (k := P) rfl rfl rfl rfl rfl (by omega) (ax_put_o (Or.inl (by decide)) (ax_put_o (Or.inl (by decide)) (ax_put_o (Or.inl (by decide)) g92)))) ?_
  refine am_ev.step (pc' := 22) rfl rfl ?_
  refine fx_c_ne_T (pT := 28) rfl (by omega) (by omega) rfl (by omega) ?_
  refine am_ev.step (pc' := 29) rfl rfl ?_
  refine ax_call (z := 169) (p' := 32) (as := [_]) rfl (Or.inr (Or.inl ⟨_, rfl⟩)) rfl rfl rfl rfl rfl rfl (fO (fO (fO (S.ob rfl)))) rfl (rw_169 (((S.po rfl rfl).po rfl rfl).po rfl rfl) (((B.put (by decide)).put (by decide)).put (by decide)) hb hL (ax_put_o (Or.inr (by decide)) (ax_put_o (Or.inr (by decide)) (ax_put_s _ _ _))) (ax_put_s _ _ _) (ax_put_o (Or.inr (by decide)) (ax_put_o (Or.inr (by decide)) (ax_put_o (Or.inr (by decide)) v7))) t0) rfl ?_
  refine am_ev.step (pc' := 33) rfl rfl ?_
  refine ax_callC (p' := 39) (z := 190) (as := [_]) rfl (Or.inr (Or.inl ⟨_, rfl⟩)) rfl rfl rfl rfl rfl rfl (fO (fO (fO (fO (fO (fO (fO (fO (fO (S.ob rfl)))))))))) z2 rfl rfl (SM.ob rfl) rfl ?_
  refine am_ev.step (pc' := 40) (ls' := [.ref 78, iv ((P : Int)), .ref 79, am_ph, am_ph]) rfl rfl ?_
  refine am_ev.step (pc' := 41) rfl rfl ?_
  exact fx_reti rfl rfl rfl
theorem eq_190s (S : fS h) (B : tb h 80 b L) (v2 : h.2.2.2 78 2 = iv L) (v7 : h.2.2.2 78 7 = iv w) (kt : kT h) (t0 : tz_t b L 0 s e k v) : ∃ H : am_H, mE H (am_put (am_put (am_put (am_put (am_put (am_put (am_put (am_put (am_put h 78 3 (iv ((L : Int)))) 78 2 (iv 0)) 78 5 (iv 0)) 78 8 (iv 0)) 78 9 (iv (-1))) 78 4 (iv ((s : Int)))) 78 7 (iv ((tV b L s (w))))) 78 5 (iv ((e : Int)))) 78 6 (iv ((tH k)))) b L 0 s e k v (tV b L s w) 0 ∧ H.2.2.2 96 3600 = iv 1 ∧ (∀ c j, 94 ≤ c → c ≤ 97 → (c ≠ 96 ∨ j ≠ 3600) → H.2.2.2 c j = h.2.2.2 c j) ∧ ∀ x, am_ev (d + 6) 190 20 [.ref 78, am_ph] [] H x → am_ev (d + 6) 190 0 (am_ent [.ref 78] 2) [] (am_put (am_put (am_put (am_put (am_put (am_put (am_put (am_put (am_put h 78 3 (iv ((L : Int)))) 78 2 (iv 0)) 78 5 (iv 0)) 78 8 (iv 0)) 78 9 (iv (-1))) 78 4 (iv ((s : Int)))) 78 7 (iv ((tV b L s (w))))) 78 5 (iv ((e : Int)))) 78 6 (iv ((tH k)))) x := by
  obtain ⟨H, m1, ⟨g96, gf⟩, m3⟩ := eq_s (d := d) (h := (am_put (am_put (am_put (am_put (am_put (am_put (am_put (am_put (am_put h 78 3 (iv ((L : Int)))) 78 2 (iv 0)) 78 5 (iv 0)) 78 8 (iv 0)) 78 9 (iv (-1))) 78 4 (iv ((s : Int)))) 78 7 (iv ((tV b L s (w))))) 78 5 (iv ((e : Int)))) 78 6 (iv ((tH k))))) (((((((((S.po rfl rfl).po rfl rfl).po rfl rfl).po rfl rfl).po rfl rfl).po rfl rfl).po rfl rfl).po rfl rfl).po rfl rfl) (((((((((B.put (by decide)).put (by decide)).put (by decide)).put (by decide)).put (by decide)).put (by decide)).put (by decide)).put (by decide)).put (by decide)) (ax_put_o (Or.inr (by decide)) (ax_put_o (Or.inr (by decide)) (ax_put_o (Or.inr (by decide)) (ax_put_o (Or.inr (by decide)) (ax_put_o (Or.inr (by decide)) (ax_put_o (Or.inr (by decide)) (ax_put_o (Or.inr (by decide)) (ax_put_o (Or.inr (by decide)) (ax_put_s _ _ _))))))))) t0 (ax_put_o (Or.inr (by decide)) (ax_put_o (Or.inr (by decide)) (ax_put_o (Or.inr (by decide)) (ax_put_s _ _ _)))) (ax_put_o (Or.inr (by decide)) (ax_put_s _ _ _)) (ax_put_s _ _ _) (ax_put_o (Or.inr (by decide)) (ax_put_o (Or.inr (by decide)) (ax_put_s _ _ _))) (t0.v _).1 (t0.v _).2 (ax_put_o (Or.inr (by decide)) (ax_put_o (Or.inr (by decide)) (ax_put_o (Or.inr (by decide)) (ax_put_o (Or.inr (by decide)) (ax_put_o (Or.inr (by decide)) (ax_put_s _ _ _)))))) (ax_put_o (Or.inr (by decide)) (ax_put_o (Or.inr (by decide)) (ax_put_o (Or.inr (by decide)) (ax_put_o (Or.inr (by decide)) (ax_put_s _ _ _))))) (ax_put_o (Or.inr (by decide)) (ax_put_o (Or.inr (by decide)) (ax_put_o (Or.inr (by decide)) (ax_put_o (Or.inr (by decide)) (ax_put_o (Or.inr (by decide)) (ax_put_o (Or.inr (by decide)) (ax_put_o (Or.inr (by decide)) (ax_put_s _ _ _)))))))) (((((((((kt.po (by decide)).po (by decide)).po (by decide)).po (by decide)).po (by decide)).po (by decide)).po (by decide)).po (by decide)).po (by decide))
  exact ⟨H, m1, g96, fun c j a1 a2 a3 => (gf c j a1 a2 a3).trans (ax_put_o (by omega) (ax_put_o (by omega) (ax_put_o (by omega) (ax_put_o (by omega) (ax_put_o (by omega) (ax_put_o (by omega) (ax_put_o (by omega) (ax_put_o (by omega) (ax_put_o (by omega) rfl))))))))), m3⟩
end EDX
end
section
/-! EDITIONS AT THE LAW -/
section OED
variable {h : am_H} {d : Nat}
theorem sp_apR {y k k' : Nat} {c : cq_Ct} (ok : cq_CT y c) (e1 : c.2.1 = [(5, (0, []), k), (5, (0, []), k')]) (e2 : c.2.2.1 = cq_mk 0 ([], []) [] [] [] [] [] [] none 0 0) {A B : Nat} (e3 : (c.2.2.2.2.all fun x => !x.1 && x.2.2.U.isNone && Nat.ble x.2.2.ac A && Nat.ble x.2.2.al B) = true) {h : am_H} (I : cq_Inv none h) {d : Nat} (hd : c.1 ≤ d) : ∃ r h', am_ev d y 0 (am_ent [.ref k, .ref k'] (am_in y).2.2.1) [] h (r, h') ∧ am_isT r = none ∧ cq_Inv none h' ∧ cq_Fr c.2.2.2.1 h h' ∧ h'.1 ≤ h.1 + A ∧ h'.2.1 ≤ h.2.1 + B := by
  let ρ : Nat → Int := fun _ => 0
  have gg : cq_gs ρ c.2.1 [.ref k, .ref k'] := by
    rw [e1]
    exact ⟨rfl, rfl, trivial⟩
  have M0 : cq_Md c.2.2.2.1 h ρ c.2.2.1 h := by
    rw [e2]
    exact cq_Md_p ⟨fun b hb => (by cases hb), fun _ z => (by cases z)⟩ (fun _ z => (by cases z)) (fun _ z => (by cases z)) I
  obtain ⟨r, h', ev, x, hx, ρ', a', Mx, hr⟩ := ok d h ρ _ hd M0 gg
  have b1 := (Bool.and_eq_true _ _ ▸ List.all_eq_true.1 e3 x hx)
  have b2 := (Bool.and_eq_true _ _ ▸ b1.1)
  have b3 := (Bool.and_eq_true _ _ ▸ b2.1)
  have IX := Mx.I
  rw [Option.isNone_iff_eq_none.1 b3.2] at IX
  refine ⟨r, h', ev, ?_, IX, Mx.F, Nat.le_trans Mx.A.1 (Nat.add_le_add_left (Nat.le_of_ble_eq_true b2.2) _), Nat.le_trans Mx.A.2 (Nat.add_le_add_left (Nat.le_of_ble_eq_true b1.2) _)⟩
  rcases hr with ⟨_, z, _⟩ | ⟨z, _⟩
  · exact z
  · have := b3.1
    rw [z] at this
    cases this
theorem sp_apE {y k ci : Nat} {c : cq_Ct} (ok : cq_CT y c) (e1 : c.2.1 = [(5, (0, []), k)]) (e2 : c.2.2.1 = cq_mk 0 ([], []) [] [] [] [] [] [] none 0 0) {A B : Nat} {m : cq_P} (e3 : c.2.2.2.2 = [(false, [(6, (0, []), 0)], cq_mk 1 m [(0, true)] [(0, (0, ci, 0))] [] [] [] [] none A B)]) {h : am_H} (I : cq_Inv none h) {d : Nat} (hd : c.1 ≤ d) : ∃ (E : Nat) (h' : am_H), am_ev d y 0 (am_ent [.ref k] (am_in y).2.2.1) [] h (some (.ref E), h') ∧ cq_kOk h' E (0, ci, 0) ∧ cq_Inv none h' ∧ cq_Fr c.2.2.2.1 h h' ∧ h'.1 ≤ h.1 + A ∧ h'.2.1 ≤ h.2.1 + B := by
  let ρ : Nat → Int := fun _ => 0
  have gg : cq_gs ρ c.2.1 [.ref k] := by
    rw [e1]
    exact ⟨rfl, trivial⟩
  have M0 : cq_Md c.2.2.2.1 h ρ c.2.2.1 h := by
    rw [e2]
    exact cq_Md_p ⟨fun b hb => (by cases hb), fun _ z => (by cases z)⟩ (fun _ z => (by cases z)) (fun _ z => (by cases z)) I
  obtain ⟨r, h', ev, x, hx, ρ', a', Mx, hr⟩ := ok d h ρ _ hd M0 gg
  rw [e3] at hx
  have hx := List.mem_singleton.1 hx
  subst hx
  have k0 : 0 ≤ ρ' 0 := (Mx.N (0, true) (List.mem_singleton.2 rfl)).1 rfl
  have kk := Mx.K (0, (0, ci, 0)) (List.mem_singleton.2 rfl) k0
  rcases hr with ⟨_, _, z⟩ | ⟨z, _⟩
  · rcases r with _ | v
    · cases z
    · obtain ⟨z, -⟩ := z
      have z : (ρ' 0 < 0 ∧ v = .null) ∨ (0 ≤ ρ' 0 ∧ v = .ref (ρ' 0).toNat) := z
      rcases z with ⟨z, -⟩ | ⟨-, z⟩
      · omega
      · subst z
        exact ⟨(ρ' 0).toNat, h', ev, kk, Mx.I, Mx.F, Mx.A.1, Mx.A.2⟩
  · cases z
def lw_nK (m : cq_W) (k : Nat) : Bool := m.all fun w => bif w.1 then !(Nat.beq w.2.1 0 && Nat.beq w.2.2.1 k) else Nat.blt w.2.1 130
theorem lw_frK {m : cq_W} {h h2 : am_H} (F : cq_Fr m h h2) {s k n : Nat} (h1 : 130 ≤ s) (h3 : s < h.1) (sh : h.2.2.1 s = (0, k, n)) (q : lw_nK m k = true) (j : Nat) : h2.2.2.2 s j = h.2.2.2 s j := by
  refine lw_frO F h1 h3 sh ?_
  unfold lw_nO
  rw [List.all_eq_true]
  intro w hw
  have z := List.all_eq_true.1 q w hw
  cases w1 : w.1 with
  | true =>
    rw [w1] at z
    have z : (!(Nat.beq w.2.1 0 && Nat.beq w.2.2.1 k)) = true := z
    simp only [Bool.not_eq_true', Bool.and_eq_false_iff] at z
    show (!(Nat.beq w.2.1 0 && Nat.beq w.2.2.1 k && _)) = true
    rcases z with z | z
    · rw [z]
      rfl
    · rw [z, Bool.and_false]
      rfl
  | false =>
    rw [w1] at z
    exact z
theorem kT_of (I : cq_Inv none h) : kT h := by
  have t1 : ∀ {c n j : Nat} {l u : Int}, (Nat.ble 40 c && Nat.blt c 130 && cq_isA c && !Nat.beq c 81 && !Nat.beq c 83) = true → (cq_fix c).2.2 = n → j < n → cq_ar c = (1, l, u, 0, 0, 0) → ∃ x : Int32, h.2.2.2 c j = .int x ∧ l ≤ x.toInt ∧ x.toInt ≤ u := fun {c n j l u} q f hj a => by
    have b1 := (Bool.and_eq_true _ _ ▸ q)
    have b2 := (Bool.and_eq_true _ _ ▸ b1.1)
    have b3 := (Bool.and_eq_true _ _ ▸ b2.1)
    refine ax_in I (c := c) (j := j) (l := l) (u := u) (by
      rw [f, show Nat.blt j n = true from Nat.ble_eq_true_of_le hj, b3.1]
      rfl) ?_
    have b4 := b1.2
    have b5 := b2.2
    unfold cq_ty
    rw [b3.2]
    simp only [Bool.not_eq_true'] at b4 b5
    rw [b4, b5]
    exact a
  have t2 : ∀ {x : Int32}, 0 ≤ x.toInt → x.toInt ≤ 1 → x &&& 1 = x := fun {x} a b => by
    have hx : x = 0 ∨ x = 1 := by
      by_cases e : x.toInt = 0
      · exact Or.inl (Int32.toInt_inj.1 (by rw [e]; decide))
      · exact Or.inr (Int32.toInt_inj.1 (by rw [show x.toInt = 1 by omega]; decide))
    rcases hx with rfl | rfl <;> decide
  refine ⟨fun i hi => ⟨?_, ?_, ?_⟩, fun j hj => ?_⟩
  · obtain ⟨x, ex, -⟩ := t1 (c := 94) (n := 3630) (j := i + 3600) (l := 0) (u := 8) (by decide +kernel) (by decide +kernel) (by omega) (by decide +kernel)
    exact ⟨x, ex⟩
  · obtain ⟨x, ex, a, b⟩ := t1 (c := 96) (n := 3630) (j := i + 3600) (l := 0) (u := 1) (by decide +kernel) (by decide +kernel) (by omega) (by decide +kernel)
    exact ⟨x, ex, t2 a b⟩
  · obtain ⟨x, ex, a, b⟩ := t1 (c := 97) (n := 3630) (j := i + 3600) (l := 0) (u := 1) (by decide +kernel) (by decide +kernel) (by omega) (by decide +kernel)
    exact ⟨x, ex, t2 a b⟩
  · have z := ax_ty I (c := 95) (j := j + 28800) (t := (2, 0, 0, 0, 0, 0)) (by
      rw [show Nat.blt (j + 28800) (cq_fix 95).2.2 = true from Nat.ble_eq_true_of_le (by show j + 28800 + 1 ≤ 29040; omega)]
      decide +kernel) (by
      unfold cq_ty
      rw [show cq_isA 95 = true by decide +kernel, show ((Nat.beq 95 81 || Nat.beq 95 83) && Nat.beq (j + 28800) 1) = false from rfl]
      show cq_ar 95 = _
      decide +kernel)
    exact z
theorem op_edi (I : cq_Inv none h) (X : rT h) (P : rp_P h) (Q : rQ h) (T : tT h (41, 1, 78, 2)) (p1 : Int32) : ∃ (a : Int32) (h1 h2 : am_H), am_ev (d + 10) 43 0 (am_ent [.ref 40, .int p1] (am_in 43).2.2.1) [] h (some (.int a), h1) ∧ am_ev (d + 10) 189 0 (am_ent [.ref 78, .int p1] (am_in 189).2.2.1) [] h1 (some (.int a), h2) ∧ cq_Inv none h1 ∧ cq_Inv none h2 ∧ cq_Fr ct_43.2.2.2.1 h h1 ∧ cq_Fr ct_189.2.2.2.1 h1 h2 ∧ (∀ q ∈ [((41 : Nat), (1 : Nat), (78 : Nat), (2 : Nat))], tT h2 q) ∧ rQ h2 ∧ (rF h → rF h2) ∧ h2.1 ≤ h.1 + 12 ∧ h2.2.1 ≤ h.2.1 + 624 := by
  obtain ⟨L, hL, v1, v2⟩ := tT_nat I T
  obtain ⟨b, hb, hB⟩ := tb_b I
  obtain ⟨z56, pm, m1, m2, QP, QN⟩ := Q
  obtain ⟨pm', m1', -, -, PD⟩ := P
  rw [m1] at m1'
  cases m1'
  have bp := rp_bm I m1
  have lo := I.lo
  have S := fS.of I
  obtain ⟨r, h1, ev1, T1', I1, F1, A1, B1⟩ := sp_ap1 (A := 4) (B := 312) ok_43 rfl rfl (by decide +kernel) I (d := d + 10) (Nat.le_trans (by decide +kernel) (Nat.le_add_left 10 d)) p1
  obtain ⟨r', h2, ev2, T2', I2, F2, A2, B2⟩ := sp_ap1 (A := 0) (B := 0) ok_189 rfl rfl (by decide +kernel) I1 (d := d + 10) (Nat.le_trans (by decide +kernel) (Nat.le_add_left 10 d)) p1
  have lo1 := I1.lo
  have S1 := fS.of I1
  have k2 : h1.2.2.2 78 2 = iv L := by rw [lw_frF F1 lo (by decide) (by decide +kernel), v2]
  have k16 : h1.2.2.2 78 16 = .int pm := by rw [lw_frF F1 lo (by decide) (by decide +kernel), m2]
  have k80 := lw_frA F1 lo (c := 80) (by decide) (by decide +kernel)
  have kA : ∀ c, 86 ≤ c → c ≤ 92 → ∀ j, h1.2.2.2 c j = h.2.2.2 c j := fun c a1 a2 => by
    have hc : c = 86 ∨ c = 87 ∨ c = 88 ∨ c = 89 ∨ c = 90 ∨ c = 91 ∨ c = 92 := by omega
    rcases hc with rfl | rfl | rfl | rfl | rfl | rfl | rfl <;> exact lw_frA F1 lo (by decide) (by decide +kernel)
  have kA2 : ∀ c, 86 ≤ c → c ≤ 91 → ∀ j, h2.2.2.2 c j = h1.2.2.2 c j := fun c a1 a2 => by
    have hc : c = 86 ∨ c = 87 ∨ c = 88 ∨ c = 89 ∨ c = 90 ∨ c = 91 := by omega
    rcases hc with rfl | rfl | rfl | rfl | rfl | rfl <;> exact lw_frA F2 lo1 (by decide) (by decide +kernel)
  have f2c : ∀ c, c < 78 → ∀ j, h2.2.2.2 c j = h1.2.2.2 c j := fun c a j => F2.vl c (by omega) j (by
    unfold cq_inW
    rw [List.any_eq_false]
    intro w hw
    have z : (ct_189.2.2.2.1.all fun w => !w.1 && Nat.ble 78 w.2.1) = true := by decide +kernel
    have y := (Bool.and_eq_true _ _ ▸ List.all_eq_true.1 z w hw)
    have y1 : w.1 = false := by simpa using y.1
    have y2 := Nat.le_of_ble_eq_true y.2
    rw [y1, dh_bne (show w.2.1 ≠ c by omega)]
    simp)
  have f2d : ∀ c, 130 ≤ c → c < h1.1 → ∀ j, h2.2.2.2 c j = h1.2.2.2 c j := fun c a a' j => F2.vl c a' j (by
    unfold cq_inW
    rw [List.any_eq_false]
    intro w hw
    have z : (ct_189.2.2.2.1.all fun w => !w.1 && Nat.blt w.2.1 130) = true := by decide +kernel
    have y := (Bool.and_eq_true _ _ ▸ List.all_eq_true.1 z w hw)
    have y1 : w.1 = false := by simpa using y.1
    have y2 : w.2.1 < 130 := Nat.le_of_ble_eq_true y.2
    rw [y1, dh_bne (show w.2.1 ≠ c by omega)]
    simp)
  have O78' : am_isO (am_put (am_put (am_put h1 78 3 (iv ((L : Int)))) 78 2 (iv 0)) 78 5 (iv 0)) 78 13 = true := fO (fO (fO (S1.ob rfl)))
  have k16' : ((am_put (am_put (am_put h1 78 3 (iv ((L : Int)))) 78 2 (iv 0)) 78 5 (iv 0)) : am_H).2.2.2 78 16 = .int pm := ax_put_o (Or.inr (by decide)) (ax_put_o (Or.inr (by decide)) (ax_put_o (Or.inr (by decide)) k16))
  -- poems whose counts and objects are as they were
  have same : h1.2.2.2 56 0 = .int (Int32.ofInt 0) → (∀ p s, 73 = 73 → (p : Nat) < 40 → h.2.2.2 73 p = .ref s → ∀ j, j ≤ 6 → h1.2.2.2 s j = h.2.2.2 s j) → (∀ j, h2.2.2.2 92 j = h1.2.2.2 92 j) → rQ h2 := fun z1 z2 z3 => by
    have g73 : ∀ j, h2.2.2.2 73 j = h.2.2.2 73 j := fun j => (f2c 73 (by decide) j).trans (lw_frA F1 lo (by decide) (by decide +kernel) j)
    refine ⟨(f2c 56 (by decide) 0).trans z1, pm, ?_, ?_, fun p hp => ?_, fun p a1 a2 => ?_⟩
    · rw [f2c 40 (by decide) 8, lw_frF F1 lo (by decide) (by decide +kernel), m1]
    · rw [lw_frF F2 lo1 (by decide) (by decide +kernel), k16]
    · obtain ⟨s, k1, k2⟩ := QP p hp
      obtain ⟨o1, o2, o3⟩ := rp_obj I (p := p) (by omega) k1
      refine ⟨s, (g73 p).trans k1, fun j hj => ?_⟩
      rw [f2d s o1 (Nat.lt_of_lt_of_le o2 F1.nx) j, z2 p s rfl (by omega) k1 j hj, k2 j hj]
      by_cases e : j = 6
      · subst e
        exact ((z3 p).trans (kA 92 (by decide) (by decide) p)).symm
      · exact ((kA2 (86 + j) (by omega) (by omega) p).trans (kA (86 + j) (by omega) (by omega) p)).symm
    · rw [kA2 91 (by decide) (by decide), kA 91 (by decide) (by decide), z3, kA 92 (by decide) (by decide)]
      exact QN p a1 a2
  have tie : h1.2.2.2 41 1 = iv 0 → h2.2.2.2 78 2 = iv 0 → ∀ q ∈ [((41 : Nat), (1 : Nat), (78 : Nat), (2 : Nat))], tT h2 q := fun z1 z2 q hq => by
    rw [List.mem_singleton.1 hq]
    exact ⟨Int32.ofInt 0, (f2c 41 (by decide) 1).trans z1, z2⟩
  by_cases hp : 0 ≤ p1.toInt ∧ p1.toInt < pm.toInt
  · obtain ⟨P, hP⟩ : ∃ P : Nat, p1.toInt = (P : Int) := ⟨p1.toInt.toNat, by omega⟩
    have hP' : p1.toInt.toNat = P := by omega
    have hP39 : P ≤ 39 := by omega
    obtain ⟨s, s1, sf⟩ := QP P (by omega)
    have ko := rp_obj I (p := P) (by omega) s1
    have Os := ax_kO ko
    obtain ⟨o1, o2, o3⟩ := ko
    obtain ⟨x6, ex6, c0, c3⟩ : ∃ x : Int32, h.2.2.2 s 6 = .int x ∧ (0 : Int) ≤ x.toInt ∧ x.toInt ≤ 3 := ax_fd I ⟨o1, o2, o3⟩ (j := 6) (t := (1, 0, 3, 0, 0, 0)) (by decide +kernel) (by decide +kernel)
    obtain ⟨c, hc⟩ : ∃ c : Nat, x6.toInt = (c : Int) := ⟨x6.toInt.toNat, by omega⟩
    have v6 : h.2.2.2 s 6 = iv c := by rw [ex6, fx_of x6, hc]
    have g92 : h1.2.2.2 92 P = iv c := by rw [kA 92 (by decide) (by decide), ← sf 6 (by decide), v6]
    have H42 := (po_42 (d := d + 9) I m1 bp).1 hp
    rw [hP', s1] at H42
    have H188 : am_ev (d + 9) 188 0 (am_ent [.ref 78, iv P] 2) [] (am_put (am_put (am_put h1 78 3 (iv ((L : Int)))) 78 2 (iv 0)) 78 5 (iv 0)) (some (iv 1), (am_put (am_put (am_put h1 78 3 (iv ((L : Int)))) 78 2 (iv 0)) 78 5 (iv 0))) := by
      have z := (po_188 (p := p1) (d := d + 8) O78' k16' bp).1 hp
      rw [fx_of p1, hP] at z
      exact z
    by_cases hc2 : c ≤ 2
    · obtain ⟨w0, hw0, -⟩ := ax_in I1 (c := 78) (j := 7) (l := -2147483648) (u := 2147483647) (by decide +kernel) (by decide +kernel)
      have hw0 := hw0.trans (fx_of w0)
      obtain ⟨s0, e0, kk, vv, t0⟩ := tz_t_ex (b := b) (Nat.zero_le L)
      have Bm : tb h1 80 b L := fun i hi => by rw [k80 i, ← X.1 i (by omega)]; exact hB i (by omega)
      obtain ⟨K0, CK, ⟨y4, y5, yf⟩, st1⟩ := et_s (d := d + 3) (k := kk) hb hL S (fun i hi => hB i (by omega)) v1 z56 t0
      obtain ⟨G0, MG, g96, gf, st2⟩ := eq_190s (d := d + 3) S1 Bm k2 hw0 (kT_of I1) t0
      have TC0 : tC K0 G0 0 0 1 (fun _ => 0) := tC_0 CK.2.2.2.2.2.2.2.2.2.2.2.2.1 y4 y5 g96
      obtain ⟨H, M, ⟨p', s', e', l, v', w', st, x1, x2, hl, CH, MH, TC⟩ | ⟨f, s2, x1, x2, CX, MX⟩⟩ := et_all (d := d + 3) (x1 := am_ph) hb hL CK MG TC0
      · obtain ⟨SH, -, -, -, -, -, f3, f4, -, -, -, -, h56, szH, frH⟩ := CH
        obtain ⟨SM, -, -, -, -, -, -, -, -, -, f8, f9, zM, gl, ktM, frM⟩ := MH
        -- the program's call 44 by its contract
        obtain ⟨r44, h44, ev44, -, I44, F44, A44, B44⟩ := sp_apR (A := 0) (B := 0) ok_44 rfl rfl (by decide +kernel) I (d := d + 9) (Nat.le_trans (by decide +kernel) (Nat.le_add_left 9 d))
        have z44 := st1 _ x1
        have e44 := (Prod.mk.inj (ax_det ev44 z44)).2
        rw [e44] at I44 F44
        obtain ⟨E, K, ev47, kE, I47, F47, A47, B47⟩ := sp_apE ok_47 rfl rfl rfl I44 (d := d + 9) (Nat.le_trans (by decide +kernel) (Nat.le_add_left 9 d))
        have SK := fS.of I47
        have o2H : s < H.1 := by rw [szH.1]; exact o2
        have lo44 := I44.lo
        have fH : ∀ s j, 130 ≤ s → H.2.2.2 s j = h.2.2.2 s j := fun s j hs => frH s j (by omega) (by omega) (by omega) (by omega)
        have fK : ∀ s, 130 ≤ s → s < h.1 → h.2.2.1 s = (0, 6, 9) → ∀ j, K.2.2.2 s j = h.2.2.2 s j := fun s a1 a2 a3 j => (lw_frK F47 (k := 6) a1 (by rw [szH.1]; exact a2) (by rw [szH.2]; exact a3) (by decide +kernel) j).trans (fH s j a1)
        have oK : K.2.2.1 s = (0, 6, 9) := by rw [F47.sh s o2H, szH.2]; exact o3
        have kK : cq_kOk K s (0, 6, 0) := ⟨o1, Nat.lt_of_lt_of_le o2H F47.nx, oK⟩
        have OsK := ax_kO kK
        have v6K : K.2.2.2 s 6 = iv c := by rw [fK s o1 o2 o3, v6]
        obtain ⟨D, v7K, kD⟩ : ∃ D, K.2.2.2 s 7 = .ref D ∧ cq_kOk K D (1, 7, 4) := ax_fd I47 kK (j := 7) (t := (6, 0, 0, 7, 4, 0)) (by decide +kernel) (by decide +kernel)
        obtain ⟨d1, d2, d3, d4, d5⟩ := kD
        have sD : K.2.2.1 D = (1, 7, 3) := Prod.ext d3 (Prod.ext d4 (by rcases d5 with z | z; cases z; exact Nat.succ.inj z))
        have hne : s ≠ D := fun z => by
          rw [← z, oK] at sD
          cases sD
        have OE := ax_kO kE
        obtain ⟨k1, k2', k3⟩ := kE
        have wr : am_isO K E (K.2.2.1 E).2.1 = true ∧ am_isA ((K.2.2.1 E).2.1 + 4) = true ∧ am_wr K D (Int32.ofInt (c : Int)) ((K.2.2.1 E).2.1 + 4) (.ref E) = some (am_put K D c (.ref E)) := by
          rw [k3]
          refine ⟨OE, by decide +kernel, ?_⟩
          have z := fx_ti (e := (c : Int)) (by omega)
          rw [ax_wrv (h := K) (a := D) (n := 3) (tc := 7) d2 sD (by rw [z]; omega) (by rw [z]; omega), z, Int.toNat_natCast]
        have z50 := ep_50 (d := d + 9) SK OsK v6K hc2 v7K hne wr
        have SK2 : fS (am_put (am_put K D c (.ref E)) s 6 (iv ((c : Int) + 1))) := (SK.pd d1).pd o1
        have y1 := ep_43s (d := d + 3) S H42 Os v6 hc2 z44 SH ev47 OsK z50 SK2
        have g92M : M.2.2.2 92 P = iv c := (frM 92 P (Or.inl (by decide)) (Or.inl (by decide)) (Or.inl (by decide))).trans (ax_put_o (Or.inl (by decide)) (ax_put_o (Or.inl (by decide)) (ax_put_o (Or.inl (by decide)) (ax_put_o (Or.inl (by decide)) (ax_put_o (Or.inl (by decide)) (ax_put_o (Or.inl (by decide)) (ax_put_o (Or.inl (by decide)) (ax_put_o (Or.inl (by decide)) (ax_put_o (Or.inl (by decide)) (g92))))))))))
        obtain ⟨G2, q9, g92', fr92⟩ := eq_w (d := d + 9) (x2 := am_ph) (x3 := am_ph) (x4 := am_ph) hP39 hc2 SM ktM g92M gl
        have y2 := eq_189n (d := d) S1 Bm hb hL k2 hw0 hP39 g92 hc2 H188 t0 SM (st2 _ x2) q9
        rw [← hP, ← fx_of p1] at y2
        obtain ⟨z1, z2⟩ := Prod.mk.inj (ax_det ev1 y1)
        obtain ⟨z3, z4⟩ := Prod.mk.inj (ax_det ev2 y2)
        have h1K : ∀ a j, (a ≠ 41 ∨ j ≠ 1) → (a ≠ s ∨ j ≠ 6) → a ≠ D → h1.2.2.2 a j = K.2.2.2 a j := fun a j n1 n2 n3 => by
          rw [z2]
          exact ax_put_o n1 (ax_put_o n2 (ax_put_o (Or.inl n3) rfl))
        have f41 : ∀ j, K.2.2.2 41 j = H.2.2.2 41 j := fun j => lw_frA F47 lo44 (by decide) (by decide +kernel) j
        have fG : ∀ a j, (a < 92 ∨ 97 < a ∨ (a = 92 ∧ j ≠ P)) → h2.2.2.2 a j = M.2.2.2 a j := fun a j n => by
          rw [z4]
          exact fr92 a j n
        have u92 : ∀ j, j ≠ P → h2.2.2.2 92 j = h.2.2.2 92 j := fun j hj => (fG 92 j (Or.inr (Or.inr ⟨rfl, hj⟩))).trans ((frM 92 j (Or.inl (by decide)) (Or.inl (by decide)) (Or.inl (by decide))).trans ((ax_put_o (Or.inl (by decide)) (ax_put_o (Or.inl (by decide)) (ax_put_o (Or.inl (by decide)) (ax_put_o (Or.inl (by decide)) (ax_put_o (Or.inl (by decide)) (ax_put_o (Or.inl (by decide)) (ax_put_o (Or.inl (by decide)) (ax_put_o (Or.inl (by decide)) (ax_put_o (Or.inl (by decide)) (rfl)))))))))).trans (kA 92 (by decide) (by decide) j)))
        have n92 : h2.2.2.2 92 P = iv ((c : Int) + 1) := by rw [z4]; exact g92'
        have g73 : ∀ j, h2.2.2.2 73 j = h.2.2.2 73 j := fun j => (f2c 73 (by decide) j).trans (lw_frA F1 lo (by decide) (by decide +kernel) j)
        refine ⟨Int32.ofInt c, h1, h2, by rw [← z1]; exact ev1, by rw [← z3]; exact ev2, I1, I2, F1, F2, tie (by rw [z2]; exact ax_put_s _ _ _) ((fG 78 2 (Or.inl (by decide))).trans zM), ⟨?_, pm, ?_, ?_, fun p hp => ?_, fun p a1 a2 => ?_⟩, fun _ => ⟨?_, ?_⟩, by omega, by omega⟩
        · rw [f2c 56 (by decide) 0, h1K 56 0 (by omega) (by omega) (by omega), lw_frA F47 lo44 (by decide) (by decide +kernel) 0]
          exact h56
        · rw [f2c 40 (by decide) 8, lw_frF F1 lo (by decide) (by decide +kernel), m1]
        · rw [lw_frF F2 lo1 (by decide) (by decide +kernel), k16]
        · by_cases ep : p = P
          · subst ep
            refine ⟨s, (g73 p).trans s1, fun j hj => ?_⟩
            rw [f2d s o1 (Nat.lt_of_lt_of_le o2 F1.nx) j]
            by_cases e : j = 6
            · subst e
              rw [n92, z2]
              exact ax_put_o (Or.inl (by omega)) (ax_put_s _ _ _)
            · rw [h1K s j (by omega) (Or.inr e) hne, fK s o1 o2 o3, sf j hj]
              exact ((kA2 (86 + j) (by omega) (by omega) p).trans (kA (86 + j) (by omega) (by omega) p)).symm
          · obtain ⟨s', l1, l2⟩ := QP p hp
            obtain ⟨b1, b2', b3⟩ := rp_obj I (p := p) (by omega) l1
            have ne : s' ≠ s := fun z => by
              have l0 := l1
              rw [z, ← s1] at l0
              rcases Nat.lt_or_gt_of_ne ep with y | y
              · exact PD p P y (by omega) l0
              · exact PD P p y hp l0.symm
            have nD : s' ≠ D := fun z => by
              have w := F47.sh s' (by rw [szH.1]; exact b2')
              rw [z, sD, szH.2, ← z, b3] at w
              cases w
            refine ⟨s', (g73 p).trans l1, fun j hj => ?_⟩
            rw [f2d s' b1 (Nat.lt_of_lt_of_le b2' F1.nx) j, h1K s' j (by omega) (Or.inl ne) nD, fK s' b1 b2' b3, l2 j hj]
            by_cases e : j = 6
            · subst e
              exact (u92 p ep).symm
            · exact ((kA2 (86 + j) (by omega) (by omega) p).trans (kA (86 + j) (by omega) (by omega) p)).symm
        · rw [kA2 91 (by decide) (by decide), kA 91 (by decide) (by decide), u92 p (by omega)]
          exact QN p a1 a2
        · rw [f2c 41 (by decide) 3, h1K 41 3 (by omega) (by omega) (by omega), f41, f3, fG 78 8 (Or.inl (by decide)), f8]
        · rw [f2c 41 (by decide) 4, h1K 41 4 (by omega) (by omega) (by omega), f41, f4, fG 78 9 (Or.inl (by decide)), f9]
      · obtain ⟨SH, f3, f4, h56, szH, frH⟩ := CX
        obtain ⟨SM, f8, f9, zM, frM⟩ := MX
        have y1 := ep_43f (d := d + 3) S H42 Os v6 hc2 (st1 _ x1) SH
        have y2 := eq_189t (d := d) S1 Bm hb hL k2 hw0 hP39 g92 hc2 H188 t0 SM (st2 _ x2)
        rw [← hP, ← fx_of p1] at y2
        obtain ⟨z1, z2⟩ := Prod.mk.inj (ax_det ev1 y1)
        obtain ⟨z3, z4⟩ := Prod.mk.inj (ax_det ev2 y2)
        refine ⟨Int32.ofInt (-1), h1, h2, by rw [← z1]; exact ev1, by rw [← z3]; exact ev2, I1, I2, F1, F2, tie (by rw [z2]; exact ax_put_s _ _ _) (by rw [z4]; exact zM), same ?_ (fun p s _ hp k j hj => ?_) (fun j => ?_), fun _ => ⟨?_, ?_⟩, by omega, by omega⟩
        · rw [z2]
          exact ax_put_o (Or.inl (by decide)) h56
        · obtain ⟨b1, -, -⟩ := rp_obj I (p := p) hp k
          rw [z2]
          exact ax_put_o (Or.inl (by omega)) (frH s j (by omega) (by omega) (by omega) (by omega))
        · rw [z4]
          exact (frM 92 j (Or.inl (by decide)) (Or.inl (by decide)) (Or.inl (by decide))).trans (ax_put_o (Or.inl (by decide)) (ax_put_o (Or.inl (by decide)) (ax_put_o (Or.inl (by decide)) (ax_put_o (Or.inl (by decide)) (ax_put_o (Or.inl (by decide)) (ax_put_o (Or.inl (by decide)) (ax_put_o (Or.inl (by decide)) (ax_put_o (Or.inl (by decide)) (ax_put_o (Or.inl (by decide)) (rfl))))))))))
        · rw [f2c 41 (by decide) 3, z4, f8, z2]
          exact ax_put_o (Or.inr (by decide)) f3
        · rw [f2c 41 (by decide) 4, z4, f9, z2]
          exact ax_put_o (Or.inr (by decide)) f4
    · have y1 := ep_43t (d := d + 3) S H42 Os v6 (by omega)
      have y2 := eq_189f (d := d + 7) S1 k2 hP39 g92 (by omega) H188
      rw [← hP, ← fx_of p1] at y2
      obtain ⟨z1, z2⟩ := Prod.mk.inj (ax_det ev1 y1)
      obtain ⟨z3, z4⟩ := Prod.mk.inj (ax_det ev2 y2)
      have u : ∀ c j, (c ≠ 41 ∨ j ≠ 1) → (c ≠ 78 ∨ (j ≠ 2 ∧ j ≠ 3 ∧ j ≠ 5)) → h2.2.2.2 c j = h.2.2.2 c j := fun c j n1 n2 => by
        rw [z4, z2]
        exact ax_put_o (by omega) (ax_put_o (by omega) (ax_put_o (by omega) (ax_put_o (by omega) rfl)))
      refine ⟨Int32.ofInt (-3), h1, h2, by rw [← z1]; exact ev1, by rw [← z3]; exact ev2, I1, I2, F1, F2, tie (by rw [z2]; exact ax_put_s _ _ _) (by rw [z4]; exact ax_put_o (Or.inr (by decide)) (ax_put_s _ _ _)), same ?_ (fun p s _ hp k j hj => ?_) (fun j => ?_), fun XF => ⟨(u 41 3 (by omega) (by omega)).trans (XF.1.trans (u 78 8 (by omega) (by omega)).symm), (u 41 4 (by omega) (by omega)).trans (XF.2.trans (u 78 9 (by omega) (by omega)).symm)⟩, by omega, by omega⟩
      · rw [z2]
        exact ax_put_o (Or.inl (by decide)) z56
      · obtain ⟨b1, -, -⟩ := rp_obj I (p := p) hp k
        rw [z2]
        exact ax_put_o (Or.inl (by omega)) rfl
      · rw [z4]
        exact ax_put_o (Or.inl (by decide)) (ax_put_o (Or.inl (by decide)) (ax_put_o (Or.inl (by decide)) rfl))
  · have H42 := (po_42 (d := d + 9) I m1 bp).2 hp
    have H188 : am_ev (d + 9) 188 0 (am_ent [.ref 78, .int p1] 2) [] (am_put (am_put (am_put h1 78 3 (iv ((L : Int)))) 78 2 (iv 0)) 78 5 (iv 0)) (some (iv 0), (am_put (am_put (am_put h1 78 3 (iv ((L : Int)))) 78 2 (iv 0)) 78 5 (iv 0))) := (po_188 (d := d + 8) O78' k16' bp).2 hp
    have y1 := ep_43n (d := d + 3) S H42
    have y2 := eq_189r (d := d + 7) (pp := p1) S1 k2 H188
    obtain ⟨z1, z2⟩ := Prod.mk.inj (ax_det ev1 y1)
    obtain ⟨z3, z4⟩ := Prod.mk.inj (ax_det ev2 y2)
    have u : ∀ c j, (c ≠ 41 ∨ j ≠ 1) → (c ≠ 78 ∨ (j ≠ 2 ∧ j ≠ 3 ∧ j ≠ 5)) → h2.2.2.2 c j = h.2.2.2 c j := fun c j n1 n2 => by
      rw [z4, z2]
      exact ax_put_o (by omega) (ax_put_o (by omega) (ax_put_o (by omega) (ax_put_o (by omega) rfl)))
    refine ⟨Int32.ofInt (-2), h1, h2, by rw [← z1]; exact ev1, by rw [← z3]; exact ev2, I1, I2, F1, F2, tie (by rw [z2]; exact ax_put_s _ _ _) (by rw [z4]; exact ax_put_o (Or.inr (by decide)) (ax_put_s _ _ _)), same ?_ (fun p s _ hp k j hj => ?_) (fun j => ?_), fun XF => ⟨(u 41 3 (by omega) (by omega)).trans (XF.1.trans (u 78 8 (by omega) (by omega)).symm), (u 41 4 (by omega) (by omega)).trans (XF.2.trans (u 78 9 (by omega) (by omega)).symm)⟩, by omega, by omega⟩
    · rw [z2]
      exact ax_put_o (Or.inl (by decide)) z56
    · obtain ⟨b1, -, -⟩ := rp_obj I (p := p) hp k
      rw [z2]
      exact ax_put_o (Or.inl (by omega)) rfl
    · rw [z4]
      exact ax_put_o (Or.inl (by decide)) (ax_put_o (Or.inl (by decide)) (ax_put_o (Or.inl (by decide)) rfl))
end OED
end
section
/-! FAULT, both sides -/
section FLT
variable {h : am_H} {d : Nat} {x : Int} {a b p : Int32}
theorem fl_340 (S : fS h) (v3 : h.2.2.2 41 3 = .int a) (v4 : h.2.2.2 41 4 = .int b) (r : -2147483648 ≤ x ∧ x ≤ 2147483647) (q : x = 0) : am_ev d 34 0 (am_ent [.ref 40, iv x] 2) [] h (some (.int a), h) := by
  show am_ev d 34 0 [.ref 40, iv x] [] h _
  refine am_ev.step (pc' := 1) rfl rfl ?_
  refine fx_z_ne (pT := 12) (pF := 4) rfl (by omega) rfl rfl (fun c1 => ?_) (fun c1 => ?_)
  · refine am_ev.step (pc' := 13) rfl rfl ?_
    refine am_ev.step (pc' := 14) rfl rfl ?_
    refine fx_c_ne (pT := 27) (pF := 17) rfl (by omega) (by omega) rfl rfl (fun c2 => ?_) (fun c2 => ?_)
    · refine am_ev.step (pc' := 28) rfl rfl ?_
      exfalso
      omega
    · refine am_ev.step (pc' := 18) rfl rfl ?_
      refine ax_gf (p' := 21) rfl rfl (S.ob rfl) (S.rf rfl rfl) ?_
      refine ax_gf (p' := 24) rfl rfl (S.ob rfl) v4 ?_
      refine am_ev.step (pc' := 28) rfl rfl ?_
      exfalso
      omega
  · refine am_ev.step (pc' := 5) rfl rfl ?_
    refine ax_gf (p' := 8) rfl rfl (S.ob rfl) (S.rf rfl rfl) ?_
    refine ax_gf (p' := 11) rfl rfl (S.ob rfl) v3 ?_
    exact fx_reti rfl rfl rfl
theorem fl_341 (S : fS h) (v3 : h.2.2.2 41 3 = .int a) (v4 : h.2.2.2 41 4 = .int b) (r : -2147483648 ≤ x ∧ x ≤ 2147483647) (q : x = 1) : am_ev d 34 0 (am_ent [.ref 40, iv x] 2) [] h (some (.int b), h) := by
  show am_ev d 34 0 [.ref 40, iv x] [] h _
  refine am_ev.step (pc' := 1) rfl rfl ?_
  refine fx_z_ne (pT := 12) (pF := 4) rfl (by omega) rfl rfl (fun c1 => ?_) (fun c1 => ?_)
  · refine am_ev.step (pc' := 13) rfl rfl ?_
    refine am_ev.step (pc' := 14) rfl rfl ?_
    refine fx_c_ne (pT := 27) (pF := 17) rfl (by omega) (by omega) rfl rfl (fun c2 => ?_) (fun c2 => ?_)
    · refine am_ev.step (pc' := 28) rfl rfl ?_
      exfalso
      omega
    · refine am_ev.step (pc' := 18) rfl rfl ?_
      refine ax_gf (p' := 21) rfl rfl (S.ob rfl) (S.rf rfl rfl) ?_
      refine ax_gf (p' := 24) rfl rfl (S.ob rfl) v4 ?_
      refine am_ev.step (pc' := 28) rfl rfl ?_
      exact fx_reti rfl rfl rfl
  · refine am_ev.step (pc' := 5) rfl rfl ?_
    refine ax_gf (p' := 8) rfl rfl (S.ob rfl) (S.rf rfl rfl) ?_
    refine ax_gf (p' := 11) rfl rfl (S.ob rfl) v3 ?_
    exfalso
    omega
theorem fl_34n (S : fS h) (v3 : h.2.2.2 41 3 = .int a) (v4 : h.2.2.2 41 4 = .int b) (r : -2147483648 ≤ x ∧ x ≤ 2147483647) (q : x ≠ 0 ∧ x ≠ 1) : am_ev d 34 0 (am_ent [.ref 40, iv x] 2) [] h (some (iv (-1)), h) := by
  show am_ev d 34 0 [.ref 40, iv x] [] h _
  refine am_ev.step (pc' := 1) rfl rfl ?_
  refine fx_z_ne (pT := 12) (pF := 4) rfl (by omega) rfl rfl (fun c1 => ?_) (fun c1 => ?_)
  · refine am_ev.step (pc' := 13) rfl rfl ?_
    refine am_ev.step (pc' := 14) rfl rfl ?_
    refine fx_c_ne (pT := 27) (pF := 17) rfl (by omega) (by omega) rfl rfl (fun c2 => ?_) (fun c2 => ?_)
    · refine am_ev.step (pc' := 28) rfl rfl ?_
      exact fx_reti rfl rfl rfl
    · refine am_ev.step (pc' := 18) rfl rfl ?_
      refine ax_gf (p' := 21) rfl rfl (S.ob rfl) (S.rf rfl rfl) ?_
      refine ax_gf (p' := 24) rfl rfl (S.ob rfl) v4 ?_
      refine am_ev.step (pc' := 28) rfl rfl ?_
      exfalso
      omega
  · refine am_ev.step (pc' := 5) rfl rfl ?_
    refine ax_gf (p' := 8) rfl rfl (S.ob rfl) (S.rf rfl rfl) ?_
    refine ax_gf (p' := 11) rfl rfl (S.ob rfl) v3 ?_
    exfalso
    omega
theorem fl_1830 (S : fS h) (v3 : h.2.2.2 78 8 = .int a) (v4 : h.2.2.2 78 9 = .int b) (r : -2147483648 ≤ x ∧ x ≤ 2147483647) (q : x = 0) : am_ev d 183 0 (am_ent [.ref 78, iv x] 2) [] h (some (.int a), h) := by
  show am_ev d 183 0 [.ref 78, iv x] [] h _
  refine am_ev.step (pc' := 1) rfl rfl ?_
  refine fx_z_ne (pT := 11) (pF := 4) rfl (by omega) rfl rfl (fun c1 => ?_) (fun c1 => ?_)
  · refine am_ev.step (pc' := 12) rfl rfl ?_
    refine am_ev.step (pc' := 13) rfl rfl ?_
    refine fx_c_ne (pT := 23) (pF := 16) rfl (by omega) (by omega) rfl rfl (fun c2 => ?_) (fun c2 => ?_)
    · refine am_ev.step (pc' := 24) rfl rfl ?_
      exfalso
      omega
    · refine am_ev.step (pc' := 17) rfl rfl ?_
      refine ax_gf (p' := 20) rfl rfl (S.ob rfl) v4 ?_
      refine am_ev.step (pc' := 24) rfl rfl ?_
      exfalso
      omega
  · refine am_ev.step (pc' := 5) rfl rfl ?_
    refine ax_gf (p' := 8) rfl rfl (S.ob rfl) v3 ?_
    refine am_ev.step (pc' := 24) rfl rfl ?_
    exact fx_reti rfl rfl rfl
theorem fl_1831 (S : fS h) (v3 : h.2.2.2 78 8 = .int a) (v4 : h.2.2.2 78 9 = .int b) (r : -2147483648 ≤ x ∧ x ≤ 2147483647) (q : x = 1) : am_ev d 183 0 (am_ent [.ref 78, iv x] 2) [] h (some (.int b), h) := by
  show am_ev d 183 0 [.ref 78, iv x] [] h _
  refine am_ev.step (pc' := 1) rfl rfl ?_
  refine fx_z_ne (pT := 11) (pF := 4) rfl (by omega) rfl rfl (fun c1 => ?_) (fun c1 => ?_)
  · refine am_ev.step (pc' := 12) rfl rfl ?_
    refine am_ev.step (pc' := 13) rfl rfl ?_
    refine fx_c_ne (pT := 23) (pF := 16) rfl (by omega) (by omega) rfl rfl (fun c2 => ?_) (fun c2 => ?_)
    · refine am_ev.step (pc' := 24) rfl rfl ?_
      exfalso
      omega
    · refine am_ev.step (pc' := 17) rfl rfl ?_
      refine ax_gf (p' := 20) rfl rfl (S.ob rfl) v4 ?_
      refine am_ev.step (pc' := 24) rfl rfl ?_
      exact fx_reti rfl rfl rfl
  · refine am_ev.step (pc' := 5) rfl rfl ?_
    refine ax_gf (p' := 8) rfl rfl (S.ob rfl) v3 ?_
    refine am_ev.step (pc' := 24) rfl rfl ?_
    exfalso
    omega
theorem fl_183n (S : fS h) (v3 : h.2.2.2 78 8 = .int a) (v4 : h.2.2.2 78 9 = .int b) (r : -2147483648 ≤ x ∧ x ≤ 2147483647) (q : x ≠ 0 ∧ x ≠ 1) : am_ev d 183 0 (am_ent [.ref 78, iv x] 2) [] h (some (iv (-1)), h) := by
  show am_ev d 183 0 [.ref 78, iv x] [] h _
  refine am_ev.step (pc' := 1) rfl rfl ?_
  refine fx_z_ne (pT := 11) (pF := 4) rfl (by omega) rfl rfl (fun c1 => ?_) (fun c1 => ?_)
  · refine am_ev.step (pc' := 12) rfl rfl ?_
    refine am_ev.step (pc' := 13) rfl rfl ?_
    refine fx_c_ne (pT := 23) (pF := 16) rfl (by omega) (by omega) rfl rfl (fun c2 => ?_) (fun c2 => ?_)
    · refine am_ev.step (pc' := 24) rfl rfl ?_
      exact fx_reti rfl rfl rfl
    · refine am_ev.step (pc' := 17) rfl rfl ?_
      refine ax_gf (p' := 20) rfl rfl (S.ob rfl) v4 ?_
      refine am_ev.step (pc' := 24) rfl rfl ?_
      exfalso
      omega
  · refine am_ev.step (pc' := 5) rfl rfl ?_
    refine ax_gf (p' := 8) rfl rfl (S.ob rfl) v3 ?_
    refine am_ev.step (pc' := 24) rfl rfl ?_
    exfalso
    omega
theorem op_flt (I : cq_Inv none h) (X : rF h) (p : Int32) : ∃ (x : Int32) (h1 h2 : am_H), am_ev (d + 10) 34 0 (am_ent [.ref 40, .int p] (am_in 34).2.2.1) [] h (some (.int x), h1) ∧ am_ev (d + 10) 183 0 (am_ent [.ref 78, .int p] (am_in 183).2.2.1) [] h1 (some (.int x), h2) ∧ cq_Inv none h1 ∧ cq_Inv none h2 ∧ cq_Fr ct_34.2.2.2.1 h h1 ∧ cq_Fr ct_183.2.2.2.1 h1 h2 ∧ (∀ q ∈ ([] : List (Nat × Nat × Nat × Nat)), tT h2 q) ∧ h2.1 ≤ h.1 + 12 ∧ h2.2.1 ≤ h.2.1 + 624 := by
  have S := fS.of I
  obtain ⟨a, ea, -⟩ := ax_in I (c := 41) (j := 3) (l := -2147483648) (u := 2147483647) (by decide +kernel) (by decide +kernel)
  obtain ⟨b, eb, -⟩ := ax_in I (c := 41) (j := 4) (l := -2147483648) (u := 2147483647) (by decide +kernel) (by decide +kernel)
  have ea' := X.1.symm.trans ea
  have eb' := X.2.symm.trans eb
  have r := And.intro p.le_toInt (show p.toInt ≤ 2147483647 by have := p.toInt_lt; omega)
  have fin : ∀ x : Int32, am_ev (d + 10) 34 0 (am_ent [.ref 40, iv p.toInt] 2) [] h (some (.int x), h) → am_ev (d + 10) 183 0 (am_ent [.ref 78, iv p.toInt] 2) [] h (some (.int x), h) → ∃ (x : Int32) (h1 h2 : am_H), am_ev (d + 10) 34 0 (am_ent [.ref 40, .int p] (am_in 34).2.2.1) [] h (some (.int x), h1) ∧ am_ev (d + 10) 183 0 (am_ent [.ref 78, .int p] (am_in 183).2.2.1) [] h1 (some (.int x), h2) ∧ cq_Inv none h1 ∧ cq_Inv none h2 ∧ cq_Fr ct_34.2.2.2.1 h h1 ∧ cq_Fr ct_183.2.2.2.1 h1 h2 ∧ (∀ q ∈ ([] : List (Nat × Nat × Nat × Nat)), tT h2 q) ∧ h2.1 ≤ h.1 + 12 ∧ h2.2.1 ≤ h.2.1 + 624 := fun x e1 e2 => by
    rw [fx_of p]
    exact ⟨x, h, h, e1, e2, I, I, ct_nil, ct_nil, (fun q hq => by cases hq), by omega, by omega⟩
  by_cases q0 : p.toInt = 0
  · exact fin a (fl_340 (d := d + 10) S ea eb r q0) (fl_1830 (d := d + 10) S ea' eb' r q0)
  · by_cases q1 : p.toInt = 1
    · exact fin b (fl_341 (d := d + 10) S ea eb r q1) (fl_1831 (d := d + 10) S ea' eb' r q1)
    · exact fin (Int32.ofInt (-1)) (fl_34n (d := d + 10) S ea eb r ⟨q0, q1⟩) (fl_183n (d := d + 10) S ea' eb' r ⟨q0, q1⟩)
end FLT
end
