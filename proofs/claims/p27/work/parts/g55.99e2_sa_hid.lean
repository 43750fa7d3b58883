section
/-! WHAT IS HIDDEN, over calls by their contracts -/
def hx_nt (t : cq_T) : Bool := Nat.beq t.1 1 || Nat.beq t.1 2 || Nat.beq t.1 8 || Nat.beq t.1 9 || Nat.beq t.1 10
theorem hx_nt_ok {h : am_H} {j : Nat} {t : cq_T} {v : Value} (q : hx_nt t = true) (k : cq_ht h j t v) : ∀ a, v ≠ .ref a := by
  obtain ⟨t1, l, u, k1, k2, k3⟩ := t
  unfold hx_nt at q
  simp only [Bool.or_eq_true] at q
  intro a z
  subst z
  rcases q with (((q | q) | q) | q) | q
  · have q := Nat.eq_of_beq_eq_true q
    subst q
    obtain ⟨x, y, -⟩ := k
    cases y
  · have q := Nat.eq_of_beq_eq_true q
    subst q
    obtain ⟨x, y⟩ := k
    cases y
  · have q := Nat.eq_of_beq_eq_true q
    subst q
    obtain ⟨x, y, -⟩ := k
    cases y
  · have q := Nat.eq_of_beq_eq_true q
    subst q
    obtain ⟨x, y, -⟩ := k
    cases y
  · have q := Nat.eq_of_beq_eq_true q
    subst q
    obtain ⟨x, y, -⟩ := k
    cases y
theorem hx_af {α : Type} {p : α → Bool} : ∀ {l : List α}, l.all p = false → ∃ x ∈ l, p x = false
  | [], q => by cases q
  | a :: r, q => by
    cases e : p a with
    | false => exact ⟨a, List.mem_cons_self .., e⟩
    | true =>
      have q : (p a && r.all p) = false := q
      rw [e] at q
      obtain ⟨x, x1, x2⟩ := hx_af (l := r) q
      exact ⟨x, List.mem_cons_of_mem _ x1, x2⟩
/-- what is written of a fixed cell is numbers -/
def hx_wc (m : cq_W) (c : Nat) : Bool := bif cq_isA c then hx_nt (cq_ar c) || lw_nA m c else m.all fun w => w.1 || !Nat.beq w.2.1 c || (!Nat.beq w.2.2.1 0 && Nat.blt (w.2.2.1 - 1) (cq_fix c).2.2 && hx_nt (cq_ob c (w.2.2.1 - 1)))
section HTF
variable {h h' : am_H} {m : cq_W} {c j : Nat}
theorem hx_tyF (I' : cq_Inv none h') (c1 : 40 ≤ c) (c2 : c < 130) (hj : j < (cq_fix c).2.2) : cq_ht h' j (cq_ty c j) (h'.2.2.2 c j) := by
  have lo := I'.lo
  have k := I'.ty c c1 (by omega) (fun z => by cases z) j (by rw [I'.fx c c1 c2]; exact hj)
  unfold cq_tyOf at k
  rw [show Nat.blt c 130 = true from Nat.ble_eq_true_of_le c2] at k
  exact k
theorem hx_tf (I : cq_Inv none h) (I' : cq_Inv none h') (F : cq_Fr m h h') (c1 : 40 ≤ c) (c2 : c < 130) (q : hx_wc m c = true) (hj : j < (cq_fix c).2.2) : h'.2.2.2 c j = h.2.2.2 c j ∨ ∀ a, h'.2.2.2 c j ≠ .ref a := by
  unfold hx_wc at q
  have lo := I.lo
  cases e : cq_isA c with
  | true =>
    rw [e] at q
    have q : (hx_nt (cq_ar c) || lw_nA m c) = true := q
    rcases Bool.or_eq_true _ _ ▸ q with q | q
    · right
      have k := hx_tyF I' c1 c2 hj
      unfold cq_ty at k
      rw [e] at k
      cases z : (Nat.beq c 81 || Nat.beq c 83) && Nat.beq j 1 with
      | true =>
        rw [z] at k
        exact hx_nt_ok (t := (1, (bif Nat.beq c 83 then 0 else 2), 32, 0, 0, 0)) rfl k
      | false =>
        rw [z] at k
        exact hx_nt_ok q k
    · exact Or.inl (lw_frA F lo c2 q j)
  | false =>
    rw [e] at q
    have q : (m.all fun w => w.1 || !Nat.beq w.2.1 c || (!Nat.beq w.2.2.1 0 && Nat.blt (w.2.2.1 - 1) (cq_fix c).2.2 && hx_nt (cq_ob c (w.2.2.1 - 1)))) = true := q
    cases w : lw_nF m c j with
    | true => exact Or.inl (lw_frF F lo c2 w)
    | false =>
      right
      obtain ⟨x, x1, x2⟩ := hx_af w
      have y := List.all_eq_true.1 q x x1
      simp only [Bool.or_eq_false_iff, Bool.not_eq_false', Bool.and_eq_true, Bool.or_eq_true] at x2
      obtain ⟨z1, z2, z3⟩ := x2
      have z2' := Nat.eq_of_beq_eq_true z2
      rw [z1, z2] at y
      simp only [Bool.false_or, Bool.not_true, Bool.and_eq_true, Bool.not_eq_true'] at y
      have n0 : x.2.2.1 = j + 1 := by
        rcases z3 with z3 | z3
        · rw [z3] at y
          exact absurd y.1.1 (by decide)
        · exact Nat.eq_of_beq_eq_true z3
      rw [n0] at y
      have k := hx_tyF I' c1 c2 (Nat.le_of_ble_eq_true y.1.2)
      unfold cq_ty at k
      rw [e] at k
      exact hx_nt_ok y.2 k
/-- a frame of fixed cells, numbers alone -/
def hx_fm (m : cq_W) : Bool := m.all fun w => !w.1 && Nat.ble 40 w.2.1 && Nat.blt w.2.1 130 && hx_wc m w.2.1
theorem hx_fm_o (q : hx_fm m = true) (F : cq_Fr m h h') (hc : c < h.1) (o : c < 40 ∨ 130 ≤ c) (j : Nat) : h'.2.2.2 c j = h.2.2.2 c j := by
  refine F.vl c hc j ?_
  unfold cq_inW
  rw [List.any_eq_false]
  intro w hw
  have z := List.all_eq_true.1 q w hw
  simp only [Bool.and_eq_true, Bool.not_eq_true'] at z
  have a1 := Nat.le_of_ble_eq_true z.1.1.2
  have a2 : w.2.1 < 130 := Nat.le_of_ble_eq_true z.1.2
  rw [z.1.1.1, dh_bne (show w.2.1 ≠ c by omega)]
  simp
theorem hx_fm_v (I : cq_Inv none h) (I' : cq_Inv none h') (q : hx_fm m = true) (F : cq_Fr m h h') (hc : c < h.1) (hj : 40 ≤ c → j < (h.2.2.1 c).2.2) : h'.2.2.2 c j = h.2.2.2 c j ∨ ∀ a, h'.2.2.2 c j ≠ .ref a := by
  cases e : cq_inW m c (h.2.2.1 c) j with
  | false => exact Or.inl (F.vl c hc j e)
  | true =>
    unfold cq_inW at e
    obtain ⟨w, hw, e⟩ := List.any_eq_true.1 e
    have z := List.all_eq_true.1 q w hw
    simp only [Bool.and_eq_true, Bool.not_eq_true'] at z
    have a1 := Nat.le_of_ble_eq_true z.1.1.2
    have a2 : w.2.1 < 130 := Nat.le_of_ble_eq_true z.1.2
    rw [z.1.1.1] at e
    have e : (Nat.beq w.2.1 c && (Nat.beq w.2.2.1 0 || Nat.beq w.2.2.1 (j + 1))) = true := e
    have e1 := Nat.eq_of_beq_eq_true (Bool.and_eq_true _ _ ▸ e).1
    rw [e1] at a1 a2 z
    have hj := hj a1
    rw [I.fx c a1 a2] at hj
    exact hx_tf I I' F a1 a2 z.2 hj
theorem hx_frG (W : hx_W h) (S' : fS h') (n : h'.1 = h.1) (so : ∀ c, c < h.1 → h'.2.2.1 c = h.2.2.1 c) (v : ∀ c j, c < h.1 → (40 ≤ c → j < (h.2.2.1 c).2.2) → h'.2.2.2 c j = h.2.2.2 c j ∨ ∀ a, h'.2.2.2 c j ≠ .ref a) (w : ∀ c j, 130 ≤ c → c < h.1 → h'.2.2.2 c j = h.2.2.2 c j) (r : ∃ P T : Int, h'.2.2.2 44 0 = iv P ∧ h'.2.2.2 44 2 = iv T ∧ (6 ≤ P ∧ P ≤ 60) ∧ (0 ≤ T ∧ T ≤ 4)) : hx_W h' ∧ hy_Q h h' := by
  have ed : ∀ E, E < h.1 → (hx_ed h' E ↔ hx_ed h E) := fun E hE => by
    unfold hx_ed
    rw [so E hE]
  have hq : hy_Q h h' := ⟨S', Nat.le_of_eq n.symm, so, fun E e1 e2 e3 j => by
    obtain ⟨l, t, u, e⟩ := W.2.1 E e1 e2 e3
    have x := e.1
    exact ⟨w E j e1 e2, w _ j (by omega) (by omega), w _ j (by omega) (by omega), w _ j (by omega) (by omega)⟩⟩
  have tr : ∀ a, hx_U h' a → hx_U h a := fun a u => by
    rcases u with u | u | ⟨E, u1, u2, u3, u4⟩
    · exact Or.inl u
    · exact Or.inr (Or.inl u)
    · rw [n] at u2
      exact Or.inr (Or.inr ⟨E, u1, u2, (ed E (by omega)).1 u3, u4⟩)
  refine ⟨⟨⟨fun a u => ?_, fun c hc => ?_, fun c j a hc hj e u => ?_, fun c hl hc => ?_⟩, fun E e1 e2 e3 => ?_, r⟩, hq⟩
  · have z := W.1.1 a (tr a u)
    rw [so a z.2.1, n]
    exact z
  · rw [n] at hc
    rw [so c hc]
    intro y1 y2
    have v := W.1.2.1 c hc y1 y2
    refine ⟨v.1, fun k3 => ?_, v.2.2⟩
    rcases v.2.1 k3 with w | w
    · exact Or.inl w
    · exact Or.inr ⟨w.1, by rw [n]; exact hc⟩
  · rw [n] at hc
    rw [so c hc] at hj ⊢
    rcases v c j hc hj with y | y
    · exact W.1.2.2.1 c j a hc hj (y ▸ e) (tr a u)
    · exact absurd e (y a)
  · rw [n] at hc
    rw [so c hc]
    exact W.1.2.2.2 c hl hc
  · rw [n] at e2
    have e3 := (ed E e2).1 e3
    obtain ⟨l, t, u, e⟩ := W.2.1 E e1 e2 e3
    exact ⟨l, t, u, hy_E W hq e1 e2 e3 e⟩
theorem hx_frT (W : hx_W h) (I : cq_Inv none h) (I' : cq_Inv none h') (F : cq_Fr m h h') (n : h'.1 = h.1) (q : hx_fm m = true) (r : ∃ P T : Int, h'.2.2.2 44 0 = iv P ∧ h'.2.2.2 44 2 = iv T ∧ (6 ≤ P ∧ P ≤ 60) ∧ (0 ≤ T ∧ T ≤ 4)) : hx_W h' ∧ hy_Q h h' := hx_frG W (fS.of I') n F.sh (fun c j hc hj => hx_fm_v I I' q F hc hj) (fun c j a b => hx_fm_o q F b (Or.inr a) j) r
theorem rb_r (B : rbV h) : ∃ P T : Int, h.2.2.2 44 0 = iv P ∧ h.2.2.2 44 2 = iv T ∧ (6 ≤ P ∧ P ≤ 60) ∧ (0 ≤ T ∧ T ≤ 4) := by
  obtain ⟨V, Y, ⟨b1, -⟩, v, -⟩ := B
  have x := b1 0 (by decide)
  have y := b1 2 (by decide)
  have e1 : cq_sv 2 0 = 6 := by decide +kernel
  have e2 : cq_sv 3 0 = 60 := by decide +kernel
  have e3 : cq_sv 2 2 = 0 := by decide +kernel
  have e4 : cq_sv 3 2 = 4 := by decide +kernel
  rw [e1, e2] at x
  rw [e3, e4] at y
  exact ⟨V 0, V 2, v 0 (by decide), v 2 (by decide), x, y⟩
end HTF
end
section
/-! EDITIONS, their content on both sides -/
def rX1 (h : am_H) (z E l : Nat) (t u : Int32) (st : Nat → Nat) : Prop := (130 ≤ E ∧ E < h.1 ∧ hx_ed h E) ∧ hx_E h E l t u ∧ (st 0 = 0 ∧ ∀ i, i < l → st i < st (i + 1) ∧ st (i + 1) ≤ st i + 8) ∧ (h.2.2.1 (E + 1) = (1, 3, st l) ∧ h.2.2.1 (E + 2) = (1, 0, l + 1)) ∧ (∀ i, i ≤ l → h.2.2.2 (E + 2) i = iv (st i)) ∧ h.2.2.2 93 z = iv l ∧ (∀ i, i < l → h.2.2.2 94 (30 * z + i) = iv ((st (i + 1) : Int) - (st i : Int))) ∧ (∀ i k, i < l → st i + k < st (i + 1) → wT (h.2.2.2 (E + 1) (st i + k)) (h.2.2.2 95 (8 * (30 * z + i) + k))) ∧ (∀ i, i < l → h.2.2.2 97 (30 * z + i) = iv (b2 (bt t i))) ∧ (∀ i, i < l → h.2.2.2 96 (30 * z + i) = iv (b2 (bt u i))) ∧ (∀ i, i < 32 → l ≤ i → bt u i = false) ∧ bt u 0 = true
def rX (h : am_H) : Prop := ∀ (m : Int32) (p s q : Nat), h.2.2.2 40 8 = .int m → (p : Int) < m.toInt → h.2.2.2 73 p = .ref s → h.2.2.2 s 7 = .ref q → ∀ e c : Nat, h.2.2.2 s 6 = iv c → c ≤ 3 → e < c → ∃ (E l : Nat) (t u : Int32) (st : Nat → Nat), h.2.2.2 q e = .ref E ∧ rX1 h (3 * p + e) E l t u st
/-- editions' texts stay -/
def eS (h h' : am_H) : Prop := h.1 ≤ h'.1 ∧ (∀ c, c < h.1 → h'.2.2.1 c = h.2.2.1 c) ∧ ∀ E, 130 ≤ E → E < h.1 → hx_ed h E → (∀ j, h'.2.2.2 (E + 1) j = h.2.2.2 (E + 1) j) ∧ (∀ j, h'.2.2.2 (E + 2) j = h.2.2.2 (E + 2) j) ∧ ∀ l t u, hx_E h E l t u → hx_E h' E l t u
section EST
variable {h h' : am_H} {m : cq_W} {z E l : Nat} {t u : Int32} {st : Nat → Nat}
theorem eS.of (q : hx_Q h h') : eS h h' := ⟨q.2.1, q.2.2.1, fun E a b c => ⟨(q.2.2.2.2 E a b c).2.1, (q.2.2.2.2 E a b c).2.2.1, (q.2.2.2.2 E a b c).2.2.2⟩⟩
theorem eS.oy (W : hx_W h) (q : hy_Q h h') : eS h h' := ⟨q.2.1, q.2.2.1, fun E a b c => ⟨fun j => (q.2.2.2 E a b c j).2.1, fun j => (q.2.2.2 E a b c j).2.2.1, fun _ _ _ e => hy_E W q a b c e⟩⟩
theorem rX1.s (A : rX1 h z E l t u st) (S : eS h h') (g : ∀ c j, 93 ≤ c → c ≤ 97 → (c = 93 → j = z) → (c ≠ 93 → c ≠ 95 → 30 * z ≤ j ∧ j < 30 * z + 30) → (c = 95 → 240 * z ≤ j ∧ j < 240 * z + 240) → h'.2.2.2 c j = h.2.2.2 c j) : rX1 h' z E l t u st := by
  obtain ⟨⟨a1, a2, a3⟩, a4, a5, a6, a7, a8, a9, a10, a11, a12, a13⟩ := A
  obtain ⟨s1, s2, s3⟩ := S
  obtain ⟨r1, r2, r3⟩ := s3 E a1 a2 a3
  have x := a4.1
  have hl : l ≤ 30 := a4.2.2.2.2.2.2.2.2.2.2.1.2
  refine ⟨⟨a1, Nat.lt_of_lt_of_le a2 s1, ?_⟩, r3 l t u a4, a5, ⟨by rw [s2 _ (by omega)]; exact a6.1, by rw [s2 _ (by omega)]; exact a6.2⟩, fun i hi => (r2 i).trans (a7 i hi), ?_, fun i hi => ?_, fun i k hi hk => ?_, fun i hi => ?_, fun i hi => ?_, a13⟩
  · unfold hx_ed at a3 ⊢
    rw [s2 E a2]
    exact a3
  · exact (g 93 z (by decide) (by decide) (fun _ => rfl) (fun q => absurd rfl q) (fun q => absurd q (by decide))).trans a8
  · exact (g 94 _ (by decide) (by decide) (fun q => absurd q (by decide)) (fun _ _ => by omega) (fun q => absurd q (by decide))).trans (a9 i hi)
  · have b := (a5.2 i hi).2
    rw [r1, g 95 _ (by decide) (by decide) (fun q => absurd q (by decide)) (fun _ q => absurd rfl q) (fun _ => by omega)]
    exact a10 i k hi hk
  · exact (g 97 _ (by decide) (by decide) (fun q => absurd q (by decide)) (fun _ _ => by omega) (fun q => absurd q (by decide))).trans (a11 i hi)
  · exact (g 96 _ (by decide) (by decide) (fun q => absurd q (by decide)) (fun _ _ => by omega) (fun q => absurd q (by decide))).trans (a12 i hi)
/-- no row of editions is written -/
def lw_n17 (m : cq_W) : Bool := m.all fun w => bif w.1 then !(Nat.beq w.2.1 1 && Nat.beq w.2.2.1 7) else Nat.blt w.2.1 130
theorem lw_fr17 (F : cq_Fr m h h') {s n j : Nat} (h1 : 130 ≤ s) (h3 : s < h.1) (sh : h.2.2.1 s = (1, 7, n)) (q : lw_n17 m = true) : h'.2.2.2 s j = h.2.2.2 s j := by
  refine F.vl s h3 j ?_
  unfold cq_inW
  rw [List.any_eq_false]
  intro w hw
  have z := List.all_eq_true.1 q w hw
  cases w1 : w.1 with
  | true =>
    rw [w1] at z
    simp only [cond_true, Bool.not_eq_true'] at z
    rw [sh]
    dsimp only
    have : (Nat.ble 130 s && Nat.beq w.2.1 1 && Nat.beq w.2.2.1 7 && (Nat.beq w.2.2.2 0 || Nat.beq w.2.2.2 (j + 1))) = false := by
      rw [Bool.and_assoc (Nat.ble 130 s), z]
      simp
    rw [this]
    simp
  | false =>
    rw [w1] at z
    have hz : w.2.1 < 130 := Nat.le_of_ble_eq_true z
    rw [dh_bne (show w.2.1 ≠ s by omega)]
    simp
/-- a poem's two rows -/
theorem po_q {h : am_H} (I : cq_Inv none h) {p s : Nat} (hp : p < 40) (e : h.2.2.2 73 p = .ref s) : ∃ q : Nat, h.2.2.2 s 7 = .ref q ∧ 130 ≤ q ∧ q < h.1 ∧ h.2.2.1 q = (1, 7, 3) := by
  obtain ⟨q, e7, k⟩ : ∃ q : Nat, h.2.2.2 s 7 = .ref q ∧ cq_kOk h q (1, 7, 4) := ax_fd I (rp_obj I hp e) (j := 7) (t := (6, 0, 0, 7, 4, 0)) (by decide +kernel) (by decide +kernel)
  obtain ⟨d1, d2, d3, d4, d5⟩ := k
  exact ⟨q, e7, d1, d2, Prod.ext d3 (Prod.ext d4 (by rcases d5 with z | z; cases z; exact Nat.succ.inj z))⟩
def rX_p (m : cq_W) : Bool := lw_nO m 6 6 && lw_nO m 6 7 && lw_n17 m && lw_nA m 93 && lw_nA m 94 && lw_nA m 95 && lw_nA m 96 && lw_nA m 97
def rX_m (m : cq_W) : Bool := lw_nF m 40 8 && lw_nA m 73 && rX_p m
/-- a poem of before has its editions as they were -/
theorem rX_po (I : cq_Inv none h) (F : cq_Fr m h h') (S : eS h h') (q : rX_p m = true) {p s qq : Nat} (hp : p < 40) (e73 : h.2.2.2 73 p = .ref s) (e7 : h'.2.2.2 s 7 = .ref qq) (X : ∀ q', h.2.2.2 s 7 = .ref q' → ∀ e c : Nat, h.2.2.2 s 6 = iv c → c ≤ 3 → e < c → ∃ (E l : Nat) (t u : Int32) (st : Nat → Nat), h.2.2.2 q' e = .ref E ∧ rX1 h (3 * p + e) E l t u st) : ∀ e c : Nat, h'.2.2.2 s 6 = iv c → c ≤ 3 → e < c → ∃ (E l : Nat) (t u : Int32) (st : Nat → Nat), h'.2.2.2 qq e = .ref E ∧ rX1 h' (3 * p + e) E l t u st := by
  have lo := I.lo
  have b1 := (Bool.and_eq_true _ _ ▸ q)
  have b2 := (Bool.and_eq_true _ _ ▸ b1.1)
  have b3 := (Bool.and_eq_true _ _ ▸ b2.1)
  have b4 := (Bool.and_eq_true _ _ ▸ b3.1)
  have b5 := (Bool.and_eq_true _ _ ▸ b4.1)
  have b6 := (Bool.and_eq_true _ _ ▸ b5.1)
  have b7 := (Bool.and_eq_true _ _ ▸ b6.1)
  obtain ⟨o1, o2, o3⟩ := rp_obj I hp e73
  obtain ⟨q', k7, q1, q2, q3⟩ := po_q I hp e73
  rw [lw_frO F o1 o2 o3 b7.2, k7] at e7
  cases e7
  intro e c e6 hc hec
  rw [lw_frO F o1 o2 o3 b7.1] at e6
  obtain ⟨E, l, t, u, st, x1, x2⟩ := X _ k7 e c e6 hc hec
  refine ⟨E, l, t, u, st, (lw_fr17 F q1 q2 q3 b6.2).trans x1, x2.s S fun c j c1 c2 _ _ _ => ?_⟩
  have hc : c = 93 ∨ c = 94 ∨ c = 95 ∨ c = 96 ∨ c = 97 := by omega
  rcases hc with rfl | rfl | rfl | rfl | rfl
  · exact lw_frA F lo (by decide) b5.2 j
  · exact lw_frA F lo (by decide) b4.2 j
  · exact lw_frA F lo (by decide) b3.2 j
  · exact lw_frA F lo (by decide) b2.2 j
  · exact lw_frA F lo (by decide) b1.2 j
theorem rX_fr (I : cq_Inv none h) (F : cq_Fr m h h') (S : eS h h') (q : rX_m m = true) (X : rX h) : rX h' := by
  have lo := I.lo
  have b1 := (Bool.and_eq_true _ _ ▸ q)
  have b2 := (Bool.and_eq_true _ _ ▸ b1.1)
  intro k p s qq v8 hp e73 e7
  rw [lw_frF F lo (by decide) b2.1] at v8
  rw [lw_frA F lo (by decide) b2.2] at e73
  have bm := rp_bm I v8
  exact rX_po I F S b1.2 (by omega) e73 e7 fun q' k7 => X k p s q' v8 hp e73 k7
def rW (h : am_H) : Prop := hx_W h ∧ rX h
end EST
end
section
/-! CALLS OF THE LAW BY THEIR CONTRACTS -/
def sz_E (x : Bool × List cq_A × cq_S) (A B : Nat) : Bool := !x.1 && x.2.2.U.isNone && Nat.ble x.2.2.ac A && Nat.ble x.2.2.al B && (match x.2.1 with
  | [a] => Nat.beq a.1 1
  | _ => false)
theorem sz_ap0 {y k : Nat} {c : cq_Ct} (ok : cq_CT y c) (e1 : c.2.1 = [(5, (0, []), k)]) (e2 : c.2.2.1 = cq_mk 0 ([], []) [] [] [] [] [] [] none 0 0) {A B : Nat} (e3 : (c.2.2.2.2.all fun x => sz_E x A B) = true) {h : am_H} (I : cq_Inv none h) {d : Nat} (hd : c.1 ≤ d) : ∃ (r : Int32) (h' : am_H), am_ev d y 0 (am_ent [.ref k] (am_in y).2.2.1) [] h (some (.int r), h') ∧ cq_Inv none h' ∧ cq_Fr c.2.2.2.1 h h' ∧ h'.1 ≤ h.1 + A ∧ h'.2.1 ≤ h.2.1 + B := by
  let ρ : Nat → Int := fun _ => 0
  have gg : cq_gs ρ c.2.1 [.ref k] := by
    rw [e1]
    exact ⟨rfl, trivial⟩
  have M0 : cq_Md c.2.2.2.1 h ρ c.2.2.1 h := by
    rw [e2]
    exact cq_Md_p ⟨fun b hb => (by cases hb), fun _ z => (by cases z)⟩ (fun _ z => (by cases z)) (fun _ z => (by cases z)) I
  obtain ⟨r, h', ev, x, hx, ρ', a', Mx, hr⟩ := ok d h ρ _ hd M0 gg
  have b1 := (Bool.and_eq_true _ _ ▸ List.all_eq_true.1 e3 x hx)
  have b2 := (Bool.and_eq_true _ _ ▸ b1.1)
  have b3 := (Bool.and_eq_true _ _ ▸ b2.1)
  have b4 := (Bool.and_eq_true _ _ ▸ b3.1)
  have IX := Mx.I
  rw [Option.isNone_iff_eq_none.1 b4.2] at IX
  rcases hr with ⟨_, _, z⟩ | ⟨z, _⟩
  · have b5 := b1.2
    cases e4 : x.2.1 with
    | nil =>
      rw [e4] at b5
      cases b5
    | cons a l =>
      cases l with
      | cons _ _ =>
        rw [e4] at b5
        cases b5
      | nil =>
        rw [e4] at b5 z
        have b5 : Nat.beq a.1 1 = true := b5
        rw [cq_tag b5] at z
        cases r with
        | none => exact z.elim
        | some v =>
          obtain ⟨⟨w, ew, -⟩, -⟩ := z
          subst ew
          exact ⟨w, h', ev, IX, Mx.F, Nat.le_trans Mx.A.1 (Nat.add_le_add_left (Nat.le_of_ble_eq_true b3.2) _), Nat.le_trans Mx.A.2 (Nat.add_le_add_left (Nat.le_of_ble_eq_true b2.2) _)⟩
  · have := b4.1
    rw [z] at this
    cases this
theorem sz_ap1 {y k : Nat} {c : cq_Ct} (ok : cq_CT y c) (e1 : c.2.1 = [(5, (0, []), k), (1, (0, [(0, 1)]), 0)]) (e2 : c.2.2.1 = cq_mk 1 ([(0, (-2147483648), 2147483647)], []) [] [] [] [] [] [] none 0 0) {A B : Nat} (e3 : (c.2.2.2.2.all fun x => sz_E x A B) = true) {h : am_H} (I : cq_Inv none h) {d : Nat} (hd : c.1 ≤ d) (p0 : Int32) : ∃ (r : Int32) (h' : am_H), am_ev d y 0 (am_ent [.ref k, .int p0] (am_in y).2.2.1) [] h (some (.int r), h') ∧ cq_Inv none h' ∧ cq_Fr c.2.2.2.1 h h' ∧ h'.1 ≤ h.1 + A ∧ h'.2.1 ≤ h.2.1 + B := by
  let ρ : Nat → Int := fun s => match s with
    | _ => p0.toInt
  have gg : cq_gs ρ c.2.1 [.ref k, .int p0] := by
    rw [e1]
    exact ⟨rfl, ⟨p0, rfl, (cq_s_e ρ 0).symm⟩, trivial⟩
  have M0 : cq_Md c.2.2.2.1 h ρ c.2.2.1 h := by
    rw [e2]
    refine cq_Md_p ⟨fun b hb => ?_, fun _ z => (by cases z)⟩ (fun _ z => (by cases z)) (fun _ z => (by cases z)) I
    have full : ∀ v : Int32, -2147483648 ≤ v.toInt ∧ v.toInt ≤ 2147483647 := fun v => by
      have r1 := v.le_toInt
      have r2 := v.toInt_lt
      omega
    simp only [List.mem_cons, List.not_mem_nil, or_false] at hb
    rcases hb with rfl
    exact full p0
  obtain ⟨r, h', ev, x, hx, ρ', a', Mx, hr⟩ := ok d h ρ _ hd M0 gg
  have b1 := (Bool.and_eq_true _ _ ▸ List.all_eq_true.1 e3 x hx)
  have b2 := (Bool.and_eq_true _ _ ▸ b1.1)
  have b3 := (Bool.and_eq_true _ _ ▸ b2.1)
  have b4 := (Bool.and_eq_true _ _ ▸ b3.1)
  have IX := Mx.I
  rw [Option.isNone_iff_eq_none.1 b4.2] at IX
  rcases hr with ⟨_, _, z⟩ | ⟨z, _⟩
  · have b5 := b1.2
    cases e4 : x.2.1 with
    | nil =>
      rw [e4] at b5
      cases b5
    | cons a l =>
      cases l with
      | cons _ _ =>
        rw [e4] at b5
        cases b5
      | nil =>
        rw [e4] at b5 z
        have b5 : Nat.beq a.1 1 = true := b5
        rw [cq_tag b5] at z
        cases r with
        | none => exact z.elim
        | some v =>
          obtain ⟨⟨w, ew, -⟩, -⟩ := z
          subst ew
          exact ⟨w, h', ev, IX, Mx.F, Nat.le_trans Mx.A.1 (Nat.add_le_add_left (Nat.le_of_ble_eq_true b3.2) _), Nat.le_trans Mx.A.2 (Nat.add_le_add_left (Nat.le_of_ble_eq_true b2.2) _)⟩
  · have := b4.1
    rw [z] at this
    cases this
theorem sz_ap2 {y k : Nat} {c : cq_Ct} (ok : cq_CT y c) (e1 : c.2.1 = [(5, (0, []), k), (1, (0, [(0, 1)]), 0), (1, (0, [(1, 1)]), 0)]) (e2 : c.2.2.1 = cq_mk 2 ([(0, (-2147483648), 2147483647), (1, (-2147483648), 2147483647)], []) [] [] [] [] [] [] none 0 0) {A B : Nat} (e3 : (c.2.2.2.2.all fun x => sz_E x A B) = true) {h : am_H} (I : cq_Inv none h) {d : Nat} (hd : c.1 ≤ d) (p0 p1 : Int32) : ∃ (r : Int32) (h' : am_H), am_ev d y 0 (am_ent [.ref k, .int p0, .int p1] (am_in y).2.2.1) [] h (some (.int r), h') ∧ cq_Inv none h' ∧ cq_Fr c.2.2.2.1 h h' ∧ h'.1 ≤ h.1 + A ∧ h'.2.1 ≤ h.2.1 + B := by
  let ρ : Nat → Int := fun s => match s with
    | 0 => p0.toInt
    | _ => p1.toInt
  have gg : cq_gs ρ c.2.1 [.ref k, .int p0, .int p1] := by
    rw [e1]
    exact ⟨rfl, ⟨p0, rfl, (cq_s_e ρ 0).symm⟩, ⟨p1, rfl, (cq_s_e ρ 1).symm⟩, trivial⟩
  have M0 : cq_Md c.2.2.2.1 h ρ c.2.2.1 h := by
    rw [e2]
    refine cq_Md_p ⟨fun b hb => ?_, fun _ z => (by cases z)⟩ (fun _ z => (by cases z)) (fun _ z => (by cases z)) I
    have full : ∀ v : Int32, -2147483648 ≤ v.toInt ∧ v.toInt ≤ 2147483647 := fun v => by
      have r1 := v.le_toInt
      have r2 := v.toInt_lt
      omega
    simp only [List.mem_cons, List.not_mem_nil, or_false] at hb
    rcases hb with rfl | rfl
    · exact full p0
    · exact full p1
  obtain ⟨r, h', ev, x, hx, ρ', a', Mx, hr⟩ := ok d h ρ _ hd M0 gg
  have b1 := (Bool.and_eq_true _ _ ▸ List.all_eq_true.1 e3 x hx)
  have b2 := (Bool.and_eq_true _ _ ▸ b1.1)
  have b3 := (Bool.and_eq_true _ _ ▸ b2.1)
  have b4 := (Bool.and_eq_true _ _ ▸ b3.1)
  have IX := Mx.I
  rw [Option.isNone_iff_eq_none.1 b4.2] at IX
  rcases hr with ⟨_, _, z⟩ | ⟨z, _⟩
  · have b5 := b1.2
    cases e4 : x.2.1 with
    | nil =>
      rw [e4] at b5
      cases b5
    | cons a l =>
      cases l with
      | cons _ _ =>
        rw [e4] at b5
        cases b5
      | nil =>
        rw [e4] at b5 z
        have b5 : Nat.beq a.1 1 = true := b5
        rw [cq_tag b5] at z
        cases r with
        | none => exact z.elim
        | some v =>
          obtain ⟨⟨w, ew, -⟩, -⟩ := z
          subst ew
          exact ⟨w, h', ev, IX, Mx.F, Nat.le_trans Mx.A.1 (Nat.add_le_add_left (Nat.le_of_ble_eq_true b3.2) _), Nat.le_trans Mx.A.2 (Nat.add_le_add_left (Nat.le_of_ble_eq_true b2.2) _)⟩
  · have := b4.1
    rw [z] at this
    cases this
theorem sz_ap3 {y k : Nat} {c : cq_Ct} (ok : cq_CT y c) (e1 : c.2.1 = [(5, (0, []), k), (1, (0, [(0, 1)]), 0), (1, (0, [(1, 1)]), 0), (1, (0, [(2, 1)]), 0)]) (e2 : c.2.2.1 = cq_mk 3 ([(0, (-2147483648), 2147483647), (1, (-2147483648), 2147483647), (2, (-2147483648), 2147483647)], []) [] [] [] [] [] [] none 0 0) {A B : Nat} (e3 : (c.2.2.2.2.all fun x => sz_E x A B) = true) {h : am_H} (I : cq_Inv none h) {d : Nat} (hd : c.1 ≤ d) (p0 p1 p2 : Int32) : ∃ (r : Int32) (h' : am_H), am_ev d y 0 (am_ent [.ref k, .int p0, .int p1, .int p2] (am_in y).2.2.1) [] h (some (.int r), h') ∧ cq_Inv none h' ∧ cq_Fr c.2.2.2.1 h h' ∧ h'.1 ≤ h.1 + A ∧ h'.2.1 ≤ h.2.1 + B := by
  let ρ : Nat → Int := fun s => match s with
    | 0 => p0.toInt
    | 1 => p1.toInt
    | _ => p2.toInt
  have gg : cq_gs ρ c.2.1 [.ref k, .int p0, .int p1, .int p2] := by
    rw [e1]
    exact ⟨rfl, ⟨p0, rfl, (cq_s_e ρ 0).symm⟩, ⟨p1, rfl, (cq_s_e ρ 1).symm⟩, ⟨p2, rfl, (cq_s_e ρ 2).symm⟩, trivial⟩
  have M0 : cq_Md c.2.2.2.1 h ρ c.2.2.1 h := by
    rw [e2]
    refine cq_Md_p ⟨fun b hb => ?_, fun _ z => (by cases z)⟩ (fun _ z => (by cases z)) (fun _ z => (by cases z)) I
    have full : ∀ v : Int32, -2147483648 ≤ v.toInt ∧ v.toInt ≤ 2147483647 := fun v => by
      have r1 := v.le_toInt
      have r2 := v.toInt_lt
      omega
    simp only [List.mem_cons, List.not_mem_nil, or_false] at hb
    rcases hb with rfl | rfl | rfl
    · exact full p0
    · exact full p1
    · exact full p2
  obtain ⟨r, h', ev, x, hx, ρ', a', Mx, hr⟩ := ok d h ρ _ hd M0 gg
  have b1 := (Bool.and_eq_true _ _ ▸ List.all_eq_true.1 e3 x hx)
  have b2 := (Bool.and_eq_true _ _ ▸ b1.1)
  have b3 := (Bool.and_eq_true _ _ ▸ b2.1)
  have b4 := (Bool.and_eq_true _ _ ▸ b3.1)
  have IX := Mx.I
  rw [Option.isNone_iff_eq_none.1 b4.2] at IX
  rcases hr with ⟨_, _, z⟩ | ⟨z, _⟩
  · have b5 := b1.2
    cases e4 : x.2.1 with
    | nil =>
      rw [e4] at b5
      cases b5
    | cons a l =>
      cases l with
      | cons _ _ =>
        rw [e4] at b5
        cases b5
      | nil =>
        rw [e4] at b5 z
        have b5 : Nat.beq a.1 1 = true := b5
        rw [cq_tag b5] at z
        cases r with
        | none => exact z.elim
        | some v =>
          obtain ⟨⟨w, ew, -⟩, -⟩ := z
          subst ew
          exact ⟨w, h', ev, IX, Mx.F, Nat.le_trans Mx.A.1 (Nat.add_le_add_left (Nat.le_of_ble_eq_true b3.2) _), Nat.le_trans Mx.A.2 (Nat.add_le_add_left (Nat.le_of_ble_eq_true b2.2) _)⟩
  · have := b4.1
    rw [z] at this
    cases this
theorem sz_ap4 {y k : Nat} {c : cq_Ct} (ok : cq_CT y c) (e1 : c.2.1 = [(5, (0, []), k), (1, (0, [(0, 1)]), 0), (1, (0, [(1, 1)]), 0), (1, (0, [(2, 1)]), 0), (1, (0, [(3, 1)]), 0)]) (e2 : c.2.2.1 = cq_mk 4 ([(0, (-2147483648), 2147483647), (1, (-2147483648), 2147483647), (2, (-2147483648), 2147483647), (3, (-2147483648), 2147483647)], []) [] [] [] [] [] [] none 0 0) {A B : Nat} (e3 : (c.2.2.2.2.all fun x => sz_E x A B) = true) {h : am_H} (I : cq_Inv none h) {d : Nat} (hd : c.1 ≤ d) (p0 p1 p2 p3 : Int32) : ∃ (r : Int32) (h' : am_H), am_ev d y 0 (am_ent [.ref k, .int p0, .int p1, .int p2, .int p3] (am_in y).2.2.1) [] h (some (.int r), h') ∧ cq_Inv none h' ∧ cq_Fr c.2.2.2.1 h h' ∧ h'.1 ≤ h.1 + A ∧ h'.2.1 ≤ h.2.1 + B := by
  let ρ : Nat → Int := fun s => match s with
    | 0 => p0.toInt
    | 1 => p1.toInt
    | 2 => p2.toInt
    | _ => p3.toInt
  have gg : cq_gs ρ c.2.1 [.ref k, .int p0, .int p1, .int p2, .int p3] := by
    rw [e1]
    exact ⟨rfl, ⟨p0, rfl, (cq_s_e ρ 0).symm⟩, ⟨p1, rfl, (cq_s_e ρ 1).symm⟩, ⟨p2, rfl, (cq_s_e ρ 2).symm⟩, ⟨p3, rfl, (cq_s_e ρ 3).symm⟩, trivial⟩
  have M0 : cq_Md c.2.2.2.1 h ρ c.2.2.1 h := by
    rw [e2]
    refine cq_Md_p ⟨fun b hb => ?_, fun _ z => (by cases z)⟩ (fun _ z => (by cases z)) (fun _ z => (by cases z)) I
    have full : ∀ v : Int32, -2147483648 ≤ v.toInt ∧ v.toInt ≤ 2147483647 := fun v => by
      have r1 := v.le_toInt
      have r2 := v.toInt_lt
      omega
    simp only [List.mem_cons, List.not_mem_nil, or_false] at hb
    rcases hb with rfl | rfl | rfl | rfl
    · exact full p0
    · exact full p1
    · exact full p2
    · exact full p3
  obtain ⟨r, h', ev, x, hx, ρ', a', Mx, hr⟩ := ok d h ρ _ hd M0 gg
  have b1 := (Bool.and_eq_true _ _ ▸ List.all_eq_true.1 e3 x hx)
  have b2 := (Bool.and_eq_true _ _ ▸ b1.1)
  have b3 := (Bool.and_eq_true _ _ ▸ b2.1)
  have b4 := (Bool.and_eq_true _ _ ▸ b3.1)
  have IX := Mx.I
  rw [Option.isNone_iff_eq_none.1 b4.2] at IX
  rcases hr with ⟨_, _, z⟩ | ⟨z, _⟩
  · have b5 := b1.2
    cases e4 : x.2.1 with
    | nil =>
      rw [e4] at b5
      cases b5
    | cons a l =>
      cases l with
      | cons _ _ =>
        rw [e4] at b5
        cases b5
      | nil =>
        rw [e4] at b5 z
        have b5 : Nat.beq a.1 1 = true := b5
        rw [cq_tag b5] at z
        cases r with
        | none => exact z.elim
        | some v =>
          obtain ⟨⟨w, ew, -⟩, -⟩ := z
          subst ew
          exact ⟨w, h', ev, IX, Mx.F, Nat.le_trans Mx.A.1 (Nat.add_le_add_left (Nat.le_of_ble_eq_true b3.2) _), Nat.le_trans Mx.A.2 (Nat.add_le_add_left (Nat.le_of_ble_eq_true b2.2) _)⟩
  · have := b4.1
    rw [z] at this
    cases this
theorem sz_ap5 {y k : Nat} {c : cq_Ct} (ok : cq_CT y c) (e1 : c.2.1 = [(5, (0, []), k), (1, (0, [(0, 1)]), 0), (1, (0, [(1, 1)]), 0), (1, (0, [(2, 1)]), 0), (1, (0, [(3, 1)]), 0), (1, (0, [(4, 1)]), 0)]) (e2 : c.2.2.1 = cq_mk 5 ([(0, (-2147483648), 2147483647), (1, (-2147483648), 2147483647), (2, (-2147483648), 2147483647), (3, (-2147483648), 2147483647), (4, (-2147483648), 2147483647)], []) [] [] [] [] [] [] none 0 0) {A B : Nat} (e3 : (c.2.2.2.2.all fun x => sz_E x A B) = true) {h : am_H} (I : cq_Inv none h) {d : Nat} (hd : c.1 ≤ d) (p0 p1 p2 p3 p4 : Int32) : ∃ (r : Int32) (h' : am_H), am_ev d y 0 (am_ent [.ref k, .int p0, .int p1, .int p2, .int p3, .int p4] (am_in y).2.2.1) [] h (some (.int r), h') ∧ cq_Inv none h' ∧ cq_Fr c.2.2.2.1 h h' ∧ h'.1 ≤ h.1 + A ∧ h'.2.1 ≤ h.2.1 + B := by
  let ρ : Nat → Int := fun s => match s with
    | 0 => p0.toInt
    | 1 => p1.toInt
    | 2 => p2.toInt
    | 3 => p3.toInt
    | _ => p4.toInt
  have gg : cq_gs ρ c.2.1 [.ref k, .int p0, .int p1, .int p2, .int p3, .int p4] := by
    rw [e1]
    exact ⟨rfl, ⟨p0, rfl, (cq_s_e ρ 0).symm⟩, ⟨p1, rfl, (cq_s_e ρ 1).symm⟩, ⟨p2, rfl, (cq_s_e ρ 2).symm⟩, ⟨p3, rfl, (cq_s_e ρ 3).symm⟩, ⟨p4, rfl, (cq_s_e ρ 4).symm⟩, trivial⟩
  have M0 : cq_Md c.2.2.2.1 h ρ c.2.2.1 h := by
    rw [e2]
    refine cq_Md_p ⟨fun b hb => ?_, fun _ z => (by cases z)⟩ (fun _ z => (by cases z)) (fun _ z => (by cases z)) I
    have full : ∀ v : Int32, -2147483648 ≤ v.toInt ∧ v.toInt ≤ 2147483647 := fun v => by
      have r1 := v.le_toInt
      have r2 := v.toInt_lt
      omega
    simp only [List.mem_cons, List.not_mem_nil, or_false] at hb
    rcases hb with rfl | rfl | rfl | rfl | rfl
    · exact full p0
    · exact full p1
    · exact full p2
    · exact full p3
    · exact full p4
  obtain ⟨r, h', ev, x, hx, ρ', a', Mx, hr⟩ := ok d h ρ _ hd M0 gg
  have b1 := (Bool.and_eq_true _ _ ▸ List.all_eq_true.1 e3 x hx)
  have b2 := (Bool.and_eq_true _ _ ▸ b1.1)
  have b3 := (Bool.and_eq_true _ _ ▸ b2.1)
  have b4 := (Bool.and_eq_true _ _ ▸ b3.1)
  have IX := Mx.I
  rw [Option.isNone_iff_eq_none.1 b4.2] at IX
  rcases hr with ⟨_, _, z⟩ | ⟨z, _⟩
  · have b5 := b1.2
    cases e4 : x.2.1 with
    | nil =>
      rw [e4] at b5
      cases b5
    | cons a l =>
      cases l with
      | cons _ _ =>
        rw [e4] at b5
        cases b5
      | nil =>
        rw [e4] at b5 z
        have b5 : Nat.beq a.1 1 = true := b5
        rw [cq_tag b5] at z
        cases r with
        | none => exact z.elim
        | some v =>
          obtain ⟨⟨w, ew, -⟩, -⟩ := z
          subst ew
          exact ⟨w, h', ev, IX, Mx.F, Nat.le_trans Mx.A.1 (Nat.add_le_add_left (Nat.le_of_ble_eq_true b3.2) _), Nat.le_trans Mx.A.2 (Nat.add_le_add_left (Nat.le_of_ble_eq_true b2.2) _)⟩
  · have := b4.1
    rw [z] at this
    cases this
end
