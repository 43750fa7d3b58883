/-! EDITIONS AND POEMS: what new ones leave -/
/-- poems have rows of their own -/
def rZ (h : am_H) : Prop := ∀ (m : Int32) (p p' s s' : Nat), h.2.2.2 40 8 = .int m → (p : Int) < m.toInt → (p' : Int) < m.toInt → p ≠ p' → h.2.2.2 73 p = .ref s → h.2.2.2 73 p' = .ref s' → h.2.2.2 s 7 ≠ h.2.2.2 s' 7 ∧ h.2.2.2 s 8 ≠ h.2.2.2 s' 8
def rZ_m (m : cq_W) : Bool := lw_nF m 40 8 && lw_nA m 73 && lw_nO m 6 7 && lw_nO m 6 8
/-- what stands in the first cells and in the exception tells none that calls make -/
def rK (h : am_H) : Prop := ∀ c j a : Nat, (c < 40 ∨ c = 79) → h.2.2.2 c j = .ref a → a < 130
def rK_m (m : cq_W) : Bool := m.all fun w => w.1 || (Nat.ble 40 w.2.1 && !Nat.beq w.2.1 79)
section RZZ
variable {h h' : am_H} {m : cq_W}
theorem rZ_fr (I : cq_Inv none h) (F : cq_Fr m h h') (q : rZ_m m = true) (Z : rZ h) : rZ h' := by
  have lo := I.lo
  have b1 := (Bool.and_eq_true _ _ ▸ q)
  have b2 := (Bool.and_eq_true _ _ ▸ b1.1)
  have b3 := (Bool.and_eq_true _ _ ▸ b2.1)
  intro k p p' s s' v8 hp hp' n e e'
  rw [lw_frF F lo (by decide) b3.1] at v8
  rw [lw_frA F lo (by decide) b3.2] at e e'
  have bm := rp_bm I v8
  obtain ⟨o1, o2, o3⟩ := rp_obj I (p := p) (by omega) e
  obtain ⟨u1, u2, u3⟩ := rp_obj I (p := p') (by omega) e'
  rw [lw_frO F o1 o2 o3 b2.2, lw_frO F u1 u2 u3 b2.2, lw_frO F o1 o2 o3 b1.2, lw_frO F u1 u2 u3 b1.2]
  exact Z k p p' s s' v8 hp hp' n e e'
theorem rK_fr (I : cq_Inv none h) (F : cq_Fr m h h') (q : rK_m m = true) (K : rK h) : rK h' := by
  have lo := I.lo
  intro c j a hc e
  rw [F.vl c (by omega) j ?_] at e
  · exact K c j a hc e
  · unfold cq_inW
    rw [List.any_eq_false]
    intro w hw
    have z := List.all_eq_true.1 q w hw
    cases w1 : w.1 with
    | true =>
      rw [show Nat.ble 130 c = false by cases y : Nat.ble 130 c with
        | false => rfl
        | true => have := Nat.le_of_ble_eq_true y; omega]
      simp
    | false =>
      rw [w1] at z
      simp only [Bool.false_or, Bool.and_eq_true, Bool.not_eq_true'] at z
      have a1 := Nat.le_of_ble_eq_true z.1
      have n : w.2.1 ≠ c := fun y => by
        rcases hc with hc | hc
        · omega
        · rw [y, hc] at z
          exact absurd z.2 (by decide)
      rw [dh_bne n]
      simp
/-- a type whose references are of the heap -/
def hx_tg (t : cq_T) : Bool := Nat.beq t.1 1 || Nat.beq t.1 2 || (Nat.beq t.1 3 && Nat.blt t.2.2.2.1 130) || Nat.beq t.1 4 || Nat.beq t.1 5 || Nat.beq t.1 6 || (Nat.beq t.1 7 && Nat.blt t.2.2.2.1 130 && Nat.blt t.2.2.2.2.1 130) || Nat.beq t.1 8 || Nat.beq t.1 9 || Nat.beq t.1 10 || Nat.beq t.1 11
theorem hx_tg_ok {j a : Nat} {t : cq_T} (lo : 130 ≤ h.1) (q : hx_tg t = true) (k : cq_ht h j t (.ref a)) : a < h.1 := by
  obtain ⟨t1, l, u, k1, k2, k3⟩ := t
  unfold hx_tg at q
  simp only [Bool.or_eq_true, Bool.and_eq_true] at q
  rcases q with (((((((((q | q) | q) | q) | q) | q) | q) | q) | q) | q) | q
  · have q := Nat.eq_of_beq_eq_true q
    subst q
    obtain ⟨x, y, -⟩ := k
    cases y
  · have q := Nat.eq_of_beq_eq_true q
    subst q
    obtain ⟨x, y⟩ := k
    cases y
  · have q1 := Nat.eq_of_beq_eq_true q.1
    have q2 : k1 < 130 := Nat.le_of_ble_eq_true q.2
    subst q1
    have k : Value.ref a = .ref k1 := k
    cases k
    omega
  · have q := Nat.eq_of_beq_eq_true q
    subst q
    obtain ⟨x, y, z⟩ := k
    cases y
    exact z.2.1
  · have q := Nat.eq_of_beq_eq_true q
    subst q
    rcases k with k | ⟨x, y, z⟩
    · cases k
    · cases y
      exact z.2.1
  · have q := Nat.eq_of_beq_eq_true q
    subst q
    obtain ⟨x, y, z⟩ := k
    cases y
    exact z.2.1
  · have q1 := Nat.eq_of_beq_eq_true q.1.1
    have q2 : k1 < 130 := Nat.le_of_ble_eq_true q.1.2
    have q3 : k2 < 130 := Nat.le_of_ble_eq_true q.2
    subst q1
    have k : Value.ref a = .ref k1 ∨ Value.ref a = .ref k2 := k
    rcases k with k | k
    · cases k
      omega
    · cases k
      omega
  · have q := Nat.eq_of_beq_eq_true q
    subst q
    obtain ⟨x, y, -⟩ := k
    cases y
  · have q := Nat.eq_of_beq_eq_true q
    subst q
    obtain ⟨x, y, -⟩ := k
    cases y
  · have q := Nat.eq_of_beq_eq_true q
    subst q
    obtain ⟨x, y, -⟩ := k
    cases y
  · have q := Nat.eq_of_beq_eq_true q
    subst q
    rcases k with ⟨k, -⟩ | ⟨x, y, z⟩
    · cases k
    · cases y
      exact z.2.1
theorem hx_tA : ((List.range 130).all fun c => Nat.blt c 40 || Nat.beq c 79 || (bif cq_isA c then hx_tg (cq_ar c) else (List.range (cq_fix c).2.2).all fun j => hx_tg (cq_ob c j))) = true := by decide +kernel
theorem hx_tC : ([1, 3, 4, 6].all fun k => (List.range (am_N k)).all fun j => hx_tg (cq_cl k j)) = true := by decide +kernel
theorem zd_cl {c j a : Nat} (I : cq_Inv none h) (k4 : ∀ c, 40 ≤ c → c < h.1 → zd_kd c (h.2.2.1 c) = true) (K : rK h) (hc : c < h.1) (hj : 40 ≤ c → j < (h.2.2.1 c).2.2) (e : h.2.2.2 c j = .ref a) : a < h.1 := by
  have lo := I.lo
  by_cases c0 : c < 40 ∨ c = 79
  · have := K c j a c0 e
    omega
  · have c1 : 40 ≤ c := by omega
    have hj := hj c1
    by_cases c2 : c < 130
    · rw [I.fx c c1 c2] at hj
      have k := hx_tyF I c1 c2 hj
      rw [e] at k
      refine hx_tg_ok lo ?_ k
      have z := List.all_eq_true.1 hx_tA c (List.mem_range.2 c2)
      rw [dh_bne (show c ≠ 79 by omega), show Nat.blt c 40 = false from by cases y : Nat.blt c 40 with
        | false => rfl
        | true => have : c < 40 := Nat.le_of_ble_eq_true y; omega] at z
      have z : (bif cq_isA c then hx_tg (cq_ar c) else (List.range (cq_fix c).2.2).all fun j => hx_tg (cq_ob c j)) = true := z
      unfold cq_ty
      cases y : cq_isA c with
      | true =>
        rw [y] at z
        cases y2 : (Nat.beq c 81 || Nat.beq c 83) && Nat.beq j 1 with
        | true => rfl
        | false => exact z
      | false =>
        rw [y] at z
        exact List.all_eq_true.1 z j (List.mem_range.2 hj)
    · have k := I.ty c c1 hc (fun z => by cases z) j hj
      rw [e] at k
      refine hx_tg_ok lo ?_ k
      have z := k4 c c1 hc
      have b1 : Nat.blt c 130 = false := dh_blt (by omega)
      unfold cq_tyOf
      unfold zd_kd at z
      rw [b1] at z ⊢
      rcases I.dy c (by omega) hc with ⟨k', w⟩ | ⟨w, -⟩
      · rw [w] at z hj ⊢
        have z : (Nat.beq (am_N k') (am_N k') && (false || zd_ko k')) = true := z
        have z : zd_ko k' = true := (Bool.and_eq_true _ _ ▸ z).2
        unfold zd_ko at z
        simp only [Bool.or_eq_true] at z
        show hx_tg (cq_cl k' j) = true
        have mem : k' ∈ [1, 3, 4, 6] := by
          rcases z with ((z | z) | z) | z <;> rw [Nat.eq_of_beq_eq_true z] <;> decide
        exact List.all_eq_true.1 (List.all_eq_true.1 hx_tC k' mem) j (List.mem_range.2 hj)
      · rw [w] at z ⊢
        have z : (false || zd_kr (h.2.2.1 c).2.1) = true := z
        have z : zd_kr (h.2.2.1 c).2.1 = true := z
        unfold zd_kr at z
        simp only [Bool.or_eq_true] at z
        show hx_tg (cq_at (h.2.2.1 c).2.1) = true
        rcases z with (z | z) | z <;> rw [Nat.eq_of_beq_eq_true z] <;> decide
theorem eS.tr {h1 h2 : am_H} (A : eS h h1) (B : eS h1 h2) : eS h h2 := ⟨Nat.le_trans A.1 B.1, fun c hc => (B.2.1 c (Nat.lt_of_lt_of_le hc A.1)).trans (A.2.1 c hc), fun E a b c => by
  obtain ⟨x1, x2, x3⟩ := A.2.2 E a b c
  obtain ⟨y1, y2, y3⟩ := B.2.2 E a (Nat.lt_of_lt_of_le b A.1) (by unfold hx_ed at c ⊢; rw [A.2.1 E b]; exact c)
  exact ⟨fun j => (y1 j).trans (x1 j), fun j => (y2 j).trans (x2 j), fun l t u e => y3 l t u (x3 l t u e)⟩⟩
theorem rX_by (I : cq_Inv none h) (S : eS h h') (e8 : h'.2.2.2 40 8 = h.2.2.2 40 8) (e73 : ∀ j, h'.2.2.2 73 j = h.2.2.2 73 j) (ed : ∀ c j, 130 ≤ c → c < h.1 → h'.2.2.2 c j = h.2.2.2 c j) (g : ∀ c j, 93 ≤ c → c ≤ 97 → (c = 93 → j < 120) → (c ≠ 93 → c ≠ 95 → j < 3600) → (c = 95 → j < 28800) → h'.2.2.2 c j = h.2.2.2 c j) (X : rX h) : rX h' := by
  intro k p s qq v8 hp es e7 e c e6 hc hec
  rw [e8] at v8
  rw [e73] at es
  have bm := rp_bm I v8
  obtain ⟨o1, o2, o3⟩ := rp_obj I (p := p) (by omega) es
  obtain ⟨q', k7, q1, q2, q3⟩ := po_q I (p := p) (by omega) es
  rw [ed s 7 o1 o2] at e7
  rw [ed s 6 o1 o2] at e6
  have ee := e7
  rw [k7] at ee
  cases ee
  obtain ⟨E, l, t, u, st, x1, x2⟩ := X k p s _ v8 hp es e7 e c e6 hc hec
  exact ⟨E, l, t, u, st, (ed _ e q1 q2).trans x1, x2.s S fun c j c1 c2 k1 k2 k3 => g c j c1 c2 (fun z => by have := k1 z; omega) (fun z z' => by have := k2 z z'; omega) (fun z => by have := k3 z; omega)⟩
def rWW (h : am_H) : Prop := rW h ∧ rZ h
/-- an edition that isn't: nothing but the tape, the draft and the fault -/
theorem ed_ns {h1 h2 : am_H} (W : rWW h) (B : rbV h) (I : cq_Inv none h) (I1 : cq_Inv none h1) (I2 : cq_Inv none h2) (F1 : cq_Fr ct_43.2.2.2.1 h h1) (F2 : cq_Fr ct_189.2.2.2.1 h1 h2) (n1 : h1.1 = h.1) (n2 : h2.1 ≤ h1.1) (f1 : ∀ c j, c ≠ 41 → c ≠ 54 → c ≠ 55 → c ≠ 56 → h1.2.2.2 c j = h.2.2.2 c j) (f2 : ∀ c j, c ≠ 78 → (c ≠ 93 ∨ j ≠ 120) → (c < 94 ∨ 97 < c ∨ (c ≠ 95 ∧ j < 3600) ∨ (c = 95 ∧ j < 28800)) → h2.2.2.2 c j = h1.2.2.2 c j) : rWW h2 := by
  obtain ⟨⟨W, X⟩, Z⟩ := W
  have B1 : rbV h1 := rbV_fr I F1 (by decide +kernel) B
  have B2 : rbV h2 := rbV_fr I1 F2 (by decide +kernel) B1
  obtain ⟨W1, Q1⟩ := hx_frG W (fS.of I1) n1 F1.sh (fun c j hc hj => by
    by_cases e : c = 41 ∨ c = 54 ∨ c = 55 ∨ c = 56
    · have hj' : j < (cq_fix c).2.2 := by
        rw [← I.fx c (by omega) (by omega)]
        exact hj (by omega)
      rcases e with rfl | rfl | rfl | rfl
      · exact hx_tf I I1 F1 (by decide) (by decide) (by decide +kernel) hj'
      · exact hx_tf I I1 F1 (by decide) (by decide) (by decide +kernel) hj'
      · exact hx_tf I I1 F1 (by decide) (by decide) (by decide +kernel) hj'
      · exact hx_tf I I1 F1 (by decide) (by decide) (by decide +kernel) hj'
    · exact Or.inl (f1 c j (by omega) (by omega) (by omega) (by omega))) (fun c j a _ => f1 c j (by omega) (by omega) (by omega) (by omega)) (rb_r B1)
  obtain ⟨W2, Q2⟩ := hx_frT W1 I1 I2 F2 (Nat.le_antisymm n2 F2.nx) (by decide +kernel) (rb_r B2)
  have X1 := rX_by I (eS.oy W Q1) (f1 40 8 (by decide) (by decide) (by decide) (by decide)) (fun j => f1 73 j (by decide) (by decide) (by decide) (by decide)) (fun c j a _ => f1 c j (by omega) (by omega) (by omega) (by omega)) (fun c j a b _ _ _ => f1 c j (by omega) (by omega) (by omega) (by omega)) X
  have X2 := rX_by I1 (eS.oy W1 Q2) (f2 40 8 (by decide) (Or.inl (by decide)) (Or.inl (by decide))) (fun j => f2 73 j (by decide) (Or.inl (by decide)) (Or.inl (by decide))) (fun c j a _ => f2 c j (by omega) (by omega) (by omega)) (fun c j a b k1 k2 k3 => f2 c j (by omega) (by omega) (by omega)) X1
  exact ⟨⟨W2, X2⟩, rZ_fr I1 F2 (by decide +kernel) (rZ_fr I F1 (by decide +kernel) Z)⟩
end RZZ
section EOK
variable {h H K h1 h2 M : am_H} {P c l s D : Nat} {st : Nat → Nat} {t u m : Int32}
/-- the class's heap behind a new edition -/
theorem ed_W (W : hx_W h) (RK : rK h) (I : cq_Inv none h) (I1 : cq_Inv none h1) (IH : cq_Inv none H) (r : ∃ P T : Int, h1.2.2.2 44 0 = iv P ∧ h1.2.2.2 44 2 = iv T ∧ (6 ≤ P ∧ P ≤ 60) ∧ (0 ≤ T ∧ T ≤ 4)) (szH : H.1 = h.1 ∧ H.2.2.1 = h.2.2.1) (frH : ∀ c j, c ≠ 41 → c ≠ 54 → c ≠ 55 → c ≠ 56 → H.2.2.2 c j = h.2.2.2 c j) (F44 : cq_Fr ct_44.2.2.2.1 h H) (k47 : ed47 H K (st l) l st t u) (e1 : h1 = am_put (am_put (am_put K D c (.ref H.1)) s 6 (iv ((c : Int) + 1))) 41 1 (iv 0)) (hl : 1 ≤ l ∧ l ≤ 30) (ks : cq_kOk h s (0, 6, 0)) (s7 : h.2.2.2 s 7 = .ref D) (kD : 130 ≤ D ∧ D < h.1 ∧ h.2.2.1 D = (1, 7, 3)) : hx_W h1 ∧ eS h h1 ∧ hx_E h1 h.1 l t u := by
  obtain ⟨k1, k2, k3, k4, ⟨k5, k6, k7, k8⟩, ⟨k9, k10, k11⟩, ⟨k12, k13, k14, k15, k16⟩, k17, k18, k19, k20⟩ := k47
  obtain ⟨o1, o2, o3⟩ := ks
  obtain ⟨D1, D2, D3⟩ := kD
  rw [szH.1] at k2 k3 k4 k5 k6 k7 k8 k9 k10 k11 k12 k13 k14 k15 k16 k17 k18 k19 k20 e1
  have lo := I.lo
  have n1 : h1.1 = h.1 + 4 := by rw [e1]; exact k2
  have t1 : h1.2.2.1 = K.2.2.1 := by rw [e1]; rfl
  have so : ∀ c, c < h.1 → h1.2.2.1 c = h.2.2.1 c := fun c a => by rw [t1, k3 c a, szH.2]
  have vo : ∀ a j, (a ≠ 41 ∨ j ≠ 1) → (a ≠ s ∨ j ≠ 6) → (a ≠ D ∨ j ≠ c) → h1.2.2.2 a j = K.2.2.2 a j := fun a j n1 n2 n3 => by
    rw [e1]
    exact ax_put_o n1 (ax_put_o n2 (ax_put_o n3 rfl))
  have hv : ∀ a j, 130 ≤ a → a < h.1 → (a ≠ s ∨ j ≠ 6) → (a ≠ D ∨ j ≠ c) → h1.2.2.2 a j = h.2.2.2 a j := fun a j p q n2 n3 => by
    rw [vo a j (by omega) n2 n3, k4 a j q, frH a j (by omega) (by omega) (by omega) (by omega)]
  have nv : ∀ a j, h.1 ≤ a → h1.2.2.2 a j = K.2.2.2 a j := fun a j p => vo a j (by omega) (by omega) (by omega)
  have ed : ∀ E, E < h.1 → (hx_ed h1 E ↔ hx_ed h E) := fun E hE => by
    unfold hx_ed
    rw [so E hE]
  have sE : h1.2.2.1 h.1 = (0, 3, 10) := by rw [t1]; exact k5
  have s1 : h1.2.2.1 (h.1 + 1) = (1, 3, st l) := by rw [t1]; exact k6
  have s2 : h1.2.2.1 (h.1 + 2) = (1, 0, l + 1) := by rw [t1]; exact k7
  have s3 : h1.2.2.1 (h.1 + 3) = (1, 0, l) := by rw [t1]; exact k8
  have edn : ∀ E, h.1 ≤ E → E < h1.1 → hx_ed h1 E → E = h.1 := fun E a b e => by
    rw [n1] at b
    have hE : E = h.1 ∨ E = h.1 + 1 ∨ E = h.1 + 2 ∨ E = h.1 + 3 := by omega
    rcases hE with hE | hE | hE | hE
    · exact hE
    · rw [hE] at e
      have z := e.1
      rw [s1] at z
      cases z
    · rw [hE] at e
      have z := e.1
      rw [s2] at z
      cases z
    · rw [hE] at e
      have z := e.1
      rw [s3] at z
      cases z
  have oldU : ∀ a, a < h.1 → hx_U h1 a → hx_U h a := fun a la u => by
    rcases u with u | u | ⟨E, u1, u2, u3, u4⟩
    · exact Or.inl u
    · exact Or.inr (Or.inl u)
    · have lE : E < h.1 := by omega
      have e := (ed E lE).1 u3
      obtain ⟨l', t', u', x⟩ := W.2.1 E u1 lE e
      exact Or.inr (Or.inr ⟨E, u1, x.1, e, u4⟩)
  have hxE : ∀ E, 130 ≤ E → E < h.1 → hx_ed h E → (∀ j, h1.2.2.2 E j = h.2.2.2 E j) ∧ (∀ j, h1.2.2.2 (E + 1) j = h.2.2.2 (E + 1) j) ∧ (∀ j, h1.2.2.2 (E + 2) j = h.2.2.2 (E + 2) j) ∧ (∀ j, h1.2.2.2 (E + 3) j = h.2.2.2 (E + 3) j) := fun E a b e => by
    obtain ⟨l', t', u', x1, x2, x3, x4, -⟩ := W.2.1 E a b e
    have z0 : E ≠ s := fun z => by
      have y := e.2
      rw [z, o3] at y
      cases y
    have z1 : E ≠ D := fun z => by
      have y := e.1
      rw [z, D3] at y
      cases y
    have y1 : E + 1 ≠ s := fun z => by
      have y := x2.1
      rw [z, o3] at y
      cases y
    have y2 : E + 2 ≠ s := fun z => by
      have y := x3
      rw [z, o3] at y
      cases y
    have y3 : E + 3 ≠ s := fun z => by
      rw [z, o3] at x4
      cases x4
    have nU : ∀ k, 1 ≤ k → k ≤ 3 → E + k ≠ D := fun k k1 k2 z => by
      have u : hx_U h D := Or.inr (Or.inr ⟨E, a, x1, e, by omega⟩)
      have y := (W.1.2.2.1 s 7 D o2 (fun _ => by rw [o3]; decide) s7 u).2
      rw [o3] at y
      cases y
    exact ⟨fun j => hv E j a b (Or.inl z0) (Or.inl z1), fun j => hv _ j (by omega) (by omega) (Or.inl y1) (Or.inl (nU 1 (by decide) (by decide))), fun j => hv _ j (by omega) (by omega) (Or.inl y2) (Or.inl (nU 2 (by decide) (by decide))), fun j => hv _ j (by omega) (by omega) (Or.inl y3) (Or.inl (nU 3 (by decide) (by decide)))⟩
  have keep : ∀ E, 130 ≤ E → E < h.1 → hx_ed h E → ∀ l t u, hx_E h E l t u → hx_E h1 E l t u := fun E a b e l t u x => by
    obtain ⟨q0, -, -, q3⟩ := hxE E a b e
    exact hx_E_same x (by omega) so q0 q3
  have newE : hx_E h1 h.1 l t u := by
    refine ⟨by omega, by rw [s1]; exact ⟨rfl, rfl⟩, by rw [s2], s3, by rw [nv _ _ (Nat.le_refl _)]; exact k9, by rw [nv _ _ (Nat.le_refl _)]; exact k10, by rw [nv _ _ (Nat.le_refl _)]; exact k11, by rw [nv _ _ (Nat.le_refl _)]; exact k12, by rw [nv _ _ (Nat.le_refl _)]; exact k13, by rw [nv _ _ (Nat.le_refl _)]; exact k14, hl, 0, 0, by rw [nv _ _ (Nat.le_refl _)]; exact k15, by rw [nv _ _ (Nat.le_refl _)]; exact k16, by decide, by decide, fun z => absurd z (by decide)⟩
  refine ⟨⟨⟨fun a ua => ?_, fun a ha => ?_, fun a j x ha hj e ux => ?_, fun a hl ha => ?_⟩, fun E a b e => ?_, r⟩, ⟨by omega, so, fun E a b e => ?_⟩, newE⟩
  · by_cases la : a < h.1
    · have z := W.1.1 a (oldU a la ua)
      rw [so a la]
      exact ⟨z.1, by omega, z.2.2⟩
    · rcases ua with u | u | ⟨E, u1, u2, u3, u4⟩
      · omega
      · omega
      · have eE : E = h.1 := by
          by_cases lE : E < h.1
          · obtain ⟨l', t', u', x⟩ := W.2.1 E u1 lE ((ed E lE).1 u3)
            have := x.1
            omega
          · exact edn E (by omega) (by omega) u3
        subst eE
        refine ⟨by omega, by omega, Or.inl ?_⟩
        rcases u4 with rfl | rfl | rfl
        · rw [s1]
        · rw [s2]
        · rw [s3]
  · by_cases la : a < h.1
    · rw [so a la]
      intro y1 y2
      have v := W.1.2.1 a la y1 y2
      refine ⟨v.1, fun k3 => ?_, v.2.2⟩
      rcases v.2.1 k3 with w | w
      · exact Or.inl w
      · exact Or.inr ⟨w.1, by omega⟩
    · intro y1 y2
      rw [n1] at ha
      have ea : a = h.1 ∨ a = h.1 + 1 ∨ a = h.1 + 2 ∨ a = h.1 + 3 := by omega
      rcases ea with rfl | rfl | rfl | rfl
      · rw [sE]
        exact ⟨fun z => absurd z (by decide), fun _ => Or.inr ⟨lo, by omega⟩, fun z => absurd z (by decide)⟩
      · rw [s1] at y1
        cases y1
      · rw [s2] at y1
        cases y1
      · rw [s3] at y1
        cases y1
  · by_cases la : a < h.1
    · rw [so a la] at hj ⊢
      by_cases p1 : (a ≠ 41 ∨ j ≠ 1) ∧ (a ≠ s ∨ j ≠ 6) ∧ (a ≠ D ∨ j ≠ c)
      · rw [vo a j p1.1 p1.2.1 p1.2.2, k4 a j la] at e
        have e' : h.2.2.2 a j = .ref x := by
          by_cases p2 : a = 41 ∨ a = 54 ∨ a = 55 ∨ a = 56
          · have hj' : j < (cq_fix a).2.2 := by
              rw [← I.fx a (by omega) (by omega)]
              exact hj (by omega)
            have tf : H.2.2.2 a j = h.2.2.2 a j ∨ ∀ b, H.2.2.2 a j ≠ .ref b := by
              rcases p2 with rfl | rfl | rfl | rfl
              · exact hx_tf I IH F44 (by decide) (by decide) (by decide +kernel) hj'
              · exact hx_tf I IH F44 (by decide) (by decide) (by decide +kernel) hj'
              · exact hx_tf I IH F44 (by decide) (by decide) (by decide +kernel) hj'
              · exact hx_tf I IH F44 (by decide) (by decide) (by decide +kernel) hj'
            rcases tf with z | z
            · exact z.symm.trans e
            · exact absurd e (z x)
          · exact (frH a j (by omega) (by omega) (by omega) (by omega)).symm.trans e
        exact W.1.2.2.1 a j x la hj e' (oldU x (zd_cl I W.1.2.2.2 RK la hj e') ux)
      · exfalso
        rw [e1] at e
        by_cases q1 : a = 41 ∧ j = 1
        · obtain ⟨rfl, rfl⟩ := q1
          rw [ax_put_s] at e
          cases e
        · rw [ax_put_o (by omega) rfl] at e
          by_cases q2 : a = s ∧ j = 6
          · obtain ⟨rfl, rfl⟩ := q2
            rw [ax_put_s] at e
            cases e
          · rw [ax_put_o (by omega) rfl] at e
            have q3 : a = D ∧ j = c := by omega
            obtain ⟨rfl, rfl⟩ := q3
            rw [ax_put_s] at e
            cases e
            rcases ux with u | u | ⟨E, u1, u2, u3, u4⟩
            · omega
            · omega
            · have lE : E < h.1 := by omega
              obtain ⟨l', t', u', x⟩ := W.2.1 E u1 lE ((ed E lE).1 u3)
              have := x.1
              omega
    · rw [nv a j (by omega)] at e
      rw [n1] at ha
      have ea : a = h.1 ∨ a = h.1 + 1 ∨ a = h.1 + 2 ∨ a = h.1 + 3 := by omega
      rcases ea with rfl | rfl | rfl | rfl
      · rw [sE]
        refine ⟨rfl, ?_⟩
        have hj3 : j < 3 := by
          by_cases z : 3 ≤ j
          · exact absurd e (k19 j x z)
          · omega
        have hj3 : j = 0 ∨ j = 1 ∨ j = 2 := by omega
        rcases hj3 with rfl | rfl | rfl <;> rfl
      · exact absurd e (k20 1 j x (by decide) (by decide))
      · exact absurd e (k20 2 j x (by decide) (by decide))
      · exact absurd e (k20 3 j x (by decide) (by decide))
  · by_cases la : a < h.1
    · rw [so a la]
      exact W.1.2.2.2 a hl la
    · rw [n1] at ha
      have ea : a = h.1 ∨ a = h.1 + 1 ∨ a = h.1 + 2 ∨ a = h.1 + 3 := by omega
      unfold zd_kd
      rcases ea with rfl | rfl | rfl | rfl
      · rw [sE]
        show (Nat.beq 10 (am_N 3) && (Nat.blt h.1 130 || zd_ko 3)) = true
        rw [show zd_ko 3 = true from rfl, Bool.or_true]
        rfl
      · rw [s1]
        show (Nat.blt _ 130 || zd_kr 3) = true
        rw [show zd_kr 3 = true from rfl, Bool.or_true]
      · rw [s2]
        show (Nat.blt _ 130 || zd_kr 0) = true
        rw [show zd_kr 0 = true from rfl, Bool.or_true]
      · rw [s3]
        show (Nat.blt _ 130 || zd_kr 0) = true
        rw [show zd_kr 0 = true from rfl, Bool.or_true]
  · by_cases lE : E < h.1
    · obtain ⟨l', t', u', x⟩ := W.2.1 E a lE ((ed E lE).1 e)
      exact ⟨l', t', u', keep E a lE ((ed E lE).1 e) l' t' u' x⟩
    · have eE := edn E (by omega) b e
      subst eE
      exact ⟨l, t, u, newE⟩
  · obtain ⟨-, q1, q2, -⟩ := hxE E a b e
    exact ⟨q1, q2, keep E a b e⟩
/-- both heaps behind a new edition -/
theorem ed_ok (W : rWW h) (RK : rK h) (B : rbV h) (I : cq_Inv none h) (I1 : cq_Inv none h1) (I2 : cq_Inv none h2) (F1 : cq_Fr ct_43.2.2.2.1 h h1) (F2 : cq_Fr ct_189.2.2.2.1 h1 h2) (n2 : h2.1 ≤ h1.1) (IH : cq_Inv none H) (szH : H.1 = h.1 ∧ H.2.2.1 = h.2.2.1) (frH : ∀ c j, c ≠ 41 → c ≠ 54 → c ≠ 55 → c ≠ 56 → H.2.2.2 c j = h.2.2.2 c j) (F44 : cq_Fr ct_44.2.2.2.1 h H) (T0 : st 0 = 0) (T1 : ∀ i, i < l → st i < st (i + 1) ∧ st (i + 1) ≤ st i + 8 ∧ st (i + 1) ≤ st l) (T3 : ∀ i, i < l → M.2.2.2 94 (i + 3600) = iv ((st (i + 1) : Int) - (st i : Int))) (T4 : ∀ i k, i < l → st i + k < st (i + 1) → wT (H.2.2.2 55 (st i + k)) (M.2.2.2 95 (8 * i + k + 28800))) (T8 : ∀ i, i < l → M.2.2.2 97 (i + 3600) = iv (b2 (bt t i))) (T10 : ∀ i, i < l → i < 30 → M.2.2.2 96 (i + 3600) = iv (b2 (bt u i))) (T11 : (∀ i, i < 32 → l ≤ i → bt u i = false) ∧ bt u 0 = true) (k47 : ed47 H K (st l) l st t u) (e1 : h1 = am_put (am_put (am_put K D c (.ref H.1)) s 6 (iv ((c : Int) + 1))) 41 1 (iv 0)) (hl : 1 ≤ l ∧ l ≤ 30) (m8 : h.2.2.2 40 8 = .int m) (hP : (P : Int) < m.toInt) (es : h.2.2.2 73 P = .ref s) (s7 : h.2.2.2 s 7 = .ref D) (s6 : h.2.2.2 s 6 = iv c) (hc : c ≤ 2) (frM : ∀ c j, c ≠ 78 → (c ≠ 93 ∨ j ≠ 120) → (c < 94 ∨ 97 < c ∨ (c ≠ 95 ∧ j < 3600) ∨ (c = 95 ∧ j < 28800)) → M.2.2.2 c j = h1.2.2.2 c j) (v2 : ∀ c' j, h2.2.2.2 c' j = if c' = 92 ∧ j = P then iv ((c : Int) + 1) else cV (am_put M 93 (3 * P + c) (iv l)) (3 * P + c) 30 240 c' j) : rWW h2 := by
  obtain ⟨⟨W, X⟩, Z⟩ := W
  have lo := I.lo
  have bm := rp_bm I m8
  have ks := rp_obj I (p := P) (by omega) es
  obtain ⟨D', d7, kD'⟩ := po_q I (p := P) (by omega) es
  have eD : D = D' := by
    have z := d7
    rw [s7] at z
    exact Value.ref.inj z
  have kD : 130 ≤ D ∧ D < h.1 ∧ h.2.2.1 D = (1, 7, 3) := by
    rw [eD]
    exact kD'
  have B1 : rbV h1 := rbV_fr I F1 (by decide +kernel) B
  have B2 : rbV h2 := rbV_fr I1 F2 (by decide +kernel) B1
  obtain ⟨W1, S1, NE⟩ := ed_W W RK I I1 IH (rb_r B1) szH frH F44 k47 e1 hl ks s7 kD
  obtain ⟨W2, Q2⟩ := hx_frT W1 I1 I2 F2 (Nat.le_antisymm n2 F2.nx) (by decide +kernel) (rb_r B2)
  have S2 := eS.oy W1 Q2
  refine ⟨⟨W2, ?_⟩, rZ_fr I1 F2 (by decide +kernel) (rZ_fr I F1 (by decide +kernel) Z)⟩
  obtain ⟨o1, o2, o3⟩ := ks
  obtain ⟨k1, k2, k3, k4, ⟨k5, k6, k7, k8⟩, -, -, k17, k18, -, -⟩ := k47
  rw [szH.1] at k2 k3 k4 k5 k6 k7 k8 k17 k18 e1
  have vo : ∀ a j, (a ≠ 41 ∨ j ≠ 1) → (a ≠ s ∨ j ≠ 6) → (a ≠ D ∨ j ≠ c) → h1.2.2.2 a j = K.2.2.2 a j := fun a j n1 n2 n3 => by
    rw [e1]
    exact ax_put_o n1 (ax_put_o n2 (ax_put_o n3 rfl))
  have hv : ∀ a j, 130 ≤ a → a < h.1 → (a ≠ s ∨ j ≠ 6) → (a ≠ D ∨ j ≠ c) → h1.2.2.2 a j = h.2.2.2 a j := fun a j p q n2 n3 => by
    rw [vo a j (by omega) n2 n3, k4 a j q, frH a j (by omega) (by omega) (by omega) (by omega)]
  have c2 : ∀ a j, (a < 92 ∨ 97 < a) → a ≠ 78 → h2.2.2.2 a j = h1.2.2.2 a j := fun a j n1 n2 => by
    rw [v2, if_neg (by omega), cV_o (by omega) (by omega), ax_put_o (Or.inl (by omega)) rfl]
    exact frM a j n2 (Or.inl (by omega)) (by omega)
  have sD : s ≠ D := fun z => by
    have y := o3
    rw [z, kD.2.2] at y
    cases y
  have F93 : ∀ c j, 93 ≤ c → c ≤ 97 → h1.2.2.2 c j = h.2.2.2 c j := fun c j a b => by
    have hc : c = 93 ∨ c = 94 ∨ c = 95 ∨ c = 96 ∨ c = 97 := by omega
    rcases hc with rfl | rfl | rfl | rfl | rfl <;> exact lw_frA F1 lo (by decide) (by decide +kernel) j
  -- a text of before
  have old : ∀ z E l t u st, rX1 h z E l t u st → z < 120 → z ≠ 3 * P + c → rX1 h2 z E l t u st := fun z E l t u st x z1 z2 => by
    refine (x.s S1 (fun c j a b _ _ _ => F93 c j a b)).s S2 fun a j a1 a2 j1 j2 j3 => ?_
    rw [v2, if_neg (by omega), cV_o (fun y => by have := j2 (by omega) (by omega); omega) (fun y => by have := j3 y.1; omega)]
    have q1 : a = 93 → j = z := j1
    rw [ax_put_o (by omega) rfl]
    refine frM a j (by omega) (by omega) ?_
    by_cases y1 : a = 93
    · omega
    · by_cases y2 : a = 95
      · have := j3 y2
        omega
      · have := j2 y1 y2
        omega
  intro k p s' qq v8 hp es' e7 e cc e6 hcc hec
  rw [c2 40 8 (by decide) (by decide)] at v8
  rw [lw_frF F1 lo (by decide) (by decide +kernel), m8] at v8
  cases v8
  rw [c2 73 p (by decide) (by decide), lw_frA F1 lo (by decide) (by decide +kernel)] at es'
  obtain ⟨p1, p2, p3⟩ := rp_obj I (p := p) (by omega) es'
  have q7 : h1.2.2.2 s' 7 = h.2.2.2 s' 7 := hv s' 7 p1 p2 (Or.inr (by decide)) (Or.inl fun z => by
    have y := p3
    rw [z, kD.2.2] at y
    cases y)
  rw [c2 s' 7 (by omega) (by omega), q7] at e7
  rw [c2 s' 6 (by omega) (by omega)] at e6
  by_cases ep : p = P
  · have es2 : s = s' := by
      rw [ep, es] at es'
      exact Value.ref.inj es'
    rw [← es2] at e6 e7
    have eq2 : D = qq := by
      rw [s7] at e7
      exact Value.ref.inj e7
    rw [← eq2, ep]
    have w6 : h1.2.2.2 s 6 = iv ((c : Int) + 1) := by
      rw [e1]
      exact ax_put_o (Or.inl (by omega)) (ax_put_s _ _ _)
    rw [w6] at e6
    have ec : cc = c + 1 := by
      have z := congrArg (fun v => match v with | Value.int x => x.toInt | _ => 0) e6
      have z : (Int32.ofInt ((c : Int) + 1)).toInt = (Int32.ofInt (cc : Int)).toInt := z
      rw [fx_ti (by omega), fx_ti (by omega)] at z
      omega
    by_cases ee : e = c
    · rw [ee]
      have eDc : h2.2.2.2 D c = .ref h.1 := by
        rw [c2 D c (by omega) (by omega), e1]
        exact ax_put_o (Or.inl (by omega)) (ax_put_o (Or.inl (fun z => sD z.symm)) (ax_put_s _ _ _))
      have E2 : hx_ed h1 h.1 := by
        unfold hx_ed
        rw [e1]
        show (K.2.2.1 h.1).1 = 0 ∧ (K.2.2.1 h.1).2.1 = 3
        rw [k5]
        exact ⟨rfl, rfl⟩
      have n1 : h1.1 = h.1 + 4 := by rw [e1]; exact k2
      obtain ⟨g1, g2, g3⟩ := S2.2.2 h.1 lo (by omega) E2
      have sh : ∀ a, a < h1.1 → h2.2.2.1 a = K.2.2.1 a := fun a b => by rw [S2.2.1 a b, e1]; rfl
      refine ⟨h.1, l, t, u, st, eDc, ⟨lo, Nat.lt_of_lt_of_le (by omega) S2.1, ?_⟩, g3 l t u NE, ⟨T0, fun i hi => ⟨(T1 i hi).1, (T1 i hi).2.1⟩⟩, ⟨by rw [sh _ (by omega)]; exact k6, by rw [sh _ (by omega)]; exact k7⟩, fun i hi => ?_, ?_, fun i hi => ?_, fun i k hi hk => ?_, fun i hi => ?_, fun i hi => ?_, T11⟩
      · unfold hx_ed
        rw [sh _ (by omega), k5]
        exact ⟨rfl, rfl⟩
      · rw [g2, vo _ _ (by omega) (by omega) (by omega)]
        exact k18 i hi
      · rw [v2, if_neg (by omega), cV_o (by omega) (by omega)]
        exact ax_put_s _ _ _
      · rw [v2, if_neg (by omega), cV_3 (Or.inl rfl) (by omega), ax_put_o (Or.inl (by decide)) rfl]
        exact T3 i hi
      · have b := T1 i hi
        rw [g1, vo _ _ (by omega) (by omega) (by omega), k17 _ (by omega), v2, if_neg (by omega), show 8 * (30 * (3 * P + c) + i) + k = 240 * (3 * P + c) + (8 * i + k) by omega, cV_5 (by omega), ax_put_o (Or.inl (by decide)) rfl]
        exact T4 i k hi hk
      · rw [v2, if_neg (by omega), cV_3 (Or.inr (Or.inr rfl)) (by omega), ax_put_o (Or.inl (by decide)) rfl]
        exact T8 i hi
      · rw [v2, if_neg (by omega), cV_3 (Or.inr (Or.inl rfl)) (by omega), ax_put_o (Or.inl (by decide)) rfl]
        exact T10 i hi (by omega)
    · obtain ⟨E, l', t', u', st', x1, x2⟩ := X _ P s D m8 hP es s7 e c s6 (by omega) (by omega)
      refine ⟨E, l', t', u', st', ?_, old _ _ _ _ _ _ x2 (by omega) (by omega)⟩
      rw [c2 D e (by omega) (by omega), hv D e kD.1 kD.2.1 (Or.inl (fun z => sD z.symm)) (Or.inr ee)]
      exact x1
  · obtain ⟨q', r7, r1, r2, r3⟩ := po_q I (p := p) (by omega) es'
    have eq2 : q' = qq := by
      rw [r7] at e7
      exact Value.ref.inj e7
    rw [← eq2]
    have ns : s' ≠ s := fun z => by
      rw [z] at es'
      exact (Z _ p P s s m8 hp hP ep es' es).1 rfl
    have nD : q' ≠ D := fun z => by
      rw [z] at r7
      exact (Z _ p P s' s m8 hp hP ep es' es).1 (r7.trans s7.symm)
    rw [hv s' 6 p1 p2 (Or.inl ns) (Or.inl fun z => by
      have y := p3
      rw [z, kD.2.2] at y
      cases y)] at e6
    obtain ⟨E, l', t', u', st', x1, x2⟩ := X _ p s' q' m8 hp es' r7 e cc e6 hcc hec
    refine ⟨E, l', t', u', st', ?_, old _ _ _ _ _ _ x2 (by omega) (by omega)⟩
    rw [c2 q' e (by omega) (by omega), hv q' e r1 r2 (Or.inl fun z => by
      have y := o3
      rw [← z, r3] at y
      cases y) (Or.inl nD)]
    exact x1
end EOK
