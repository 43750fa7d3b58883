/-! THE CHECKER, 13: a place is written: what stays -/
theorem cq_put_v (h : am_H) (c j : Nat) (v : Value) (a b : Nat) : (am_put h c j v).2.2.2 a b = if a = c then (if b = j then v else h.2.2.2 a b) else h.2.2.2 a b := rfl
theorem cq_put_ne {h : am_H} {c j : Nat} {v : Value} {a b : Nat} (q : a ≠ c ∨ b ≠ j) : (am_put h c j v).2.2.2 a b = h.2.2.2 a b := by
  rw [cq_put_v]
  by_cases e : a = c
  · rw [if_pos e]
    rcases q with q | q
    · exact absurd e q
    · rw [if_neg q]
  · rw [if_neg e]
theorem cq_put_eq {h : am_H} {c j : Nat} {v : Value} : (am_put h c j v).2.2.2 c j = v := by
  rw [cq_put_v, if_pos rfl, if_pos rfl]
theorem cq_n_ne {h : am_H} {c j : Nat} {v : Value} {a b : Nat} (q : a ≠ c ∨ b ≠ j) : cq_n (am_put h c j v) a b = cq_n h a b := by
  unfold cq_n
  rw [cq_put_ne q]
theorem cq_kOk_put {h : am_H} {c j : Nat} {v : Value} {a : Nat} {k : cq_Kd} : cq_kOk (am_put h c j v) a k ↔ cq_kOk h a k := by
  obtain ⟨t, x, y⟩ := k
  rcases t with _ | _ | t <;> exact Iff.rfl
/-- the counts grow -/
def cq_gr (h h' : am_H) : Prop := (∀ a k, cq_kOk h a k → cq_kOk h' a k) ∧ cq_n h 40 13 ≤ cq_n h' 40 13
theorem cq_ht_gr {h h' : am_H} {j : Nat} {t : cq_T} {v : Value} (G : cq_gr h h') (hp : t.1 = 11 → v = .null → cq_n h t.2.2.2.2.1 t.2.2.2.2.2 ≤ j → cq_n h' t.2.2.2.2.1 t.2.2.2.2.2 ≤ j) (q : cq_ht h j t v) : cq_ht h' j t v := by
  obtain ⟨n, l, u, a, b, c⟩ := t
  rcases n with _ | _ | _ | _ | _ | _ | _ | _ | _ | _ | _ | _ | n
  · exact q
  · exact q
  · exact q
  · exact q
  · obtain ⟨x, e, k⟩ := q
    exact ⟨x, e, G.1 _ _ k⟩
  · rcases q with q | ⟨x, e, k⟩
    · exact Or.inl q
    · exact Or.inr ⟨x, e, G.1 _ _ k⟩
  · obtain ⟨x, e, k⟩ := q
    exact ⟨x, e, G.1 _ _ k⟩
  · exact q
  · obtain ⟨x, e, b1, b2, b3⟩ := q
    refine ⟨x, e, b1, b2, Int.le_trans b3 ?_⟩
    exact Int.mul_le_mul_of_nonneg_left G.2 (Int.natCast_nonneg a)
  · obtain ⟨x, e, b1, b2, b3⟩ := q
    refine ⟨x, e, b1, b2, ?_⟩
    have := G.2
    omega
  · exact q
  · rcases q with ⟨q1, q2⟩ | ⟨x, e, k⟩
    · exact Or.inl ⟨q1, hp rfl q1 q2⟩
    · exact Or.inr ⟨x, e, G.1 _ _ k⟩
  · exact q.elim
theorem cq_obp : ∀ c, c < 130 → 40 ≤ c → (cq_fix c).1 = 0 → ∀ w, w < (cq_fix c).2.2 → cq_pre11 (cq_ob c w) = true := by decide +kernel
/-- the types with a count speak of the two counts alone -/
theorem cq_tyOf11 {x : Option Nat} {h : am_H} (I : cq_Inv x h) {c j : Nat} (h40 : 40 ≤ c) (hlt : c < h.1) (hj : j < (h.2.2.1 c).2.2) : cq_pre11 (cq_tyOf c (h.2.2.1 c) j) = true := by
  unfold cq_tyOf
  cases hb : Nat.blt c 130 with
  | true =>
    have b2 : c < 130 := Nat.le_of_ble_eq_true hb
    simp only [cond_true]
    unfold cq_ty
    cases hA : cq_isA c with
    | true =>
      simp only [cond_true]
      cases ((Nat.beq c 81 || Nat.beq c 83) && Nat.beq j 1) with
      | true => rfl
      | false => exact cq_p11a c b2
    | false =>
      simp only [cond_false]
      rw [I.fx c h40 b2] at hj
      rcases cq_fix_ok c b2 h40 with z | z
      · exact cq_obp c b2 h40 z.1 j hj
      · unfold cq_isA at hA
        rw [z] at hA
        cases hA
  | false =>
    simp only [cond_false]
    have b2 : 130 ≤ c := by
      rcases Nat.lt_or_ge c 130 with z | z
      · rw [show Nat.blt c 130 = true from Nat.ble_eq_true_of_le z] at hb; cases hb
      · exact z
    rcases I.dy c b2 hlt with ⟨k, z⟩ | z
    · rw [z] at hj ⊢
      simp only [Nat.beq_refl, cond_true]
      dsimp only at hj
      by_cases hx : k < 14
      · by_cases hw : j < 100
        · exact cq_p11o k hx j hw
        · exfalso
          have : ∀ x, x < 14 → am_N x ≤ 100 := by decide +kernel
          have := this k hx
          omega
      · exfalso
        have e0 : am_N k = 0 := by
          unfold am_N
          have : vwCl[k]? = none := List.getElem?_eq_none_iff.2 (by show 14 ≤ k; omega)
          rw [this]
        rw [e0] at hj
        omega
    · rw [z.1]
      show cq_pre11 (cq_at (h.2.2.1 c).2.1) = true
      unfold cq_at
      cases Nat.beq (h.2.2.1 c).2.1 0 with
      | true => rfl
      | false =>
        cases Nat.beq (h.2.2.1 c).2.1 3 with
        | true => rfl
        | false =>
          cases Nat.beq (h.2.2.1 c).2.1 7 with
          | true => rfl
          | false => rfl
theorem cq_pre11_c {t : cq_T} (q : cq_pre11 t = true) (e : t.1 = 11) : (t.2.2.2.2.1 = 40 ∧ t.2.2.2.2.2 = 13) ∨ (t.2.2.2.2.1 = 48 ∧ t.2.2.2.2.2 = 1) := by
  unfold cq_pre11 at q
  rw [e] at q
  have q : cq_cok t.2.2.2.2.1 t.2.2.2.2.2 = true := q
  rcases Bool.or_eq_true _ _ ▸ q with z | z
  · have z := (Bool.and_eq_true _ _ ▸ z)
    exact Or.inl ⟨am_beq z.1, am_beq z.2⟩
  · have z := (Bool.and_eq_true _ _ ▸ z)
    exact Or.inr ⟨am_beq z.1, am_beq z.2⟩
theorem cq_ar40 : ∀ c, c < 130 → 40 ≤ c → (cq_ar c).1 = 11 → (cq_ar c).2.2.2.2.1 = 40 → c = 74 ∧ (cq_fix c).2.2 = 14 := by decide +kernel
theorem cq_ar48 : ∀ c, c < 130 → 40 ≤ c → (cq_ar c).1 = 11 → (cq_ar c).2.2.2.2.1 = 48 → c = 49 ∧ (cq_fix c).2.2 = 80 := by decide +kernel
/-- a write of a value of the place's type keeps everything: the general case, and what must be looked at -/
theorem cq_Inv_put {x : Option Nat} {h : am_H} (I : cq_Inv x h) {c j : Nat} {v : Value} (h40 : 40 ≤ c) (hlt : c < h.1)
    (ht : some c ≠ x → cq_ht h j (cq_tyOf c (h.2.2.1 c) j) v)
    (hcc : c = 40 → j = 13 → ∃ a : Int32, v = .int a ∧ cq_n h 40 13 ≤ a.toInt ∧ ∀ i : Nat, i < a.toInt → i < 14 → cq_n h 40 13 ≤ i → h.2.2.2 74 i ≠ .null)
    (hlc : c = 48 → j = 1 → ∃ a : Int32, v = .int a ∧ cq_n h 48 1 ≤ a.toInt ∧ ∀ i : Nat, i < a.toInt → i < 80 → cq_n h 48 1 ≤ i → h.2.2.2 49 i ≠ .null)
    (hli : c = 93 → 120 ≤ j) (hst : c = 96 → 3600 ≤ j) (hed : c ≠ 92) : cq_Inv x (am_put h c j v) := by
  have gn : cq_n h 40 13 ≤ cq_n (am_put h c j v) 40 13 := by
    by_cases e : c = 40 ∧ j = 13
    · obtain ⟨e1, e2⟩ := e
      obtain ⟨a, ea, k, -⟩ := hcc e1 e2
      subst e1
      subst e2
      have : cq_n (am_put h 40 13 v) 40 13 = a.toInt := by unfold cq_n; rw [cq_put_eq, ea]
      omega
    · rw [cq_n_ne (by omega)]
      exact Int.le_refl _
  have gn2 : cq_n h 48 1 ≤ cq_n (am_put h c j v) 48 1 := by
    by_cases e : c = 48 ∧ j = 1
    · obtain ⟨e1, e2⟩ := e
      obtain ⟨a, ea, k, -⟩ := hlc e1 e2
      subst e1
      subst e2
      have : cq_n (am_put h 48 1 v) 48 1 = a.toInt := by unfold cq_n; rw [cq_put_eq, ea]
      omega
    · rw [cq_n_ne (by omega)]
      exact Int.le_refl _
  have G : cq_gr h (am_put h c j v) := ⟨fun a k q => cq_kOk_put.2 q, gn⟩
  refine ⟨I.lo, I.fx, ?_, ?_, I.dy, ?_, ?_⟩
  · intro c' b1 b2
    obtain ⟨k1, k2⟩ := I.sv c' b1 b2
    refine ⟨k1, fun j' hj' => ?_⟩
    rw [cq_put_ne (Or.inl (by omega))]
    exact k2 j' hj'
  · obtain ⟨k1, k2, k3, k4⟩ := I.sc
    refine ⟨k1, k2, k3, fun j' hj' => ?_⟩
    rw [cq_put_ne (Or.inl (by omega))]
    exact k4 j' hj'
  · intro c' b1 b2 nx j' hj'
    replace b2 : c' < h.1 := b2
    replace hj' : j' < (h.2.2.1 c').2.2 := hj'
    have h11 := cq_tyOf11 I b1 b2 hj'
    show cq_ht (am_put h c j v) j' (cq_tyOf c' (h.2.2.1 c') j') _
    by_cases e : c' = c ∧ j' = j
    · obtain ⟨e1, e2⟩ := e
      subst e1
      subst e2
      rw [cq_put_eq]
      refine cq_ht_gr G (fun t11 ev hle => ?_) (ht nx)
      rcases cq_pre11_c h11 t11 with ⟨z1, z2⟩ | ⟨z1, z2⟩
      · rw [z1, z2] at hle ⊢
        rw [cq_n_ne (by
          rcases Nat.decEq c' 40 with z | z
          · exact Or.inl (fun y => z y.symm)
          · exfalso
            subst z
            rw [I.fx 40 (by omega) (by omega)] at t11 hj'
            have : ∀ w, w < (cq_fix 40).2.2 → (cq_tyOf 40 (cq_fix 40) w).1 ≠ 11 := by decide +kernel
            exact this j' hj' t11)]
        exact hle
      · rw [z1, z2] at hle ⊢
        rw [cq_n_ne (by
          rcases Nat.decEq c' 48 with z | z
          · exact Or.inl (fun y => z y.symm)
          · exfalso
            subst z
            rw [I.fx 48 (by omega) (by omega)] at t11 hj'
            have : ∀ w, w < (cq_fix 48).2.2 → (cq_tyOf 48 (cq_fix 48) w).1 ≠ 11 := by decide +kernel
            exact this j' hj' t11)]
        exact hle
    · have ev := cq_put_ne (h := h) (v := v) (show c' ≠ c ∨ j' ≠ j by omega)
      rw [ev]
      refine cq_ht_gr G (fun t11 en hle => ?_) (I.ty c' b1 b2 nx j' hj')
      have hpl : ∀ cn, (cq_tyOf c' (h.2.2.1 c') j').2.2.2.2.1 = cn → (cq_tyOf c' (h.2.2.1 c') j').1 = 11 → (cn = 40 → c' = 74 ∧ j' < 14) ∧ (cn = 48 → c' = 49 ∧ j' < 80) := fun cn ecn t11 => by
        have hlo : c' < 130 := by
          rcases Nat.lt_or_ge c' 130 with z | z
          · exact z
          · exfalso
            have hb : Nat.blt c' 130 = false := by
              cases hh : Nat.blt c' 130 with
              | false => rfl
              | true => have : c' < 130 := Nat.le_of_ble_eq_true hh; omega
            unfold cq_tyOf at t11
            rw [hb] at t11
            simp only [cond_false] at t11
            rcases I.dy c' z b2 with ⟨k, zz⟩ | zz
            · rw [zz] at t11 hj'
              simp only [Nat.beq_refl, cond_true] at t11
              dsimp only at hj'
              by_cases hx : k < 14
              · have hN : ∀ x, x < 14 → am_N x ≤ 100 := by decide +kernel
                have hn := hN k hx
                have : ∀ k, k < 14 → ∀ j, j < 100 → (cq_cl k j).1 ≠ 11 := by decide +kernel
                exact this k hx j' (by omega) t11
              · have e0 : am_N k = 0 := by
                  unfold am_N
                  have : vwCl[k]? = none := List.getElem?_eq_none_iff.2 (by show 14 ≤ k; omega)
                  rw [this]
                rw [e0] at hj'
                omega
            · rw [zz.1] at t11
              have t11 : (cq_at (h.2.2.1 c').2.1).1 = 11 := t11
              unfold cq_at at t11
              cases h1 : Nat.beq (h.2.2.1 c').2.1 0 with
              | true => rw [h1] at t11; cases t11
              | false =>
                cases h2 : Nat.beq (h.2.2.1 c').2.1 3 with
                | true => rw [h1, h2] at t11; cases t11
                | false =>
                  cases h3 : Nat.beq (h.2.2.1 c').2.1 7 with
                  | true => rw [h1, h2, h3] at t11; cases t11
                  | false => rw [h1, h2, h3] at t11; cases t11
        have hb : Nat.blt c' 130 = true := Nat.ble_eq_true_of_le hlo
        unfold cq_tyOf at t11 ecn
        rw [hb] at t11 ecn
        simp only [cond_true] at t11 ecn
        rw [I.fx c' b1 hlo] at hj'
        unfold cq_ty at t11 ecn
        cases hA : cq_isA c' with
        | true =>
          rw [hA] at t11 ecn
          simp only [cond_true] at t11 ecn
          cases hs : ((Nat.beq c' 81 || Nat.beq c' 83) && Nat.beq j' 1) with
          | true => rw [hs] at t11; cases t11
          | false =>
            rw [hs] at t11 ecn
            simp only [cond_false] at t11 ecn
            have p1 := cq_ar40 c' hlo b1 t11
            have p2 := cq_ar48 c' hlo b1 t11
            refine ⟨fun z => ?_, fun z => ?_⟩
            · obtain ⟨y1, y2⟩ := p1 (ecn.trans z)
              exact ⟨y1, by omega⟩
            · obtain ⟨y1, y2⟩ := p2 (ecn.trans z)
              exact ⟨y1, by omega⟩
        | false =>
          rw [hA] at t11
          simp only [cond_false] at t11
          exfalso
          have : ∀ c, c < 130 → 40 ≤ c → cq_isA c = false → ∀ w, w < (cq_fix c).2.2 → (cq_ob c w).1 ≠ 11 := by decide +kernel
          exact this c' hlo b1 hA j' hj' t11
      rcases cq_pre11_c h11 t11 with ⟨z1, z2⟩ | ⟨z1, z2⟩
      · obtain ⟨y1, y2⟩ := (hpl _ rfl t11).1 z1
        rw [z1, z2] at hle ⊢
        by_cases e2 : c = 40 ∧ j = 13
        · obtain ⟨e3, e4⟩ := e2
          obtain ⟨a, ea, k1, k2⟩ := hcc e3 e4
          subst e3
          subst e4
          have ecn : cq_n (am_put h 40 13 v) 40 13 = a.toInt := by unfold cq_n; rw [cq_put_eq, ea]
          rw [ecn]
          rcases (show a.toInt ≤ (j' : Int) ∨ (j' : Int) < a.toInt by omega) with w | w
          · exact w
          · subst y1
            exact absurd en (k2 j' w y2 hle)
        · rw [cq_n_ne (by omega)]
          exact hle
      · obtain ⟨y1, y2⟩ := (hpl _ rfl t11).2 z1
        rw [z1, z2] at hle ⊢
        by_cases e2 : c = 48 ∧ j = 1
        · obtain ⟨e3, e4⟩ := e2
          obtain ⟨a, ea, k1, k2⟩ := hlc e3 e4
          subst e3
          subst e4
          have ecn : cq_n (am_put h 48 1 v) 48 1 = a.toInt := by unfold cq_n; rw [cq_put_eq, ea]
          rw [ecn]
          rcases (show a.toInt ≤ (j' : Int) ∨ (j' : Int) < a.toInt by omega) with w | w
          · exact w
          · subst y1
            exact absurd en (k2 j' w y2 hle)
        · rw [cq_n_ne (by omega)]
          exact hle
  · intro t htt
    have e1 : cq_n (am_put h c j v) 93 t = cq_n h 93 t := cq_n_ne (by omega)
    have e2 : cq_n (am_put h c j v) 92 (t / 3) = cq_n h 92 (t / 3) := cq_n_ne (by omega)
    rw [e1, e2]
    rw [cq_put_ne (by omega)]
    exact I.sx t htt
