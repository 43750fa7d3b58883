/-! THE CHECKER, 14: writing a place -/
def cq_cT (S : cq_S) (c i : Nat) : Option cq_F := match cq_tl (false, c) (cq_c i) S.T with
  | some (1, f, _) => some f
  | _ => none
/-- has a value a place's type -/
def cq_ck (S : cq_S) (t : cq_T) (j : cq_F) (a : cq_A) : Bool := match t with
  | (1, l, u, _) => Nat.beq a.1 1 && cq_inE S.P a.2.1 l u
  | (2, _) => Nat.beq a.1 2
  | (3, _, _, k, _) => Nat.beq a.1 5 && Nat.beq a.2.2 k
  | (4, _, _, k, _) => Nat.beq a.1 6 && (match cq_sk S a.2.2 with
    | some (0, k', _) => Nat.beq k' k
    | _ => false)
  | (5, _, _, k, _) => Nat.beq a.1 4 || (Nat.beq a.1 6 && (match cq_kl a.2.2 S.K with
    | some (0, k', _) => Nat.beq k' k
    | _ => false))
  | (6, _, _, tc, ln, _) => Nat.beq a.1 6 && (match cq_sk S a.2.2 with
    | some (1, tc', ln') => Nat.beq tc' tc && (Nat.beq ln 0 || Nat.beq ln' ln)
    | _ => false)
  | (7, _, _, k, k', _) => Nat.beq a.1 5 && (Nat.beq a.2.2 k || Nat.beq a.2.2 k')
  | (8, l, u, k, _) => Nat.beq a.1 1 && cq_inE S.P a.2.1 l u && (match cq_cT S 40 13 with
    | some g => cq_en S.P (cq_sub (cq_sc k g) a.2.1)
    | none => false)
  | (9, l, u, _) => Nat.beq a.1 1 && cq_inE S.P a.2.1 l u && (cq_fe a.2.1 (cq_c 0) || (match cq_cT S 40 13 with
    | some g => cq_en S.P (cq_sub (cq_ac g (-1)) a.2.1)
    | none => false))
  | (10, l, u, _) => Nat.beq a.1 1 && cq_en S.P (cq_ac a.2.1 (- l)) && cq_en S.P (cq_sub (cq_sub (cq_c u) j) a.2.1)
  | (11, _, _, k, _) => Nat.beq a.1 6 && (match cq_sk S a.2.2 with
    | some (0, k', _) => Nat.beq k' k
    | _ => false)
  | _ => false
section CSA
variable {m : cq_W} {h0 : am_H} {ρ : Nat → Int} {S : cq_S} {h : am_H}
theorem cq_cT_ok {c i : Nat} {f : cq_F} (q : cq_cT S c i = some f) (D : cq_Md m h0 ρ S h) : cq_n h c i = cq_e ρ f ∧ ∃ x : Int32, h.2.2.2 c i = .int x := by
  unfold cq_cT at q
  split at q
  · rename_i f' k ht
    cases Option.some.inj q
    have z := D.T _ (cq_tl_ok ht)
    dsimp only at z
    rw [cq_c_e, Int.toNat_natCast] at z
    obtain ⟨x, ex, hx⟩ := z
    have ex : h.2.2.2 c i = .int x := ex
    refine ⟨?_, x, ex⟩
    unfold cq_n
    rw [ex]
    exact hx
  · cases q
theorem cq_tag {a : cq_A} {n : Nat} (h : Nat.beq a.1 n = true) : a = (n, a.2.1, a.2.2) := by
  obtain ⟨t, f, k⟩ := a
  have e := am_beq h
  dsimp only at e
  rw [e]
theorem cq_kk0 {x k k' z : Nat} (q : cq_kOk h x (0, k', z)) (e : k' = k) : cq_kOk h x (0, k, 0) := by
  subst e
  exact q
theorem cq_ck_ok {t : cq_T} {j : cq_F} {a : cq_A} {v : Value} (q : cq_ck S t j a = true) (D : cq_Md m h0 ρ S h) (g : cq_g ρ a v) (hj : 0 ≤ cq_e ρ j) : cq_ht h (cq_e ρ j).toNat t v := by
  have sym : ∀ k, (Nat.beq a.1 6 && (match cq_sk S a.2.2 with
    | some (0, k', _) => Nat.beq k' k
    | _ => false)) = true → ∃ x, v = .ref x ∧ cq_kOk h x (0, k, 0) := fun k q => by
    have q := (Bool.and_eq_true _ _ ▸ q)
    rw [cq_tag q.1] at g
    have q2 := q.2
    split at q2
    · rename_i k' z hs
      obtain ⟨p1, p2, -⟩ := cq_sk_ok D hs
      rcases g with ⟨g1, -⟩ | ⟨-, g2⟩
      · omega
      · exact ⟨_, g2, cq_kk0 p2 (am_beq q2)⟩
    · cases q2
  unfold cq_ck at q
  split at q
  · rename_i l u r
    have q := (Bool.and_eq_true _ _ ▸ q)
    rw [cq_tag q.1] at g
    obtain ⟨x, ex, hx⟩ := g
    obtain ⟨b1, b2⟩ := cq_inE_ok D.P q.2
    exact ⟨x, ex, by rw [hx]; exact b1, by rw [hx]; exact b2⟩
  · rw [cq_tag q] at g
    obtain ⟨x, ex, hx⟩ := g
    exact ⟨x, ex⟩
  · have q := (Bool.and_eq_true _ _ ▸ q)
    rw [cq_tag q.1] at g
    have g : v = .ref a.2.2 := g
    rw [am_beq q.2] at g
    exact g
  · exact sym _ q
  · rename_i k r
    rcases Bool.or_eq_true _ _ ▸ q with z | z
    · rw [cq_tag z] at g
      exact Or.inl g
    · have z := (Bool.and_eq_true _ _ ▸ z)
      rw [cq_tag z.1] at g
      have q2 := z.2
      split at q2
      · rename_i k' y hs
        rcases g with ⟨-, g2⟩ | ⟨g1, g2⟩
        · exact Or.inl g2
        · exact Or.inr ⟨_, g2, cq_kk0 (D.K _ (cq_kl_ok hs) g1) (am_beq q2)⟩
      · cases q2
  · rename_i tc ln r
    have q := (Bool.and_eq_true _ _ ▸ q)
    rw [cq_tag q.1] at g
    have q2 := q.2
    split at q2
    · rename_i tc' ln' hs
      have q2 := (Bool.and_eq_true _ _ ▸ q2)
      obtain ⟨p1, p2, -⟩ := cq_sk_ok D hs
      rcases g with ⟨g1, -⟩ | ⟨-, g2⟩
      · omega
      · refine ⟨_, g2, ?_⟩
        obtain ⟨k1, k2, k3, k4, k5⟩ := p2
        refine ⟨k1, k2, k3, k4.trans (am_beq q2.1), ?_⟩
        rcases Bool.or_eq_true _ _ ▸ q2.2 with z | z
        · exact Or.inl (am_beq z)
        · have z := am_beq z
          rw [z] at k5
          exact k5
    · cases q2
  · have q := (Bool.and_eq_true _ _ ▸ q)
    rw [cq_tag q.1] at g
    have g : v = .ref a.2.2 := g
    rcases Bool.or_eq_true _ _ ▸ q.2 with z | z
    · rw [am_beq z] at g
      exact Or.inl g
    · rw [am_beq z] at g
      exact Or.inr g
  · rename_i l u k r
    have q := (Bool.and_eq_true _ _ ▸ q)
    have q1 := (Bool.and_eq_true _ _ ▸ q.1)
    rw [cq_tag q1.1] at g
    obtain ⟨x, ex, hx⟩ := g
    obtain ⟨b1, b2⟩ := cq_inE_ok D.P q1.2
    have q2 := q.2
    split at q2
    · rename_i f hf
      obtain ⟨n1, -⟩ := cq_cT_ok hf D
      have := cq_en_ok D.P q2
      rw [cq_sub_e, cq_sc_e] at this
      refine ⟨x, ex, by rw [hx]; exact b1, by rw [hx]; exact b2, ?_⟩
      rw [n1, hx]
      omega
    · cases q2
  · rename_i l u r
    have q := (Bool.and_eq_true _ _ ▸ q)
    have q1 := (Bool.and_eq_true _ _ ▸ q.1)
    rw [cq_tag q1.1] at g
    obtain ⟨x, ex, hx⟩ := g
    obtain ⟨b1, b2⟩ := cq_inE_ok D.P q1.2
    refine ⟨x, ex, by rw [hx]; exact b1, by rw [hx]; exact b2, ?_⟩
    rcases Bool.or_eq_true _ _ ▸ q.2 with z | z
    · right
      rw [hx, cq_fe_ok z, cq_c_e]
    · left
      split at z
      · rename_i f hf
        obtain ⟨n1, -⟩ := cq_cT_ok hf D
        have := cq_en_ok D.P z
        rw [cq_sub_e, cq_ac_e] at this
        rw [n1, hx]
        omega
      · cases z
  · rename_i l u r
    have q := (Bool.and_eq_true _ _ ▸ q)
    have q1 := (Bool.and_eq_true _ _ ▸ q.1)
    rw [cq_tag q1.1] at g
    obtain ⟨x, ex, hx⟩ := g
    have c1 := cq_en_ok D.P q1.2
    have c2 := cq_en_ok D.P q.2
    rw [cq_ac_e] at c1
    rw [cq_sub_e, cq_sub_e, cq_c_e] at c2
    exact ⟨x, ex, by rw [hx]; omega, by rw [hx]; omega⟩
  · exact Or.inr (sym _ q)
  · cases q
end CSA
def cq_mem (s : Nat) : List Nat → Bool
  | [] => false
  | q :: r => Nat.beq q s || cq_mem s r
theorem cq_mem_ok {s : Nat} : ∀ {l : List Nat}, cq_mem s l = true → s ∈ l
  | [], h => by cases h
  | q :: r, h => by
    rcases Bool.or_eq_true _ _ ▸ h with z | z
    · rw [am_beq z]; exact List.mem_cons_self
    · exact List.mem_cons_of_mem _ (cq_mem_ok z)
/-- two places' slots differ -/
def cq_sd (P : cq_P) (i j : cq_F) : Bool := cq_en P j && (bif cq_k (cq_sub i j) then !cq_z (cq_sub i j).1 else (cq_en P (cq_ac (cq_sub i j) (-1)) || cq_en P (cq_ac (cq_sub j i) (-1))))
/-- two cells differ -/
def cq_cdf (S : cq_S) (c d : cq_C) : Bool := bif c.1 then (bif d.1 then (match cq_sk S c.2, cq_sk S d.2 with
      | some k1, some k2 => !(Nat.beq k1.1 k2.1 && Nat.beq k1.2.1 k2.2.1) && Nat.ble k1.1 1 && Nat.ble k2.1 1 || (cq_mem c.2 S.W && Nat.blt d.2 c.2) || (cq_mem d.2 S.W && Nat.blt c.2 d.2)
      | _, _ => false)
    else (match cq_sk S c.2 with
      | some k1 => Nat.blt d.2 130 && Nat.ble k1.1 1
      | none => false))
  else bif d.1 then (match cq_sk S d.2 with
      | some k1 => Nat.blt c.2 130 && Nat.ble k1.1 1
      | none => false)
  else !Nat.beq c.2 d.2
def cq_kp (S : cq_S) (c : cq_C) (j : cq_F) (q : cq_C × cq_F × cq_A) : Bool := cq_cdf S c q.1 || cq_sd S.P j q.2.1
section CSB
variable {m : cq_W} {h0 : am_H} {ρ : Nat → Int} {S : cq_S} {h : am_H}
theorem cq_nb {b : Bool} (q : (!b) = true) : b = false := by cases b with
  | true => cases q
  | false => rfl
theorem cq_sd_ok {i j : cq_F} (D : cq_Md m h0 ρ S h) (hi : 0 ≤ cq_e ρ i) (q : cq_sd S.P i j = true) : (cq_e ρ j).toNat ≠ (cq_e ρ i).toNat := by
  have q := (Bool.and_eq_true _ _ ▸ q)
  have h1 := cq_en_ok D.P q.1
  have q2 := q.2
  cases hk : cq_k (cq_sub i j) with
  | true =>
    rw [hk] at q2
    have e := cq_k_e hk ρ
    rw [cq_sub_e] at e
    have nz : ¬ (cq_sub i j).1 = 0 := fun z => by
      rw [z] at q2
      cases q2
    omega
  | false =>
    rw [hk] at q2
    rcases Bool.or_eq_true _ _ ▸ q2 with z | z
    · have := cq_en_ok D.P z
      rw [cq_ac_e, cq_sub_e] at this
      omega
    · have := cq_en_ok D.P z
      rw [cq_ac_e, cq_sub_e] at this
      omega
theorem cq_k130 {a : Nat} {k : cq_Kd} (q : cq_kOk h a k) (hk : Nat.ble k.1 1 = true) : 130 ≤ a := by
  obtain ⟨t, x, y⟩ := k
  rcases t with _ | _ | t
  · exact q.1
  · exact q.1
  · cases hk
theorem cq_kuq {a : Nat} {k k' : cq_Kd} (q : cq_kOk h a k) (q' : cq_kOk h a k') (hk : Nat.ble k.1 1 = true) (hk' : Nat.ble k'.1 1 = true) : k.1 = k'.1 ∧ k.2.1 = k'.2.1 := by
  have key : ∀ k : cq_Kd, cq_kOk h a k → Nat.ble k.1 1 = true → (h.2.2.1 a).1 = k.1 ∧ (h.2.2.1 a).2.1 = k.2.1 := fun k q hk => by
    obtain ⟨t, x, y⟩ := k
    rcases t with _ | _ | t
    · rw [q.2.2]
      exact ⟨rfl, rfl⟩
    · exact ⟨q.2.2.1, q.2.2.2.1⟩
    · cases hk
  have k1 := key k q hk
  have k2 := key k' q' hk'
  exact ⟨k1.1.symm.trans k2.1, k1.2.symm.trans k2.2⟩
theorem cq_cdf_ok {c d : cq_C} (D : cq_Md m h0 ρ S h) (q : cq_cdf S c d = true) : cq_ce ρ d ≠ cq_ce ρ c := by
  obtain ⟨c1, c2⟩ := c
  obtain ⟨d1, d2⟩ := d
  unfold cq_cdf at q
  unfold cq_ce
  cases c1 with
  | true =>
    cases d1 with
    | true =>
      simp only [cond_true] at q ⊢
      split at q
      · rename_i k1 k2 s1 s2
        obtain ⟨p1, p2, p3⟩ := cq_sk_ok D s1
        obtain ⟨r1, r2, r3⟩ := cq_sk_ok D s2
        intro e
        rcases Bool.or_eq_true _ _ ▸ q with z | z
        · rcases Bool.or_eq_true _ _ ▸ z with y | y
          · have y := (Bool.and_eq_true _ _ ▸ y)
            have y1 := (Bool.and_eq_true _ _ ▸ y.1)
            rw [e] at r2
            obtain ⟨u1, u2⟩ := cq_kuq p2 r2 y1.2 y.2
            have := cq_nb y1.1
            rw [u1, u2, Nat.beq_refl, Nat.beq_refl] at this
            cases this
          · have y := (Bool.and_eq_true _ _ ▸ y)
            have l : d2 < c2 := Nat.le_of_ble_eq_true y.2
            have := (D.W c2 (cq_mem_ok y.1)).2.2 _ r3 l
            dsimp only at this
            omega
        · have z := (Bool.and_eq_true _ _ ▸ z)
          have l : c2 < d2 := Nat.le_of_ble_eq_true z.2
          have := (D.W d2 (cq_mem_ok z.1)).2.2 _ p3 l
          dsimp only at this
          omega
      · cases q
    | false =>
      simp only [cond_true, cond_false] at q ⊢
      split at q
      · rename_i k1 s1
        have q := (Bool.and_eq_true _ _ ▸ q)
        obtain ⟨p1, p2, p3⟩ := cq_sk_ok D s1
        have := cq_k130 p2 q.2
        have l : d2 < 130 := Nat.le_of_ble_eq_true q.1
        omega
      · cases q
  | false =>
    cases d1 with
    | true =>
      simp only [cond_true, cond_false] at q ⊢
      split at q
      · rename_i k1 s1
        have q := (Bool.and_eq_true _ _ ▸ q)
        obtain ⟨p1, p2, p3⟩ := cq_sk_ok D s1
        have := cq_k130 p2 q.2
        have l : c2 < 130 := Nat.le_of_ble_eq_true q.1
        omega
      · cases q
    | false =>
      simp only [cond_false] at q ⊢
      intro e
      rw [e, Nat.beq_refl] at q
      cases q
/-- what was known of other places stays -/
theorem cq_kp_ok {c : cq_C} {j : cq_F} {a : cq_A} {v : Value} (D : cq_Md m h0 ρ S h) (hj : 0 ≤ cq_e ρ j) (g : cq_g ρ a v) : ∀ e ∈ (c, j, a) :: S.T.filter (cq_kp S c j), cq_g ρ e.2.2 ((am_put h (cq_ce ρ c) (cq_e ρ j).toNat v).2.2.2 (cq_ce ρ e.1) (cq_e ρ e.2.1).toNat) := by
  intro x hx
  rcases List.mem_cons.1 hx with z | z
  · subst z
    dsimp only
    rw [cq_put_eq]
    exact g
  · obtain ⟨z1, z2⟩ := List.mem_filter.1 z
    rw [cq_put_ne]
    · exact D.T x z1
    · rcases Bool.or_eq_true _ _ ▸ z2 with y | y
      · exact Or.inl (cq_cdf_ok D y)
      · exact Or.inr (cq_sd_ok D hj y)
end CSB
