section CQZ
variable {m : cq_W} {h0 : am_H} {ρ : Nat → Int} {S : cq_S} {h : am_H} {als ast : List cq_A} {ls st : List Value} {out : List cq_O} {e : am_E} {pc pc' : Nat}
theorem cq_cel_c {a : cq_A} {c : cq_C} {k : cq_Kd} (q : cq_cel S a = some (c, k)) : (c.1 = true ∧ cq_sk S c.2 = some k) ∨ (c.1 = false ∧ 40 ≤ c.2 ∧ c.2 < 130 ∧ (((cq_fix c.2).1 = 0 ∧ k = (0, (cq_fix c.2).2.1, 0)) ∨ ((cq_fix c.2).1 = 1 ∧ k = (1, (cq_fix c.2).2.1, (cq_fix c.2).2.2 + 1)))) ∨ (c = (false, 0) ∧ k = (1, 0, 0)) ∨ (c.1 = false ∧ 1 ≤ c.2 ∧ c.2 < 7 ∧ k = (1, 0, 8)) ∨ (c.1 = false ∧ k = (2, 0, 0)) := by
  unfold cq_cel at q
  split at q
  · rename_i x k'
    rw [cond_eq_ite] at q
    split at q
    · rename_i hb
      have hb := (Bool.and_eq_true _ _ ▸ hb)
      have b1 := Nat.le_of_ble_eq_true hb.1
      have b2 : k' < 130 := Nat.le_of_ble_eq_true hb.2
      have hf := cq_fix_ok k' b2 b1
      rw [cond_eq_ite] at q
      split at q
      · rename_i hz
        have hz := am_beq hz
        cases Option.some.inj q
        exact Or.inr (Or.inl ⟨rfl, b1, b2, Or.inl ⟨hz, rfl⟩⟩)
      · rename_i hz
        cases Option.some.inj q
        have hw : (cq_fix k').1 = 1 := by
          rcases hf with hf | hf
          · rw [hf.1] at hz; exact absurd rfl hz
          · exact hf
        exact Or.inr (Or.inl ⟨rfl, b1, b2, Or.inr ⟨hw, rfl⟩⟩)
    · rw [cond_eq_ite] at q
      split at q
      · cases Option.some.inj q
        exact Or.inr (Or.inr (Or.inl ⟨rfl, rfl⟩))
      · rename_i hz
        rw [cond_eq_ite] at q
        split at q
        · rename_i h7
          have h7 : k' < 7 := Nat.le_of_ble_eq_true h7
          cases Option.some.inj q
          have hk : 1 ≤ k' := by
            rcases Nat.eq_zero_or_pos k' with z | z
            · subst z; exact absurd rfl hz
            · exact z
          exact Or.inr (Or.inr (Or.inr (Or.inl ⟨rfl, hk, h7, rfl⟩)))
        · rw [cond_eq_ite] at q
          split at q
          · cases Option.some.inj q
            exact Or.inr (Or.inr (Or.inr (Or.inr ⟨rfl, rfl⟩)))
          · cases q
  · rename_i x s
    split at q
    · rename_i kd hk
      cases Option.some.inj q
      exact Or.inl ⟨rfl, hk⟩
    · cases q
  · cases q
theorem cq_nU (D : cq_Md m h0 ρ S h) {c : Nat} (hc : c < 130) : some c ≠ S.U.map (fun q => (ρ q.1).toNat) := fun e => by
  cases hu : S.U with
  | none => rw [hu] at e; cases e
  | some q =>
    have := D.U q hu
    rw [hu] at e
    have e : c = (ρ q.1).toNat := Option.some.inj e
    omega
/-- the value at a place has the place's type -/
theorem cq_pt_ok {a : cq_A} {c : cq_C} {k : cq_Kd} {j : cq_F} {w : Nat} (hcel : cq_cel S a = some (c, k)) (D : cq_Md m h0 ρ S h) (hU : c.1 = true → S.U = none) (hk : Nat.ble 2 k.1 = false) (hs : (!c.1 && Nat.blt c.2 7) = false) (hk0 : (Nat.beq k.1 0 && !cq_k j) = false) (hj : cq_e ρ j = (w : Int)) (hlt : w < (h.2.2.1 (cq_ce ρ c)).2.2) : cq_ht h w (cq_pt c k j) (h.2.2.2 (cq_ce ρ c) w) ∧ cq_pre11 (cq_pt c k j) = true := by
  have ej : cq_k j = true → j.1.toNat = w := fun z => by
    rw [cq_k_e z] at hj
    omega
  rcases cq_cel_c hcel with ⟨c1, hs1⟩ | ⟨c1, b1, b2, hf⟩ | ⟨c1, k1⟩ | ⟨c1, b1, b2, k1⟩ | ⟨c1, k1⟩
  · obtain ⟨p1, p2, -⟩ := cq_sk_ok D hs1
    have ec : cq_ce ρ c = (ρ c.2).toNat := by unfold cq_ce; rw [c1]; rfl
    rw [ec] at hlt ⊢
    have nu : some (ρ c.2).toNat ≠ S.U.map (fun q => (ρ q.1).toNat) := by rw [hU c1]; exact fun z => by cases z
    obtain ⟨t, x, y⟩ := k
    rcases t with _ | _ | t
    · obtain ⟨q1, q2, q3⟩ := p2
      have kj : cq_k j = true := by
        cases hh : cq_k j with
        | true => rfl
        | false => rw [hh] at hk0; cases hk0
      have z := D.I.ty _ (by omega) q2 nu w hlt
      have et : cq_pt c (0, x, y) j = cq_cl x w := by
        unfold cq_pt
        rw [c1, ej kj]
        rfl
      have et2 : cq_tyOf (ρ c.2).toNat (h.2.2.1 (ρ c.2).toNat) w = cq_cl x w := by
        unfold cq_tyOf
        have : Nat.blt (ρ c.2).toNat 130 = false := by
          cases hh : Nat.blt (ρ c.2).toNat 130 with
          | false => rfl
          | true => have : (ρ c.2).toNat < 130 := Nat.le_of_ble_eq_true hh; omega
        rw [this, q3]
        rfl
      rw [et2] at z
      rw [et]
      refine ⟨z, ?_⟩
      rw [q3] at hlt
      by_cases hx : x < 14
      · by_cases hw : w < 100
        · exact cq_p11o x hx w hw
        · exfalso
          have : ∀ x, x < 14 → am_N x ≤ 100 := by decide +kernel
          have := this x hx
          dsimp only at hlt
          omega
      · exfalso
        have e0 : am_N x = 0 := by
          unfold am_N
          have : vwCl[x]? = none := List.getElem?_eq_none_iff.2 (by show 14 ≤ x; omega)
          rw [this]
        dsimp only at hlt
        rw [e0] at hlt
        omega
    · obtain ⟨q1, q2, q3, q4, q5⟩ := p2
      have z := D.I.ty _ (by omega) q2 nu w hlt
      have et : cq_pt c (0 + 1, x, y) j = cq_at x := by
        unfold cq_pt
        rw [c1]
        rfl
      have et2 : cq_tyOf (ρ c.2).toNat (h.2.2.1 (ρ c.2).toNat) w = cq_at x := by
        unfold cq_tyOf
        have : Nat.blt (ρ c.2).toNat 130 = false := by
          cases hh : Nat.blt (ρ c.2).toNat 130 with
          | false => rfl
          | true => have : (ρ c.2).toNat < 130 := Nat.le_of_ble_eq_true hh; omega
        rw [this, q3, q4]
        rfl
      rw [et2] at z
      rw [et]
      refine ⟨z, ?_⟩
      unfold cq_at
      cases Nat.beq x 0 with
      | true => rfl
      | false =>
        cases Nat.beq x 3 with
        | true => rfl
        | false =>
          cases Nat.beq x 7 with
          | true => rfl
          | false => rfl
    · cases hk
  · have ec : cq_ce ρ c = c.2 := by unfold cq_ce; rw [c1]; rfl
    rw [ec] at hlt ⊢
    have ef := D.I.fx c.2 b1 b2
    have z := D.I.ty c.2 b1 (Nat.lt_of_lt_of_le b2 D.I.lo) (cq_nU D b2) w hlt
    have et2 : cq_tyOf c.2 (h.2.2.1 c.2) w = cq_ty c.2 w := by
      unfold cq_tyOf
      have : Nat.blt c.2 130 = true := Nat.ble_eq_true_of_le b2
      rw [this]
      rfl
    rw [et2] at z
    rcases hf with ⟨f0, k0⟩ | ⟨f1, k1⟩
    · subst k0
      have kj : cq_k j = true := by
        cases hh : cq_k j with
        | true => rfl
        | false => rw [hh] at hk0; cases hk0
      have et : cq_pt c (0, (cq_fix c.2).2.1, 0) j = cq_ob c.2 w := by
        unfold cq_pt
        rw [c1, ej kj]
        rfl
      have et3 : cq_ty c.2 w = cq_ob c.2 w := by
        unfold cq_ty cq_isA
        rw [f0]
        rfl
      rw [et3] at z
      rw [et]
      refine ⟨z, ?_⟩
      rw [ef] at hlt
      have hall : ∀ c, c < 130 → 40 ≤ c → (cq_fix c).1 = 0 → ∀ w, w < (cq_fix c).2.2 → cq_pre11 (cq_ob c w) = true := by decide +kernel
      exact hall c.2 b2 b1 f0 w hlt
    · subst k1
      have isA : cq_isA c.2 = true := by unfold cq_isA; rw [f1]; rfl
      have z2 := cq_ar_ok isA z
      have et : cq_pt c (1, (cq_fix c.2).2.1, (cq_fix c.2).2.2 + 1) j = bif cq_k j then cq_ty c.2 j.1.toNat else cq_ar c.2 := by
        unfold cq_pt
        rw [c1]
        rfl
      rw [et]
      cases hh : cq_k j with
      | true =>
        rw [ej hh]
        refine ⟨z, ?_⟩
        show cq_pre11 (cq_ty c.2 w) = true
        unfold cq_ty
        rw [isA]
        cases ((Nat.beq c.2 81 || Nat.beq c.2 83) && Nat.beq w 1) with
        | true => rfl
        | false => exact cq_p11a c.2 b2
      | false => exact ⟨z2, cq_p11a c.2 b2⟩
  · subst c1; cases hs
  · rw [c1] at hs
    have : Nat.blt c.2 7 = true := Nat.ble_eq_true_of_le b2
    rw [this] at hs
    cases hs
  · rw [k1] at hk; cases hk
theorem cq_rdp_ok {a : cq_A} {c : cq_C} {k : cq_Kd} {j : cq_F} {q : cq_A × cq_S} {w cc : Nat} (hcel : cq_cel S a = some (c, k)) (q1 : cq_rdp S c k j = some q) (H : ∀ ρ', cq_ag S.n ρ' ρ → cq_Md m h0 ρ' S h) (hc : ∀ ρ', cq_ag S.n ρ' ρ → cq_ce ρ' c = cc) (hj : ∀ ρ', cq_ag S.n ρ' ρ → cq_e ρ' j = (w : Int)) (hlt : w < (h.2.2.1 cc).2.2) : cq_Mk m h0 ρ S h q (h.2.2.2 cc w) := by
  unfold cq_rdp at q1
  split at q1
  · rename_i x hx
    rw [← Option.some.inj q1]
    refine cq_Mk.of fun ρ' a => ⟨H ρ' a, ?_⟩
    have z := (H ρ' a).T _ (cq_tl_ok hx)
    dsimp only at z
    rw [hc ρ' a, hj ρ' a, Int.toNat_natCast] at z
    exact z
  · rw [cond_eq_ite] at q1
    split at q1
    · cases q1
    · rename_i hu
      have hU : c.1 = true → S.U = none := fun z => by
        cases hh : S.U with
        | none => rfl
        | some y => rw [hh, z] at hu; exact absurd rfl hu
      have hk : Nat.ble 2 k.1 = false := by
        cases hh : Nat.ble 2 k.1 with
        | false => rfl
        | true => rw [hh, Bool.or_true] at hu; exact absurd rfl hu
      rw [cond_eq_ite] at q1
      split at q1
      · rename_i hs
        have hs := (Bool.and_eq_true _ _ ▸ hs)
        have c1 : c.1 = false := by
          cases hh : c.1 with
          | false => rfl
          | true => rw [hh] at hs; cases hs.1
        have c2 : c.2 < 7 := Nat.le_of_ble_eq_true hs.2
        have ec : c.2 = cc := by
          have := hc ρ cq_ag.rf
          unfold cq_ce at this
          rw [c1] at this
          exact this
        have D := H ρ cq_ag.rf
        have hint : ∃ x : Int32, h.2.2.2 cc w = .int x := by
          rcases Nat.eq_zero_or_pos cc with z | z
          · subst z
            obtain ⟨-, -, -, k4⟩ := D.I.sc
            exact k4 w hlt
          · obtain ⟨k1, k2⟩ := D.I.sv cc z (by omega)
            rw [k1] at hlt
            exact ⟨_, k2 w hlt⟩
        obtain ⟨x, ex⟩ := hint
        rw [cond_eq_ite] at q1
        split at q1
        · rename_i hb
          have hb1 := (Bool.and_eq_true _ _ ▸ hb)
          have hb2 := (Bool.and_eq_true _ _ ▸ hb1.1)
          have hb3 := (Bool.and_eq_true _ _ ▸ hb2.1)
          have h7 : j.1.toNat < 7 := Nat.le_of_ble_eq_true hb1.2
          have hpos : 0 < c.2 := Nat.le_of_ble_eq_true hb3.1
          have ej : j.1.toNat = w := by
            have := hj ρ cq_ag.rf
            rw [cq_k_e hb3.2] at this
            omega
          rw [← Option.some.inj q1]
          refine cq_Mk.of fun ρ' a => ⟨H ρ' a, ?_⟩
          have k2 := (D.I.sv cc (by omega) (by omega)).2 w (by omega)
          rw [k2]
          have b := cq_sv_ok cc (by omega) w (by omega)
          refine ⟨_, rfl, ?_⟩
          rw [cq_c_e, ej, ec]
          exact Int32.toInt_ofInt_of_le (by omega) (by omega)
        · rw [← Option.some.inj q1, ex]
          exact cq_any_ok H
      · rename_i hs
        have hs : (!c.1 && Nat.blt c.2 7) = false := by
          cases hh : (!c.1 && Nat.blt c.2 7) with
          | false => rfl
          | true => exact absurd hh hs
        rw [cond_eq_ite] at q1
        split at q1
        · cases q1
        · rename_i hk0
          have hk0 : (Nat.beq k.1 0 && !cq_k j) = false := by
            cases hh : (Nat.beq k.1 0 && !cq_k j) with
            | false => rfl
            | true => exact absurd hh hk0
          split at q1
          · rename_i q2 hq
            rw [← Option.some.inj q1]
            have D := H ρ cq_ag.rf
            have ecc := hc ρ cq_ag.rf
            obtain ⟨ht, h11⟩ := cq_pt_ok hcel D hU hk hs hk0 (hj ρ cq_ag.rf) (by rw [ecc]; exact hlt)
            rw [ecc] at ht
            obtain ⟨-, -, kk⟩ := cq_vt_ok (m := m) (h0 := h0) (ρ := ρ) (h := h) (v := h.2.2.2 cc w) hq H (fun ρ' a => by rw [hj ρ' a, hj ρ cq_ag.rf]; exact ⟨rfl, Int.natCast_nonneg w⟩) (by rw [hj ρ cq_ag.rf, Int.toNat_natCast]; exact ht) (fun z => by
              unfold cq_pre11 at h11
              rw [z] at h11
              exact h11)
            exact kk.aT fun ρ' a => by rw [hc ρ' a, hj ρ' a, Int.toNat_natCast]
          · cases q1
end CQZ
