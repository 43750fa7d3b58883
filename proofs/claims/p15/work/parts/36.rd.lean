/-! THE CHECKER, 11: fields, elements and lengths are read -/
/-- the cell and the kind of what a reference is known to be -/
def cq_cel (S : cq_S) (a : cq_A) : Option (cq_C × cq_Kd) := match a with
  | (5, _, k) => bif Nat.ble 40 k && Nat.blt k 130 then (bif Nat.beq (cq_fix k).1 0 then some ((false, k), (0, (cq_fix k).2.1, 0)) else some ((false, k), (1, (cq_fix k).2.1, (cq_fix k).2.2 + 1)))
    else bif Nat.beq k 0 then some ((false, 0), (1, 0, 0)) else bif Nat.blt k 7 then some ((false, k), (1, 0, 8)) else bif Nat.blt k 23 then some ((false, k), (2, 0, 0)) else none
  | (6, _, s) => (match cq_sk S s with
    | some kd => some ((true, s), kd)
    | none => none)
  | _ => none
def cq_lv (h : am_H) (a : Nat) (k : cq_Kd) : Prop := match k with
  | (0, ci, _) => a < h.1 ∧ h.2.2.1 a = (0, ci, am_N ci)
  | (1, tc, ln) => a < h.1 ∧ ((h.2.2.1 a).1 = 1 ∨ (h.2.2.1 a).1 = 2) ∧ (h.2.2.1 a).2.1 = tc ∧ (ln = 0 ∨ (h.2.2.1 a).2.2 + 1 = ln)
  | _ => 7 ≤ a ∧ a < 23
theorem cq_fix_ok : ∀ k, k < 130 → 40 ≤ k → ((cq_fix k).1 = 0 ∧ (cq_fix k).2.2 = am_N (cq_fix k).2.1) ∨ (cq_fix k).1 = 1 := by decide +kernel
section CQY
variable {m : cq_W} {h0 : am_H} {ρ : Nat → Int} {S : cq_S} {h : am_H}
theorem cq_kOk_lv {a : Nat} {k : cq_Kd} (q : cq_kOk h a k) : cq_lv h a k := by
  obtain ⟨t, x, y⟩ := k
  rcases t with _ | _ | t
  · exact ⟨q.2.1, q.2.2⟩
  · exact ⟨q.2.1, Or.inl q.2.2.1, q.2.2.2⟩
  · exact q
theorem cq_cel_ok {a : cq_A} {c : cq_C} {k : cq_Kd} {v : Value} (q : cq_cel S a = some (c, k)) (D : cq_Md m h0 ρ S h) (g : cq_g ρ a v) : v = .ref (cq_ce ρ c) ∧ cq_lv h (cq_ce ρ c) k := by
  unfold cq_cel at q
  split at q
  · rename_i x k'
    have ev : v = .ref k' := g
    rw [cond_eq_ite] at q
    split at q
    · rename_i hb
      have hb := (Bool.and_eq_true _ _ ▸ hb)
      have b1 := Nat.le_of_ble_eq_true hb.1
      have b2 : k' < 130 := Nat.le_of_ble_eq_true hb.2
      have ef := D.I.fx k' b1 b2
      have lt : k' < h.1 := Nat.lt_of_lt_of_le b2 D.I.lo
      have hf := cq_fix_ok k' b2 b1
      rw [cond_eq_ite] at q
      split at q
      · rename_i hz
        have hz := am_beq hz
        have q := Option.some.inj q
        cases q
        refine ⟨ev, lt, ?_⟩
        rcases hf with hf | hf
        · show h.2.2.1 k' = _
          rw [ef]
          exact Prod.ext hz (Prod.ext rfl hf.2)
        · rw [hz] at hf; cases hf
      · rename_i hz
        have q := Option.some.inj q
        cases q
        have hw : (cq_fix k').1 = 1 := by
          rcases hf with hf | hf
          · rw [hf.1] at hz; exact absurd rfl hz
          · exact hf
        refine ⟨ev, lt, Or.inl ?_, ?_, Or.inr ?_⟩
        · show (h.2.2.1 k').1 = 1; rw [ef]; exact hw
        · show (h.2.2.1 k').2.1 = _; rw [ef]
        · show (h.2.2.1 k').2.2 + 1 = _; rw [ef]
    · rw [cond_eq_ite] at q
      split at q
      · rename_i hz
        have e0 := am_beq hz
        subst e0
        have q := Option.some.inj q
        cases q
        obtain ⟨s1, s2, -⟩ := D.I.sc
        exact ⟨ev, Nat.lt_of_lt_of_le (show 0 < 130 by decide) D.I.lo, Or.inr s1, s2, Or.inl rfl⟩
      · rename_i hz
        rw [cond_eq_ite] at q
        split at q
        · rename_i h7
          have h7 : k' < 7 := Nat.le_of_ble_eq_true h7
          have q := Option.some.inj q
          cases q
          have hk : 1 ≤ k' := by
            rcases Nat.eq_zero_or_pos k' with z | z
            · subst z; exact absurd rfl hz
            · exact z
          have e := (D.I.sv k' hk h7).1
          refine ⟨ev, Nat.lt_of_lt_of_le (show k' < 130 by omega) D.I.lo, Or.inr ?_, ?_, Or.inr ?_⟩
          · show (h.2.2.1 k').1 = 2; rw [e]
          · show (h.2.2.1 k').2.1 = 0; rw [e]
          · show (h.2.2.1 k').2.2 + 1 = 8; rw [e]
        · rename_i h7
          rw [cond_eq_ite] at q
          split at q
          · rename_i h23
            have h23 : k' < 23 := Nat.le_of_ble_eq_true h23
            have q := Option.some.inj q
            cases q
            have : ¬ k' < 7 := fun z => h7 (Nat.ble_eq_true_of_le z)
            exact ⟨ev, by show 7 ≤ k'; omega, h23⟩
          · cases q
  · rename_i x s
    split at q
    · rename_i kd hk
      have q := Option.some.inj q
      cases q
      obtain ⟨p1, p2, -⟩ := cq_sk_ok D hk
      rcases g with ⟨z, -⟩ | ⟨-, z⟩
      · omega
      · exact ⟨z, cq_kOk_lv p2⟩
    · cases q
  · cases q
end CQY
/-- the type of a place -/
def cq_pt (c : cq_C) (k : cq_Kd) (j : cq_F) : cq_T := bif c.1 then (bif Nat.beq k.1 0 then cq_cl k.2.1 j.1.toNat else cq_at k.2.1) else bif Nat.beq k.1 0 then cq_ob c.2 j.1.toNat else bif cq_k j then cq_ty c.2 j.1.toNat else cq_ar c.2
def cq_isU (S : cq_S) (c : cq_C) : Bool := match S.U with
  | some q => c.1 && Nat.beq q.1 c.2
  | none => false
/-- reading a place -/
def cq_rdp (S : cq_S) (c : cq_C) (k : cq_Kd) (j : cq_F) : Option (cq_A × cq_S) := match cq_tl c j S.T with
  | some a => some (a, S)
  | none => bif (S.U.isSome && c.1) || Nat.ble 2 k.1 then none
    else bif !c.1 && Nat.blt c.2 7 then (bif Nat.blt 0 c.2 && cq_k j && cq_p j.1 && Nat.blt j.1.toNat 7 then some (cq_i (cq_c (cq_sv c.2 j.1.toNat)), S) else some (cq_any S))
    else bif Nat.beq k.1 0 && !cq_k j then none
    else (match cq_vt S (cq_pt c k j) j with
      | some q => some (q.1, q.2.aT (c, j, q.1))
      | none => none)
theorem cq_sv_ok : ∀ c, c < 7 → ∀ j, j < 7 → -2147483648 ≤ cq_sv c j ∧ cq_sv c j ≤ 2147483647 := by decide +kernel
/-- the types of the fixed arrays: what holds of every place -/
theorem cq_ar_ok {c j : Nat} (h2 : cq_isA c = true) {h : am_H} {i : Nat} {v : Value} (q : cq_ht h i (cq_ty c j) v) : cq_ht h i (cq_ar c) v := by
  unfold cq_ty at q
  rw [h2] at q
  simp only [cond_true] at q
  rw [cond_eq_ite] at q
  split at q
  · rename_i hb
    have hb := (Bool.and_eq_true _ _ ▸ hb)
    obtain ⟨x, e, b1, b2⟩ := q
    have e81 : cq_ar 81 = (1, -2147483648, 2147483647, 0, 0, 0) := by decide +kernel
    have e83 : cq_ar 83 = (1, -2147483648, 2147483647, 0, 0, 0) := by decide +kernel
    rcases Bool.or_eq_true _ _ ▸ hb.1 with z | z
    · rw [am_beq z, e81]
      exact ⟨x, e, by have := x.le_toInt; omega, by omega⟩
    · rw [am_beq z, e83]
      exact ⟨x, e, by have := x.le_toInt; omega, by omega⟩
  · exact q
def cq_pre11 (t : cq_T) : Bool := bif Nat.beq t.1 11 then cq_cok t.2.2.2.2.1 t.2.2.2.2.2 else true
theorem cq_p11a : ∀ c, c < 130 → cq_pre11 (cq_ar c) = true := by decide +kernel
theorem cq_p11o : ∀ k, k < 14 → ∀ j, j < 100 → cq_pre11 (cq_cl k j) = true := by decide +kernel
