section
/-! what a run's step was -/
def am_ret (i : Instr) (rt : Option FieldType) (r : Option Value) : Prop :=
  (i = .ireturn ∧ ∃ v, r = some (.int v) ∧ am_rok rt v = true) ∨ (i = .lreturn ∧ ∃ v, r = some (.long v)) ∨ (i = .areturn ∧ (r = some .null ∨ ∃ a, r = some (.ref a))) ∨ (i = .return_ ∧ r = none)
def am_isC (i : Instr) : Prop := (∃ x, i = .invokestatic x) ∨ (∃ x, i = .invokevirtual x) ∨ ∃ x, i = .invokespecial x
theorem am_thr_inv {rc : am_F} {d y pc a : Nat} {ls : List Value} {h h' : am_H} {r : Option Value} (h1 : am_thr rc d y pc ls a h = some (r, h')) : am_isO h a 12 = true ∧ 0 < y ∧ ((∃ hp, am_ctc (am_hh y) pc = some hp ∧ rc d y hp ls [.ref a] h = some (r, h')) ∨ (am_ctc (am_hh y) pc = none ∧ r = some (.retAddr (a + 1)) ∧ h' = h)) := by
  unfold am_thr at h1
  obtain ⟨h2, h1⟩ := am_cond h1
  rw [Bool.and_eq_true] at h2
  refine ⟨h2.1, am_blt h2.2, ?_⟩
  split at h1
  · rename_i hp hc
    exact Or.inl ⟨hp, hc, h1⟩
  · rename_i hc
    cases h1
    exact Or.inr ⟨hc, rfl, rfl⟩
theorem am_isT_spec {v : Option Value} {a : Nat} (h : am_isT v = some a) : v = some (.retAddr (a + 1)) := by
  unfold am_isT at h
  split at h
  · cases h; rfl
  · cases h
theorem am_one_inv {rc : am_F} {d y pc : Nat} {ls st : List Value} {h h' : am_H} {r : Option Value} (h1 : am_one rc d y pc ls st h = some (r, h')) : ∃ en, (y < am_NM ∧ pc < am_bd y ∧ am_code y pc = some en) ∧ ((am_ret en.1 (am_rt y) r ∧ st = r.toList ∧ h' = h) ∨ (am_isC en.1 ∧ am_cal rc d y pc ls st h en = some (r, h')) ∨ (∃ pc' ls' st' h1, am_st en pc ls st h = some (pc', ls', st', h1) ∧ rc d y pc' ls' st' h1 = some (r, h')) ∨ (en.1 = .athrow ∧ ∃ a rr, st = .ref a :: rr ∧ am_thr rc d y pc ls a h = some (r, h')) ∨ (∃ idx i k, ((en.1 = .ldc idx ∧ k = 2) ∨ (en.1 = .ldc_w idx ∧ k = 3)) ∧ am_sR (am_in y).1 idx = some i ∧ rc d y (pc + k) ls (.ref (7 + i) :: st) h = some (r, h'))) := by
  unfold am_one at h1
  split at h1
  · cases h1
  · rename_i en hc
    obtain ⟨hb, hc⟩ := am_cond hc
    rw [Bool.and_eq_true] at hb
    refine ⟨en, ⟨am_blt hb.1, am_blt hb.2, hc⟩, ?_⟩
    split at h1
    · rename_i hi
      split at h1
      · rename_i v
        obtain ⟨q1, q2⟩ := am_cond h1
        cases q2
        exact Or.inl ⟨Or.inl ⟨hi, v, rfl, q1⟩, rfl, rfl⟩
      · cases h1
    · rename_i hi
      split at h1
      · rename_i v
        cases h1
        exact Or.inl ⟨Or.inr (Or.inl ⟨hi, v, rfl⟩), rfl, rfl⟩
      · cases h1
    · rename_i hi
      split at h1
      · cases h1
        exact Or.inl ⟨Or.inr (Or.inr (Or.inl ⟨hi, Or.inl rfl⟩)), rfl, rfl⟩
      · rename_i a
        cases h1
        exact Or.inl ⟨Or.inr (Or.inr (Or.inl ⟨hi, Or.inr ⟨a, rfl⟩⟩)), rfl, rfl⟩
      · cases h1
    · rename_i hi
      split at h1
      · cases h1
        exact Or.inl ⟨Or.inr (Or.inr (Or.inr ⟨hi, rfl⟩)), rfl, rfl⟩
      · cases h1
    · rename_i hi
      split at h1
      · rename_i a rr
        exact Or.inr (Or.inr (Or.inr (Or.inl ⟨hi, a, rr, rfl, h1⟩)))
      · cases h1
    · rename_i x hi
      exact Or.inr (Or.inl ⟨Or.inl ⟨x, hi⟩, h1⟩)
    · rename_i x hi
      exact Or.inr (Or.inl ⟨Or.inr (Or.inl ⟨x, hi⟩), h1⟩)
    · rename_i x hi
      exact Or.inr (Or.inl ⟨Or.inr (Or.inr ⟨x, hi⟩), h1⟩)
    · split at h1
      · rename_i pc' ls' st' hx hst
        exact Or.inr (Or.inr (Or.inl ⟨pc', ls', st', hx, hst, h1⟩))
      · unfold am_lds at h1
        split at h1
        · rename_i idx hi
          split at h1
          · rename_i i hsr
            exact Or.inr (Or.inr (Or.inr (Or.inr ⟨idx, i, 2, Or.inl ⟨hi, rfl⟩, hsr, h1⟩)))
          · cases h1
        · rename_i idx hi
          split at h1
          · rename_i i hsr
            exact Or.inr (Or.inr (Or.inr (Or.inr ⟨idx, i, 3, Or.inr ⟨hi, rfl⟩, hsr, h1⟩)))
          · cases h1
        · cases h1
theorem am_cas_inv {rc : am_F} {d y pc : Nat} {ls st : List Value} {h h' : am_H} {r : Option Value} {en : am_E} (h1 : am_cas rc d y pc ls st h en = some (r, h')) : ∃ d', d = d' + 1 ∧
    ((∃ k rr, st = .ref k :: rr ∧ (7 ≤ k ∧ k < 23) ∧ am_cs rr ≤ 8 ∧ 2 ≤ d' ∧ am_sM en.1 (am_in y).1 1003 = true ∧ rc d y (pc + 3) ls (.int (Int32.ofNat (am_slen (k - 7))) :: rr) h = some (r, h')) ∨
     (∃ j k rr, st = .int j :: .ref k :: rr ∧ (7 ≤ k ∧ k < 23) ∧ am_cs rr ≤ 8 ∧ 4 ≤ d' ∧ am_sM en.1 (am_in y).1 1004 = true ∧ 0 ≤ j ∧ j.toNatClampNeg < am_slen (k - 7) ∧ rc d y (pc + 3) ls (.int (Int32.ofNat (am_sch (k - 7) j.toNatClampNeg)) :: rr) h = some (r, h'))) := by
  unfold am_cas at h1
  split at h1
  · cases h1
  · rename_i d'
    refine ⟨d', rfl, ?_⟩
    simp only [cond_eq_ite] at h1
    split at h1
    · split at h1
      · rename_i k rr
        split at h1
        · rename_i hc
          simp only [Bool.and_eq_true] at hc
          exact Or.inl ⟨k, rr, rfl, ⟨Nat.le_of_ble_eq_true hc.1.1.1.1, am_blt hc.1.1.1.2⟩, Nat.le_of_ble_eq_true hc.1.1.2, Nat.le_of_ble_eq_true hc.1.2, hc.2, h1⟩
        · cases h1
      · cases h1
    · split at h1
      · rename_i j k rr
        split at h1
        · rename_i hc
          simp only [Bool.and_eq_true] at hc
          exact Or.inr ⟨j, k, rr, rfl, ⟨Nat.le_of_ble_eq_true hc.1.1.1.1.1.1, am_blt hc.1.1.1.1.1.2⟩, Nat.le_of_ble_eq_true hc.1.1.1.1.2, Nat.le_of_ble_eq_true hc.1.1.1.2, hc.1.1.2, of_decide_eq_true hc.1.2, am_blt hc.2, h1⟩
        · cases h1
      · cases h1
theorem am_cal_or {rc : am_F} {d y pc : Nat} {ls st : List Value} {h h' : am_H} {r : Option Value} {en : am_E} (h1 : am_cal rc d y pc ls st h en = some (r, h')) : am_cas rc d y pc ls st h en = some (r, h') ∨ am_cal0 rc d y pc ls st h en = some (r, h') := by
  unfold am_cal at h1
  simp only [cond_eq_ite] at h1
  split at h1
  · exact Or.inl h1
  · exact Or.inr h1
theorem am_cal_inv {rc : am_F} {d y pc : Nat} {ls st : List Value} {h h' : am_H} {r : Option Value} {en : am_E} (h1 : am_cal0 rc d y pc ls st h en = some (r, h')) : ∃ d', d = d' + 1 ∧
    ((en.2.2.2.1 = 1000 ∧ ∃ x rr, st = .ref x :: rr ∧ am_cs rr ≤ 8 ∧ rc d y (pc + 3) ls rr h = some (r, h')) ∨
     (en.2.2.2.1 = 1001 ∧ ∃ n dp b sp a rr h2, st = .int n :: .int dp :: .ref b :: .int sp :: .ref a :: rr ∧ am_cs rr ≤ 8 ∧ am_cp h a sp b dp n = some h2 ∧ rc d y (pc + 3) ls rr h2 = some (r, h')) ∨
     (en.2.2.2.1 = 1002 ∧ ∃ x rr, st = .ref x :: rr ∧ am_cs rr ≤ 8 ∧ am_isO h x 12 = true ∧ 3 ≤ d' ∧ rc d y (pc + 3) ls rr (am_stop h x) = some (r, h')) ∨
     (en.2.2.2.1 = 10 ∧ ∃ a b rr, st = .int b :: .int a :: rr ∧ am_cs rr ≤ 8 ∧ en.2.2.2.2.1 = 0 ∧ rc d y (pc + 3) ls (.int (if a < b then b else a) :: rr) h = some (r, h')) ∨
     (en.2.2.2.1 = 57 ∧ ∃ a b rr, st = .int b :: .int a :: rr ∧ am_cs rr ≤ 8 ∧ en.2.2.2.2.1 = 0 ∧ rc d y (pc + 3) ls (.int (if b < a then b else a) :: rr) h = some (r, h')) ∨
     (en.2.2.2.1 ≠ 1000 ∧ en.2.2.2.1 ≠ 1001 ∧ en.2.2.2.1 ≠ 1002 ∧ en.2.2.2.1 ≠ 10 ∧ en.2.2.2.1 ≠ 57 ∧ 0 < en.2.2.2.1 ∧ ∃ as rr v h2, st = as.reverse ++ rr ∧ as.length = (am_in en.2.2.2.1).2.1 ∧ am_cs rr ≤ 8 ∧ am_rcv en.2.2.2.1 as h = true ∧ (am_wid as).length ≤ (am_in en.2.2.2.1).2.2.1 ∧ rc d' en.2.2.2.1 0 (am_ent as (am_in en.2.2.2.1).2.2.1) [] h = some (v, h2) ∧ ((am_isT v = none ∧ rc d y (pc + 3) ls (v.toList ++ rr) h2 = some (r, h')) ∨ ∃ a, am_isT v = some a ∧ (am_in en.2.2.2.1).2.2.2 = 0 ∧ am_thr rc d y pc ls a h2 = some (r, h')))) := by
  have nb : ∀ {a b : Nat}, ¬ (Nat.beq a b = true) → a ≠ b := fun q e => q (by rw [e]; exact Nat.beq_refl _)
  unfold am_cal0 at h1
  split at h1
  · cases h1
  · rename_i d'
    refine ⟨d', rfl, ?_⟩
    simp only [cond_eq_ite] at h1
    split at h1
    · rename_i hz
      refine Or.inl ⟨am_beq hz, ?_⟩
      split at h1
      · rename_i x rr
        split at h1
        · rename_i hc
          exact ⟨x, rr, rfl, Nat.le_of_ble_eq_true hc, h1⟩
        · cases h1
      · cases h1
    · rename_i hz0
      split at h1
      · rename_i hz
        refine Or.inr (Or.inl ⟨am_beq hz, ?_⟩)
        split at h1
        · rename_i n dp b sp a rr
          split at h1
          · rename_i hc
            split at h1
            · rename_i h2 hcp
              exact ⟨n, dp, b, sp, a, rr, h2, rfl, Nat.le_of_ble_eq_true hc, hcp, h1⟩
            · cases h1
          · cases h1
        · cases h1
      · rename_i hz1
        split at h1
        · rename_i hz
          refine Or.inr (Or.inr (Or.inl ⟨am_beq hz, ?_⟩))
          split at h1
          · rename_i x rr
            split at h1
            · rename_i hc
              simp only [Bool.and_eq_true] at hc
              exact ⟨x, rr, rfl, Nat.le_of_ble_eq_true hc.1.1, hc.1.2, Nat.le_of_ble_eq_true hc.2, h1⟩
            · cases h1
          · cases h1
        · rename_i hz2
          split at h1
          · rename_i hz
            refine Or.inr (Or.inr (Or.inr (Or.inl ⟨am_beq hz, ?_⟩)))
            split at h1
            · rename_i b a rr
              split at h1
              · rename_i hc
                simp only [Bool.and_eq_true] at hc
                exact ⟨a, b, rr, rfl, Nat.le_of_ble_eq_true hc.1, am_beq hc.2, h1⟩
              · cases h1
            · cases h1
          · rename_i hz3
            split at h1
            · rename_i hz
              refine Or.inr (Or.inr (Or.inr (Or.inr (Or.inl ⟨am_beq hz, ?_⟩))))
              split at h1
              · rename_i b a rr
                split at h1
                · rename_i hc
                  simp only [Bool.and_eq_true] at hc
                  exact ⟨a, b, rr, rfl, Nat.le_of_ble_eq_true hc.1, am_beq hc.2, h1⟩
                · cases h1
              · cases h1
            · rename_i hz4
              refine Or.inr (Or.inr (Or.inr (Or.inr (Or.inr ⟨nb hz0, nb hz1, nb hz2, nb hz3, nb hz4, ?_⟩))))
              split at h1
              · rename_i hc
                simp only [Bool.and_eq_true] at hc
                split at h1
                · rename_i v h2 hr
                  refine ⟨am_blt hc.1.1.1.1, (st.take (am_in en.2.2.2.1).2.1).reverse, st.drop (am_in en.2.2.2.1).2.1, v, h2, ?_, ?_, Nat.le_of_ble_eq_true hc.1.1.2, hc.1.2, Nat.le_of_ble_eq_true hc.2, hr, ?_⟩
                  · rw [List.reverse_reverse, List.take_append_drop]
                  · rw [List.length_reverse, List.length_take]
                    exact Nat.min_eq_left (Nat.le_of_ble_eq_true hc.1.1.1.2)
                  · split at h1
                    · rename_i a ha
                      rw [← cond_eq_ite] at h1
                      obtain ⟨hk, h1⟩ := am_cond h1
                      exact Or.inr ⟨a, ha, am_beq hk, h1⟩
                    · rename_i ha
                      exact Or.inl ⟨ha, h1⟩
                · cases h1
              · cases h1
/-! a run only makes cells -/
def am_le (h h' : am_H) : Prop := h.1 ≤ h'.1 ∧ h.2.1 ≤ h'.2.1
theorem am_le.rf (h : am_H) : am_le h h := ⟨Nat.le_refl _, Nat.le_refl _⟩
theorem am_le.tr {a b c : am_H} (h1 : am_le a b) (h2 : am_le b c) : am_le a c := ⟨Nat.le_trans h1.1 h2.1, Nat.le_trans h1.2 h2.2⟩
theorem am_le.wr {h h' : am_H} {x tc : Nat} {i : Int32} {v : Value} (hr : am_wr h x i tc v = some h') : am_le h h' := by
  obtain ⟨-, -, -, -, rfl⟩ := am_wr_spec hr
  exact am_le.rf _
theorem am_le.cp {h h' : am_H} {a b : Nat} {sp dp n : Int32} (hr : am_cp h a sp b dp n = some h') : am_le h h' := by
  unfold am_cp at hr
  obtain ⟨-, hr⟩ := am_cond hr
  obtain ⟨-, hr⟩ := am_ifn hr
  obtain ⟨-, hr⟩ := am_cond hr
  cases hr
  exact am_le.rf _
set_option maxHeartbeats 4000000 in
theorem am_le.st {en : am_E} {pc pc' : Nat} {ls st ls' st' : List Value} {h h' : am_H} (hs : am_st en pc ls st h = some (pc', ls', st', h')) : am_le h h' := by
  obtain ⟨i, n, t, a, b, w⟩ := en
  cases i with
  | aconst_null =>
    simp only [am_st, cond_eq_ite] at hs
    repeat' (split at hs)
    all_goals first
      | (cases hs; done)
      | (cases hs; exact am_le.rf _)
  | iconst x0 =>
    simp only [am_st, cond_eq_ite] at hs
    repeat' (split at hs)
    all_goals first
      | (cases hs; done)
      | (cases hs; exact am_le.rf _)
  | bipush x0 =>
    simp only [am_st, cond_eq_ite] at hs
    repeat' (split at hs)
    all_goals first
      | (cases hs; done)
      | (cases hs; exact am_le.rf _)
  | sipush x0 =>
    simp only [am_st, cond_eq_ite] at hs
    repeat' (split at hs)
    all_goals first
      | (cases hs; done)
      | (cases hs; exact am_le.rf _)
  | lconst x0 =>
    simp only [am_st, cond_eq_ite] at hs
    repeat' (split at hs)
    all_goals first
      | (cases hs; done)
      | (cases hs; exact am_le.rf _)
  | iload x0 =>
    simp only [am_st, cond_eq_ite] at hs
    repeat' (split at hs)
    all_goals first
      | (cases hs; done)
      | (cases hs; exact am_le.rf _)
  | iload_n x0 =>
    simp only [am_st, cond_eq_ite] at hs
    repeat' (split at hs)
    all_goals first
      | (cases hs; done)
      | (cases hs; exact am_le.rf _)
  | lload x0 =>
    simp only [am_st, cond_eq_ite] at hs
    repeat' (split at hs)
    all_goals first
      | (cases hs; done)
      | (cases hs; exact am_le.rf _)
  | lload_n x0 =>
    simp only [am_st, cond_eq_ite] at hs
    repeat' (split at hs)
    all_goals first
      | (cases hs; done)
      | (cases hs; exact am_le.rf _)
  | aload x0 =>
    simp only [am_st, cond_eq_ite] at hs
    repeat' (split at hs)
    all_goals first
      | (cases hs; done)
      | (cases hs; exact am_le.rf _)
  | aload_n x0 =>
    simp only [am_st, cond_eq_ite] at hs
    repeat' (split at hs)
    all_goals first
      | (cases hs; done)
      | (cases hs; exact am_le.rf _)
  | istore x0 =>
    simp only [am_st, cond_eq_ite] at hs
    repeat' (split at hs)
    all_goals first
      | (cases hs; done)
      | (cases hs; exact am_le.rf _)
  | istore_n x0 =>
    simp only [am_st, cond_eq_ite] at hs
    repeat' (split at hs)
    all_goals first
      | (cases hs; done)
      | (cases hs; exact am_le.rf _)
  | lstore x0 =>
    simp only [am_st, cond_eq_ite] at hs
    repeat' (split at hs)
    all_goals first
      | (cases hs; done)
      | (cases hs; exact am_le.rf _)
  | lstore_n x0 =>
    simp only [am_st, cond_eq_ite] at hs
    repeat' (split at hs)
    all_goals first
      | (cases hs; done)
      | (cases hs; exact am_le.rf _)
  | astore x0 =>
    simp only [am_st, cond_eq_ite] at hs
    repeat' (split at hs)
    all_goals first
      | (cases hs; done)
      | (cases hs; exact am_le.rf _)
  | astore_n x0 =>
    simp only [am_st, cond_eq_ite] at hs
    repeat' (split at hs)
    all_goals first
      | (cases hs; done)
      | (cases hs; exact am_le.rf _)
  | iinc x0 x1 =>
    simp only [am_st, cond_eq_ite] at hs
    repeat' (split at hs)
    all_goals first
      | (cases hs; done)
      | (cases hs; exact am_le.rf _)
  | iadd =>
    simp only [am_st, cond_eq_ite] at hs
    repeat' (split at hs)
    all_goals first
      | (cases hs; done)
      | (cases hs; exact am_le.rf _)
  | isub =>
    simp only [am_st, cond_eq_ite] at hs
    repeat' (split at hs)
    all_goals first
      | (cases hs; done)
      | (cases hs; exact am_le.rf _)
  | imul =>
    simp only [am_st, cond_eq_ite] at hs
    repeat' (split at hs)
    all_goals first
      | (cases hs; done)
      | (cases hs; exact am_le.rf _)
  | iand =>
    simp only [am_st, cond_eq_ite] at hs
    repeat' (split at hs)
    all_goals first
      | (cases hs; done)
      | (cases hs; exact am_le.rf _)
  | ior =>
    simp only [am_st, cond_eq_ite] at hs
    repeat' (split at hs)
    all_goals first
      | (cases hs; done)
      | (cases hs; exact am_le.rf _)
  | ixor =>
    simp only [am_st, cond_eq_ite] at hs
    repeat' (split at hs)
    all_goals first
      | (cases hs; done)
      | (cases hs; exact am_le.rf _)
  | ineg =>
    simp only [am_st, cond_eq_ite] at hs
    repeat' (split at hs)
    all_goals first
      | (cases hs; done)
      | (cases hs; exact am_le.rf _)
  | ishl =>
    simp only [am_st, cond_eq_ite] at hs
    repeat' (split at hs)
    all_goals first
      | (cases hs; done)
      | (cases hs; exact am_le.rf _)
  | ishr =>
    simp only [am_st, cond_eq_ite] at hs
    repeat' (split at hs)
    all_goals first
      | (cases hs; done)
      | (cases hs; exact am_le.rf _)
  | ladd =>
    simp only [am_st, cond_eq_ite] at hs
    repeat' (split at hs)
    all_goals first
      | (cases hs; done)
      | (cases hs; exact am_le.rf _)
  | lsub =>
    simp only [am_st, cond_eq_ite] at hs
    repeat' (split at hs)
    all_goals first
      | (cases hs; done)
      | (cases hs; exact am_le.rf _)
  | lmul =>
    simp only [am_st, cond_eq_ite] at hs
    repeat' (split at hs)
    all_goals first
      | (cases hs; done)
      | (cases hs; exact am_le.rf _)
  | lor =>
    simp only [am_st, cond_eq_ite] at hs
    repeat' (split at hs)
    all_goals first
      | (cases hs; done)
      | (cases hs; exact am_le.rf _)
  | land =>
    simp only [am_st, cond_eq_ite] at hs
    repeat' (split at hs)
    all_goals first
      | (cases hs; done)
      | (cases hs; exact am_le.rf _)
  | iushr =>
    simp only [am_st, cond_eq_ite] at hs
    repeat' (split at hs)
    all_goals first
      | (cases hs; done)
      | (cases hs; exact am_le.rf _)
  | lshl =>
    simp only [am_st, cond_eq_ite] at hs
    repeat' (split at hs)
    all_goals first
      | (cases hs; done)
      | (cases hs; exact am_le.rf _)
  | i2l =>
    simp only [am_st, cond_eq_ite] at hs
    repeat' (split at hs)
    all_goals first
      | (cases hs; done)
      | (cases hs; exact am_le.rf _)
  | l2i =>
    simp only [am_st, cond_eq_ite] at hs
    repeat' (split at hs)
    all_goals first
      | (cases hs; done)
      | (cases hs; exact am_le.rf _)
  | i2b =>
    simp only [am_st, cond_eq_ite] at hs
    repeat' (split at hs)
    all_goals first
      | (cases hs; done)
      | (cases hs; exact am_le.rf _)
  | i2c =>
    simp only [am_st, cond_eq_ite] at hs
    repeat' (split at hs)
    all_goals first
      | (cases hs; done)
      | (cases hs; exact am_le.rf _)
  | lcmp =>
    simp only [am_st, cond_eq_ite] at hs
    repeat' (split at hs)
    all_goals first
      | (cases hs; done)
      | (cases hs; exact am_le.rf _)
  | idiv =>
    simp only [am_st, cond_eq_ite] at hs
    repeat' (split at hs)
    all_goals first
      | (cases hs; done)
      | (cases hs; exact am_le.rf _)
  | irem =>
    simp only [am_st, cond_eq_ite] at hs
    repeat' (split at hs)
    all_goals first
      | (cases hs; done)
      | (cases hs; exact am_le.rf _)
  | ldiv =>
    simp only [am_st, cond_eq_ite] at hs
    repeat' (split at hs)
    all_goals first
      | (cases hs; done)
      | (cases hs; exact am_le.rf _)
  | lrem =>
    simp only [am_st, cond_eq_ite] at hs
    repeat' (split at hs)
    all_goals first
      | (cases hs; done)
      | (cases hs; exact am_le.rf _)
  | dup =>
    simp only [am_st, cond_eq_ite] at hs
    repeat' (split at hs)
    all_goals first
      | (cases hs; done)
      | (cases hs; exact am_le.rf _)
  | pop =>
    simp only [am_st, cond_eq_ite] at hs
    repeat' (split at hs)
    all_goals first
      | (cases hs; done)
      | (cases hs; exact am_le.rf _)
  | dup2 =>
    simp only [am_st, cond_eq_ite] at hs
    repeat' (split at hs)
    all_goals first
      | (cases hs; done)
      | (cases hs; exact am_le.rf _)
  | goto x0 =>
    simp only [am_st, cond_eq_ite] at hs
    repeat' (split at hs)
    all_goals first
      | (cases hs; done)
      | (cases hs; exact am_le.rf _)
  | ifCond cnd off =>
    simp only [am_st, cond_eq_ite] at hs
    repeat' (split at hs)
    all_goals first
      | (cases hs; done)
      | (cases hs; exact am_le.rf _)
  | if_icmp cnd off =>
    simp only [am_st, cond_eq_ite] at hs
    repeat' (split at hs)
    all_goals first
      | (cases hs; done)
      | (cases hs; exact am_le.rf _)
  | ifnull x0 =>
    simp only [am_st, cond_eq_ite] at hs
    repeat' (split at hs)
    all_goals first
      | (cases hs; done)
      | (cases hs; exact am_le.rf _)
  | ifnonnull x0 =>
    simp only [am_st, cond_eq_ite] at hs
    repeat' (split at hs)
    all_goals first
      | (cases hs; done)
      | (cases hs; exact am_le.rf _)
  | tableswitch d0 lo hi offs =>
    simp only [am_st, cond_eq_ite] at hs
    repeat' (split at hs)
    all_goals first
      | (cases hs; done)
      | (cases hs; exact am_le.rf _)
  | ldc x0 =>
    simp only [am_st, cond_eq_ite] at hs
    repeat' (split at hs)
    all_goals first
      | (cases hs; done)
      | (cases hs; exact am_le.rf _)
  | ldc_w x0 =>
    simp only [am_st, cond_eq_ite] at hs
    repeat' (split at hs)
    all_goals first
      | (cases hs; done)
      | (cases hs; exact am_le.rf _)
  | ldc2_w x0 =>
    simp only [am_st, cond_eq_ite] at hs
    repeat' (split at hs)
    all_goals first
      | (cases hs; done)
      | (cases hs; exact am_le.rf _)
  | getstatic x0 =>
    simp only [am_st, cond_eq_ite] at hs
    repeat' (split at hs)
    all_goals first
      | (cases hs; done)
      | (cases hs; exact am_le.rf _)
  | getfield x0 =>
    simp only [am_st, cond_eq_ite] at hs
    repeat' (split at hs)
    all_goals first
      | (cases hs; done)
      | (cases hs; exact am_le.rf _)
  | putfield x0 =>
    simp only [am_st, cond_eq_ite] at hs
    repeat' (split at hs)
    all_goals first
      | (cases hs; done)
      | (cases hs; exact am_le.rf _)
  | iaload =>
    simp only [am_st, cond_eq_ite] at hs
    repeat' (split at hs)
    all_goals first
      | (cases hs; done)
      | (cases hs; exact am_le.rf _)
  | baload =>
    simp only [am_st, cond_eq_ite] at hs
    repeat' (split at hs)
    all_goals first
      | (cases hs; done)
      | (cases hs; exact am_le.rf _)
  | laload =>
    simp only [am_st, cond_eq_ite] at hs
    repeat' (split at hs)
    all_goals first
      | (cases hs; done)
      | (cases hs; exact am_le.rf _)
  | aaload =>
    simp only [am_st, cond_eq_ite] at hs
    repeat' (split at hs)
    all_goals first
      | (cases hs; done)
      | (cases hs; exact am_le.rf _)
  | arraylength =>
    simp only [am_st, cond_eq_ite] at hs
    repeat' (split at hs)
    all_goals first
      | (cases hs; done)
      | (cases hs; exact am_le.rf _)
  | iastore =>
    simp only [am_st, cond_eq_ite] at hs
    repeat' (split at hs)
    all_goals first
      | (cases hs; done)
      | (cases hs; exact am_le.wr (by assumption))
      | (cases hs; rename_i hq; split at hq <;> exact am_le.wr hq)
  | lastore =>
    simp only [am_st, cond_eq_ite] at hs
    repeat' (split at hs)
    all_goals first
      | (cases hs; done)
      | (cases hs; exact am_le.wr (by assumption))
      | (cases hs; rename_i hq; split at hq <;> exact am_le.wr hq)
  | bastore =>
    simp only [am_st, cond_eq_ite] at hs
    repeat' (split at hs)
    all_goals first
      | (cases hs; done)
      | (cases hs; exact am_le.wr (by assumption))
      | (cases hs; rename_i hq; split at hq <;> exact am_le.wr hq)
  | aastore =>
    simp only [am_st, cond_eq_ite] at hs
    repeat' (split at hs)
    all_goals first
      | (cases hs; done)
      | (cases hs; exact am_le.wr (by assumption))
      | (cases hs; rename_i hq; split at hq <;> exact am_le.wr hq)
  | new x0 =>
    simp only [am_st, cond_eq_ite] at hs
    repeat' (split at hs)
    all_goals first
      | (cases hs; done)
      | (cases hs; exact ⟨Nat.le_succ _, Nat.le_add_right _ _⟩)
  | newarray x0 =>
    simp only [am_st, cond_eq_ite] at hs
    repeat' (split at hs)
    all_goals first
      | (cases hs; done)
      | (cases hs; exact ⟨Nat.le_succ _, Nat.le_add_right _ _⟩)
  | anewarray x0 =>
    simp only [am_st, cond_eq_ite] at hs
    repeat' (split at hs)
    all_goals first
      | (cases hs; done)
      | (cases hs; exact ⟨Nat.le_succ _, Nat.le_add_right _ _⟩)
  | _ => exact absurd hs (fun q => by cases q)
theorem am_le.thr {n d y pc a : Nat} {ls : List Value} {h h' : am_H} {r : Option Value} (ih : ∀ (d y pc : Nat) (ls st : List Value) (h : am_H) (r : Option Value) (h' : am_H), am_run n d y pc ls st h = some (r, h') → am_le h h') (q : am_thr (am_run n) d y pc ls a h = some (r, h')) : am_le h h' := by
  obtain ⟨-, -, ⟨hp, -, q⟩ | ⟨-, -, rfl⟩⟩ := am_thr_inv q
  · exact ih _ _ _ _ _ _ _ _ q
  · exact am_le.rf _
theorem am_le.run : ∀ (n d y pc : Nat) (ls st : List Value) (h : am_H) (r : Option Value) (h' : am_H), am_run n d y pc ls st h = some (r, h') → am_le h h' := by
  intro n
  induction n with
  | zero => intro d y pc ls st h r h' q; cases q
  | succ n ih =>
    intro d y pc ls st h r h' q
    rw [am_run_s] at q
    obtain ⟨en, -, ⟨-, -, rfl⟩ | ⟨-, q⟩ | ⟨pc', ls', st', h1, q1, q2⟩ | ⟨-, a, rr, -, q⟩ | ⟨idx, i, k, -, -, q⟩⟩ := am_one_inv q
    · exact am_le.rf _
    · rcases am_cal_or q with q | q
      · obtain ⟨d', rfl, ⟨k, rr, -, -, -, -, -, q⟩ | ⟨j, k, rr, -, -, -, -, -, -, -, q⟩⟩ := am_cas_inv q
        · exact ih _ _ _ _ _ _ _ _ q
        · exact ih _ _ _ _ _ _ _ _ q
      obtain ⟨d', rfl, ⟨-, x, rr, -, -, q⟩ | ⟨-, n, dp, b, sp, a, rr, h2, -, -, hcp, q⟩ | ⟨-, x, rr, -, -, -, -, q⟩ | ⟨-, a, b, rr, -, -, -, q⟩ | ⟨-, a, b, rr, -, -, -, q⟩ | ⟨-, -, -, -, -, -, as, rr, v, h2, -, -, -, -, -, q1, ⟨-, q2⟩ | ⟨a, -, -, q2⟩⟩⟩ := am_cal_inv q
      · exact ih _ _ _ _ _ _ _ _ q
      · exact (am_le.cp hcp).tr (ih _ _ _ _ _ _ _ _ q)
      · have q2 := ih _ _ _ _ _ _ _ _ q
        exact ⟨q2.1, q2.2⟩
      · exact ih _ _ _ _ _ _ _ _ q
      · exact ih _ _ _ _ _ _ _ _ q
      · exact (ih _ _ _ _ _ _ _ _ q1).tr (ih _ _ _ _ _ _ _ _ q2)
      · exact (ih _ _ _ _ _ _ _ _ q1).tr (am_le.thr ih q2)
    · exact (am_le.st q1).tr (ih _ _ _ _ _ _ _ _ q2)
    · exact am_le.thr ih q
    · exact ih _ _ _ _ _ _ _ _ q
end
section
/-! CALLS, II: of methods with a table of handlers (on roads where none of it is taken); of any method of the tables -/
section AMW
variable {p : Program} {l : Launch} {e : Env} {R : Room} {s : State} {m : MethodId} {args : Array Value} {below : List Frame} {meth : Method} {c : Code} {T : State} {locs : List Loc} {cells slots : Nat} {H : Heap}
theorem am_callVW (X : Stand p l e R s m args below meth c T locs cells slots) (hexec : p.tables.exec = Jvm.exec) {own C : String} {index : Nat} {y : MethodName} {bytes : ByteArray} {maxL : Nat} {ret : Option FieldType} {hh : List (Nat × Nat × Nat × Nat)}
    (hown : s.vm.findClass own = some m.cls) (hlink : (Cond.methodLink own index y).before args s = true) (hinst : (Cond.instanceMethod y).before args s = true) (hsel : (Cond.selects C y y).before args s = true)
    (hcode : (Cond.codeWith y bytes maxL ret hh).before args s = true) (hy : y.cls ≠ "java/lang/invoke/MethodHandle" ∧ y.cls ≠ "java/lang/invoke/VarHandle")
    {W : Nat} {Pre : Pt → Array Value → Prop} {Post : Pt → Array Value → Option Value → Pt → Prop} (hK : Back l R p e below s args y 3 W Pre Post)
    {b : Addr} {cellB : Cell} (hcell : T.heap[b]? = some cellB) (hobj : cellB.vm.isStatics = false) (hcls : s.vm.findClass C = some cellB.cls)
    {g : JFrame} (hg : g.method = m) (hsize : g.locals.size = c.maxLocals) {argsL rest : List Value} (hlen : ∀ sig, parseMethodDescriptor y.desc = some sig → argsL.length = sig.parameters.length)
    (hstack : g.stack = argsL.reverse ++ .ref b :: rest) (hW : 2 * g.monitorRoom + (rest.map fun v => v.category).sum ≤ W) (hdg : decode c.code g.pc = .ok (.invokevirtual index, 3))
    (hpre : ∀ vm₁, s.WarmedH vm₁ → Pre ⟨T.setVm vm₁, locs, cells, slots⟩ (Value.ref b :: argsL).toArray) :
    ∃ (v : Option Value) (vm₁ : Vm) (B : Pt), s.WarmedH vm₁ ∧ Stand p l e R s m args below meth c B.U B.locs B.cells B.slots ∧ Post ⟨T.setVm vm₁, locs, cells, slots⟩ (Value.ref b :: argsL).toArray v B ∧
      ∀ target, Steps p.tables e below (B.U.setTop { g with pc := g.pc + 3, stack := v.toList ++ rest }) target → Steps p.tables e below (T.setTop g) target := by
  obtain ⟨mk, methM, hnamed, hmethM, hstM, habM⟩ := Cond.instanceMethod_spec hinst
  obtain ⟨m9, methM', cM, hn9, hmethM', -, -, -, -, -, -, hsigM⟩ := Cond.codeWith_spec hcode
  cases hnamed.symm.trans hn9
  cases hmethM.symm.trans hmethM'
  obtain ⟨c2, r2, m2, q1, q2, q3, q4, kP, hkP, hkPi⟩ := Cond.selects_spec hsel
  cases hcls.symm.trans q1
  cases (State.methodFound?_of_named hnamed hy).symm.trans q2
  cases hnamed.symm.trans q3
  have hselP : selectMethod e.platform s.vm cellB.cls mk = .method mk := by rw [Launch.admits_selectMethod X.admits]; exact q4
  obtain ⟨vm₁, X₁, hstep₁⟩ := X.invokevirtual hexec hown hlink hnamed hmethM hstM hkP hkPi hy (a := b) (cell := cellB) hcell
    (fun z h => by rw [h] at hobj; cases hobj) hselP hmethM habM hkP hkPi (g := g) hg (argsL := argsL) (rest := rest) (hlen _ hsigM) hstack hdg
  obtain ⟨v, B, X', hpost, hsteps⟩ := hK m meth c ⟨T.setVm vm₁, locs, cells, slots⟩ { g with stack := rest } (.invokevirtual index) mk (Value.ref b :: argsL).toArray X₁ hg hsize hdg hW (X₁.named hnamed) (hpre vm₁ X₁.warmed)
  exact ⟨v, vm₁, B, X₁.warmed, X', hpost, fun target h => hstep₁ _ fun acts => by rw [doInvoke_state]; exact hsteps.trans h⟩
theorem am_runVW {y : MethodName} {bytes cc : ByteArray} {maxL nL mc ms n index : Nat} {ret : Option FieldType} {hh : List (Nat × Nat × Nat × Nat)} {ws : List Cond} {rm : Room} {Pc : Array Value → State → Prop} {Qc : Array Value → State → Outcome → State → Prop} {free : Addr → Prop} {Ts : List Cond} {own C : String} {b : Addr} {As rest : List Value} {g : JFrame}
    (S : CallFix p m c cc nL s args Ts own) (hM : Met l y ws rm Pc Qc mc ms free) (hrc : rm.cells = mc) (hrs : rm.slots = ms) (hfr : rm.frames + 1 ≤ R.frames) (hlo : 8 + (maxL + 11) + rm.locals ≤ R.locals)
    (hws : ∀ w ∈ ws, ∀ (a' : Array Value) (U : State), s.WarmedH U.vm → w.before a' U = true) (hcw : Cond.codeWith y bytes maxL ret hh ∈ ws) (hcode : (Cond.codeWith y bytes maxL ret hh).before args s = true) (hini : (Cond.initialized y.cls).before args s = true) (hy : y.cls ≠ "java/lang/invoke/MethodHandle" ∧ y.cls ≠ "java/lang/invoke/VarHandle") (hlen : ∀ sig, parseMethodDescriptor y.desc = some sig → n = sig.parameters.length) (hl : (Cond.methodLink own index y).before args s = true) (hin : (Cond.instanceMethod y).before args s = true) (hse : (Cond.selects C y y).before args s = true) (hp : PreV s H C b Pc As)
    (hg : g.method = m) (hn : As.length = n) (hsize : g.locals.size = nL) (hstack : g.stack = As.reverse ++ .ref b :: rest) (hW : 2 * g.monitorRoom + (rest.map fun v => v.category).sum ≤ 8) (hdg : decode cc g.pc = .ok (.invokevirtual index, 3)) (hf : cells + mc ≤ R.cells ∧ slots + ms ≤ R.slots) :
    va_Run p l e R s m args below meth c H locs cells slots mc ms g rest (Qc (Value.ref b :: As).toArray) (free) := by
  have hK : Back l R p e below s args y 3 8 (PreOf R mc ms Pc) (PostOf Qc mc ms free) := va_backW (hh := hh) (bytes := bytes) (maxL := maxL) (ret := ret) hM hp.1 hrc hrs hfr hlo hws hcw (fun a' U hW => word_at hW (Or.inl (by first | rfl | simp [Cond.onTables, Cond.keeps, Cond.steady])) hini)
  obtain ⟨hx, hb, hml, ho, -⟩ := S
  obtain ⟨-, ⟨cellB, hcB, hoB, hclB⟩, hPc⟩ := hp
  intro T hT X
  obtain ⟨v, vm₁, ⟨U', l2, c2, s2⟩, hW₁, X', ⟨g', mk, t, L, e1, e2, hq, h1, hL, h2, h3⟩, st⟩ := am_callVW X hx (C := C) (bytes := bytes) (maxL := maxL) (ret := ret) (hh := hh) ho hl hin hse hcode hy hK (by rw [hT]; exact hcB) hoB hclB hg (hsize.trans hml.symm) (argsL := As) (rest := rest) (fun sig h => hn.trans (hlen sig h)) hstack hW (by rw [hb]; exact hdg)
    (fun vm₁ hW₁ => ⟨hf.1, hf.2, hPc (T.setVm vm₁) hT hW₁⟩)
  dsimp only [Pt.U, Pt.locs, Pt.cells, Pt.slots] at X' e1 e2 h1 h2 h3 st
  subst h1; subst h2; subst h3
  exact ⟨v, (T.setVm vm₁).calling g' mk (Value.ref b :: As).toArray, t, U', L, hT, X', hL, e1, e2, hq, st⟩
end AMW
section AMC2
variable {p : Program} {l : Launch} {e : Env} {R : Room} {s : State} {m : MethodId} {args : Array Value} {below : List Frame} {meth : Method} {c : Code} {Q : State → Prop} {D : va_G} {dA : Nat → ClassId} {B0 : Nat} {ca : Nat → Nat} {y : Nat} {h0 : am_H} {pc : Nat} {ls st : List Value} {h h1 : am_H}
theorem am_stk {as rest st : List Value} (hst : st = as.reverse ++ rest) (f : Value → Value) : st.map f = (as.map f).reverse ++ rest.map f := by
  rw [hst, List.map_append, List.map_reverse]
theorem am_kind3 {z : Nat} (hz : am_Mk z) : (am_in z).2.2.2 = 0 ∨ (am_in z).2.2.2 = 1 ∨ (am_in z).2.2.2 = 2 ∨ (am_in z).2.2.2 = 3 := by
  have := hz.2.2.2.2.2.2.2.2.1
  omega
theorem am_recvC {x ci : Nat} {H : Heap} {locs : List Loc} (hT : am_Tab D dA ca s) (hO : am_Ok s D dA B0 ca h H locs) (hi : am_isO h x ci = true) (hci : ci < 14) : ∃ cellB : Cell, H[am_ad B0 ca x]? = some cellB ∧ cellB.vm.isStatics = false ∧ s.vm.findClass (am_cn ci) = some cellB.cls := by
  obtain ⟨-, cell, q1, q2, q3, -⟩ := am_obj hO hi hci
  refine ⟨cell, q1, by rw [q3]; rfl, ?_⟩
  rw [q2]
  exact (hT.1.1 ci _ (am_cl ci hci)).2.1
theorem am_k_call {i : Instr} {z d index : Nat} {as rest : List Value} {r : Option Value} (C : am_Cx p s m args meth c D dA B0 ca y) (hz : am_Mk z) (hst : st = as.reverse ++ rest) (hlen : as.length = (am_in z).2.1)
    (hk : (i = .invokestatic index ∧ (am_in z).2.2.2 = 1) ∨ (i = .invokevirtual index ∧ ((am_in z).2.2.2 = 0 ∨ (am_in z).2.2.2 = 3)) ∨ (i = .invokespecial index ∧ (am_in z).2.2.2 = 2))
    (hd : decode (am_by y) pc = .ok (i, 3)) (hl : Cond.methodLink (am_cn (am_in y).1) index (am_nm z) ∈ am_big ∨ (((am_in z).2.2.2 = 1 ∨ (am_in z).2.2.2 = 2) ∧ Cond.methodLinkNest (am_cn (am_in y).1) index (am_nm z) "PoetsBook" ∈ lw_tbl))
    (hcs : am_cs rest ≤ 8) (hrcv : am_rcv z as h = true) (hM : am_Met l D dA B0 ca d z as h r h1) (hR : d + 1 ≤ R.frames ∧ 64 * (d + 1) ≤ R.locals)
    (hm : am_le h0 h) (hm1 : am_le h h1) (hcap : h1.1 - h0.1 ≤ R.cells ∧ h1.2.1 - h0.2.1 ≤ R.slots)
    (k : am_Wp p l e R s m args below meth c Q D dA B0 ca y h0 (pc + 3) ls (r.toList ++ rest) h1) : am_Wp p l e R s m args below meth c Q D dA B0 ca y h0 pc ls st h := by
  intro H locs rls hO hL
  have S : CallFix p m c (am_by y) (am_in y).2.2.1 s args am_big (am_cn (am_in y).1) := ⟨C.1, C.2.1, C.2.2.1, C.2.2.2.1, C.2.2.2.2.1⟩
  have hts := C.2.2.2.2.1
  have hT := C.2.2.2.2.2.1
  have hf : h.1 - h0.1 + (h1.1 - h.1) ≤ R.cells ∧ h.2.1 - h0.2.1 + (h1.2.1 - h.2.1) ≤ R.slots := by
    obtain ⟨q1, q2⟩ := hm
    obtain ⟨q3, q4⟩ := hm1
    obtain ⟨q5, q6⟩ := hcap
    exact ⟨by omega, by omega⟩
  have hstk := am_stk hst (am_ga (am_ad B0 ca))
  obtain ⟨z1, z2, z3, z4, z5, z6, z7, z8, z9, z10, z11, z12⟩ := id hz
  have hnest : (((am_in z).2.2.2 = 1 ∨ (am_in z).2.2.2 = 2) ∧ Cond.methodLinkNest (am_cn (am_in y).1) index (am_nm z) "PoetsBook" ∈ lw_tbl) → va_Nw (.methodLinkNest (am_cn (am_in y).1) index (am_nm z) "PoetsBook") s := fun q => hT.2.2.1 _ q.2 rfl
  rcases hk with ⟨rfl, hk⟩ | ⟨rfl, hk⟩ | ⟨rfl, hk⟩
  · -- static
    have hn : (am_in z).2.1 - (bif Nat.beq (am_in z).2.2.2 1 then 0 else 1) = (am_in z).2.1 := by rw [hk]; rfl
    have hkw : (Cond.static (am_nm z)).before args s = true := by
      have q := hts _ z5
      unfold am_kw at q
      rw [hk] at q
      exact q
    have hlen' : (as.map (am_ga (am_ad B0 ca))).length = (am_in z).2.1 := by rw [List.length_map]; exact hlen
    rcases hl with hl | hl
    · exact am_after (va_runS (rest := rest.map (am_ga (am_ad B0 ca))) S hM ⟨am_callB (h := h) (h1 := h1) hts hz (by omega) (hts _ hl) hn hR, hkw⟩ ⟨am_blind, am_preU C hO rfl⟩ rfl hlen' hL.2.1 hstk (am_roomW hcs) hd hf) hO hm hm1 hL rfl k
    · exact am_after (va_runSN (rest := rest.map (am_ga (am_ad B0 ca))) S hM ⟨am_callN (h := h) (h1 := h1) hts hz (by omega) (hnest hl) hn hR, hkw, trivial⟩ ⟨am_blind, am_preU C hO rfl⟩ rfl hlen' hL.2.1 hstk (am_roomW hcs) hd hf) hO hm hm1 hL rfl k
  · -- virtual
    have hne1 : (am_in z).2.2.2 ≠ 1 := by omega
    have hn : (am_in z).2.1 - (bif Nat.beq (am_in z).2.2.2 1 then 0 else 1) = (am_in z).2.1 - 1 := by rcases hk with q | q <;> (rw [q]; rfl)
    have h1le : 1 ≤ (am_in z).2.1 := z12 hne1
    have hkw : (Cond.instanceMethod (am_nm z)).before args s = true := by
      have q := hts _ z5
      unfold am_kw at q
      rcases hk with q1 | q1 <;> (rw [q1] at q; exact q)
    have hrv : ∃ x as', as = .ref x :: as' ∧ am_isO h x (am_in z).1 = true := by
      unfold am_rcv at hrcv
      rcases hk with q1 | q1 <;> rw [q1] at hrcv <;> (
        cases as with
        | nil => cases hrcv
        | cons v as' => cases v <;> first | (exact ⟨_, _, rfl, hrcv⟩) | (cases hrcv))
    obtain ⟨x, as', rfl, hix⟩ := hrv
    have hsl := z10 (by omega)
    have hcell := am_recvC hT hO hix hsl.2
    rw [← z7] at hcell
    have hlen' : (as'.map (am_ga (am_ad B0 ca))).length = (am_in z).2.1 - 1 := by
      rw [List.length_map]
      have : as'.length + 1 = (am_in z).2.1 := hlen
      omega
    have hstk' : st.map (am_ga (am_ad B0 ca)) = (as'.map (am_ga (am_ad B0 ca))).reverse ++ .ref (am_ad B0 ca x) :: rest.map (am_ga (am_ad B0 ca)) := by
      rw [hstk]
      simp [am_ga]
    have hl' : (Cond.methodLink (am_cn (am_in y).1) index (am_nm z)).before args s = true := by
      rcases hl with hl | hl
      · exact hts _ hl
      · omega
    have hpre : PreV s H (am_nm z).cls (am_ad B0 ca x) (am_Pc D dA B0 ca (.ref x :: as') h) (as'.map (am_ga (am_ad B0 ca))) := ⟨am_blind, hcell, am_preU C hO rfl⟩
    rcases hk with hk | hk
    · exact am_after (va_runV (C := (am_nm z).cls) (rest := rest.map (am_ga (am_ad B0 ca))) S hM ⟨am_callB (h := h) (h1 := h1) hts hz (by omega) hl' hn hR, hkw, hts _ hsl.1⟩ hpre rfl hlen' hL.2.1 hstk' (am_roomW hcs) hd hf) hO hm hm1 hL rfl k
    · have hcw : am_cw z = .codeWith (am_nm z) (am_by z) (am_in z).2.2.1 (am_rt z) (am_hh z) := by
        unfold am_cw
        rw [hk]
        rfl
      have hG := am_good hz
      refine am_after (am_runVW (C := (am_nm z).cls) (bytes := am_by z) (maxL := (am_in z).2.2.1) (ret := am_rt z) (hh := am_hh z) (n := (am_in z).2.1 - 1) (index := index) (rest := rest.map (am_ga (am_ad B0 ca))) S hM rfl rfl hR.1 ?_ (pay_in hts hG) (by rw [am_ws, hcw]; exact List.mem_cons_self) (by rw [← hcw]; exact hts _ z4) (hts _ z6) z2 ?_ hl' hkw (hts _ hsl.1) hpre rfl hlen' hL.2.1 hstk' (am_roomW hcs) hd hf) hO hm hm1 hL rfl k
      · show 8 + ((am_in z).2.2.1 + 11) + 64 * d ≤ R.locals
        have := hR.2
        omega
      · intro sig hsig
        rw [hsig, hn] at z3
        exact (Option.some.inj z3).symm
  · -- special: a constructor
    have hn : (am_in z).2.1 - (bif Nat.beq (am_in z).2.2.2 1 then 0 else 1) = (am_in z).2.1 - 1 := by rw [hk]; rfl
    have h1le : 1 ≤ (am_in z).2.1 := z12 (by omega)
    have hkw : (Cond.instanceMethod (am_nm z)).before args s = true := by
      have q := hts _ z5
      unfold am_kw at q
      rw [hk] at q
      exact q
    have hrv : ∃ x as', as = .ref x :: as' := by
      unfold am_rcv at hrcv
      rw [hk] at hrcv
      cases as with
      | nil => cases hrcv
      | cons v as' => cases v <;> first | (exact ⟨_, _, rfl⟩) | (cases hrcv)
    obtain ⟨x, as', rfl⟩ := hrv
    have hlen' : (as'.map (am_ga (am_ad B0 ca))).length = (am_in z).2.1 - 1 := by
      rw [List.length_map]
      have : as'.length + 1 = (am_in z).2.1 := hlen
      omega
    have hstk' : st.map (am_ga (am_ad B0 ca)) = (as'.map (am_ga (am_ad B0 ca))).reverse ++ .ref (am_ad B0 ca x) :: rest.map (am_ga (am_ad B0 ca)) := by
      rw [hstk]
      simp [am_ga]
    have hrt := (z11 hk).2
    rcases hl with hl | hl
    · have cb := am_callB (h := h) (h1 := h1) hts hz (by omega) (hts _ hl) hn hR
      rw [hrt] at cb
      exact am_after (va_runI (rest := rest.map (am_ga (am_ad B0 ca))) S hM ⟨cb, (z11 hk).1, hkw⟩ ⟨am_blind, am_preU C hO rfl⟩ rfl hlen' hL.2.1 hstk' (am_roomW hcs) hd hf) hO hm hm1 hL rfl k
    · have cb := am_callN (h := h) (h1 := h1) hts hz (by omega) (hnest hl) hn hR
      rw [hrt] at cb
      exact am_after (va_runIN (rest := rest.map (am_ga (am_ad B0 ca))) S hM ⟨cb, (z11 hk).1, hkw⟩ ⟨am_blind, am_preU C hO rfl⟩ rfl hlen' hL.2.1 hstk' (am_roomW hcs) hd hf) hO hm hm1 hL rfl k
end AMC2
end
section
/-! CALLS, III: Object's constructor; System.arraycopy between rows of ints -/
theorem am_oi1 : Cond.instanceMethod Lib.objectInit ∈ am_big := am_big_of (show am_wt 132 ∈ lw_tbl from am_wt_in (by decide)) rfl
theorem am_oi2 : Cond.code Lib.objectInit ⟨#[0xb1]⟩ 1 none ∈ am_big := am_big_of (show am_wt 133 ∈ lw_tbl from am_wt_in (by decide)) rfl
theorem am_ac1 : Cond.static arraycopyName ∈ am_big := am_big_of (show am_wt 182 ∈ lw_tbl from am_wt_in (by decide)) rfl
theorem am_ac2 : Cond.native arraycopyName ∈ am_big := am_big_of (show am_wt 183 ∈ lw_tbl from am_wt_in (by decide)) rfl
theorem am_ac3 : Cond.initialized "java/lang/System" ∈ am_big := am_big_of (show am_wt 104 ∈ lw_tbl from am_wt_in (by decide)) rfl
theorem am_isI_spec {v : Value} (h : am_isI v = true) : ∃ x, v = .int x := by
  cases v <;> first | (exact ⟨_, rfl⟩) | (cases h)
section AMC3
variable {p : Program} {l : Launch} {e : Env} {R : Room} {s : State} {m : MethodId} {args : Array Value} {below : List Frame} {meth : Method} {c : Code} {Q : State → Prop} {D : va_G} {dA : Nat → ClassId} {B0 : Nat} {ca : Nat → Nat} {y : Nat} {h0 : am_H} {pc : Nat} {ls st : List Value} {h h1 : am_H}
theorem am_k_obj {idx x : Nat} {rest : List Value} (C : am_Cx p s m args meth c D dA B0 ca y) (hst : st = .ref x :: rest) (hd : decode (am_by y) pc = .ok (.invokespecial idx, 3)) (hl : Cond.methodLink (am_cn (am_in y).1) idx Lib.objectInit ∈ am_big) (hcs : am_cs rest ≤ 8) (hR : 1 ≤ R.frames ∧ 64 ≤ R.locals) (k : am_Wp p l e R s m args below meth c Q D dA B0 ca y h0 (pc + 3) ls rest h) : am_Wp p l e R s m args below meth c Q D dA B0 ca y h0 pc ls st h := by
  subst hst
  intro H locs rls hO hL
  have hts := C.2.2.2.2.1
  have hw := am_roomW (m := m) (pc := pc) (rls := rls) (st := (Value.ref x :: rest).map (am_ga (am_ad B0 ca))) (B0 := B0) (ca := ca) hcs
  refine W.objInit C.1 C.2.1 C.2.2.2.1 (hts _ hl) (hts _ am_oi1) (hts _ am_oi2) rfl (by rw [C.2.2.1]; exact hL.2.1) (a := am_ad B0 ca x) (rest := rest.map (am_ga (am_ad B0 ca))) rfl hd hR.1 ?_ (W.eq (g2 := F0 m (pc + 3) rls (rest.map (am_ga (am_ad B0 ca)))) rfl (k H locs rls hO hL))
  have := hR.2
  omega
theorem am_src {a : Nat} {H : Heap} {locs : List Loc} (hT : am_Tab D dA ca s) (hO : am_Ok s D dA B0 ca h H locs) (ha : a < h.1) (h1 : (h.2.2.1 a).1 = 1 ∨ (h.2.2.1 a).1 = 2) (h2 : (h.2.2.1 a).2.1 = 0) : ∃ cs : Cell, H[am_ad B0 ca a]? = some cs ∧ s.isArrayOf cs .int ∧ cs.vm ≠ .unknown ∧ (h.2.2.1 a).2.2 ≤ cs.slots.size ∧ ∀ j, j < (h.2.2.1 a).2.2 → cs.slots[j]? = some (am_ga (am_ad B0 ca) (h.2.2.2 a j)) := by
  rcases h1 with h1 | h1
  · obtain ⟨-, hA, hc⟩ := am_arr hO ha h1
    rw [h2] at hc hA
    exact ⟨_, hc, (hT.2.1 0 hA).1 _ _, (fun q => nomatch q), (by rw [arrV_size]; exact Nat.le_refl _), (fun j hj => by rw [arrV_read _ _ hj])⟩
  · obtain ⟨-, -, cell, z1, z2, z3, z4, -, z6, -⟩ := am_con hO ha h1
    exact ⟨cell, z1, z2, z3, z4, z6⟩
theorem am_nn {z : Int32} (hz : ¬ z < 0) : z.toInt = (z.toNatClampNeg : Int) := by
  have hz0 : (0 : Int) ≤ z.toInt := by
    have := Int32.not_lt.mp hz
    simpa using Int32.le_iff_toInt_le.mp this
  show z.toInt = ((z.toInt.toNat : Nat) : Int)
  omega
theorem am_k_copy {idx a b : Nat} {n dp sp : Int32} {rest : List Value} (C : am_Cx p s m args meth c D dA B0 ca y) (hst : st = .int n :: .int dp :: .ref b :: .int sp :: .ref a :: rest) (hd : decode (am_by y) pc = .ok (.invokestatic idx, 3)) (hl : Cond.methodLink (am_cn (am_in y).1) idx arraycopyName ∈ am_big) (hcs : am_cs rest ≤ 8) (hcp : am_cp h a sp b dp n = some h1) (hR : 1 ≤ R.frames ∧ 64 ≤ R.locals) (k : am_Wp p l e R s m args below meth c Q D dA B0 ca y h0 (pc + 3) ls rest h1) : am_Wp p l e R s m args below meth c Q D dA B0 ca y h0 pc ls st h := by
  unfold am_cp at hcp
  obtain ⟨c1, hcp⟩ := am_cond hcp
  obtain ⟨c2, hcp⟩ := am_ifn hcp
  obtain ⟨c3, hcp⟩ := am_cond hcp
  simp only [Bool.and_eq_true, Bool.or_eq_true] at c1
  obtain ⟨⟨⟨⟨⟨a1, a2⟩, a3⟩, b1⟩, b2⟩, b3⟩ := c1
  have a1 := am_blt a1
  have a2 := a2.imp am_beq am_beq
  have a3 := am_beq a3
  have b1 := am_blt b1
  have b2 := am_beq b2
  have b3 := am_beq b3
  simp only [not_or, Nat.not_lt] at c2
  obtain ⟨n1, n2, n3, n4, n5⟩ := c2
  cases hcp
  subst hst
  intro H locs rls hO hL
  have hts := C.2.2.2.2.1
  have hT := C.2.2.2.2.2.1
  obtain ⟨cs, s1, ⟨s2, kS, s3, cmS, s4⟩, s5, s6, s7⟩ := am_src hT hO a1 a2 a3
  obtain ⟨hb0, hbA, hbc⟩ := am_arr hO b1 b2
  rw [b3] at hbc hbA
  obtain ⟨-, kD, d3, cmD, d4⟩ := (hT.2.1 0 hbA).1 (h.2.2.1 b).2.2 (fun j => am_ga (am_ad B0 ca) (h.2.2.2 b j))
  have hw := am_roomW (m := m) (pc := pc) (rls := rls) (st := (Value.int n :: Value.int dp :: Value.ref b :: Value.int sp :: Value.ref a :: rest).map (am_ga (am_ad B0 ca))) (B0 := B0) (ca := ca) hcs
  intro T hTh X
  have hval : ∀ i, i < n.toNatClampNeg → ∃ z, cs.slots.getD (sp.toNatClampNeg + i) .null = .int z := by
    intro i hi
    obtain ⟨z, hz⟩ := am_isI_spec (List.all_eq_true.mp c3 i (List.mem_range.mpr hi))
    refine ⟨z, ?_⟩
    rw [Array.getD_eq_getD_getElem?, s7 _ (by omega), hz]
    rfl
  obtain ⟨vm', X', step⟩ := X.arraycopy C.1 C.2.2.2.1 (hts _ hl) (hts _ am_ac2) (hts _ am_ac1) (hts _ am_ac3) (src := am_ad B0 ca a) (dst := am_ad B0 ca b) (cs := cs) (srcPos := sp) (destPos := dp) (n := n) (by rw [hTh]; exact s1) (by rw [hTh]; exact hbc) s2 (fun _ q => by cases q) s5 (fun q => by cases q) s3 d3 s4 d4 (by decide) n1 n2 n3
    (by rw [am_nn n1, am_nn n3]; omega) (by rw [am_nn n2, am_nn n3, arrV_size]; omega)
    (fun vm₁ _ i hi => by
      obtain ⟨z, hz⟩ := hval i hi
      rw [hz]
      exact ⟨rfl, trivial⟩)
    (g := F0 m pc rls ((Value.int n :: Value.int dp :: Value.ref b :: Value.int sp :: Value.ref a :: rest).map (am_ga (am_ad B0 ca)))) rfl (by rw [C.2.2.1]; exact hL.2.1) (rest := rest.map (am_ga (am_ad B0 ca))) rfl (by rw [C.2.1]; exact hd) hR.1 (by
      have := hR.2
      have e : nativeFrameWords "java/lang/System" "arraycopy" 5 ≤ 40 := by decide
      omega)
  have e1 : copied cs (arrV (dA 0) (h.2.2.1 b).2.2 (fun j => am_ga (am_ad B0 ca) (h.2.2.2 b j))) sp dp n = arrV (dA 0) (h.2.2.1 b).2.2 (va_cpy (fun j => am_ga (am_ad B0 ca) (h.2.2.2 a j)) (fun j => am_ga (am_ad B0 ca) (h.2.2.2 b j)) sp.toNatClampNeg dp.toNatClampNeg n.toNatClampNeg) := va_copiedX (fun v : Value => v) cs (dA 0) (n0 := (h.2.2.1 a).2.2) (fun j => am_ga (am_ad B0 ca) (h.2.2.2 a j)) (fun j => am_ga (am_ad B0 ca) (h.2.2.2 b j)) s7 n4
  rw [e1] at X' step
  generalize hnew : arrV (dA 0) (h.2.2.1 b).2.2 (va_cpy (fun j => am_ga (am_ad B0 ca) (h.2.2.2 a j)) (fun j => am_ga (am_ad B0 ca) (h.2.2.2 b j)) sp.toNatClampNeg dp.toNatClampNeg n.toNatClampNeg) = nc at X' step
  have hbl : am_ad B0 ca b < H.size := (Array.getElem?_eq_some_iff.mp hbc).1
  have hheap : ((T.setVm vm').setCell (am_ad B0 ca b) nc).heap = H.setIfInBounds (am_ad B0 ca b) nc := by rw [← hTh]; rfl
  have oq : ∀ q : Nat, q ≠ am_ad B0 ca b → (H.setIfInBounds (am_ad B0 ca b) nc)[q]? = H[q]? := fun q hq => by simp [Array.getElem?_setIfInBounds, Ne.symm hq]
  have ob : (H.setIfInBounds (am_ad B0 ca b) nc)[am_ad B0 ca b]? = some nc := by simp [Array.getElem?_setIfInBounds, hbl]
  have hB : B0 ≤ am_ad B0 ca b := by rw [am_ad_hi hb0]; omega
  have hO' := hO.put (sl := 0) (h' := (h.1, h.2.1, h.2.2.1, am_row h.2.2.2 b (fun j => if dp.toNatClampNeg ≤ j ∧ j < dp.toNatClampNeg + n.toNatClampNeg then h.2.2.2 a (sp.toNatClampNeg + (j - dp.toNatClampNeg)) else h.2.2.2 b j))) hb0 rfl rfl (fun q hq => by funext j; simp [am_row, hq]) (by simp) oq (Or.inr ⟨b2, by show am_isA (h.2.2.1 b).2.1 = true; rw [b3]; exact hbA, by
      rw [ob, ← hnew]
      show some _ = some (arrV (dA (h.2.2.1 b).2.1) (h.2.2.1 b).2.2 _)
      rw [b3]
      congr 2
      funext j
      simp only [va_cpy, am_row, if_true]
      split <;> rfl⟩)
  obtain ⟨t, t1, t2⟩ := k (H.setIfInBounds (am_ad B0 ca b) nc) (locs ++ (cs.stretch sp.toNatClampNeg n.toNatClampNeg).zipIdx.map fun q => ⟨am_ad B0 ca b, dp.toNatClampNeg + q.2⟩) rls ⟨hO'.1, hO'.2.1, hO'.2.2.1, fun q hq => by
      rcases List.mem_append.mp hq with z | z
      · exact hO.2.2.2 q z
      · obtain ⟨w, -, hw⟩ := List.mem_map.mp z
        rw [← hw]
        exact hB⟩ hL _ hheap X'
  exact ⟨t, step t t1, t2⟩
end AMC3
end
section
/-! THROWS: a handler whose class links, cold or warm; a throw that leaves the method; a call that throws -/
section AMX
variable {e : Env} {s : State} {f : JFrame} {a : Addr}
theorem am_goLink {E : CtlPost} {d : Bool} {acts : List Action} {Q : Handler → Pre} {x : ExceptionTableEntry} {t : List ExceptionTableEntry} {c : ClassId} {cell : Cell} {vm' : Vm} (hx : covers x f.pc = true) (h0 : x.catchType ≠ 0)
    (hg : (resolveClass f.method.cls x.catchType).Gives e.toSetting s.vm (.ok c) vm') (hsz : vm'.classes.size ≤ s.vm.classes.size) (hcell : s.heap[a]? = some cell) (hobj : ∀ k, cell.vm ≠ .statics k)
    (hk : ∃ k, vm'.classes[cell.cls]? = some k) (hc : ∃ k, vm'.classes[c]? = some k) (hfit : vm'.assignable cell.cls c = true) :
    wp (findHandler.go f a (x :: t)) Q E e d acts s ↔ Q (.found x.handlerPc) d acts (s.setVm vm') := by
  simp only [covers] at hx
  obtain ⟨ha, ht⟩ := hg.op (op := VmOp.resolveClass f.method.cls x.catchType) rfl
  have hsz' : ((VmOp.resolveClass f.method.cls x.catchType).tables e s.vm).classes.size ≤ s.vm.classes.size := by rw [ht]; exact hsz
  simp [findHandler.go, hx, h0, W.vmOp_same _ hsz', ha, ht, hcell, hobj, hk, hc, hfit, VmOp.dirties, VmOp.acts]
def am_FindsL (e : Env) (s : State) (f : JFrame) (a : Addr) (pc : Nat) (vm' : Vm) : Prop := ∀ (Q : Handler → Pre) (E : CtlPost) (d : Bool) (acts : List Action), wp (findHandler f a) Q E e d acts s ↔ Q (.found pc) d acts (s.setVm vm')
theorem am_findsL {meth : Method} {code : Code} (hm : s.vm.method? f.method = some meth) (hc : meth.code = some code) (pre : List ExceptionTableEntry) (x : ExceptionTableEntry) (rest : List ExceptionTableEntry) (hsplit : code.exceptionTable.toList = pre ++ x :: rest) (hskip : ∀ y ∈ pre, covers y f.pc = false) (hx : covers x f.pc = true) (h0 : x.catchType ≠ 0) {c : ClassId} {cell : Cell} {vm' : Vm}
    (hg : (resolveClass f.method.cls x.catchType).Gives e.toSetting s.vm (.ok c) vm') (hsz : vm'.classes.size ≤ s.vm.classes.size) (hcell : s.heap[a]? = some cell) (hobj : ∀ k, cell.vm ≠ .statics k)
    (hk : ∃ k, vm'.classes[cell.cls]? = some k) (hcc : ∃ k, vm'.classes[c]? = some k) (hfit : vm'.assignable cell.cls c = true) : am_FindsL e s f a x.handlerPc vm' := by
  intro Q E d acts
  rw [W.findHandler_eq hm hc, hsplit]
  clear hsplit
  induction pre with
  | nil => exact am_goLink hx h0 hg hsz hcell hobj hk hcc hfit
  | cons y t ih =>
    rw [List.cons_append, W.findHandler_go_skip (hskip y (List.mem_cons_self ..))]
    exact ih (fun z hz => hskip z (List.mem_cons_of_mem _ hz))
theorem am_catchStep {r : List Frame} {pc : Nat} {vm' : Vm} (hfind : am_FindsL e s f a pc vm') : (stepThrowing e s a (.java f :: r)).Is ((s.setVm vm').setFrames (.java { f with pc := pc, stack := [.ref a] } :: r)) [] := by
  simp only [stepThrowing, searchFrame, vmDo]
  generalize hr : Sem.go _ e false [] s = res
  obtain ⟨as, rfl, ha⟩ := Sem.eq_ok_of hr (a := Handler.found pc) (s' := s.setVm vm') (acts' := []) (by simp [hfind _ _ _ _])
  exact ⟨rfl, ha⟩
theorem am_caughtL {tb : Tables} {target : State} {g : JFrame} {c : Code} {below : List Frame} (h : At s g.method c below) {pc : Nat} {vm' : Vm} (hfind : am_FindsL e ((s.setTop g).pushFrame (.throwing a)) g a pc vm')
    (hrest : Steps tb e below ((s.setVm vm').setTop { g with pc := pc, stack := [.ref a] }) target) : Steps tb e below ((s.setTop g).pushFrame (.throwing a)) target := by
  obtain ⟨hgo, hw⟩ := h.throwing a
  refine Steps.head hgo hw ?_
  rw [stepThread_throwing (frames_entered h.top _), (am_catchStep (s := (s.setTop g).pushFrame (.throwing a)) hfind).1]
  obtain ⟨g₀, hg⟩ := Option.isSome_iff_exists.mp h.top
  obtain ⟨r, hr⟩ := State.topJava?_eq_some.mp hg
  have hr' : (s.setVm vm').frames = .java g₀ :: r := hr
  rw [State.setTop_of_frames _ hr'] at hrest
  rw [State.pushFrame, State.setTop_of_frames _ hr, State.setFrames_setFrames, hr]
  have e1 : ∀ (A B : List Frame), ((s.setFrames A).setVm vm').setFrames B = (s.setVm vm').setFrames B := fun A B => by
    show ((s.setVm vm').setFrames A).setFrames B = _
    rw [State.setFrames_setFrames]
  rw [e1]
  exact hrest
end AMX
section AMY
variable {p : Program} {l : Launch} {e : Env} {R : Room} {s : State} {m : MethodId} {args : Array Value} {below : List Frame} {meth : Method} {c : Code} {H : Heap} {locs : List Loc} {cells slots : Nat} {Q : State → Prop}
/-- the throw of a lies over the frame g -/
def am_Wt (p : Program) (l : Launch) (e : Env) (R : Room) (s : State) (m : MethodId) (args : Array Value) (below : List Frame) (meth : Method) (c : Code) (H : Heap) (locs : List Loc) (cells slots : Nat) (Q : State → Prop) (g : JFrame) (a : Addr) : Prop :=
  ∀ T : State, T.heap = H → Stand p l e R s m args below meth c T locs cells slots → ∃ t, Steps p.tables e below ((T.setTop g).pushFrame (.throwing a)) t ∧ Q t
theorem am_Wcatch {own name : String} {a : Addr} {g : JFrame} (hown : s.vm.findClass own = some m.cls) (pre : List ExceptionTableEntry) (x : ExceptionTableEntry) (rest : List ExceptionTableEntry) (hsplit : c.exceptionTable.toList = pre ++ x :: rest) (hg : g.method = m) (hskip : ∀ y ∈ pre, covers y g.pc = false) (hx : covers x g.pc = true) (h0 : x.catchType ≠ 0)
    (hlink : (Cond.classLink own x.catchType name).before args s = true) {cell : Cell} (hcell : H[a]? = some cell) (hobj : ∀ k, cell.vm ≠ .statics k) (hcl : ClassAt s name cell.cls)
    (k : W p l e R s m args below meth c H locs cells slots Q { g with pc := x.handlerPc, stack := [.ref a] }) : am_Wt p l e R s m args below meth c H locs cells slots Q g a := by
  intro T hT X
  have hpl : e.platform.magicAccessors = ({} : Platform).magicAccessors := by rw [X.admits.platform]
  obtain ⟨c', hc', hcl2⟩ := Cond.classLink_spec hown hlink e.platform hpl
  have hasg := va_assign hcl
  obtain ⟨hfc, kC, hkC, hkind⟩ := hcl
  cases hfc.symm.trans hc'
  obtain ⟨dk, _, _, kt, hd, _, _, _, _, hkt, _, hopen⟩ := hcl2.here
  have hcl₀ := X.warmed.classLinks hcl2
  have hW' : s.WarmedH (T.vm.noted m.cls x.catchType (.cls cell.cls)) := X.warmed.noted hd hopen (State.rightAt_cls hcl2)
  obtain ⟨kt', hkt', -⟩ := hW'.alike.2.2 _ _ hkt
  obtain ⟨t, a1, b1⟩ := k (T.setVm (T.vm.noted m.cls x.catchType (.cls cell.cls))) hT (X.noted hW')
  refine ⟨t, ?_, b1⟩
  have hh : At T g.method c below := by rw [hg]; exact X.here
  refine am_caughtL hh (am_findsL (meth := meth) (code := c) ?_ X.code pre x rest hsplit hskip hx h0 (c := cell.cls) (cell := cell) ?_ ?_ ?_ hobj ⟨kt', hkt'⟩ ⟨kt', hkt'⟩ ?_) a1
  · rw [Stand.throwing_vm, hg]
    exact X.method'
  · rw [Stand.throwing_vm, hg]
    exact resolveClass_links e.toSetting hcl₀
  · rw [Stand.throwing_vm, Vm.size_noted]
    exact Nat.le_refl _
  · rw [Stand.throwing_heap, hT]
    exact hcell
  · rw [hW'.alike.assignable]
    exact hasg
theorem am_Wathrow {cc : ByteArray} {a : Addr} {g : JFrame} {rest : List Value} (hexec : p.tables.exec = Jvm.exec) (hb : c.code = cc) (hg : g.method = m) (hstack : g.stack = .ref a :: rest) (hdg : decode cc g.pc = .ok (.athrow, 1)) (k : am_Wt p l e R s m args below meth c H locs cells slots Q { g with stack := rest } a) : W p l e R s m args below meth c H locs cells slots Q g := by
  intro T hT X
  obtain ⟨t, a1, b1⟩ := k T hT X
  refine ⟨t, ?_, b1⟩
  subst hg
  subst hb
  jvm_step X.here [hexec, hdg, athrow.wp_sem, hstack]
  exact a1
/-! contracts of methods that end by a throw -/
def am_FE (first : State) (o : Outcome) (t : State) (L : List Loc) (k n : Nat) : Prop := (∃ x, o = .threw x) ∧ first.WarmedH t.vm ∧ first.sameButNew ({ t with vm := first.vm } : State) L k n
def am_MQT (below : List Frame) (Qc : Array Value → State → Outcome → State → Prop) (a : Array Value) (s : State) (mc ms : Nat) (free : Addr → Prop) : State → Prop := fun t =>
  ∃ o, t.status = .running ∧ Ended t below o ∧ Qc a s o t ∧ ∃ L, am_FE s o t L mc ms ∧ ∀ q ∈ L, free q.base
def am_MT (l : Launch) (y : MethodName) (ws : List Cond) (rm : Room) (Pc : Array Value → State → Prop) (Qc : Array Value → State → Outcome → State → Prop) (mc ms : Nat) (free : Addr → Prop) : Prop :=
  MetFree l y (headSpec ws rm) Pc (fun _ _ _ _ _ => True) (fun a st o t => Qc a st o t ∧ ∃ L, am_FE st o t L mc ms ∧ ∀ q ∈ L, free q.base)
theorem am_Wleave {Qc : Array Value → State → Outcome → State → Prop} {free : Addr → Prop} {a : Addr} {g : JFrame} (hg : g.method = m) (hlocked : g.locked = none) (hentered : g.entered = []) (hout : ∀ x ∈ c.exceptionTable.toList, covers x g.pc = false) (hlocks : meth.locks = false)
    (hq : ∀ t : State, t.heap = H → s.WarmedH t.vm → Qc args s (.threw a) t) (hf : ∀ q ∈ locs, free q.base) : am_Wt p l e R s m args below meth c H locs cells slots (am_MQT below Qc args s cells slots free) g a := by
  intro T hT X
  obtain ⟨h1, h2, h3, h4, h5⟩ := X.leaveThrown a hg hlocked hentered hout hlocks
  exact ⟨_, h1, .threw a, h2, h3, hq _ hT h4, locs, ⟨⟨a, rfl⟩, h4, h5⟩, hf⟩
theorem am_MT.ofW {l : Launch} {y : MethodName} {ws ws' : List Cond} {rm : Room} {Pc : Array Value → State → Prop} {Qc : Array Value → State → Outcome → State → Prop} {mc ms : Nat} {free : Addr → Prop} {cc : ByteArray} {maxL : Nat} {ret : Option FieldType}
    (hy : plainName y.cls = true) (hw : ws = Cond.code y cc maxL ret :: ws')
    (body : ∀ p e s m args below meth c s₁, BodyLoose p l y (headSpec ws rm) cc maxL ret e s m args below meth c s₁ → c.maxLocals = maxL → Pc args s →
      W p l e (headSpec ws rm).room s m args below meth c s.heap [] 0 0 (am_MQT below Qc args s mc ms free) (entryFrame m args maxL)) : am_MT l y ws rm Pc Qc mc ms free := by
  refine MetFree.of_bodyS (code := cc) (maxLocals := maxL) (ret := ret) hy ?_ ?_
  · intro args s m h hn
    obtain ⟨meth, c, h1, h2, h3, h4, h5, h6, -, -⟩ := Cond.code_spec hn (atoms_spec (ws := ws) h _ (by rw [hw]; exact List.mem_cons_self))
    exact ⟨meth, c, h1, h2, h3, h4, h5, h6⟩
  · intro p e s m args below meth c s₁ B hml hP _
    have hh0 : s₁.heap = s.heap := by rw [B.state]; rfl
    obtain ⟨t, a1, o, b1, b2, b3⟩ := body p e s m args below meth c s₁ B hml hP s₁ hh0 (Stand.of_body B)
    exact ⟨t, o, a1, b1, b2, ⟨b3.1, b3.2⟩⟩
/-- what a call that throws comes to -/
def am_RunT (p : Program) (l : Launch) (e : Env) (R : Room) (s : State) (m : MethodId) (args : Array Value) (below : List Frame) (meth : Method) (c : Code) (H : Heap) (locs : List Loc) (cells slots mc ms : Nat) (g : JFrame) (rest : List Value) (Qa : State → Outcome → State → Prop) (free : Addr → Prop) : Prop :=
  ∀ T : State, T.heap = H → Stand p l e R s m args below meth c T locs cells slots → ∃ (x : Addr) (st₀ t T' : State) (L : List Loc), st₀.heap = H ∧ Stand p l e R s m args below meth c T' (locs ++ L) (cells + mc) (slots + ms) ∧ (∀ q ∈ L, free q.base) ∧ T'.heap = t.heap ∧ T'.vm = t.vm ∧ Qa st₀ (.threw x) t ∧
    Steps p.tables e below (T.setTop g) ((T'.setTop { g with stack := rest }).pushFrame (.throwing x))
theorem am_runVT {y : MethodName} {bytes cc : ByteArray} {maxL nL mc ms n index : Nat} {ret : Option FieldType} {ws : List Cond} {rm : Room} {Pc : Array Value → State → Prop} {Qc : Array Value → State → Outcome → State → Prop} {free : Addr → Prop} {Ts : List Cond} {own C : String} {b : Addr} {As rest : List Value} {g : JFrame}
    (S : CallFix p m c cc nL s args Ts own) (hM : am_MT l y ws rm Pc Qc mc ms free) (cw : CallW R s args own C index y bytes maxL ret ws rm mc ms n) (hp : PreV s H C b Pc As)
    (hg : g.method = m) (hn : As.length = n) (hsize : g.locals.size = nL) (hstack : g.stack = As.reverse ++ .ref b :: rest) (hW : 2 * g.monitorRoom + (rest.map fun v => v.category).sum ≤ 8) (hdg : decode cc g.pc = .ok (.invokevirtual index, 3)) (hf : cells + mc ≤ R.cells ∧ slots + ms ≤ R.slots) :
    am_RunT p l e R s m args below meth c H locs cells slots mc ms g rest (Qc (Value.ref b :: As).toArray) free := by
  obtain ⟨⟨hrc, hrs, hfr, hlo, hws, hcw, hcode, hini, hy, hlen, hl⟩, hinst, hsel⟩ := cw
  obtain ⟨hx, hb, hml, ho, -⟩ := S
  obtain ⟨hblind, ⟨cellB, hcB, hoB, hclB⟩, hPc⟩ := hp
  intro T hT X
  obtain ⟨mk, methM, hnamed, hmethM, hstM, habM⟩ := Cond.instanceMethod_spec hinst
  obtain ⟨methM', cM, hmethM', hcM, -, hlM, -, -, -, hsigM⟩ := Cond.code_spec hnamed hcode
  cases hmethM.symm.trans hmethM'
  obtain ⟨c2, r2, m2, q1, q2, q3, q4, kP, hkP, hkPi⟩ := Cond.selects_spec hsel
  cases hclB.symm.trans q1
  cases (State.methodFound?_of_named hnamed hy).symm.trans q2
  cases hnamed.symm.trans q3
  have hselP : selectMethod e.platform s.vm cellB.cls mk = .method mk := by rw [Launch.admits_selectMethod X.admits]; exact q4
  obtain ⟨vm₁, X₁, hstep₁⟩ := X.invokevirtual hx ho hl hnamed hmethM hstM hkP hkPi hy (a := b) (cell := cellB) (by rw [hT]; exact hcB)
    (fun z h => by rw [h] at hoB; cases hoB) hselP hmethM habM hkP hkPi (g := g) hg (argsL := As) (rest := rest) (hn.trans (hlen _ hsigM)) hstack (by rw [hb]; exact hdg)
  -- the callee, from the frame without the arguments
  have hnU := X₁.named hnamed
  generalize hU : T.setVm vm₁ = U at X₁ hnU hstep₁
  have hUh : U.heap = H := by rw [← hU]; exact hT
  have hpre : Pc (Value.ref b :: As).toArray U := hPc U hUh X₁.warmed
  generalize hg2 : ({ g with stack := rest } : JFrame) = g2 at hstep₁
  have hg2m : g2.method = m := by rw [← hg2]; exact hg
  have hg2s : g2.locals.size = c.maxLocals := by rw [← hg2]; exact hsize.trans hml.symm
  have hg2d : decode c.code g2.pc = .ok (.invokevirtual index, 3) := by rw [← hg2, hb]; exact hdg
  have hg2W : 2 * g2.monitorRoom + (g2.stack.map fun v => v.category).sum ≤ 8 := by rw [← hg2]; exact hW
  obtain ⟨methY, cY, hmY, hcY, -, hlY, -, -, -, -⟩ := Cond.code_spec hnU (hws _ hcw #[] U X₁.warmed)
  obtain ⟨kY, hkY, -⟩ := className_of_methodNamed hnU
  have hinitY : kY.init = .initialized := Cond.initialized_spec (findClass_of_methodNamed hnU) hkY (word_at (args := args) (a' := #[]) X₁.warmed (Or.inl (by first | rfl | simp [Cond.onTables, Cond.keeps, Cond.steady])) hini)
  have h : At U g2.method c below := by rw [hg2m]; exact X₁.here
  have happ : (headSpec ws rm).appliesLoose y e.platform (U.calling g2 mk (Value.ref b :: As).toArray) = true :=
    Spec.appliesLoose_calling (g := g2) h hg2d hnU hkY hinitY
      (X₁.room_calling (g := g2) (R' := (headSpec ws rm).room) hg2s hmY hcY hfr (by rw [hlY]; show _ + _ + rm.locals ≤ _; omega) (by show cells + rm.cells ≤ _; rw [hrc]; exact hf.1) (by show slots + rm.slots ≤ _; rw [hrs]; exact hf.2)) (atoms_intro fun w hw => hws w hw _ _ X₁.warmed)
  obtain ⟨mid, hmid⟩ := h.above
  have hfr2 : (U.setTop g2).frames = (.java g2 :: mid) ++ below := by rw [State.frames_setTop' g2 h.top, hmid]; rfl
  obtain ⟨o, s₂, hsteps, -, hend, hq, L, hfe, hL⟩ := Steps.callFree hM p X₁.admits X₁.cas X₁.clock (acts := []) hfr2 happ (hblind _ _ _ _ hpre) trivial
  rw [State.frames_setTop' g2 h.top] at hend
  obtain ⟨⟨v, rfl⟩, hW₂, e2, w2, w3, w4, w5, w6⟩ := id hfe
  have e3 : s₂ = ({ (U.calling g2 mk (Value.ref b :: As).toArray).setFrames s₂.frames with heap := s₂.heap, slotsUsed := s₂.slotsUsed } : State).setVm s₂.vm := by
    have h0 : s₂ = ({ s₂ with vm := (U.calling g2 mk (Value.ref b :: As).toArray).vm } : State).setVm s₂.vm := rfl
    exact h0.trans (congrArg (fun u : State => u.setVm s₂.vm) e2)
  have hf₂ : s₂.frames = .throwing v :: .java g2 :: U.frames.tail := hend
  have hW' : U.WarmedH s₂.vm := hW₂
  obtain ⟨g₀, hg0⟩ := Option.isSome_iff_exists.mp h.top
  obtain ⟨r, hr⟩ := State.topJava?_eq_some.mp hg0
  have hs₂ : s₂ = ((({ U with heap := s₂.heap, slotsUsed := s₂.slotsUsed } : State).setVm s₂.vm).setTop g2).pushFrame (.throwing v) := by
    have hr' : (({ U with heap := s₂.heap, slotsUsed := s₂.slotsUsed } : State).setVm s₂.vm).frames = .java g₀ :: r := hr
    refine e3.trans ?_
    rw [hf₂, State.calling_eq h.top, State.setFrames_setFrames, State.pushFrame, State.frames_setTop _ hr', State.setTop_of_frames _ hr', State.setFrames_setFrames, hr]
    rfl
  have hsame : U.sameButNew ({ U with heap := s₂.heap, slotsUsed := s₂.slotsUsed } : State) L mc ms := by
    refine ⟨?_, w2, w3, w4, w5, w6⟩
    obtain ⟨t, ht, -⟩ := State.frames_cons hr
    show ({ U with heap := s₂.heap, slotsUsed := s₂.slotsUsed } : State) = { U.setFrames U.frames with heap := s₂.heap, slotsUsed := s₂.slotsUsed }
    rw [State.setFrames_self ht]
  refine ⟨v, U.calling g2 mk (Value.ref b :: As).toArray, s₂, (({ U with heap := s₂.heap, slotsUsed := s₂.slotsUsed } : State).setVm s₂.vm), L, hUh, ?_, hL, rfl, rfl, hq, ?_⟩
  · exact ⟨X₁.admits, X₁.cas, X₁.clock, X₁.frames, X₁.room, X₁.hears, X₁.method, X₁.code, (X₁.here.setHeapUsed s₂.heap s₂.slotsUsed).setVm hW'.alike, X₁.tail, State.WarmedH.trans X₁.warmed hW', X₁.limits, X₁.bytes, X₁.same.trans (hsame.setVm s.vm)⟩
  · rw [← hs₂]
    refine hstep₁ _ fun acts => ?_
    rw [doInvoke_state]
    exact hsteps
end AMY
end
section
/-! CALLS, IV: the constructor of Stop, through Exception's and Throwable's -/
def am_yS : MethodName := ⟨"PoetsBookModel$Stop", "<init>", "()V"⟩
def am_yE : MethodName := ⟨"java/lang/Exception", "<init>", "(Ljava/lang/String;Ljava/lang/Throwable;ZZ)V"⟩
def am_yT : MethodName := ⟨"java/lang/Throwable", "<init>", "(Ljava/lang/String;Ljava/lang/Throwable;ZZ)V"⟩
theorem am_dT_0 : decode prog_24_method_5_code 0 = .ok (.aload_n 0, 1) := by decide +kernel
theorem am_dT_1 : decode prog_24_method_5_code 1 = .ok (.invokespecial 1, 3) := by decide +kernel
theorem am_dT_4 : decode prog_24_method_5_code 4 = .ok (.aload_n 0, 1) := by decide +kernel
theorem am_dT_5 : decode prog_24_method_5_code 5 = .ok (.aload_n 0, 1) := by decide +kernel
theorem am_dT_6 : decode prog_24_method_5_code 6 = .ok (.putfield 7, 3) := by decide +kernel
theorem am_dT_9 : decode prog_24_method_5_code 9 = .ok (.aload_n 0, 1) := by decide +kernel
theorem am_dT_10 : decode prog_24_method_5_code 10 = .ok (.getstatic 13, 3) := by decide +kernel
theorem am_dT_13 : decode prog_24_method_5_code 13 = .ok (.putfield 17, 3) := by decide +kernel
theorem am_dT_16 : decode prog_24_method_5_code 16 = .ok (.aload_n 0, 1) := by decide +kernel
theorem am_dT_17 : decode prog_24_method_5_code 17 = .ok (.getstatic 20, 3) := by decide +kernel
theorem am_dT_20 : decode prog_24_method_5_code 20 = .ok (.putfield 24, 3) := by decide +kernel
theorem am_dT_23 : decode prog_24_method_5_code 23 = .ok (.iload 4, 2) := by decide +kernel
theorem am_dT_25 : decode prog_24_method_5_code 25 = .ok (.ifCond .eq 11, 3) := by decide +kernel
theorem am_dT_36 : decode prog_24_method_5_code 36 = .ok (.aload_n 0, 1) := by decide +kernel
theorem am_dT_37 : decode prog_24_method_5_code 37 = .ok (.aconst_null, 1) := by decide +kernel
theorem am_dT_38 : decode prog_24_method_5_code 38 = .ok (.putfield 17, 3) := by decide +kernel
theorem am_dT_41 : decode prog_24_method_5_code 41 = .ok (.aload_n 0, 1) := by decide +kernel
theorem am_dT_42 : decode prog_24_method_5_code 42 = .ok (.aload_n 1, 1) := by decide +kernel
theorem am_dT_43 : decode prog_24_method_5_code 43 = .ok (.putfield 31, 3) := by decide +kernel
theorem am_dT_46 : decode prog_24_method_5_code 46 = .ok (.aload_n 0, 1) := by decide +kernel
theorem am_dT_47 : decode prog_24_method_5_code 47 = .ok (.aload_n 2, 1) := by decide +kernel
theorem am_dT_48 : decode prog_24_method_5_code 48 = .ok (.putfield 7, 3) := by decide +kernel
theorem am_dT_51 : decode prog_24_method_5_code 51 = .ok (.iload_n 3, 1) := by decide +kernel
theorem am_dT_52 : decode prog_24_method_5_code 52 = .ok (.ifCond .ne 8, 3) := by decide +kernel
theorem am_dT_55 : decode prog_24_method_5_code 55 = .ok (.aload_n 0, 1) := by decide +kernel
theorem am_dT_56 : decode prog_24_method_5_code 56 = .ok (.aconst_null, 1) := by decide +kernel
theorem am_dT_57 : decode prog_24_method_5_code 57 = .ok (.putfield 24, 3) := by decide +kernel
theorem am_dT_60 : decode prog_24_method_5_code 60 = .ok (.return_, 1) := by decide +kernel
theorem am_dE_0 : decode prog_16_method_5_code 0 = .ok (.aload_n 0, 1) := by decide +kernel
theorem am_dE_1 : decode prog_16_method_5_code 1 = .ok (.aload_n 1, 1) := by decide +kernel
theorem am_dE_2 : decode prog_16_method_5_code 2 = .ok (.aload_n 2, 1) := by decide +kernel
theorem am_dE_3 : decode prog_16_method_5_code 3 = .ok (.iload_n 3, 1) := by decide +kernel
theorem am_dE_4 : decode prog_16_method_5_code 4 = .ok (.iload 4, 2) := by decide +kernel
theorem am_dE_6 : decode prog_16_method_5_code 6 = .ok (.invokespecial 16, 3) := by decide +kernel
theorem am_dE_9 : decode prog_16_method_5_code 9 = .ok (.return_, 1) := by decide +kernel
theorem am_dS_0 : decode prog_15_method_1_code 0 = .ok (.aload_n 0, 1) := by decide +kernel
theorem am_dS_1 : decode prog_15_method_1_code 1 = .ok (.aconst_null, 1) := by decide +kernel
theorem am_dS_2 : decode prog_15_method_1_code 2 = .ok (.aconst_null, 1) := by decide +kernel
theorem am_dS_3 : decode prog_15_method_1_code 3 = .ok (.iconst 0, 1) := by decide +kernel
theorem am_dS_4 : decode prog_15_method_1_code 4 = .ok (.iconst 0, 1) := by decide +kernel
theorem am_dS_5 : decode prog_15_method_1_code 5 = .ok (.invokespecial 1, 3) := by decide +kernel
theorem am_dS_8 : decode prog_15_method_1_code 8 = .ok (.return_, 1) := by decide +kernel
theorem am_wk1 : Cond.methodLink "java/lang/Throwable" 1 Lib.objectInit ∈ am_big := am_big_of (show am_wt 1340 ∈ lw_tbl from am_wt_in (by decide)) rfl
theorem am_wk7 : Cond.fieldLink "java/lang/Throwable" 7 (am_TT 12 0).1 (am_TT 12 0).2.1 (am_TT 12 0).2.2.1 ∈ am_big := am_big_of (show am_wt 1365 ∈ lw_tbl from am_wt_in (by decide)) rfl
theorem am_wk17 : Cond.fieldLink "java/lang/Throwable" 17 (am_TT 12 1).1 (am_TT 12 1).2.1 (am_TT 12 1).2.2.1 ∈ am_big := am_big_of (show am_wt 1366 ∈ lw_tbl from am_wt_in (by decide)) rfl
theorem am_wk24 : Cond.fieldLink "java/lang/Throwable" 24 (am_TT 12 2).1 (am_TT 12 2).2.1 (am_TT 12 2).2.2.1 ∈ am_big := am_big_of (show am_wt 1367 ∈ lw_tbl from am_wt_in (by decide)) rfl
theorem am_wk31 : Cond.fieldLink "java/lang/Throwable" 31 (am_TT 12 3).1 (am_TT 12 3).2.1 (am_TT 12 3).2.2.1 ∈ am_big := am_big_of (show am_wt 1364 ∈ lw_tbl from am_wt_in (by decide)) rfl
theorem am_wk13 : Cond.fieldLink "java/lang/Throwable" 13 "java/lang/Throwable" "UNASSIGNED_STACK" "[Ljava/lang/StackTraceElement;" ∈ am_big := am_big_of (show am_wt 1341 ∈ lw_tbl from am_wt_in (by decide)) rfl
theorem am_wk20 : Cond.fieldLink "java/lang/Throwable" 20 "java/lang/Throwable" "SUPPRESSED_SENTINEL" "Ljava/util/List;" ∈ am_big := am_big_of (show am_wt 1343 ∈ lw_tbl from am_wt_in (by decide)) rfl
theorem am_wkT : Cond.code am_yT prog_24_method_5_code 5 none ∈ am_big := am_big_of (show am_wt 1362 ∈ lw_tbl from am_wt_in (by decide)) rfl
theorem am_wkT2 : Cond.instanceMethod am_yT ∈ am_big := am_big_of (show am_wt 1361 ∈ lw_tbl from am_wt_in (by decide)) rfl
theorem am_wkI : Cond.initialized am_yT.cls ∈ am_big := am_big_of (show am_wt 114 ∈ lw_tbl from am_wt_in (by decide)) rfl
theorem am_wk16 : Cond.methodLink "java/lang/Exception" 16 am_yT ∈ am_big := am_big_of (show am_wt 1360 ∈ lw_tbl from am_wt_in (by decide)) rfl
theorem am_wkE : Cond.code am_yE prog_16_method_5_code 5 none ∈ am_big := am_big_of (show am_wt 1359 ∈ lw_tbl from am_wt_in (by decide)) rfl
theorem am_wkE2 : Cond.instanceMethod am_yE ∈ am_big := am_big_of (show am_wt 1358 ∈ lw_tbl from am_wt_in (by decide)) rfl
theorem am_wkIE : Cond.initialized am_yE.cls ∈ am_big := am_big_of (show am_wt 115 ∈ lw_tbl from am_wt_in (by decide)) rfl
theorem am_wk1S : Cond.methodLink "PoetsBookModel$Stop" 1 am_yE ∈ am_big := am_big_of (show am_wt 1357 ∈ lw_tbl from am_wt_in (by decide)) rfl
theorem am_wkS : Cond.code am_yS prog_15_method_1_code 1 none ∈ am_big := am_big_of (show am_wt 1356 ∈ lw_tbl from am_wt_in (by decide)) rfl
theorem am_wkS2 : Cond.instanceMethod am_yS ∈ am_big := am_big_of (show am_wt 1355 ∈ lw_tbl from am_wt_in (by decide)) rfl
theorem am_wkIS : Cond.initialized am_yS.cls ∈ am_big := am_big_of (show am_wt 116 ∈ lw_tbl from am_wt_in (by decide)) rfl
def am_SW (s : State) (D : va_G) (a0 : Nat) (H : Heap) (V : Nat → Value) (locs : List Loc) : Prop :=
  t_OB a0 (D.1 12) 6 (D.2 12) H V ∧ H.size = s.heap.size ∧ (∀ q, q ≠ a0 → H[q]? = s.heap[q]?) ∧ ∀ q ∈ locs, q.base = a0
theorem am_N12 : am_N 12 = 6 := rfl
theorem am_rn_fit {v : Value} (h : am_rn v) : ∀ k, k < 4 → narrow (am_ty 12 k) v = v ∧ fits (am_ty 12 k) v = true := by
  intro k hk
  rcases (show k = 0 ∨ k = 1 ∨ k = 2 ∨ k = 3 by omega) with rfl | rfl | rfl | rfl <;> rcases h with rfl | ⟨a, rfl⟩ <;> exact ⟨rfl, rfl⟩
theorem am_nf12 : ∀ k, k < 4 → (am_TT 12 k).2.2.2 = false := by decide
section AMS
variable {p : Program} {l : Launch} {e : Env} {R : Room} {s : State} {m : MethodId} {args : Array Value} {below : List Frame} {meth : Method} {c : Code} {Q : State → Prop} {D : va_G} {dA : Nat → ClassId} {B0 : Nat} {ca : Nat → Nat} {cells slots : Nat} {cc : ByteArray} {pc a0 : Nat} {ls : Array Slot} {rest : List Value} {H : Heap} {V : Nat → Value} {locs : List Loc}
theorem am_sput {idx : Nat} {v : Value} (hx : p.tables.exec = Jvm.exec) (hb : c.code = cc) (hts : ∀ w ∈ am_big, w.before args s = true) (hown : s.vm.findClass "java/lang/Throwable" = some m.cls) (hT : am_Tab D dA ca s) (k : Nat) (hk : k < 4) (hv : am_rn v) (hl : Cond.fieldLink "java/lang/Throwable" idx (am_TT 12 k).1 (am_TT 12 k).2.1 (am_TT 12 k).2.2.1 ∈ am_big) (hS : am_SW s D a0 H V locs) (hd : decode cc pc = .ok (.putfield idx, 3))
    (kk : ∀ (H' : Heap) (locs' : List Loc), am_SW s D a0 H' (updV V k v) locs' → W p l e R s m args below meth c H' locs' cells slots Q (F0 m (pc + 3) ls rest)) : W p l e R s m args below meth c H locs cells slots Q (F0 m pc ls (v :: .ref a0 :: rest)) := by
  obtain ⟨⟨cell, q1, q2, q3, q4⟩, z1, z2, z3⟩ := hS
  have h12 : (12 : Nat) < 14 := by decide
  have hk6 : k < am_N 12 := by rw [am_N12]; omega
  have hap := va_apart (own := "java/lang/Throwable") hts (am_cls h12).1 (am_ty 12) (am_cT 12 h12).1 (am_cT 12 h12).2 hT.1 (am_cl 12 h12)
  obtain ⟨hSl, hfc, kC, hkC, hkind⟩ := hT.1.1 12 _ (am_cl 12 h12)
  obtain ⟨cf, kf, fi, f, hi, hsl⟩ := hSl k hk6
  have hlay := hts _ ((am_cls h12).1 _ (u_in_lay hk6))
  have hst := (u_facts hfc hkC (u_lays hts (am_cls h12).1 hk6) hi).1
  unfold u_lay at hlay
  rw [if_neg (by rw [am_nf12 k hk]; decide)] at hlay
  have hnf := am_rn_fit hv k hk
  have h7 := u_store hfc hkC hkind hlay hi ((am_cT 12 h12).1 k hk6) hnf.1 hnf.2
  refine W.putK hx hb (f := f) ⟨hown, hts _ hl, ⟨_, _, _, hi⟩, hst⟩ (by rw [q2]; exact h7) q1 q3 (by rw [hsl]; exact k2_hasslot (q4 k hk6)) rfl rfl hd fun H' e1 e2 e3 => ?_
  rw [hsl] at e1
  refine kk H' _ ⟨⟨_, e1, q2, q3, t_set q4 hap hk6 _⟩, e2.trans z1, fun q hq => (e3 q hq).trans (z2 q hq), fun q hq => ?_⟩
  rcases List.mem_append.mp hq with h | h
  · exact z3 q h
  · cases List.mem_singleton.mp h
    rfl
theorem am_sget {idx : Nat} {C n d : String} {v : Value} (hx : p.tables.exec = Jvm.exec) (hb : c.code = cc) (hts : ∀ w ∈ am_big, w.before args s = true) (hown : s.vm.findClass "java/lang/Throwable" = some m.cls) (hl : Cond.fieldLink "java/lang/Throwable" idx C n d ∈ am_big) (hZ : va_Z C n d v (fun q => B0 ≤ q) s s.heap) (ha : B0 ≤ a0) (hS : am_SW s D a0 H V locs) (hd : decode cc pc = .ok (.getstatic idx, 3))
    (kk : W p l e R s m args below meth c H locs cells slots Q (F0 m (pc + 3) ls (v :: rest))) : W p l e R s m args below meth c H locs cells slots Q (F0 m pc ls rest) := by
  obtain ⟨cf, kf, fi, f, q, cell, z1, z2, z3, z4, z5, z6, z7, z8⟩ := hZ
  have hne : q ≠ a0 := fun e => z8 (by rw [e]; exact ha)
  exact W.gets hx hb hown (hts _ hl) z1 z2 z3 z4 (by rw [hS.2.2.1 q hne]; exact z5) (fun e => by rw [e] at z6; cases z6) z7 rfl hd kk
end AMS
def am_wT : List Cond := Cond.code am_yT prog_24_method_5_code 5 none :: am_big
def am_wE : List Cond := Cond.code am_yE prog_16_method_5_code 5 none :: am_big
def am_wS : List Cond := Cond.code am_yS prog_15_method_1_code 1 none :: am_big
set_option maxHeartbeats 4000000 in
theorem am_mT {l : Launch} {D : va_G} {dA : Nat → ClassId} {B0 : Nat} {ca : Nat → Nat} {h : am_H} {x : Nat} (hi : am_isO h x 12 = true) : Met l am_yT am_wT { frames := 1, cells := 0, slots := 0, locals := 40 } (am_Pc D dA B0 ca [.ref x, .null, .null, .int 0, .int 0] h) (am_Qc D dA B0 ca none (am_stop h x)) 0 0 (fun q => B0 ≤ q) := by
  refine Met.ofW (cc := prog_24_method_5_code) (maxL := 5) (ret := none) (by decide) rfl ?_
  intro p e s m args below meth c s₁ B hml hv
  obtain ⟨rfl, hR, hC, hSt, hT, hB⟩ := hv
  have hx := B.exec
  have hb := B.bytes
  have hr := B.returns
  have hts0 := atoms_spec (ws := am_wT) B.pre
  have hts : ∀ w ∈ am_big, w.before _ s = true := fun w hw => hts0 w (List.mem_cons_of_mem _ hw)
  have hown : s.vm.findClass "java/lang/Throwable" = some m.cls := findClass_of_methodNamed B.named
  have hlocks := B.notSynchronized
  have hO : am_Ok s D dA B0 ca h s.heap [] := ⟨hR, hC, hSt, fun q hq => by cases hq⟩
  obtain ⟨hx0, hob⟩ := am_obj hO hi (by decide)
  have hB0 : B0 ≤ am_ad B0 ca x := by rw [am_ad_hi hx0]; omega
  have hSW : am_SW s D (am_ad B0 ca x) s.heap (fun j => am_ga (am_ad B0 ca) (h.2.2.2 x j)) [] := ⟨hob, rfl, fun _ _ => rfl, fun q hq => by cases hq⟩
  obtain ⟨-, ⟨v1, r1, s1⟩, ⟨v2, r2, s2⟩, -⟩ := hSt
  generalize hA0 : am_ad B0 ca x = a0 at hob hB0 hSW
  have eargs : ([Value.ref x, .null, .null, .int 0, .int 0].map (am_ga (am_ad B0 ca))) = [Value.ref a0, .null, .null, .int 0, .int 0] := by simp [am_ga, hA0]
  rw [eargs] at B hts ⊢
  have hl := lv_entry [Value.ref a0, .null, .null, .int 0, .int 0] (n := 5) (Nat.le_of_ble_eq_true rfl)
  rw [lg_entry_eq]
  generalize (lg_sl [Value.ref a0, .null, .null, .int 0, .int 0] ++ List.replicate (5 - (lg_sl [Value.ref a0, .null, .null, .int 0, .int 0]).length) Slot.unset).toArray = ls at hl ⊢
  have hl : lv_has ls 5 [(0, .ref a0), (1, .null), (2, .null), (3, .int 0), (4, .int 0)] := hl
  refine lv_aload_n hx hb am_dT_0 rfl (lv_at hl 0 rfl) ?_
  refine W.objInit hx hb hown (hts _ am_wk1) (hts _ am_oi1) (hts _ am_oi2) rfl (by rw [hml]; exact hl.1) rfl am_dT_1 (Nat.le_of_ble_eq_true rfl) (Nat.le_of_ble_eq_true rfl) ?_
  refine W.eq (g2 := F0 m 4 ls []) rfl ?_
  refine lv_aload_n hx hb am_dT_4 rfl (lv_at hl 0 rfl) ?_
  refine lv_aload_n hx hb am_dT_5 rfl (lv_at hl 0 rfl) ?_
  refine am_sput hx hb hts hown hT 0 (by decide) (Or.inr ⟨_, rfl⟩) am_wk7 hSW am_dT_6 fun H1 L1 hS1 => ?_
  refine lv_aload_n hx hb am_dT_9 rfl (lv_at hl 0 rfl) ?_
  refine am_sget hx hb hts hown am_wk13 s1 hB0 hS1 am_dT_10 ?_
  refine am_sput hx hb hts hown hT 1 (by decide) r1 am_wk17 hS1 am_dT_13 fun H2 L2 hS2 => ?_
  refine lv_aload_n hx hb am_dT_16 rfl (lv_at hl 0 rfl) ?_
  refine am_sget hx hb hts hown am_wk20 s2 hB0 hS2 am_dT_17 ?_
  refine am_sput hx hb hts hown hT 2 (by decide) r2 am_wk24 hS2 am_dT_20 fun H3 L3 hS3 => ?_
  refine lv_iload hx hb am_dT_23 (lv_at hl 4 rfl) ?_
  refine lv_if_eq (tgt := 36) hx hb am_dT_25 (by decide) (fun _ => ?_) (fun q => absurd rfl q)
  refine lv_aload_n hx hb am_dT_36 rfl (lv_at hl 0 rfl) ?_
  refine lv_null hx hb am_dT_37 ?_
  refine am_sput hx hb hts hown hT 1 (by decide) (Or.inl rfl) am_wk17 hS3 am_dT_38 fun H4 L4 hS4 => ?_
  refine lv_aload_n hx hb am_dT_41 rfl (lv_at hl 0 rfl) ?_
  refine lv_aload_nN hx hb am_dT_42 rfl (lv_at hl 1 rfl) ?_
  refine am_sput hx hb hts hown hT 3 (by decide) (Or.inl rfl) am_wk31 hS4 am_dT_43 fun H5 L5 hS5 => ?_
  refine lv_aload_n hx hb am_dT_46 rfl (lv_at hl 0 rfl) ?_
  refine lv_aload_nN hx hb am_dT_47 rfl (lv_at hl 2 rfl) ?_
  refine am_sput hx hb hts hown hT 0 (by decide) (Or.inl rfl) am_wk7 hS5 am_dT_48 fun H6 L6 hS6 => ?_
  refine lv_iload_n hx hb am_dT_51 rfl (lv_at hl 3 rfl) ?_
  refine lv_if_ne (tgt := 60) hx hb am_dT_52 (by decide) (fun q => absurd rfl q) (fun _ => ?_)
  refine lv_aload_n hx hb am_dT_55 rfl (lv_at hl 0 rfl) ?_
  refine lv_null hx hb am_dT_56 ?_
  refine am_sput hx hb hts hown hT 2 (by decide) (Or.inl rfl) am_wk24 hS6 am_dT_57 fun H7 L7 hS7 => ?_
  obtain ⟨o7, z7, y7, l7⟩ := hS7
  have hOk : am_Ok s D dA B0 ca (am_stop h x) H7 (([] : List Loc) ++ [⟨am_ad B0 ca x, 0⟩]) := by
    refine hO.put hx0 rfl rfl (fun k hk => ?_) z7 (fun q hq => y7 q (by rw [← hA0]; exact hq)) ?_
    · funext j
      simp [am_stop, am_row, hk]
    · obtain ⟨-, o1, o2⟩ := am_isO_spec hi
      refine Or.inl ⟨o1, (am_cn 12, am_TT 12, am_N 12), ?_, ?_⟩
      · show vwCl[(h.2.2.1 x).2.1]? = _
        rw [o2]
        exact am_cl 12 (by decide)
      · show t_OB _ (D.1 (h.2.2.1 x).2.1) _ (D.2 (h.2.2.1 x).2.1) H7 _
        rw [o2, hA0]
        refine t_OB.to o7 (fun j hj => ?_)
        have hj : j < 6 := hj
        rcases (show j = 0 ∨ j = 1 ∨ j = 2 ∨ j = 3 ∨ j = 4 ∨ j = 5 by omega) with rfl | rfl | rfl | rfl | rfl | rfl <;> (simp only [updV, am_stop, am_row, if_true]; rfl)
  exact W.vret hx hb hr (fun t ht hW => ⟨rfl, (by rw [ht]; exact hOk.1), (by rw [ht]; exact hOk.2.1.warm hW), (by rw [ht]; exact hOk.2.2.1.warm hW)⟩) (fun q hq => by rw [l7 q hq]; exact hB0) am_dT_60
theorem am_goodT (y : MethodName) (w : Cond) (hw : w ∈ am_big) : GoodIn am_big (w :: am_big) := by
  intro v hv
  have hb : v ∈ am_big := by
    rcases List.mem_cons.mp hv with q | q
    · rw [q]; exact hw
    · exact q
  exact ⟨hb, good_of_word (List.mem_filter.mp hb).2⟩
/-- behind the call of a constructor of Stop's kind -/
theorem am_mE {l : Launch} {D : va_G} {dA : Nat → ClassId} {B0 : Nat} {ca : Nat → Nat} {h : am_H} {x : Nat} (hi : am_isO h x 12 = true) : Met l am_yE am_wE { frames := 2, cells := 0, slots := 0, locals := 80 } (am_Pc D dA B0 ca [.ref x, .null, .null, .int 0, .int 0] h) (am_Qc D dA B0 ca none (am_stop h x)) 0 0 (fun q => B0 ≤ q) := by
  refine Met.ofW (cc := prog_16_method_5_code) (maxL := 5) (ret := none) (by decide) rfl ?_
  intro p e s m args below meth c s₁ B hml hv
  have hv0 := hv
  obtain ⟨rfl, hR, hC, hSt, hT, hB⟩ := hv
  have hx := B.exec
  have hb := B.bytes
  have hr := B.returns
  have hts0 := atoms_spec (ws := am_wE) B.pre
  have hts : ∀ w ∈ am_big, w.before _ s = true := fun w hw => hts0 w (List.mem_cons_of_mem _ hw)
  have hown : s.vm.findClass "java/lang/Exception" = some m.cls := findClass_of_methodNamed B.named
  have hlocks := B.notSynchronized
  have eargs : ([Value.ref x, .null, .null, .int 0, .int 0].map (am_ga (am_ad B0 ca))) = [Value.ref (am_ad B0 ca x), .null, .null, .int 0, .int 0] := rfl
  rw [eargs] at B hts hv0 ⊢
  have hl := lv_entry [Value.ref (am_ad B0 ca x), .null, .null, .int 0, .int 0] (n := 5) (Nat.le_of_ble_eq_true rfl)
  rw [lg_entry_eq]
  generalize (lg_sl [Value.ref (am_ad B0 ca x), .null, .null, .int 0, .int 0] ++ List.replicate (5 - (lg_sl [Value.ref (am_ad B0 ca x), .null, .null, .int 0, .int 0]).length) Slot.unset).toArray = ls at hl ⊢
  have hl : lv_has ls 5 [(0, .ref (am_ad B0 ca x)), (1, .null), (2, .null), (3, .int 0), (4, .int 0)] := hl
  refine lv_aload_n hx hb am_dE_0 rfl (lv_at hl 0 rfl) ?_
  refine lv_aload_nN hx hb am_dE_1 rfl (lv_at hl 1 rfl) ?_
  refine lv_aload_nN hx hb am_dE_2 rfl (lv_at hl 2 rfl) ?_
  refine lv_iload_n hx hb am_dE_3 rfl (lv_at hl 3 rfl) ?_
  refine lv_iload hx hb am_dE_4 (lv_at hl 4 rfl) ?_
  have S : CallFix p m c prog_16_method_5_code 5 s _ am_big "java/lang/Exception" := ⟨hx, hb, hml, hown, hts⟩
  have cb := callB_of (R := (headSpec am_wE { frames := 2, cells := 0, slots := 0, locals := 80 }).room) (mc := 0) (ms := 0) (rm := { frames := 1, cells := 0, slots := 0, locals := 40 }) (ws := am_wT) (ws' := am_big) (y := am_yT) (bytes := prog_24_method_5_code) (maxL := 5) (ret := none) 4 hts (am_goodT am_yT _ am_wkT) rfl rfl rfl (hts _ am_wkI) (hts _ am_wk16) (by decide) ⟨Nat.le_of_ble_eq_true rfl, Nat.le_of_ble_eq_true rfl⟩
  have hr0 := va_runI (As := [.null, .null, .int 0, .int 0]) (b := am_ad B0 ca x) (rest := []) (H := s.heap) (locs := []) (cells := 0) (slots := 0) (g := F0 m 6 ls [.int 0, .int 0, .null, .null, .ref (am_ad B0 ca x)]) (below := below) (meth := meth) (e := e) S (am_mT (l := l) (D := D) (dA := dA) (B0 := B0) (ca := ca) hi) ⟨cb, rfl, hts _ am_wkT2⟩ ⟨am_blind, fun U hU hW => ⟨rfl, by rw [hU]; exact hR, by rw [hU]; exact hC.warm hW, by rw [hU]; exact hSt.warm hW, hT.warm hW, by rw [hU]; exact hB⟩⟩ rfl rfl hl.1 rfl (lv_room (by decide)) am_dE_6 ⟨Nat.le_of_ble_eq_true rfl, Nat.le_of_ble_eq_true rfl⟩
  intro T hTh X
  obtain ⟨v, st₀, t, T', L, e0, X', hL', e1, e2, ⟨q1, q2, q3, q4⟩, stp⟩ := hr0 T hTh X
  cases q1
  have hal : t.vm.Alike s.vm := by rw [← e2]; exact X'.warmed.alike.symm
  have hk : W p l e (headSpec am_wE { frames := 2, cells := 0, slots := 0, locals := 80 }).room s m #[Value.ref (am_ad B0 ca x), .null, .null, .int 0, .int 0] below meth c T'.heap ([] ++ L) (0 + 0) (0 + 0) (MQ below (am_Qc D dA B0 ca none (am_stop h x)) #[Value.ref (am_ad B0 ca x), .null, .null, .int 0, .int 0] s 0 0 (fun q => B0 ≤ q)) (F0 m 9 ls []) := by
    refine W.vret hx hb hr (fun t2 ht hW => ⟨rfl, (by rw [ht, e1]; exact q2), (by rw [ht, e1]; exact (q3.alike hal).warm hW), (by rw [ht, e1]; exact (q4.alike hal).warm hW)⟩) (fun q hq => (List.mem_append.mp hq).elim (fun z => absurd z List.not_mem_nil) (hL' q)) am_dE_9
  obtain ⟨t3, a1, b1⟩ := hk T' rfl X'
  exact ⟨t3, stp t3 a1, b1⟩
theorem am_mSp {l : Launch} {D : va_G} {dA : Nat → ClassId} {B0 : Nat} {ca : Nat → Nat} {h : am_H} {x : Nat} (hi : am_isO h x 12 = true) : Met l am_yS am_wS { frames := 3, cells := 0, slots := 0, locals := 120 } (am_Pc D dA B0 ca [.ref x] h) (am_Qc D dA B0 ca none (am_stop h x)) 0 0 (fun q => B0 ≤ q) := by
  refine Met.ofW (cc := prog_15_method_1_code) (maxL := 1) (ret := none) (by decide) rfl ?_
  intro p e s m args below meth c s₁ B hml hv
  obtain ⟨rfl, hR, hC, hSt, hT, hB⟩ := hv
  have hx := B.exec
  have hb := B.bytes
  have hr := B.returns
  have hts0 := atoms_spec (ws := am_wS) B.pre
  have hts : ∀ w ∈ am_big, w.before _ s = true := fun w hw => hts0 w (List.mem_cons_of_mem _ hw)
  have hown : s.vm.findClass "PoetsBookModel$Stop" = some m.cls := findClass_of_methodNamed B.named
  have hlocks := B.notSynchronized
  have eargs : ([Value.ref x].map (am_ga (am_ad B0 ca))) = [Value.ref (am_ad B0 ca x)] := rfl
  rw [eargs] at B hts ⊢
  have hl := lv_entry [Value.ref (am_ad B0 ca x)] (n := 1) (Nat.le_of_ble_eq_true rfl)
  rw [lg_entry_eq]
  generalize (lg_sl [Value.ref (am_ad B0 ca x)] ++ List.replicate (1 - (lg_sl [Value.ref (am_ad B0 ca x)]).length) Slot.unset).toArray = ls at hl ⊢
  have hl : lv_has ls 1 [(0, .ref (am_ad B0 ca x))] := hl
  refine lv_aload_n hx hb am_dS_0 rfl (lv_at hl 0 rfl) ?_
  refine lv_null hx hb am_dS_1 ?_
  refine lv_null hx hb am_dS_2 ?_
  refine lv_iconst hx hb am_dS_3 rfl ?_
  refine lv_iconst hx hb am_dS_4 rfl ?_
  have S : CallFix p m c prog_15_method_1_code 1 s _ am_big "PoetsBookModel$Stop" := ⟨hx, hb, hml, hown, hts⟩
  have cb := callB_of (R := (headSpec am_wS { frames := 3, cells := 0, slots := 0, locals := 120 }).room) (mc := 0) (ms := 0) (rm := { frames := 2, cells := 0, slots := 0, locals := 80 }) (ws := am_wE) (ws' := am_big) (y := am_yE) (bytes := prog_16_method_5_code) (maxL := 5) (ret := none) 4 hts (am_goodT am_yE _ am_wkE) rfl rfl rfl (hts _ am_wkIE) (hts _ am_wk1S) (by decide) ⟨Nat.le_of_ble_eq_true rfl, Nat.le_of_ble_eq_true rfl⟩
  have hr0 := va_runI (As := [.null, .null, .int 0, .int 0]) (b := am_ad B0 ca x) (rest := []) (H := s.heap) (locs := []) (cells := 0) (slots := 0) (g := F0 m 5 ls [.int 0, .int 0, .null, .null, .ref (am_ad B0 ca x)]) (below := below) (meth := meth) (e := e) S (am_mE (l := l) (D := D) (dA := dA) (B0 := B0) (ca := ca) hi) ⟨cb, rfl, hts _ am_wkE2⟩ ⟨am_blind, fun U hU hW => ⟨rfl, by rw [hU]; exact hR, by rw [hU]; exact hC.warm hW, by rw [hU]; exact hSt.warm hW, hT.warm hW, by rw [hU]; exact hB⟩⟩ rfl rfl hl.1 rfl (lv_room (by decide)) am_dS_5 ⟨Nat.le_of_ble_eq_true rfl, Nat.le_of_ble_eq_true rfl⟩
  intro T hTh X
  obtain ⟨v, st₀, t, T', L, e0, X', hL', e1, e2, ⟨q1, q2, q3, q4⟩, stp⟩ := hr0 T hTh X
  cases q1
  have hal : t.vm.Alike s.vm := by rw [← e2]; exact X'.warmed.alike.symm
  have hk : W p l e (headSpec am_wS { frames := 3, cells := 0, slots := 0, locals := 120 }).room s m #[Value.ref (am_ad B0 ca x)] below meth c T'.heap ([] ++ L) (0 + 0) (0 + 0) (MQ below (am_Qc D dA B0 ca none (am_stop h x)) #[Value.ref (am_ad B0 ca x)] s 0 0 (fun q => B0 ≤ q)) (F0 m 8 ls []) := by
    refine W.vret hx hb hr (fun t2 ht hW => ⟨rfl, (by rw [ht, e1]; exact q2), (by rw [ht, e1]; exact (q3.alike hal).warm hW), (by rw [ht, e1]; exact (q4.alike hal).warm hW)⟩) (fun q hq => (List.mem_append.mp hq).elim (fun z => absurd z List.not_mem_nil) (hL' q)) am_dS_8
  obtain ⟨t3, a1, b1⟩ := hk T' rfl X'
  exact ⟨t3, stp t3 a1, b1⟩
section AMC4
variable {p : Program} {l : Launch} {e : Env} {R : Room} {s : State} {m : MethodId} {args : Array Value} {below : List Frame} {meth : Method} {c : Code} {Q : State → Prop} {D : va_G} {dA : Nat → ClassId} {B0 : Nat} {ca : Nat → Nat} {y : Nat} {h0 : am_H} {pc : Nat} {ls st : List Value} {h : am_H}
theorem am_k_stop {idx x : Nat} {rest : List Value} (C : am_Cx p s m args meth c D dA B0 ca y) (hst : st = .ref x :: rest) (hd : decode (am_by y) pc = .ok (.invokespecial idx, 3)) (hl : Cond.methodLink (am_cn (am_in y).1) idx am_yS ∈ am_big) (hcs : am_cs rest ≤ 8) (hi : am_isO h x 12 = true) (hR : 4 ≤ R.frames ∧ 256 ≤ R.locals) (hm : am_le h0 h) (hcap : h.1 - h0.1 ≤ R.cells ∧ h.2.1 - h0.2.1 ≤ R.slots) (k : am_Wp p l e R s m args below meth c Q D dA B0 ca y h0 (pc + 3) ls rest (am_stop h x)) : am_Wp p l e R s m args below meth c Q D dA B0 ca y h0 pc ls st h := by
  subst hst
  intro H locs rls hO hL
  have hts := C.2.2.2.2.1
  have S : CallFix p m c (am_by y) (am_in y).2.2.1 s args am_big (am_cn (am_in y).1) := ⟨C.1, C.2.1, C.2.2.1, C.2.2.2.1, C.2.2.2.2.1⟩
  have cb := callB_of (R := R) (mc := 0) (ms := 0) (rm := { frames := 3, cells := 0, slots := 0, locals := 120 }) (ws := am_wS) (ws' := am_big) (y := am_yS) (bytes := prog_15_method_1_code) (maxL := 1) (ret := none) (own := am_cn (am_in y).1) (index := idx) 0 hts (am_goodT am_yS _ am_wkS) rfl rfl rfl (hts _ am_wkIS) (hts _ hl) (by decide) ⟨hR.1, by have := hR.2; show 8 + (1 + 11) + 120 ≤ R.locals; omega⟩
  have hr0 := va_runI (As := []) (b := am_ad B0 ca x) (rest := rest.map (am_ga (am_ad B0 ca))) (H := H) (locs := locs) (cells := h.1 - h0.1) (slots := h.2.1 - h0.2.1) (g := F0 m pc rls ((Value.ref x :: rest).map (am_ga (am_ad B0 ca)))) (below := below) (meth := meth) (e := e) S (am_mSp (l := l) (D := D) (dA := dA) (B0 := B0) (ca := ca) hi) ⟨cb, rfl, hts _ am_wkS2⟩ ⟨am_blind, am_preU C hO rfl⟩ rfl rfl hL.2.1 rfl (am_roomW hcs) hd ⟨hcap.1, hcap.2⟩
  have e1 : (am_stop h x).1 - h.1 = 0 := Nat.sub_self h.1
  have e2 : (am_stop h x).2.1 - h.2.1 = 0 := Nat.sub_self h.2.1
  have hr1 : va_Run p l e R s m args below meth c H locs (h.1 - h0.1) (h.2.1 - h0.2.1) ((am_stop h x).1 - h.1) ((am_stop h x).2.1 - h.2.1) (F0 m pc rls ((Value.ref x :: rest).map (am_ga (am_ad B0 ca)))) (rest.map (am_ga (am_ad B0 ca))) (am_Qc D dA B0 ca none (am_stop h x) (Value.ref (am_ad B0 ca x) :: []).toArray) (fun q => B0 ≤ q) := by
    rw [e1, e2]
    exact hr0
  exact am_after hr1 hO hm ⟨Nat.le_refl _, Nat.le_refl _⟩ hL rfl k
end AMC4
end
section
/-! CALLS, V: String.length and String.charAt of the texts, through coder, isLatin1, StringLatin1.charAt and checkIndex -/
def am_yLe : MethodName := ⟨"java/lang/String", "length", "()I"⟩
def am_yCh : MethodName := ⟨"java/lang/String", "charAt", "(I)C"⟩
def am_yCo : MethodName := ⟨"java/lang/String", "coder", "()B"⟩
def am_yLa : MethodName := ⟨"java/lang/String", "isLatin1", "()Z"⟩
def am_yCk : MethodName := ⟨"java/lang/String", "checkIndex", "(II)V"⟩
def am_yL1 : MethodName := ⟨"java/lang/StringLatin1", "charAt", "([BI)C"⟩
def am_yPk : MethodName := ⟨"jdk/internal/util/Preconditions", "checkIndex", "(IILjava/util/function/BiFunction;)I"⟩
theorem am_dLe_0 : decode prog_20_method_54_code 0 = .ok (.aload_n 0, 1) := by decide +kernel
theorem am_dLe_1 : decode prog_20_method_54_code 1 = .ok (.getfield 9, 3) := by decide +kernel
theorem am_dLe_4 : decode prog_20_method_54_code 4 = .ok (.arraylength, 1) := by decide +kernel
theorem am_dLe_5 : decode prog_20_method_54_code 5 = .ok (.aload_n 0, 1) := by decide +kernel
theorem am_dLe_6 : decode prog_20_method_54_code 6 = .ok (.invokevirtual 335, 3) := by decide +kernel
theorem am_dLe_9 : decode prog_20_method_54_code 9 = .ok (.ishr, 1) := by decide +kernel
theorem am_dLe_10 : decode prog_20_method_54_code 10 = .ok (.ireturn, 1) := by decide +kernel
theorem am_dCh_0 : decode prog_20_method_56_code 0 = .ok (.aload_n 0, 1) := by decide +kernel
theorem am_dCh_1 : decode prog_20_method_56_code 1 = .ok (.invokevirtual 492, 3) := by decide +kernel
theorem am_dCh_4 : decode prog_20_method_56_code 4 = .ok (.ifCond .eq 12, 3) := by decide +kernel
theorem am_dCh_7 : decode prog_20_method_56_code 7 = .ok (.aload_n 0, 1) := by decide +kernel
theorem am_dCh_8 : decode prog_20_method_56_code 8 = .ok (.getfield 9, 3) := by decide +kernel
theorem am_dCh_11 : decode prog_20_method_56_code 11 = .ok (.iload_n 1, 1) := by decide +kernel
theorem am_dCh_12 : decode prog_20_method_56_code 12 = .ok (.invokestatic 495, 3) := by decide +kernel
theorem am_dCh_15 : decode prog_20_method_56_code 15 = .ok (.ireturn, 1) := by decide +kernel
theorem am_dCo_0 : decode prog_20_method_152_code 0 = .ok (.getstatic 38, 3) := by decide +kernel
theorem am_dCo_3 : decode prog_20_method_152_code 3 = .ok (.ifCond .eq 10, 3) := by decide +kernel
theorem am_dCo_6 : decode prog_20_method_152_code 6 = .ok (.aload_n 0, 1) := by decide +kernel
theorem am_dCo_7 : decode prog_20_method_152_code 7 = .ok (.getfield 15, 3) := by decide +kernel
theorem am_dCo_10 : decode prog_20_method_152_code 10 = .ok (.goto 4, 3) := by decide +kernel
theorem am_dCo_14 : decode prog_20_method_152_code 14 = .ok (.ireturn, 1) := by decide +kernel
theorem am_dLa_0 : decode prog_20_method_154_code 0 = .ok (.getstatic 38, 3) := by decide +kernel
theorem am_dLa_3 : decode prog_20_method_154_code 3 = .ok (.ifCond .eq 14, 3) := by decide +kernel
theorem am_dLa_6 : decode prog_20_method_154_code 6 = .ok (.aload_n 0, 1) := by decide +kernel
theorem am_dLa_7 : decode prog_20_method_154_code 7 = .ok (.getfield 15, 3) := by decide +kernel
theorem am_dLa_10 : decode prog_20_method_154_code 10 = .ok (.ifCond .ne 7, 3) := by decide +kernel
theorem am_dLa_13 : decode prog_20_method_154_code 13 = .ok (.iconst 1, 1) := by decide +kernel
theorem am_dLa_14 : decode prog_20_method_154_code 14 = .ok (.goto 4, 3) := by decide +kernel
theorem am_dLa_18 : decode prog_20_method_154_code 18 = .ok (.ireturn, 1) := by decide +kernel
theorem am_dCk_0 : decode prog_20_method_155_code 0 = .ok (.iload_n 0, 1) := by decide +kernel
theorem am_dCk_1 : decode prog_20_method_155_code 1 = .ok (.iload_n 1, 1) := by decide +kernel
theorem am_dCk_2 : decode prog_20_method_155_code 2 = .ok (.getstatic 1053, 3) := by decide +kernel
theorem am_dCk_5 : decode prog_20_method_155_code 5 = .ok (.invokestatic 1059, 3) := by decide +kernel
theorem am_dCk_8 : decode prog_20_method_155_code 8 = .ok (.pop, 1) := by decide +kernel
theorem am_dCk_9 : decode prog_20_method_155_code 9 = .ok (.return_, 1) := by decide +kernel
theorem am_dL1_0 : decode prog_21_method_2_code 0 = .ok (.iload_n 1, 1) := by decide +kernel
theorem am_dL1_1 : decode prog_21_method_2_code 1 = .ok (.aload_n 0, 1) := by decide +kernel
theorem am_dL1_2 : decode prog_21_method_2_code 2 = .ok (.arraylength, 1) := by decide +kernel
theorem am_dL1_3 : decode prog_21_method_2_code 3 = .ok (.invokestatic 9, 3) := by decide +kernel
theorem am_dL1_6 : decode prog_21_method_2_code 6 = .ok (.aload_n 0, 1) := by decide +kernel
theorem am_dL1_7 : decode prog_21_method_2_code 7 = .ok (.iload_n 1, 1) := by decide +kernel
theorem am_dL1_8 : decode prog_21_method_2_code 8 = .ok (.baload, 1) := by decide +kernel
theorem am_dL1_9 : decode prog_21_method_2_code 9 = .ok (.sipush 255, 3) := by decide +kernel
theorem am_dL1_12 : decode prog_21_method_2_code 12 = .ok (.iand, 1) := by decide +kernel
theorem am_dL1_13 : decode prog_21_method_2_code 13 = .ok (.i2c, 1) := by decide +kernel
theorem am_dL1_14 : decode prog_21_method_2_code 14 = .ok (.ireturn, 1) := by decide +kernel
theorem am_dPk_0 : decode prog_26_method_11_code 0 = .ok (.iload_n 0, 1) := by decide +kernel
theorem am_dPk_1 : decode prog_26_method_11_code 1 = .ok (.ifCond .lt 8, 3) := by decide +kernel
theorem am_dPk_4 : decode prog_26_method_11_code 4 = .ok (.iload_n 0, 1) := by decide +kernel
theorem am_dPk_5 : decode prog_26_method_11_code 5 = .ok (.iload_n 1, 1) := by decide +kernel
theorem am_dPk_6 : decode prog_26_method_11_code 6 = .ok (.if_icmp .lt 10, 3) := by decide +kernel
theorem am_dPk_16 : decode prog_26_method_11_code 16 = .ok (.iload_n 0, 1) := by decide +kernel
theorem am_dPk_17 : decode prog_26_method_11_code 17 = .ok (.ireturn, 1) := by decide +kernel
theorem am_cwLe : Cond.code am_yLe prog_20_method_54_code 1 (some .int) ∈ am_big := am_big_of (show am_wt 547 ∈ lw_tbl from am_wt_in (by decide)) rfl
theorem am_iwLe : Cond.initialized am_yLe.cls ∈ am_big := am_big_of (show am_wt 117 ∈ lw_tbl from am_wt_in (by decide)) rfl
def am_wsLe : List Cond := Cond.code am_yLe prog_20_method_54_code 1 (some .int) :: am_big
theorem am_cwCh : Cond.code am_yCh prog_20_method_56_code 2 (some .char) ∈ am_big := am_big_of (show am_wt 557 ∈ lw_tbl from am_wt_in (by decide)) rfl
theorem am_iwCh : Cond.initialized am_yCh.cls ∈ am_big := am_big_of (show am_wt 117 ∈ lw_tbl from am_wt_in (by decide)) rfl
def am_wsCh : List Cond := Cond.code am_yCh prog_20_method_56_code 2 (some .char) :: am_big
theorem am_cwCo : Cond.code am_yCo prog_20_method_152_code 1 (some .byte) ∈ am_big := am_big_of (show am_wt 551 ∈ lw_tbl from am_wt_in (by decide)) rfl
theorem am_iwCo : Cond.initialized am_yCo.cls ∈ am_big := am_big_of (show am_wt 117 ∈ lw_tbl from am_wt_in (by decide)) rfl
def am_wsCo : List Cond := Cond.code am_yCo prog_20_method_152_code 1 (some .byte) :: am_big
theorem am_cwLa : Cond.code am_yLa prog_20_method_154_code 1 (some .boolean) ∈ am_big := am_big_of (show am_wt 561 ∈ lw_tbl from am_wt_in (by decide)) rfl
theorem am_iwLa : Cond.initialized am_yLa.cls ∈ am_big := am_big_of (show am_wt 117 ∈ lw_tbl from am_wt_in (by decide)) rfl
def am_wsLa : List Cond := Cond.code am_yLa prog_20_method_154_code 1 (some .boolean) :: am_big
theorem am_cwCk : Cond.code am_yCk prog_20_method_155_code 2 none ∈ am_big := am_big_of (show am_wt 567 ∈ lw_tbl from am_wt_in (by decide)) rfl
theorem am_iwCk : Cond.initialized am_yCk.cls ∈ am_big := am_big_of (show am_wt 117 ∈ lw_tbl from am_wt_in (by decide)) rfl
def am_wsCk : List Cond := Cond.code am_yCk prog_20_method_155_code 2 none :: am_big
theorem am_cwL1 : Cond.code am_yL1 prog_21_method_2_code 2 (some .char) ∈ am_big := am_big_of (show am_wt 564 ∈ lw_tbl from am_wt_in (by decide)) rfl
theorem am_iwL1 : Cond.initialized am_yL1.cls ∈ am_big := am_big_of (show am_wt 118 ∈ lw_tbl from am_wt_in (by decide)) rfl
def am_wsL1 : List Cond := Cond.code am_yL1 prog_21_method_2_code 2 (some .char) :: am_big
theorem am_cwPk : Cond.code am_yPk prog_26_method_11_code 3 (some .int) ∈ am_big := am_big_of (show am_wt 572 ∈ lw_tbl from am_wt_in (by decide)) rfl
theorem am_iwPk : Cond.initialized am_yPk.cls ∈ am_big := am_big_of (show am_wt 119 ∈ lw_tbl from am_wt_in (by decide)) rfl
def am_wsPk : List Cond := Cond.code am_yPk prog_26_method_11_code 3 (some .int) :: am_big
theorem am_inLe : Cond.instanceMethod am_yLe ∈ am_big := am_big_of (show am_wt 545 ∈ lw_tbl from am_wt_in (by decide)) rfl
theorem am_seLe : Cond.selects "java/lang/String" am_yLe am_yLe ∈ am_big := am_big_of (show am_wt 546 ∈ lw_tbl from am_wt_in (by decide)) rfl
theorem am_lkCo : Cond.methodLink "java/lang/String" 335 am_yCo ∈ am_big := am_big_of (show am_wt 548 ∈ lw_tbl from am_wt_in (by decide)) rfl
theorem am_inCo : Cond.instanceMethod am_yCo ∈ am_big := am_big_of (show am_wt 549 ∈ lw_tbl from am_wt_in (by decide)) rfl
theorem am_seCo : Cond.selects "java/lang/String" am_yCo am_yCo ∈ am_big := am_big_of (show am_wt 550 ∈ lw_tbl from am_wt_in (by decide)) rfl
theorem am_fl38 : Cond.fieldLink "java/lang/String" 38 "java/lang/String" "COMPACT_STRINGS" "Z" ∈ am_big := am_big_of (show am_wt 552 ∈ lw_tbl from am_wt_in (by decide)) rfl
theorem am_inCh : Cond.instanceMethod am_yCh ∈ am_big := am_big_of (show am_wt 555 ∈ lw_tbl from am_wt_in (by decide)) rfl
theorem am_seCh : Cond.selects "java/lang/String" am_yCh am_yCh ∈ am_big := am_big_of (show am_wt 556 ∈ lw_tbl from am_wt_in (by decide)) rfl
theorem am_lkLa : Cond.methodLink "java/lang/String" 492 am_yLa ∈ am_big := am_big_of (show am_wt 558 ∈ lw_tbl from am_wt_in (by decide)) rfl
theorem am_inLa : Cond.instanceMethod am_yLa ∈ am_big := am_big_of (show am_wt 559 ∈ lw_tbl from am_wt_in (by decide)) rfl
theorem am_seLa : Cond.selects "java/lang/String" am_yLa am_yLa ∈ am_big := am_big_of (show am_wt 560 ∈ lw_tbl from am_wt_in (by decide)) rfl
theorem am_lkL1 : Cond.methodLink "java/lang/String" 495 am_yL1 ∈ am_big := am_big_of (show am_wt 562 ∈ lw_tbl from am_wt_in (by decide)) rfl
theorem am_stL1 : Cond.static am_yL1 ∈ am_big := am_big_of (show am_wt 563 ∈ lw_tbl from am_wt_in (by decide)) rfl
theorem am_lkCk : Cond.methodLink "java/lang/StringLatin1" 9 am_yCk ∈ am_big := am_big_of (show am_wt 565 ∈ lw_tbl from am_wt_in (by decide)) rfl
theorem am_stCk : Cond.static am_yCk ∈ am_big := am_big_of (show am_wt 566 ∈ lw_tbl from am_wt_in (by decide)) rfl
theorem am_fl53 : Cond.fieldLink "java/lang/String" 1053 "jdk/internal/util/Preconditions" "SIOOBE_FORMATTER" "Ljava/util/function/BiFunction;" ∈ am_big := am_big_of (show am_wt 568 ∈ lw_tbl from am_wt_in (by decide)) rfl
theorem am_lkPk : Cond.methodLink "java/lang/String" 1059 am_yPk ∈ am_big := am_big_of (show am_wt 570 ∈ lw_tbl from am_wt_in (by decide)) rfl
theorem am_stPk : Cond.static am_yPk ∈ am_big := am_big_of (show am_wt 571 ∈ lw_tbl from am_wt_in (by decide)) rfl
theorem am_fl9 : Cond.fieldLink "java/lang/String" 9 "java/lang/String" "value" "[B" ∈ am_big := am_big_of (show am_wt 2065 ∈ lw_tbl from am_wt_in (by decide)) rfl
theorem am_fl15 : Cond.fieldLink "java/lang/String" 15 "java/lang/String" "coder" "B" ∈ am_big := am_big_of (show am_wt 2066 ∈ lw_tbl from am_wt_in (by decide)) rfl
theorem am_lk54 : Cond.methodLink "PoetsBook$Tape" 54 am_yLe ∈ am_big := am_big_of (show am_wt 544 ∈ lw_tbl from am_wt_in (by decide)) rfl
theorem am_lk58 : Cond.methodLink "PoetsBook$Tape" 58 am_yCh ∈ am_big := am_big_of (show am_wt 554 ∈ lw_tbl from am_wt_in (by decide)) rfl
theorem am_lk50 : Cond.methodLink "PoetsBookModel" 50 am_yLe ∈ am_big := am_big_of (show am_wt 1681 ∈ lw_tbl from am_wt_in (by decide)) rfl
theorem am_lk55 : Cond.methodLink "PoetsBookModel" 55 am_yCh ∈ am_big := am_big_of (show am_wt 1682 ∈ lw_tbl from am_wt_in (by decide)) rfl
theorem am_beq2 {a b : Nat} {x : Bool} (h : (Nat.beq a b && x) = true) : a = b ∧ x = true := by
  rw [Bool.and_eq_true] at h
  exact ⟨am_beq h.1, h.2⟩
theorem am_sM_len {i : Instr} {ci : Nat} (h : am_sM i ci 1003 = true) : ∃ idx, i = .invokevirtual idx ∧ Cond.methodLink (am_cn ci) idx am_yLe ∈ am_big := by
  unfold am_sM at h
  split at h
  · rename_i idx
    simp only [Bool.or_eq_true, Bool.and_eq_true] at h
    rcases h with ((⟨⟨h1, h2⟩, -⟩ | ⟨⟨h1, h2⟩, -⟩) | ⟨-, h3⟩) | ⟨-, h3⟩
    · cases am_beq h1; cases am_beq h2
      exact ⟨_, rfl, am_lk54⟩
    · cases am_beq h1; cases am_beq h2
      exact ⟨_, rfl, am_lk50⟩
    · exact absurd (am_beq h3) (by decide)
    · exact absurd (am_beq h3) (by decide)
  · cases h
theorem am_sM_chr {i : Instr} {ci : Nat} (h : am_sM i ci 1004 = true) : ∃ idx, i = .invokevirtual idx ∧ Cond.methodLink (am_cn ci) idx am_yCh ∈ am_big := by
  unfold am_sM at h
  split at h
  · rename_i idx
    simp only [Bool.or_eq_true, Bool.and_eq_true] at h
    rcases h with ((⟨-, h3⟩ | ⟨-, h3⟩) | ⟨⟨h1, h2⟩, -⟩) | ⟨⟨h1, h2⟩, -⟩
    · exact absurd (am_beq h3) (by decide)
    · exact absurd (am_beq h3) (by decide)
    · cases am_beq h1; cases am_beq h2
      exact ⟨_, rfl, am_lk58⟩
    · cases am_beq h1; cases am_beq h2
      exact ⟨_, rfl, am_lk55⟩
  · cases h
theorem am_sl8s : ∀ i, i < 16 → am_slen i < 8 := by decide +kernel
theorem am_chf : ∀ i, i < 16 → ∀ j, j < am_slen i → (Int32.ofNat (am_sch i j) &&& 255 = Int32.ofNat (am_sch i j) ∧ ((Int32.ofNat (am_sch i j)).toUInt32 % 65536).toInt32 = Int32.ofNat (am_sch i j)) := by decide +kernel
section AMT
variable {p : Program} {l : Launch} {e : Env} {R : Room} {s : State} {m : MethodId} {args : Array Value} {below : List Frame} {meth : Method} {c : Code} {Q : State → Prop} {D : va_G} {dA : Nat → ClassId} {B0 : Nat} {ca : Nat → Nat} {y : Nat} {h0 h : am_H} {pc : Nat} {ls st : List Value} {H : Heap} {locs : List Loc} {rls : Array Slot} {cells slots : Nat} {cc : ByteArray} {rest : List Value} {i : Nat}
theorem am_sfac (hS : am_Str B0 ca s H) (hi : i < 16) : va_O "java/lang/String" (am_ad B0 ca (7 + i)) (fun q => B0 ≤ q) s H ∧ va_OF "java/lang/String" "coder" "B" (.int 0) (am_ad B0 ca (7 + i)) (fun q => B0 ≤ q) s H ∧ va_OF "java/lang/String" "value" "[B" (.ref (am_ad B0 ca (23 + i))) (am_ad B0 ca (7 + i)) (fun q => B0 ≤ q) s H ∧ va_T .byte (am_ad B0 ca (23 + i)) (am_slen i) (fun j => .int (Int32.ofNat (am_sch i j))) (fun q => B0 ≤ q) s H := by
  rw [am_ad_lo (show 7 + i < 40 by omega), am_ad_lo (show 23 + i < 40 by omega)]
  exact hS.1 i hi
theorem am_gs {own C n d : String} {idx : Nat} {v : Value} (hx : p.tables.exec = Jvm.exec) (hb : c.code = cc) (hown : s.vm.findClass own = some m.cls) (hl : (Cond.fieldLink own idx C n d).before args s = true) (hZ : va_Z C n d v (fun q => B0 ≤ q) s H) (hd : decode cc pc = .ok (.getstatic idx, 3)) (kk : W p l e R s m args below meth c H locs cells slots Q (F0 m (pc + 3) rls (v :: rest))) : W p l e R s m args below meth c H locs cells slots Q (F0 m pc rls rest) := by
  obtain ⟨cf, kf, fi, f, q, cell, z1, z2, z3, z4, z5, z6, z7, z8⟩ := hZ
  exact W.gets hx hb hown hl z1 z2 z3 z4 z5 (fun e => by rw [e] at z6; cases z6) z7 rfl hd kk
theorem am_gf {own C n d : String} {idx t : Nat} {v : Value} (hx : p.tables.exec = Jvm.exec) (hb : c.code = cc) (hown : s.vm.findClass own = some m.cls) (hl : (Cond.fieldLink own idx C n d).before args s = true) (hZ : va_OF C n d v t (fun q => B0 ≤ q) s H) (hd : decode cc pc = .ok (.getfield idx, 3)) (kk : W p l e R s m args below meth c H locs cells slots Q (F0 m (pc + 3) rls (v :: rest))) : W p l e R s m args below meth c H locs cells slots Q (F0 m pc rls (.ref t :: rest)) := by
  obtain ⟨cf, k, fi, f, cell, h1, h2, h3, h4, h5, h6⟩ := hZ
  exact W.getf hx hb hown hl h1 h2 h3 h4 (v := v) h5 rfl rfl hd kk
theorem am_preS {as : List Value} (hT : am_Tab D dA ca s) (hO : am_Ok s D dA B0 ca h H locs) {vs : List Value} (hv : vs = as.map (am_ga (am_ad B0 ca))) : ∀ U : State, U.heap = H → s.WarmedH U.vm → am_Pc D dA B0 ca as h vs.toArray U := by
  intro U hU hW
  subst hU
  refine ⟨by rw [hv], hO.1, hO.2.1.warm hW, hO.2.2.1.warm hW, hT.warm hW, ?_⟩
  rw [hO.1.2.1]
  omega
theorem am_afterS {r : Option Value} {rest' st0 st1 : List Value} {av : Array Value} (hr : va_Run p l e R s m args below meth c H locs 0 0 0 0 (F0 m pc rls st0) rest' (am_Qc D dA B0 ca r h av) (fun q => B0 ≤ q)) (hO : am_Ok s D dA B0 ca h H locs) (hst : (r.map (am_ga (am_ad B0 ca))).toList ++ rest' = st1) (k : ∀ H' locs', am_Ok s D dA B0 ca h H' locs' → W p l e R s m args below meth c H' locs' 0 0 Q (F0 m (pc + 3) rls st1)) : W p l e R s m args below meth c H locs 0 0 Q (F0 m pc rls st0) := by
  subst hst
  intro T hT X
  obtain ⟨v, st₀, t, T', L, e0, X', hL', e1, e2, ⟨q1, q2, q3, q4⟩, stp⟩ := hr T hT X
  cases q1
  have hal : t.vm.Alike s.vm := by rw [← e2]; exact X'.warmed.alike.symm
  have hO' : am_Ok s D dA B0 ca h T'.heap (locs ++ L) := ⟨by rw [e1]; exact q2, by rw [e1]; exact q3.alike hal, by rw [e1]; exact q4.alike hal, fun q hq => (List.mem_append.mp hq).elim (hO.2.2.2 q) (hL' q)⟩
  obtain ⟨t2, a1, b1⟩ := k T'.heap (locs ++ L) hO' T' rfl X'
  exact ⟨t2, stp t2 a1, b1⟩
theorem am_Qof {r : Option Value} {o : Outcome} {av : Array Value} {s0 : State} (hO : am_Ok s D dA B0 ca h H locs) (ho : o = .returned (r.map (am_ga (am_ad B0 ca)))) : ∀ t : State, t.heap = H → s.WarmedH t.vm → am_Qc D dA B0 ca r h av s0 o t := fun t ht hW =>
  ⟨ho, by rw [ht]; exact hO.1, by rw [ht]; exact hO.2.1.warm hW, by rw [ht]; exact hO.2.2.1.warm hW⟩
end AMT
theorem am_ldcwS {p : Program} {l : Launch} {e : Env} {R : Room} {s : State} {m : MethodId} {args : Array Value} {below : List Frame} {meth : Method} {c : Code} {T : State} {locs : List Loc} {cells slots : Nat}
    (X : Stand p l e R s m args below meth c T locs cells slots) (hexec : p.tables.exec = Jvm.exec) {own text : String} {index : Nat} {a : Addr} (hown : s.vm.findClass own = some m.cls)
    (hconst : (Cond.stringRef own index text).before #[] s = true) (hev : (Term.string own index).eval #[] s none [] s = some (.ref a)) {g : JFrame} (hg : g.method = m) (hdg : decode c.code g.pc = .ok (.ldc_w index, 3)) :
    ∀ target, Steps p.tables e below (T.setTop { g with pc := g.pc + 3, stack := .ref a :: g.stack }) target → Steps p.tables e below (T.setTop g) target := by
  obtain ⟨k, cf, i, b, hk, hcf, hcp, -, hr, hev2⟩ := Cond.stringRef_spec hown hconst
  cases hev.symm.trans hev2
  obtain ⟨k2, hk2, he⟩ := X.warmed.alike.2.2 _ _ hk
  have hr2 : k2.resolved[index]? = some (some (.string a)) := by
    rcases X.warmed.entry hk hk2 index with h | ⟨h, -⟩
    · rw [h]; exact hr
    · rw [hr] at h; cases h
  intro target hrest
  subst hg
  jvm_step X.here [hexec, hdg, ldc_w.wp_string (e := e) (s := T) (f := g) X.here.top hk2 (by rw [he]; exact hcf) hcp hr2]
  exact hrest
set_option maxHeartbeats 1000000 in
theorem am_mCo {l : Launch} {D : va_G} {dA : Nat → ClassId} {B0 : Nat} {ca : Nat → Nat} {h : am_H} {i : Nat} (hi : i < 16) : Met l am_yCo am_wsCo { frames := 1, cells := 0, slots := 0, locals := 40 } (am_Pc D dA B0 ca [.ref (7 + i)] h) (am_Qc D dA B0 ca (some (.int 0)) h) 0 0 (fun q => B0 ≤ q) := by
  refine Met.ofW (cc := prog_20_method_152_code) (maxL := 1) (ret := (some .byte)) (by decide) rfl ?_
  intro p e s m args below meth c s₁ B hml hv
  obtain ⟨rfl, hR, hC, hSt, hT, hB⟩ := hv
  have hx := B.exec
  have hb := B.bytes
  have hr := B.returns
  have hts0 := atoms_spec (ws := am_wsCo) B.pre
  have hts : ∀ w ∈ am_big, w.before _ s = true := fun w hw => hts0 w (List.mem_cons_of_mem _ hw)
  have hown : s.vm.findClass "java/lang/String" = some m.cls := findClass_of_methodNamed B.named
  have hlocks := B.notSynchronized
  have hO : am_Ok s D dA B0 ca h s.heap [] := ⟨hR, hC, hSt, fun q hq => by cases hq⟩
  have eargs : ([.ref (7 + i)].map (am_ga (am_ad B0 ca))) = [.ref (am_ad B0 ca (7 + i))] := rfl
  rw [eargs] at B hts ⊢
  have hl := lv_entry [.ref (am_ad B0 ca (7 + i))] (n := 1) (Nat.le_of_ble_eq_true rfl)
  rw [lg_entry_eq]
  generalize (lg_sl [.ref (am_ad B0 ca (7 + i))] ++ List.replicate (1 - (lg_sl [.ref (am_ad B0 ca (7 + i))]).length) Slot.unset).toArray = ls at hl ⊢
  have hl : lv_has ls 1 [(0, .ref (am_ad B0 ca (7 + i)))] := hl
  have S : CallFix p m c prog_20_method_152_code 1 s _ am_big "java/lang/String" := ⟨hx, hb, hml, hown, hts⟩
  have hstr := hSt.2.2.2
  have hf := am_sfac hstr hi
  refine am_gs hx hb hown (hts _ am_fl38) hstr.2.1 am_dCo_0 ?_
  refine lv_if_eq (tgt := 13) hx hb am_dCo_3 (by decide) (fun q => absurd q (by decide)) (fun _ => ?_)
  refine lv_aload_n hx hb am_dCo_6 rfl (lv_at hl 0 rfl) ?_
  refine am_gf hx hb hown (hts _ am_fl15) hf.2.1 am_dCo_7 ?_
  refine lv_goto (tgt := 14) hx hb am_dCo_10 (by decide) ?_
  exact W.zret hx hb hr rfl (am_Qof hO rfl) (fun q hq => by cases hq) am_dCo_14
set_option maxHeartbeats 1000000 in
theorem am_mLa {l : Launch} {D : va_G} {dA : Nat → ClassId} {B0 : Nat} {ca : Nat → Nat} {h : am_H} {i : Nat} (hi : i < 16) : Met l am_yLa am_wsLa { frames := 1, cells := 0, slots := 0, locals := 40 } (am_Pc D dA B0 ca [.ref (7 + i)] h) (am_Qc D dA B0 ca (some (.int 1)) h) 0 0 (fun q => B0 ≤ q) := by
  refine Met.ofW (cc := prog_20_method_154_code) (maxL := 1) (ret := (some .boolean)) (by decide) rfl ?_
  intro p e s m args below meth c s₁ B hml hv
  obtain ⟨rfl, hR, hC, hSt, hT, hB⟩ := hv
  have hx := B.exec
  have hb := B.bytes
  have hr := B.returns
  have hts0 := atoms_spec (ws := am_wsLa) B.pre
  have hts : ∀ w ∈ am_big, w.before _ s = true := fun w hw => hts0 w (List.mem_cons_of_mem _ hw)
  have hown : s.vm.findClass "java/lang/String" = some m.cls := findClass_of_methodNamed B.named
  have hlocks := B.notSynchronized
  have hO : am_Ok s D dA B0 ca h s.heap [] := ⟨hR, hC, hSt, fun q hq => by cases hq⟩
  have eargs : ([.ref (7 + i)].map (am_ga (am_ad B0 ca))) = [.ref (am_ad B0 ca (7 + i))] := rfl
  rw [eargs] at B hts ⊢
  have hl := lv_entry [.ref (am_ad B0 ca (7 + i))] (n := 1) (Nat.le_of_ble_eq_true rfl)
  rw [lg_entry_eq]
  generalize (lg_sl [.ref (am_ad B0 ca (7 + i))] ++ List.replicate (1 - (lg_sl [.ref (am_ad B0 ca (7 + i))]).length) Slot.unset).toArray = ls at hl ⊢
  have hl : lv_has ls 1 [(0, .ref (am_ad B0 ca (7 + i)))] := hl
  have S : CallFix p m c prog_20_method_154_code 1 s _ am_big "java/lang/String" := ⟨hx, hb, hml, hown, hts⟩
  have hstr := hSt.2.2.2
  have hf := am_sfac hstr hi
  refine am_gs hx hb hown (hts _ am_fl38) hstr.2.1 am_dLa_0 ?_
  refine lv_if_eq (tgt := 17) hx hb am_dLa_3 (by decide) (fun q => absurd q (by decide)) (fun _ => ?_)
  refine lv_aload_n hx hb am_dLa_6 rfl (lv_at hl 0 rfl) ?_
  refine am_gf hx hb hown (hts _ am_fl15) hf.2.1 am_dLa_7 ?_
  refine lv_if_ne (tgt := 17) hx hb am_dLa_10 (by decide) (fun q => absurd rfl q) (fun _ => ?_)
  refine lv_iconst hx hb am_dLa_13 rfl ?_
  refine lv_goto (tgt := 18) hx hb am_dLa_14 (by decide) ?_
  exact W.zret hx hb hr rfl (am_Qof hO rfl) (fun q hq => by cases hq) am_dLa_18
def am_PcR (D : va_G) (dA : Nat → ClassId) (B0 : Nat) (ca : Nat → Nat) (vs : List Value) (h : am_H) : Array Value → State → Prop :=
  va_Pc vs (fun U => am_Rep D dA B0 ca h U.heap ∧ am_Con B0 ca h U U.heap ∧ am_Sta B0 ca U U.heap ∧ am_Tab D dA ca U ∧ B0 ≤ U.heap.size)
theorem am_blindR {D : va_G} {dA : Nat → ClassId} {B0 : Nat} {ca : Nat → Nat} {vs : List Value} {h : am_H} : FrameBlind (am_PcR D dA B0 ca vs h) := by
  intro a U g mk q
  obtain ⟨q0, q1, q2, q3, q4, q5⟩ := q
  exact ⟨q0, q1, am_Con.alike (s := U) (U := U.calling g mk a) (Vm.Alike.refl U.vm) q2, am_Sta.alike (s := U) (U := U.calling g mk a) (Vm.Alike.refl U.vm) q3, am_Tab.warm (s := U) (U := U.calling g mk a) (State.WarmedH.refl U) q4, q5⟩
section AMT2
variable {p : Program} {l : Launch} {e : Env} {R : Room} {s : State} {m : MethodId} {args : Array Value} {below : List Frame} {meth : Method} {c : Code} {Q : State → Prop} {D : va_G} {dA : Nat → ClassId} {B0 : Nat} {ca : Nat → Nat} {h : am_H} {pc : Nat} {H : Heap} {locs : List Loc} {rls : Array Slot} {cells slots : Nat} {cc : ByteArray} {rest : List Value}
theorem am_preR {vs : List Value} (hT : am_Tab D dA ca s) (hO : am_Ok s D dA B0 ca h H locs) : ∀ U : State, U.heap = H → s.WarmedH U.vm → am_PcR D dA B0 ca vs h vs.toArray U := by
  intro U hU hW
  subst hU
  refine ⟨rfl, hO.1, hO.2.1.warm hW, hO.2.2.1.warm hW, hT.warm hW, ?_⟩
  rw [hO.1.2.1]
  omega
theorem am_al {ty : FieldType} {t N : Nat} {f : Nat → Value} {A : Nat → Prop} (hx : p.tables.exec = Jvm.exec) (hb : c.code = cc) (hT : va_T ty t N f A s H) (hd : decode cc pc = .ok (.arraylength, 1)) (kk : W p l e R s m args below meth c H locs cells slots Q (F0 m (pc + 1) rls (.int (Int32.ofNat N) :: rest))) : W p l e R s m args below meth c H locs cells slots Q (F0 m pc rls (.ref t :: rest)) := by
  obtain ⟨cell, h1, h2, h3, h4, h5, h6, h7⟩ := hT
  exact W.alen (n := Int32.ofNat N) hx hb h1 h2 h5 rfl rfl hd kk
theorem am_bl {t N : Nat} {f : Nat → Value} {A : Nat → Prop} {j : Int32} (hx : p.tables.exec = Jvm.exec) (hb : c.code = cc) (hT : va_T .byte t N f A s H) (hin : vp_in j N) (hd : decode cc pc = .ok (.baload, 1)) (kk : W p l e R s m args below meth c H locs cells slots Q (F0 m (pc + 1) rls (f j.toNatClampNeg :: rest))) : W p l e R s m args below meth c H locs cells slots Q (F0 m pc rls (.int j :: .ref t :: rest)) := by
  obtain ⟨cell, h1, h2, h3, h4, h5, h6, h7⟩ := hT
  have hlt : j.toNatClampNeg < N := Nat.not_le.mp fun q => hin (Or.inr q)
  have hin2 : ¬ (j < 0 ∨ cell.slots.size ≤ j.toNatClampNeg) := by
    intro q
    rcases q with q | q
    · exact hin (Or.inl q)
    · omega
  exact W.bald (v := f j.toNatClampNeg) hx hb h1 h2 h3 hin2 (h6 _ hlt) rfl rfl hd kk
end AMT2
theorem am_jn {j : Int32} {N : Nat} (h0 : 0 ≤ j) (h1 : j.toNatClampNeg < N) (hN : N < 8) : ¬ j < 0 ∧ j < Int32.ofNat N ∧ vp_in j N := by
  have e0 : (0 : Int32).toInt = 0 := rfl
  have e1 : 0 ≤ j.toInt := by
    have := Int32.le_iff_toInt_le.mp h0
    rw [e0] at this
    exact this
  have e2 : (j.toNatClampNeg : Int) = j.toInt := Int.toNat_of_nonneg e1
  have e3 : (Int32.ofNat N).toInt = (N : Int) := nI_toInt (n := N) (by omega)
  have n0 : ¬ j < 0 := by
    intro q
    have := Int32.lt_iff_toInt_lt.mp q
    rw [e0] at this
    omega
  refine ⟨n0, Int32.lt_iff_toInt_lt.mpr (by rw [e3]; omega), ?_⟩
  intro q
  rcases q with q | q
  · exact n0 q
  · omega
theorem am_shr0 : ∀ i, i < 16 → Int32.ofNat (am_slen i) >>> ((0 : Int32) &&& 31) = Int32.ofNat (am_slen i) := by decide +kernel
set_option maxHeartbeats 1000000 in
theorem am_mPkN {l : Launch} {D : va_G} {dA : Nat → ClassId} {B0 : Nat} {ca : Nat → Nat} {h : am_H} {j n : Int32} (h0 : ¬ j < 0) (h1 : j < n) : Met l am_yPk am_wsPk { frames := 1, cells := 0, slots := 0, locals := 40 } (am_PcR D dA B0 ca [.int j, .int n, .null] h) (am_Qc D dA B0 ca (some (.int j)) h) 0 0 (fun q => B0 ≤ q) := by
  refine Met.ofW (cc := prog_26_method_11_code) (maxL := 3) (ret := (some .int)) (by decide) rfl ?_
  intro p e s m args below meth c s₁ B hml hv
  obtain ⟨rfl, hR, hC, hSt, hT, hB⟩ := hv
  have hx := B.exec
  have hb := B.bytes
  have hr := B.returns
  have hts0 := atoms_spec (ws := am_wsPk) B.pre
  have hts : ∀ w ∈ am_big, w.before _ s = true := fun w hw => hts0 w (List.mem_cons_of_mem _ hw)
  have hown : s.vm.findClass "jdk/internal/util/Preconditions" = some m.cls := findClass_of_methodNamed B.named
  have hlocks := B.notSynchronized
  have hO : am_Ok s D dA B0 ca h s.heap [] := ⟨hR, hC, hSt, fun q hq => by cases hq⟩
  have hl := lv_entry [.int j, .int n, .null] (n := 3) (Nat.le_of_ble_eq_true rfl)
  rw [lg_entry_eq]
  generalize (lg_sl [.int j, .int n, .null] ++ List.replicate (3 - (lg_sl [.int j, .int n, .null]).length) Slot.unset).toArray = ls at hl ⊢
  have hl : lv_has ls 3 [(0, .int j), (1, .int n), (2, .null)] := hl
  have S : CallFix p m c prog_26_method_11_code 3 s _ am_big "jdk/internal/util/Preconditions" := ⟨hx, hb, hml, hown, hts⟩
  have hstr := hSt.2.2.2
  refine lv_iload_n hx hb am_dPk_0 rfl (lv_at hl 0 rfl) ?_
  refine lv_if_lt (tgt := 9) hx hb am_dPk_1 (by decide) (fun q => absurd q h0) (fun _ => ?_)
  refine lv_iload_n hx hb am_dPk_4 rfl (lv_at hl 0 rfl) ?_
  refine lv_iload_n hx hb am_dPk_5 rfl (lv_at hl 1 rfl) ?_
  refine lv_icmp_lt (tgt := 16) hx hb am_dPk_6 (by decide) (fun _ => ?_) (fun q => absurd h1 q)
  refine lv_iload_n hx hb am_dPk_16 rfl (lv_at hl 0 rfl) ?_
  exact W.iret hx hb hr (am_Qof hO rfl) (fun q hq => by cases hq) am_dPk_17
set_option maxHeartbeats 1000000 in
theorem am_mPkR {l : Launch} {D : va_G} {dA : Nat → ClassId} {B0 : Nat} {ca : Nat → Nat} {h : am_H} {j n : Int32} {a : Nat} (h0 : ¬ j < 0) (h1 : j < n) : Met l am_yPk am_wsPk { frames := 1, cells := 0, slots := 0, locals := 40 } (am_PcR D dA B0 ca [.int j, .int n, .ref a] h) (am_Qc D dA B0 ca (some (.int j)) h) 0 0 (fun q => B0 ≤ q) := by
  refine Met.ofW (cc := prog_26_method_11_code) (maxL := 3) (ret := (some .int)) (by decide) rfl ?_
  intro p e s m args below meth c s₁ B hml hv
  obtain ⟨rfl, hR, hC, hSt, hT, hB⟩ := hv
  have hx := B.exec
  have hb := B.bytes
  have hr := B.returns
  have hts0 := atoms_spec (ws := am_wsPk) B.pre
  have hts : ∀ w ∈ am_big, w.before _ s = true := fun w hw => hts0 w (List.mem_cons_of_mem _ hw)
  have hown : s.vm.findClass "jdk/internal/util/Preconditions" = some m.cls := findClass_of_methodNamed B.named
  have hlocks := B.notSynchronized
  have hO : am_Ok s D dA B0 ca h s.heap [] := ⟨hR, hC, hSt, fun q hq => by cases hq⟩
  have hl := lv_entry [.int j, .int n, .ref a] (n := 3) (Nat.le_of_ble_eq_true rfl)
  rw [lg_entry_eq]
  generalize (lg_sl [.int j, .int n, .ref a] ++ List.replicate (3 - (lg_sl [.int j, .int n, .ref a]).length) Slot.unset).toArray = ls at hl ⊢
  have hl : lv_has ls 3 [(0, .int j), (1, .int n), (2, .ref a)] := hl
  have S : CallFix p m c prog_26_method_11_code 3 s _ am_big "jdk/internal/util/Preconditions" := ⟨hx, hb, hml, hown, hts⟩
  have hstr := hSt.2.2.2
  refine lv_iload_n hx hb am_dPk_0 rfl (lv_at hl 0 rfl) ?_
  refine lv_if_lt (tgt := 9) hx hb am_dPk_1 (by decide) (fun q => absurd q h0) (fun _ => ?_)
  refine lv_iload_n hx hb am_dPk_4 rfl (lv_at hl 0 rfl) ?_
  refine lv_iload_n hx hb am_dPk_5 rfl (lv_at hl 1 rfl) ?_
  refine lv_icmp_lt (tgt := 16) hx hb am_dPk_6 (by decide) (fun _ => ?_) (fun q => absurd h1 q)
  refine lv_iload_n hx hb am_dPk_16 rfl (lv_at hl 0 rfl) ?_
  exact W.iret hx hb hr (am_Qof hO rfl) (fun q hq => by cases hq) am_dPk_17
theorem am_mPk {l : Launch} {D : va_G} {dA : Nat → ClassId} {B0 : Nat} {ca : Nat → Nat} {h : am_H} {j n : Int32} {v : Value} (hv : am_rn v) (h0 : ¬ j < 0) (h1 : j < n) : Met l am_yPk am_wsPk { frames := 1, cells := 0, slots := 0, locals := 40 } (am_PcR D dA B0 ca [.int j, .int n, v] h) (am_Qc D dA B0 ca (some (.int j)) h) 0 0 (fun q => B0 ≤ q) := by
  rcases hv with rfl | ⟨a, rfl⟩
  · exact am_mPkN h0 h1
  · exact am_mPkR h0 h1
set_option maxHeartbeats 1000000 in
theorem am_mCk {l : Launch} {D : va_G} {dA : Nat → ClassId} {B0 : Nat} {ca : Nat → Nat} {h : am_H} {j n : Int32} (h0 : ¬ j < 0) (h1 : j < n) : Met l am_yCk am_wsCk { frames := 2, cells := 0, slots := 0, locals := 80 } (am_Pc D dA B0 ca [.int j, .int n] h) (am_Qc D dA B0 ca none h) 0 0 (fun q => B0 ≤ q) := by
  refine Met.ofW (cc := prog_20_method_155_code) (maxL := 2) (ret := none) (by decide) rfl ?_
  intro p e s m args below meth c s₁ B hml hv
  obtain ⟨rfl, hR, hC, hSt, hT, hB⟩ := hv
  have hx := B.exec
  have hb := B.bytes
  have hr := B.returns
  have hts0 := atoms_spec (ws := am_wsCk) B.pre
  have hts : ∀ w ∈ am_big, w.before _ s = true := fun w hw => hts0 w (List.mem_cons_of_mem _ hw)
  have hown : s.vm.findClass "java/lang/String" = some m.cls := findClass_of_methodNamed B.named
  have hlocks := B.notSynchronized
  have hO : am_Ok s D dA B0 ca h s.heap [] := ⟨hR, hC, hSt, fun q hq => by cases hq⟩
  have eargs : ([.int j, .int n].map (am_ga (am_ad B0 ca))) = [.int j, .int n] := rfl
  rw [eargs] at B hts ⊢
  have hl := lv_entry [.int j, .int n] (n := 2) (Nat.le_of_ble_eq_true rfl)
  rw [lg_entry_eq]
  generalize (lg_sl [.int j, .int n] ++ List.replicate (2 - (lg_sl [.int j, .int n]).length) Slot.unset).toArray = ls at hl ⊢
  have hl : lv_has ls 2 [(0, .int j), (1, .int n)] := hl
  have S : CallFix p m c prog_20_method_155_code 2 s _ am_big "java/lang/String" := ⟨hx, hb, hml, hown, hts⟩
  have hstr := hSt.2.2.2
  obtain ⟨v, hrn, hZ⟩ := hstr.2.2
  refine lv_iload_n hx hb am_dCk_0 rfl (lv_at hl 0 rfl) ?_
  refine lv_iload_n hx hb am_dCk_1 rfl (lv_at hl 1 rfl) ?_
  refine am_gs hx hb hown (hts _ am_fl53) hZ am_dCk_2 ?_
  have cb := callB_of (R := (headSpec am_wsCk { frames := 2, cells := 0, slots := 0, locals := 80 }).room) (mc := 0) (ms := 0) (rm := { frames := 1, cells := 0, slots := 0, locals := 40 }) (ws := am_wsPk) (ws' := am_big) (y := am_yPk) (bytes := prog_26_method_11_code) (maxL := 3) (ret := (some .int)) (own := "java/lang/String") (index := 1059) 3 hts (am_goodT am_yPk _ am_cwPk) rfl rfl rfl (hts _ am_iwPk) (hts _ am_lkPk) (by decide) ⟨Nat.le_of_ble_eq_true rfl, Nat.le_of_ble_eq_true rfl⟩
  have r1 := va_runS (As := [.int j, .int n, v]) (rest := []) (below := below) (meth := meth) (e := e) (H := s.heap) (locs := []) (cells := 0) (slots := 0) (g := F0 m 5 ls [v, .int n, .int j]) S (am_mPk (l := l) (D := D) (dA := dA) (B0 := B0) (ca := ca) (h := h) hrn h0 h1) ⟨cb, hts _ am_stPk⟩ ⟨am_blindR, am_preR hT hO⟩ rfl rfl hl.1 rfl (lv_room (by decide)) am_dCk_5 ⟨Nat.le_of_ble_eq_true rfl, Nat.le_of_ble_eq_true rfl⟩
  refine am_afterS r1 hO (st1 := [.int j]) rfl fun H1 L1 hO1 => ?_
  refine lv_pop hx hb am_dCk_8 rfl ?_
  exact W.vret hx hb hr (am_Qof hO1 rfl) (fun q hq => hO1.2.2.2 q hq) am_dCk_9
set_option maxHeartbeats 1000000 in
theorem am_mL1 {l : Launch} {D : va_G} {dA : Nat → ClassId} {B0 : Nat} {ca : Nat → Nat} {h : am_H} {i : Nat} {j : Int32} (hi : i < 16) (h0 : 0 ≤ j) (h1 : j.toNatClampNeg < am_slen i) : Met l am_yL1 am_wsL1 { frames := 3, cells := 0, slots := 0, locals := 120 } (am_Pc D dA B0 ca [.ref (23 + i), .int j] h) (am_Qc D dA B0 ca (some (.int (Int32.ofNat (am_sch i j.toNatClampNeg)))) h) 0 0 (fun q => B0 ≤ q) := by
  refine Met.ofW (cc := prog_21_method_2_code) (maxL := 2) (ret := (some .char)) (by decide) rfl ?_
  intro p e s m args below meth c s₁ B hml hv
  obtain ⟨rfl, hR, hC, hSt, hT, hB⟩ := hv
  have hx := B.exec
  have hb := B.bytes
  have hr := B.returns
  have hts0 := atoms_spec (ws := am_wsL1) B.pre
  have hts : ∀ w ∈ am_big, w.before _ s = true := fun w hw => hts0 w (List.mem_cons_of_mem _ hw)
  have hown : s.vm.findClass "java/lang/StringLatin1" = some m.cls := findClass_of_methodNamed B.named
  have hlocks := B.notSynchronized
  have hO : am_Ok s D dA B0 ca h s.heap [] := ⟨hR, hC, hSt, fun q hq => by cases hq⟩
  have eargs : ([.ref (23 + i), .int j].map (am_ga (am_ad B0 ca))) = [.ref (am_ad B0 ca (23 + i)), .int j] := rfl
  rw [eargs] at B hts ⊢
  have hl := lv_entry [.ref (am_ad B0 ca (23 + i)), .int j] (n := 2) (Nat.le_of_ble_eq_true rfl)
  rw [lg_entry_eq]
  generalize (lg_sl [.ref (am_ad B0 ca (23 + i)), .int j] ++ List.replicate (2 - (lg_sl [.ref (am_ad B0 ca (23 + i)), .int j]).length) Slot.unset).toArray = ls at hl ⊢
  have hl : lv_has ls 2 [(0, .ref (am_ad B0 ca (23 + i))), (1, .int j)] := hl
  have S : CallFix p m c prog_21_method_2_code 2 s _ am_big "java/lang/StringLatin1" := ⟨hx, hb, hml, hown, hts⟩
  have hstr := hSt.2.2.2
  have hf := am_sfac hstr hi
  obtain ⟨g0, g1, g2⟩ := am_jn h0 h1 (am_sl8s i hi)
  obtain ⟨c1, c2⟩ := am_chf i hi _ h1
  refine lv_iload_n hx hb am_dL1_0 rfl (lv_at hl 1 rfl) ?_
  refine lv_aload_n hx hb am_dL1_1 rfl (lv_at hl 0 rfl) ?_
  refine am_al hx hb hf.2.2.2 am_dL1_2 ?_
  have cb := callB_of (R := (headSpec am_wsL1 { frames := 3, cells := 0, slots := 0, locals := 120 }).room) (mc := 0) (ms := 0) (rm := { frames := 2, cells := 0, slots := 0, locals := 80 }) (ws := am_wsCk) (ws' := am_big) (y := am_yCk) (bytes := prog_20_method_155_code) (maxL := 2) (ret := none) (own := "java/lang/StringLatin1") (index := 9) 2 hts (am_goodT am_yCk _ am_cwCk) rfl rfl rfl (hts _ am_iwCk) (hts _ am_lkCk) (by decide) ⟨Nat.le_of_ble_eq_true rfl, Nat.le_of_ble_eq_true rfl⟩
  have r1 := va_runS (As := [.int j, .int (Int32.ofNat (am_slen i))]) (rest := []) (below := below) (meth := meth) (e := e) (H := s.heap) (locs := []) (cells := 0) (slots := 0) (g := F0 m 3 ls [.int (Int32.ofNat (am_slen i)), .int j]) S (am_mCk (l := l) (D := D) (dA := dA) (B0 := B0) (ca := ca) (h := h) g0 g1) ⟨cb, hts _ am_stCk⟩ ⟨am_blind, am_preS (as := [.int j, .int (Int32.ofNat (am_slen i))]) hT hO rfl⟩ rfl rfl hl.1 rfl (lv_room (by decide)) am_dL1_3 ⟨Nat.le_of_ble_eq_true rfl, Nat.le_of_ble_eq_true rfl⟩
  refine am_afterS r1 hO (st1 := []) rfl fun H1 L1 hO1 => ?_
  have hf1 := am_sfac hO1.2.2.1.2.2.2 hi
  refine lv_aload_n hx hb am_dL1_6 rfl (lv_at hl 0 rfl) ?_
  refine lv_iload_n hx hb am_dL1_7 rfl (lv_at hl 1 rfl) ?_
  refine am_bl hx hb hf1.2.2.2 g2 am_dL1_8 ?_
  refine lv_sipush (v := 255) hx hb am_dL1_9 (by decide) ?_
  refine lv_iand hx hb am_dL1_12 ?_
  rw [c1]
  refine lv_i2c hx hb am_dL1_13 c2 ?_
  exact W.zret hx hb hr (show narrow .char (.int (Int32.ofNat (am_sch i j.toNatClampNeg))) = .int (Int32.ofNat (am_sch i j.toNatClampNeg)) from congrArg Value.int c2) (am_Qof hO1 rfl) (fun q hq => hO1.2.2.2 q hq) am_dL1_14
set_option maxHeartbeats 1000000 in
theorem am_mCh {l : Launch} {D : va_G} {dA : Nat → ClassId} {B0 : Nat} {ca : Nat → Nat} {h : am_H} {i : Nat} {j : Int32} (hi : i < 16) (h0 : 0 ≤ j) (h1 : j.toNatClampNeg < am_slen i) : Met l am_yCh am_wsCh { frames := 4, cells := 0, slots := 0, locals := 160 } (am_Pc D dA B0 ca [.ref (7 + i), .int j] h) (am_Qc D dA B0 ca (some (.int (Int32.ofNat (am_sch i j.toNatClampNeg)))) h) 0 0 (fun q => B0 ≤ q) := by
  refine Met.ofW (cc := prog_20_method_56_code) (maxL := 2) (ret := (some .char)) (by decide) rfl ?_
  intro p e s m args below meth c s₁ B hml hv
  obtain ⟨rfl, hR, hC, hSt, hT, hB⟩ := hv
  have hx := B.exec
  have hb := B.bytes
  have hr := B.returns
  have hts0 := atoms_spec (ws := am_wsCh) B.pre
  have hts : ∀ w ∈ am_big, w.before _ s = true := fun w hw => hts0 w (List.mem_cons_of_mem _ hw)
  have hown : s.vm.findClass "java/lang/String" = some m.cls := findClass_of_methodNamed B.named
  have hlocks := B.notSynchronized
  have hO : am_Ok s D dA B0 ca h s.heap [] := ⟨hR, hC, hSt, fun q hq => by cases hq⟩
  have eargs : ([.ref (7 + i), .int j].map (am_ga (am_ad B0 ca))) = [.ref (am_ad B0 ca (7 + i)), .int j] := rfl
  rw [eargs] at B hts ⊢
  have hl := lv_entry [.ref (am_ad B0 ca (7 + i)), .int j] (n := 2) (Nat.le_of_ble_eq_true rfl)
  rw [lg_entry_eq]
  generalize (lg_sl [.ref (am_ad B0 ca (7 + i)), .int j] ++ List.replicate (2 - (lg_sl [.ref (am_ad B0 ca (7 + i)), .int j]).length) Slot.unset).toArray = ls at hl ⊢
  have hl : lv_has ls 2 [(0, .ref (am_ad B0 ca (7 + i))), (1, .int j)] := hl
  have S : CallFix p m c prog_20_method_56_code 2 s _ am_big "java/lang/String" := ⟨hx, hb, hml, hown, hts⟩
  have hstr := hSt.2.2.2
  have hf := am_sfac hstr hi
  obtain ⟨c1, c2⟩ := am_chf i hi _ h1
  obtain ⟨cell, o1, o2, o3, o4⟩ := hf.1
  refine lv_aload_n hx hb am_dCh_0 rfl (lv_at hl 0 rfl) ?_
  have cb := callB_of (R := (headSpec am_wsCh { frames := 4, cells := 0, slots := 0, locals := 160 }).room) (mc := 0) (ms := 0) (rm := { frames := 1, cells := 0, slots := 0, locals := 40 }) (ws := am_wsLa) (ws' := am_big) (y := am_yLa) (bytes := prog_20_method_154_code) (maxL := 1) (ret := (some .boolean)) (own := "java/lang/String") (index := 492) 0 hts (am_goodT am_yLa _ am_cwLa) rfl rfl rfl (hts _ am_iwLa) (hts _ am_lkLa) (by decide) ⟨Nat.le_of_ble_eq_true rfl, Nat.le_of_ble_eq_true rfl⟩
  have r1 := va_runV (C := "java/lang/String") (As := []) (b := am_ad B0 ca (7 + i)) (rest := []) (below := below) (meth := meth) (e := e) (H := s.heap) (locs := []) (cells := 0) (slots := 0) (g := F0 m 1 ls [.ref (am_ad B0 ca (7 + i))]) S (am_mLa (l := l) (D := D) (dA := dA) (B0 := B0) (ca := ca) (h := h) hi) ⟨cb, hts _ am_inLa, hts _ am_seLa⟩ ⟨am_blind, ⟨cell, o1, o2, o3⟩, am_preS (as := [.ref (7 + i)]) hT hO rfl⟩ rfl rfl hl.1 rfl (lv_room (by decide)) am_dCh_1 ⟨Nat.le_of_ble_eq_true rfl, Nat.le_of_ble_eq_true rfl⟩
  refine am_afterS r1 hO (st1 := [.int 1]) rfl fun H1 L1 hO1 => ?_
  refine lv_if_eq (tgt := 16) hx hb am_dCh_4 (by decide) (fun q => absurd q (by decide)) (fun _ => ?_)
  have hf1 := am_sfac hO1.2.2.1.2.2.2 hi
  refine lv_aload_n hx hb am_dCh_7 rfl (lv_at hl 0 rfl) ?_
  refine am_gf hx hb hown (hts _ am_fl9) hf1.2.2.1 am_dCh_8 ?_
  refine lv_iload_n hx hb am_dCh_11 rfl (lv_at hl 1 rfl) ?_
  have cb2 := callB_of (R := (headSpec am_wsCh { frames := 4, cells := 0, slots := 0, locals := 160 }).room) (mc := 0) (ms := 0) (rm := { frames := 3, cells := 0, slots := 0, locals := 120 }) (ws := am_wsL1) (ws' := am_big) (y := am_yL1) (bytes := prog_21_method_2_code) (maxL := 2) (ret := (some .char)) (own := "java/lang/String") (index := 495) 2 hts (am_goodT am_yL1 _ am_cwL1) rfl rfl rfl (hts _ am_iwL1) (hts _ am_lkL1) (by decide) ⟨Nat.le_of_ble_eq_true rfl, Nat.le_of_ble_eq_true rfl⟩
  have r2 := va_runS (As := [.ref (am_ad B0 ca (23 + i)), .int j]) (rest := []) (below := below) (meth := meth) (e := e) (H := H1) (locs := L1) (cells := 0) (slots := 0) (g := F0 m 12 ls [.int j, .ref (am_ad B0 ca (23 + i))]) S (am_mL1 (l := l) (D := D) (dA := dA) (B0 := B0) (ca := ca) (h := h) hi h0 h1) ⟨cb2, hts _ am_stL1⟩ ⟨am_blind, am_preS (as := [.ref (23 + i), .int j]) hT hO1 rfl⟩ rfl rfl hl.1 rfl (lv_room (by decide)) am_dCh_12 ⟨Nat.le_of_ble_eq_true rfl, Nat.le_of_ble_eq_true rfl⟩
  refine am_afterS r2 hO1 (st1 := [.int (Int32.ofNat (am_sch i j.toNatClampNeg))]) rfl fun H2 L2 hO2 => ?_
  exact W.zret hx hb hr (show narrow .char (.int (Int32.ofNat (am_sch i j.toNatClampNeg))) = .int (Int32.ofNat (am_sch i j.toNatClampNeg)) from congrArg Value.int c2) (am_Qof hO2 rfl) (fun q hq => hO2.2.2.2 q hq) am_dCh_15
set_option maxHeartbeats 1000000 in
theorem am_mLe {l : Launch} {D : va_G} {dA : Nat → ClassId} {B0 : Nat} {ca : Nat → Nat} {h : am_H} {i : Nat} (hi : i < 16) : Met l am_yLe am_wsLe { frames := 2, cells := 0, slots := 0, locals := 80 } (am_Pc D dA B0 ca [.ref (7 + i)] h) (am_Qc D dA B0 ca (some (.int (Int32.ofNat (am_slen i)))) h) 0 0 (fun q => B0 ≤ q) := by
  refine Met.ofW (cc := prog_20_method_54_code) (maxL := 1) (ret := (some .int)) (by decide) rfl ?_
  intro p e s m args below meth c s₁ B hml hv
  obtain ⟨rfl, hR, hC, hSt, hT, hB⟩ := hv
  have hx := B.exec
  have hb := B.bytes
  have hr := B.returns
  have hts0 := atoms_spec (ws := am_wsLe) B.pre
  have hts : ∀ w ∈ am_big, w.before _ s = true := fun w hw => hts0 w (List.mem_cons_of_mem _ hw)
  have hown : s.vm.findClass "java/lang/String" = some m.cls := findClass_of_methodNamed B.named
  have hlocks := B.notSynchronized
  have hO : am_Ok s D dA B0 ca h s.heap [] := ⟨hR, hC, hSt, fun q hq => by cases hq⟩
  have eargs : ([.ref (7 + i)].map (am_ga (am_ad B0 ca))) = [.ref (am_ad B0 ca (7 + i))] := rfl
  rw [eargs] at B hts ⊢
  have hl := lv_entry [.ref (am_ad B0 ca (7 + i))] (n := 1) (Nat.le_of_ble_eq_true rfl)
  rw [lg_entry_eq]
  generalize (lg_sl [.ref (am_ad B0 ca (7 + i))] ++ List.replicate (1 - (lg_sl [.ref (am_ad B0 ca (7 + i))]).length) Slot.unset).toArray = ls at hl ⊢
  have hl : lv_has ls 1 [(0, .ref (am_ad B0 ca (7 + i)))] := hl
  have S : CallFix p m c prog_20_method_54_code 1 s _ am_big "java/lang/String" := ⟨hx, hb, hml, hown, hts⟩
  have hstr := hSt.2.2.2
  have hf := am_sfac hstr hi
  obtain ⟨cell, o1, o2, o3, o4⟩ := hf.1
  refine lv_aload_n hx hb am_dLe_0 rfl (lv_at hl 0 rfl) ?_
  refine am_gf hx hb hown (hts _ am_fl9) hf.2.2.1 am_dLe_1 ?_
  refine am_al hx hb hf.2.2.2 am_dLe_4 ?_
  refine lv_aload_n hx hb am_dLe_5 rfl (lv_at hl 0 rfl) ?_
  have cb := callB_of (R := (headSpec am_wsLe { frames := 2, cells := 0, slots := 0, locals := 80 }).room) (mc := 0) (ms := 0) (rm := { frames := 1, cells := 0, slots := 0, locals := 40 }) (ws := am_wsCo) (ws' := am_big) (y := am_yCo) (bytes := prog_20_method_152_code) (maxL := 1) (ret := (some .byte)) (own := "java/lang/String") (index := 335) 0 hts (am_goodT am_yCo _ am_cwCo) rfl rfl rfl (hts _ am_iwCo) (hts _ am_lkCo) (by decide) ⟨Nat.le_of_ble_eq_true rfl, Nat.le_of_ble_eq_true rfl⟩
  have r1 := va_runV (C := "java/lang/String") (As := []) (b := am_ad B0 ca (7 + i)) (rest := [.int (Int32.ofNat (am_slen i))]) (below := below) (meth := meth) (e := e) (H := s.heap) (locs := []) (cells := 0) (slots := 0) (g := F0 m 6 ls [.ref (am_ad B0 ca (7 + i)), .int (Int32.ofNat (am_slen i))]) S (am_mCo (l := l) (D := D) (dA := dA) (B0 := B0) (ca := ca) (h := h) hi) ⟨cb, hts _ am_inCo, hts _ am_seCo⟩ ⟨am_blind, ⟨cell, o1, o2, o3⟩, am_preS (as := [.ref (7 + i)]) hT hO rfl⟩ rfl rfl hl.1 rfl (lv_room (by show (1 : Nat) ≤ 8; decide)) am_dLe_6 ⟨Nat.le_of_ble_eq_true rfl, Nat.le_of_ble_eq_true rfl⟩
  refine am_afterS r1 hO (st1 := [.int 0, .int (Int32.ofNat (am_slen i))]) rfl fun H1 L1 hO1 => ?_
  refine lv_ishr hx hb am_dLe_9 ?_
  rw [am_shr0 i hi]
  exact W.iret hx hb hr (am_Qof hO1 rfl) (fun q hq => hO1.2.2.2 q hq) am_dLe_10
section AMT3
variable {p : Program} {l : Launch} {e : Env} {R : Room} {s : State} {m : MethodId} {args : Array Value} {below : List Frame} {meth : Method} {c : Code} {Q : State → Prop} {D : va_G} {dA : Nat → ClassId} {B0 : Nat} {ca : Nat → Nat} {y : Nat} {h0 : am_H} {pc : Nat} {ls st : List Value} {h : am_H}
theorem am_k_len {idx k : Nat} {rest : List Value} (C : am_Cx p s m args meth c D dA B0 ca y) (hst : st = .ref k :: rest) (hd : decode (am_by y) pc = .ok (.invokevirtual idx, 3)) (hl : Cond.methodLink (am_cn (am_in y).1) idx am_yLe ∈ am_big) (hk : 7 ≤ k ∧ k < 23) (hcs : am_cs rest ≤ 8) (hR : 3 ≤ R.frames ∧ 192 ≤ R.locals) (hm : am_le h0 h) (hcap : h.1 - h0.1 ≤ R.cells ∧ h.2.1 - h0.2.1 ≤ R.slots) (kk : am_Wp p l e R s m args below meth c Q D dA B0 ca y h0 (pc + 3) ls (.int (Int32.ofNat (am_slen (k - 7))) :: rest) h) : am_Wp p l e R s m args below meth c Q D dA B0 ca y h0 pc ls st h := by
  subst hst
  obtain ⟨i, rfl⟩ : ∃ i, k = 7 + i := ⟨k - 7, by omega⟩
  have hi : i < 16 := by omega
  rw [Nat.add_sub_cancel_left] at kk
  intro H locs rls hO hL
  have hts := C.2.2.2.2.1
  have S : CallFix p m c (am_by y) (am_in y).2.2.1 s args am_big (am_cn (am_in y).1) := ⟨C.1, C.2.1, C.2.2.1, C.2.2.2.1, C.2.2.2.2.1⟩
  obtain ⟨cell, o1, o2, o3, o4⟩ := (am_sfac hO.2.2.1.2.2.2 hi).1
  have cb := callB_of (R := R) (mc := 0) (ms := 0) (rm := { frames := 2, cells := 0, slots := 0, locals := 80 }) (ws := am_wsLe) (ws' := am_big) (y := am_yLe) (bytes := prog_20_method_54_code) (maxL := 1) (ret := (some .int)) (own := am_cn (am_in y).1) (index := idx) 0 hts (am_goodT am_yLe _ am_cwLe) rfl rfl rfl (hts _ am_iwLe) (hts _ hl) (by decide) ⟨hR.1, by have := hR.2; show 8 + (1 + 11) + 80 ≤ R.locals; omega⟩
  have hr0 := va_runV (C := "java/lang/String") (As := []) (b := am_ad B0 ca (7 + i)) (rest := rest.map (am_ga (am_ad B0 ca))) (H := H) (locs := locs) (cells := h.1 - h0.1) (slots := h.2.1 - h0.2.1) (g := F0 m pc rls ((Value.ref (7 + i) :: rest).map (am_ga (am_ad B0 ca)))) (below := below) (meth := meth) (e := e) S (am_mLe (l := l) (D := D) (dA := dA) (B0 := B0) (ca := ca) (h := h) hi) ⟨cb, hts _ am_inLe, hts _ am_seLe⟩ ⟨am_blind, ⟨cell, o1, o2, o3⟩, am_preU C hO rfl⟩ rfl rfl hL.2.1 rfl (am_roomW hcs) hd ⟨hcap.1, hcap.2⟩
  have hr1 : va_Run p l e R s m args below meth c H locs (h.1 - h0.1) (h.2.1 - h0.2.1) (h.1 - h.1) (h.2.1 - h.2.1) (F0 m pc rls ((Value.ref (7 + i) :: rest).map (am_ga (am_ad B0 ca)))) (rest.map (am_ga (am_ad B0 ca))) (am_Qc D dA B0 ca (some (.int (Int32.ofNat (am_slen i)))) h (Value.ref (am_ad B0 ca (7 + i)) :: []).toArray) (fun q => B0 ≤ q) := by
    rw [Nat.sub_self, Nat.sub_self]
    exact hr0
  exact am_after hr1 hO hm ⟨Nat.le_refl _, Nat.le_refl _⟩ hL rfl kk
theorem am_k_chr {idx k : Nat} {j : Int32} {rest : List Value} (C : am_Cx p s m args meth c D dA B0 ca y) (hst : st = .int j :: .ref k :: rest) (hd : decode (am_by y) pc = .ok (.invokevirtual idx, 3)) (hl : Cond.methodLink (am_cn (am_in y).1) idx am_yCh ∈ am_big) (hk : 7 ≤ k ∧ k < 23) (hj0 : 0 ≤ j) (hj1 : j.toNatClampNeg < am_slen (k - 7)) (hcs : am_cs rest ≤ 8) (hR : 5 ≤ R.frames ∧ 320 ≤ R.locals) (hm : am_le h0 h) (hcap : h.1 - h0.1 ≤ R.cells ∧ h.2.1 - h0.2.1 ≤ R.slots) (kk : am_Wp p l e R s m args below meth c Q D dA B0 ca y h0 (pc + 3) ls (.int (Int32.ofNat (am_sch (k - 7) j.toNatClampNeg)) :: rest) h) : am_Wp p l e R s m args below meth c Q D dA B0 ca y h0 pc ls st h := by
  subst hst
  obtain ⟨i, rfl⟩ : ∃ i, k = 7 + i := ⟨k - 7, by omega⟩
  have hi : i < 16 := by omega
  rw [Nat.add_sub_cancel_left] at kk hj1
  intro H locs rls hO hL
  have hts := C.2.2.2.2.1
  have S : CallFix p m c (am_by y) (am_in y).2.2.1 s args am_big (am_cn (am_in y).1) := ⟨C.1, C.2.1, C.2.2.1, C.2.2.2.1, C.2.2.2.2.1⟩
  obtain ⟨cell, o1, o2, o3, o4⟩ := (am_sfac hO.2.2.1.2.2.2 hi).1
  have cb := callB_of (R := R) (mc := 0) (ms := 0) (rm := { frames := 4, cells := 0, slots := 0, locals := 160 }) (ws := am_wsCh) (ws' := am_big) (y := am_yCh) (bytes := prog_20_method_56_code) (maxL := 2) (ret := (some .char)) (own := am_cn (am_in y).1) (index := idx) 1 hts (am_goodT am_yCh _ am_cwCh) rfl rfl rfl (hts _ am_iwCh) (hts _ hl) (by decide) ⟨hR.1, by have := hR.2; show 8 + (2 + 11) + 160 ≤ R.locals; omega⟩
  have hr0 := va_runV (C := "java/lang/String") (As := [.int j]) (b := am_ad B0 ca (7 + i)) (rest := rest.map (am_ga (am_ad B0 ca))) (H := H) (locs := locs) (cells := h.1 - h0.1) (slots := h.2.1 - h0.2.1) (g := F0 m pc rls ((Value.int j :: Value.ref (7 + i) :: rest).map (am_ga (am_ad B0 ca)))) (below := below) (meth := meth) (e := e) S (am_mCh (l := l) (D := D) (dA := dA) (B0 := B0) (ca := ca) (h := h) hi hj0 hj1) ⟨cb, hts _ am_inCh, hts _ am_seCh⟩ ⟨am_blind, ⟨cell, o1, o2, o3⟩, am_preU (as := [.ref (7 + i), .int j]) C hO rfl⟩ rfl rfl hL.2.1 rfl (am_roomW hcs) hd ⟨hcap.1, hcap.2⟩
  have hr1 : va_Run p l e R s m args below meth c H locs (h.1 - h0.1) (h.2.1 - h0.2.1) (h.1 - h.1) (h.2.1 - h.2.1) (F0 m pc rls ((Value.int j :: Value.ref (7 + i) :: rest).map (am_ga (am_ad B0 ca)))) (rest.map (am_ga (am_ad B0 ca))) (am_Qc D dA B0 ca (some (.int (Int32.ofNat (am_sch i j.toNatClampNeg)))) h (Value.ref (am_ad B0 ca (7 + i)) :: [.int j]).toArray) (fun q => B0 ≤ q) := by
    rw [Nat.sub_self, Nat.sub_self]
    exact hr0
  exact am_after hr1 hO hm ⟨Nat.le_refl _, Nat.le_refl _⟩ hL rfl kk
theorem am_sF_in {ci idx i : Nat} : ∀ (t : List (Nat × Nat × Nat)), am_sF ci idx t = some i → (ci, idx, i) ∈ t
  | [], h => by cases h
  | q :: r, h => by
    unfold am_sF at h
    simp only [cond_eq_ite] at h
    split at h
    · rename_i hc
      rw [Bool.and_eq_true] at hc
      cases am_beq hc.1; cases am_beq hc.2; cases h
      exact List.mem_cons_self
    · exact List.mem_cons_of_mem _ (am_sF_in r h)
theorem am_sTab_ok : ∀ q ∈ am_sTab, (am_cn q.1, q.2.1, q.2.2) ∈ am_sRefs ∧ q.2.2 < 16 := by decide +kernel
theorem am_k_lds {idx i : Nat} (C : am_Cx p s m args meth c D dA B0 ca y) (hs : am_sR (am_in y).1 idx = some i) (hd : decode (am_by y) pc = .ok (.ldc idx, 2)) (k : am_Wp p l e R s m args below meth c Q D dA B0 ca y h0 (pc + 2) ls (.ref (7 + i) :: st) h) : am_Wp p l e R s m args below meth c Q D dA B0 ca y h0 pc ls st h := by
  intro H locs rls hO hL
  obtain ⟨q1, q2⟩ := am_sTab_ok _ (am_sF_in _ hs)
  have hZ := C.2.2.2.2.2.1.2.2.2.2 _ q1
  have kk := k H locs rls hO hL
  have e1 : (Value.ref (7 + i) :: st).map (am_ga (am_ad B0 ca)) = .ref (ca (7 + i)) :: st.map (am_ga (am_ad B0 ca)) := by
    rw [← am_ad_lo (B0 := B0) (ca := ca) (k := 7 + i) (show 7 + i < 40 by have : i < 16 := q2; omega)]
    rfl
  rw [e1] at kk
  exact va_ldcS C.1 C.2.1 C.2.2.2.1 hZ hd kk
theorem am_k_ldsw {idx i : Nat} (C : am_Cx p s m args meth c D dA B0 ca y) (hs : am_sR (am_in y).1 idx = some i) (hd : decode (am_by y) pc = .ok (.ldc_w idx, 3)) (k : am_Wp p l e R s m args below meth c Q D dA B0 ca y h0 (pc + 3) ls (.ref (7 + i) :: st) h) : am_Wp p l e R s m args below meth c Q D dA B0 ca y h0 pc ls st h := by
  intro H locs rls hO hL
  obtain ⟨q1, q2⟩ := am_sTab_ok _ (am_sF_in _ hs)
  have hZ := C.2.2.2.2.2.1.2.2.2.2 _ q1
  have kk := k H locs rls hO hL
  have e1 : (Value.ref (7 + i) :: st).map (am_ga (am_ad B0 ca)) = .ref (ca (7 + i)) :: st.map (am_ga (am_ad B0 ca)) := by
    rw [← am_ad_lo (B0 := B0) (ca := ca) (k := 7 + i) (show 7 + i < 40 by have : i < 16 := q2; omega)]
    rfl
  rw [e1] at kk
  intro T hT X
  obtain ⟨t, a1, b1⟩ := kk T hT X
  exact ⟨t, am_ldcwS X C.1 C.2.2.2.1 hZ.1 hZ.2 (g := F0 m pc rls (st.map (am_ga (am_ad B0 ca)))) rfl (by rw [C.2.1]; exact hd) t a1, b1⟩
end AMT3
end
