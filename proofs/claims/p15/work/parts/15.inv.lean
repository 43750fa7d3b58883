/-! what a run's step was -/
def am_ret (i : Instr) (rt : Option FieldType) (r : Option Value) : Prop :=
  (i = .ireturn ∧ ∃ v, r = some (.int v) ∧ am_rok rt v = true) ∨ (i = .lreturn ∧ ∃ v, r = some (.long v)) ∨ (i = .areturn ∧ (r = some .null ∨ ∃ a, r = some (.ref a))) ∨ (i = .return_ ∧ r = none)
def am_isC (i : Instr) : Prop := (∃ x, i = .invokestatic x) ∨ (∃ x, i = .invokevirtual x) ∨ ∃ x, i = .invokespecial x
theorem am_thr_inv {rc : am_F} {d y pc a : Nat} {ls : List Value} {h h' : am_H} {r : Option Value} (h1 : am_thr rc d y pc ls a h = some (r, h')) : am_isO h a 12 = true ∧ 0 < y ∧ ((∃ hp, am_ctc (am_hh y) pc = some hp ∧ rc d y hp ls [.ref a] h = some (r, h')) ∨ (am_ctc (am_hh y) pc = none ∧ r = some (.retAddr (a + 1)) ∧ h' = h)) := by
  unfold am_thr at h1
  obtain ⟨h2, h1⟩ := am_cond h1
  rw [Bool.and_eq_true] at h2
  refine ⟨h2.1, am_blt h2.2, ?_⟩
  split at h1
  · rename_i hp hc
    exact Or.inl ⟨hp, hc, h1⟩
  · rename_i hc
    cases h1
    exact Or.inr ⟨hc, rfl, rfl⟩
theorem am_isT_spec {v : Option Value} {a : Nat} (h : am_isT v = some a) : v = some (.retAddr (a + 1)) := by
  unfold am_isT at h
  split at h
  · cases h; rfl
  · cases h
theorem am_one_inv {rc : am_F} {d y pc : Nat} {ls st : List Value} {h h' : am_H} {r : Option Value} (h1 : am_one rc d y pc ls st h = some (r, h')) : ∃ en, (y < am_NM ∧ pc < am_bd y ∧ am_code y pc = some en) ∧ ((am_ret en.1 (am_rt y) r ∧ st = r.toList ∧ h' = h) ∨ (am_isC en.1 ∧ am_cal rc d y pc ls st h en = some (r, h')) ∨ (∃ pc' ls' st' h1, am_st en pc ls st h = some (pc', ls', st', h1) ∧ rc d y pc' ls' st' h1 = some (r, h')) ∨ (en.1 = .athrow ∧ ∃ a rr, st = .ref a :: rr ∧ am_thr rc d y pc ls a h = some (r, h')) ∨ (∃ idx i k, ((en.1 = .ldc idx ∧ k = 2) ∨ (en.1 = .ldc_w idx ∧ k = 3)) ∧ am_sR (am_in y).1 idx = some i ∧ rc d y (pc + k) ls (.ref (7 + i) :: st) h = some (r, h'))) := by
  unfold am_one at h1
  split at h1
  · cases h1
  · rename_i en hc
    obtain ⟨hb, hc⟩ := am_cond hc
    rw [Bool.and_eq_true] at hb
    refine ⟨en, ⟨am_blt hb.1, am_blt hb.2, hc⟩, ?_⟩
    split at h1
    · rename_i hi
      split at h1
      · rename_i v
        obtain ⟨q1, q2⟩ := am_cond h1
        cases q2
        exact Or.inl ⟨Or.inl ⟨hi, v, rfl, q1⟩, rfl, rfl⟩
      · cases h1
    · rename_i hi
      split at h1
      · rename_i v
        cases h1
        exact Or.inl ⟨Or.inr (Or.inl ⟨hi, v, rfl⟩), rfl, rfl⟩
      · cases h1
    · rename_i hi
      split at h1
      · cases h1
        exact Or.inl ⟨Or.inr (Or.inr (Or.inl ⟨hi, Or.inl rfl⟩)), rfl, rfl⟩
      · rename_i a
        cases h1
        exact Or.inl ⟨Or.inr (Or.inr (Or.inl ⟨hi, Or.inr ⟨a, rfl⟩⟩)), rfl, rfl⟩
      · cases h1
    · rename_i hi
      split at h1
      · cases h1
        exact Or.inl ⟨Or.inr (Or.inr (Or.inr ⟨hi, rfl⟩)), rfl, rfl⟩
      · cases h1
    · rename_i hi
      split at h1
      · rename_i a rr
        exact Or.inr (Or.inr (Or.inr (Or.inl ⟨hi, a, rr, rfl, h1⟩)))
      · cases h1
    · rename_i x hi
      exact Or.inr (Or.inl ⟨Or.inl ⟨x, hi⟩, h1⟩)
    · rename_i x hi
      exact Or.inr (Or.inl ⟨Or.inr (Or.inl ⟨x, hi⟩), h1⟩)
    · rename_i x hi
      exact Or.inr (Or.inl ⟨Or.inr (Or.inr ⟨x, hi⟩), h1⟩)
    · split at h1
      · rename_i pc' ls' st' hx hst
        exact Or.inr (Or.inr (Or.inl ⟨pc', ls', st', hx, hst, h1⟩))
      · unfold am_lds at h1
        split at h1
        · rename_i idx hi
          split at h1
          · rename_i i hsr
            exact Or.inr (Or.inr (Or.inr (Or.inr ⟨idx, i, 2, Or.inl ⟨hi, rfl⟩, hsr, h1⟩)))
          · cases h1
        · rename_i idx hi
          split at h1
          · rename_i i hsr
            exact Or.inr (Or.inr (Or.inr (Or.inr ⟨idx, i, 3, Or.inr ⟨hi, rfl⟩, hsr, h1⟩)))
          · cases h1
        · cases h1
theorem am_cas_inv {rc : am_F} {d y pc : Nat} {ls st : List Value} {h h' : am_H} {r : Option Value} {en : am_E} (h1 : am_cas rc d y pc ls st h en = some (r, h')) : ∃ d', d = d' + 1 ∧
    ((∃ k rr, st = .ref k :: rr ∧ (7 ≤ k ∧ k < 23) ∧ am_cs rr ≤ 8 ∧ 2 ≤ d' ∧ am_sM en.1 (am_in y).1 1003 = true ∧ rc d y (pc + 3) ls (.int (Int32.ofNat (am_slen (k - 7))) :: rr) h = some (r, h')) ∨
     (∃ j k rr, st = .int j :: .ref k :: rr ∧ (7 ≤ k ∧ k < 23) ∧ am_cs rr ≤ 8 ∧ 4 ≤ d' ∧ am_sM en.1 (am_in y).1 1004 = true ∧ 0 ≤ j ∧ j.toNatClampNeg < am_slen (k - 7) ∧ rc d y (pc + 3) ls (.int (Int32.ofNat (am_sch (k - 7) j.toNatClampNeg)) :: rr) h = some (r, h'))) := by
  unfold am_cas at h1
  split at h1
  · cases h1
  · rename_i d'
    refine ⟨d', rfl, ?_⟩
    simp only [cond_eq_ite] at h1
    split at h1
    · split at h1
      · rename_i k rr
        split at h1
        · rename_i hc
          simp only [Bool.and_eq_true] at hc
          exact Or.inl ⟨k, rr, rfl, ⟨Nat.le_of_ble_eq_true hc.1.1.1.1, am_blt hc.1.1.1.2⟩, Nat.le_of_ble_eq_true hc.1.1.2, Nat.le_of_ble_eq_true hc.1.2, hc.2, h1⟩
        · cases h1
      · cases h1
    · split at h1
      · rename_i j k rr
        split at h1
        · rename_i hc
          simp only [Bool.and_eq_true] at hc
          exact Or.inr ⟨j, k, rr, rfl, ⟨Nat.le_of_ble_eq_true hc.1.1.1.1.1.1, am_blt hc.1.1.1.1.1.2⟩, Nat.le_of_ble_eq_true hc.1.1.1.1.2, Nat.le_of_ble_eq_true hc.1.1.1.2, hc.1.1.2, of_decide_eq_true hc.1.2, am_blt hc.2, h1⟩
        · cases h1
      · cases h1
theorem am_cal_or {rc : am_F} {d y pc : Nat} {ls st : List Value} {h h' : am_H} {r : Option Value} {en : am_E} (h1 : am_cal rc d y pc ls st h en = some (r, h')) : am_cas rc d y pc ls st h en = some (r, h') ∨ am_cal0 rc d y pc ls st h en = some (r, h') := by
  unfold am_cal at h1
  simp only [cond_eq_ite] at h1
  split at h1
  · exact Or.inl h1
  · exact Or.inr h1
theorem am_cal_inv {rc : am_F} {d y pc : Nat} {ls st : List Value} {h h' : am_H} {r : Option Value} {en : am_E} (h1 : am_cal0 rc d y pc ls st h en = some (r, h')) : ∃ d', d = d' + 1 ∧
    ((en.2.2.2.1 = 1000 ∧ ∃ x rr, st = .ref x :: rr ∧ am_cs rr ≤ 8 ∧ rc d y (pc + 3) ls rr h = some (r, h')) ∨
     (en.2.2.2.1 = 1001 ∧ ∃ n dp b sp a rr h2, st = .int n :: .int dp :: .ref b :: .int sp :: .ref a :: rr ∧ am_cs rr ≤ 8 ∧ am_cp h a sp b dp n = some h2 ∧ rc d y (pc + 3) ls rr h2 = some (r, h')) ∨
     (en.2.2.2.1 = 1002 ∧ ∃ x rr, st = .ref x :: rr ∧ am_cs rr ≤ 8 ∧ am_isO h x 12 = true ∧ 3 ≤ d' ∧ rc d y (pc + 3) ls rr (am_stop h x) = some (r, h')) ∨
     (en.2.2.2.1 = 10 ∧ ∃ a b rr, st = .int b :: .int a :: rr ∧ am_cs rr ≤ 8 ∧ en.2.2.2.2.1 = 0 ∧ rc d y (pc + 3) ls (.int (if a < b then b else a) :: rr) h = some (r, h')) ∨
     (en.2.2.2.1 = 57 ∧ ∃ a b rr, st = .int b :: .int a :: rr ∧ am_cs rr ≤ 8 ∧ en.2.2.2.2.1 = 0 ∧ rc d y (pc + 3) ls (.int (if b < a then b else a) :: rr) h = some (r, h')) ∨
     (en.2.2.2.1 ≠ 1000 ∧ en.2.2.2.1 ≠ 1001 ∧ en.2.2.2.1 ≠ 1002 ∧ en.2.2.2.1 ≠ 10 ∧ en.2.2.2.1 ≠ 57 ∧ 0 < en.2.2.2.1 ∧ ∃ as rr v h2, st = as.reverse ++ rr ∧ as.length = (am_in en.2.2.2.1).2.1 ∧ am_cs rr ≤ 8 ∧ am_rcv en.2.2.2.1 as h = true ∧ (am_wid as).length ≤ (am_in en.2.2.2.1).2.2.1 ∧ rc d' en.2.2.2.1 0 (am_ent as (am_in en.2.2.2.1).2.2.1) [] h = some (v, h2) ∧ ((am_isT v = none ∧ rc d y (pc + 3) ls (v.toList ++ rr) h2 = some (r, h')) ∨ ∃ a, am_isT v = some a ∧ (am_in en.2.2.2.1).2.2.2 = 0 ∧ am_thr rc d y pc ls a h2 = some (r, h')))) := by
  have nb : ∀ {a b : Nat}, ¬ (Nat.beq a b = true) → a ≠ b := fun q e => q (by rw [e]; exact Nat.beq_refl _)
  unfold am_cal0 at h1
  split at h1
  · cases h1
  · rename_i d'
    refine ⟨d', rfl, ?_⟩
    simp only [cond_eq_ite] at h1
    split at h1
    · rename_i hz
      refine Or.inl ⟨am_beq hz, ?_⟩
      split at h1
      · rename_i x rr
        split at h1
        · rename_i hc
          exact ⟨x, rr, rfl, Nat.le_of_ble_eq_true hc, h1⟩
        · cases h1
      · cases h1
    · rename_i hz0
      split at h1
      · rename_i hz
        refine Or.inr (Or.inl ⟨am_beq hz, ?_⟩)
        split at h1
        · rename_i n dp b sp a rr
          split at h1
          · rename_i hc
            split at h1
            · rename_i h2 hcp
              exact ⟨n, dp, b, sp, a, rr, h2, rfl, Nat.le_of_ble_eq_true hc, hcp, h1⟩
            · cases h1
          · cases h1
        · cases h1
      · rename_i hz1
        split at h1
        · rename_i hz
          refine Or.inr (Or.inr (Or.inl ⟨am_beq hz, ?_⟩))
          split at h1
          · rename_i x rr
            split at h1
            · rename_i hc
              simp only [Bool.and_eq_true] at hc
              exact ⟨x, rr, rfl, Nat.le_of_ble_eq_true hc.1.1, hc.1.2, Nat.le_of_ble_eq_true hc.2, h1⟩
            · cases h1
          · cases h1
        · rename_i hz2
          split at h1
          · rename_i hz
            refine Or.inr (Or.inr (Or.inr (Or.inl ⟨am_beq hz, ?_⟩)))
            split at h1
            · rename_i b a rr
              split at h1
              · rename_i hc
                simp only [Bool.and_eq_true] at hc
                exact ⟨a, b, rr, rfl, Nat.le_of_ble_eq_true hc.1, am_beq hc.2, h1⟩
              · cases h1
            · cases h1
          · rename_i hz3
            split at h1
            · rename_i hz
              refine Or.inr (Or.inr (Or.inr (Or.inr (Or.inl ⟨am_beq hz, ?_⟩))))
              split at h1
              · rename_i b a rr
                split at h1
                · rename_i hc
                  simp only [Bool.and_eq_true] at hc
                  exact ⟨a, b, rr, rfl, Nat.le_of_ble_eq_true hc.1, am_beq hc.2, h1⟩
                · cases h1
              · cases h1
            · rename_i hz4
              refine Or.inr (Or.inr (Or.inr (Or.inr (Or.inr ⟨nb hz0, nb hz1, nb hz2, nb hz3, nb hz4, ?_⟩))))
              split at h1
              · rename_i hc
                simp only [Bool.and_eq_true] at hc
                split at h1
                · rename_i v h2 hr
                  refine ⟨am_blt hc.1.1.1.1, (st.take (am_in en.2.2.2.1).2.1).reverse, st.drop (am_in en.2.2.2.1).2.1, v, h2, ?_, ?_, Nat.le_of_ble_eq_true hc.1.1.2, hc.1.2, Nat.le_of_ble_eq_true hc.2, hr, ?_⟩
                  · rw [List.reverse_reverse, List.take_append_drop]
                  · rw [List.length_reverse, List.length_take]
                    exact Nat.min_eq_left (Nat.le_of_ble_eq_true hc.1.1.1.2)
                  · split at h1
                    · rename_i a ha
                      rw [← cond_eq_ite] at h1
                      obtain ⟨hk, h1⟩ := am_cond h1
                      exact Or.inr ⟨a, ha, am_beq hk, h1⟩
                    · rename_i ha
                      exact Or.inl ⟨ha, h1⟩
                · cases h1
              · cases h1
/-! a run only makes cells -/
def am_le (h h' : am_H) : Prop := h.1 ≤ h'.1 ∧ h.2.1 ≤ h'.2.1
theorem am_le.rf (h : am_H) : am_le h h := ⟨Nat.le_refl _, Nat.le_refl _⟩
theorem am_le.tr {a b c : am_H} (h1 : am_le a b) (h2 : am_le b c) : am_le a c := ⟨Nat.le_trans h1.1 h2.1, Nat.le_trans h1.2 h2.2⟩
theorem am_le.wr {h h' : am_H} {x tc : Nat} {i : Int32} {v : Value} (hr : am_wr h x i tc v = some h') : am_le h h' := by
  obtain ⟨-, -, -, -, rfl⟩ := am_wr_spec hr
  exact am_le.rf _
theorem am_le.cp {h h' : am_H} {a b : Nat} {sp dp n : Int32} (hr : am_cp h a sp b dp n = some h') : am_le h h' := by
  unfold am_cp at hr
  obtain ⟨-, hr⟩ := am_cond hr
  obtain ⟨-, hr⟩ := am_ifn hr
  obtain ⟨-, hr⟩ := am_cond hr
  cases hr
  exact am_le.rf _
set_option maxHeartbeats 4000000 in
theorem am_le.st {en : am_E} {pc pc' : Nat} {ls st ls' st' : List Value} {h h' : am_H} (hs : am_st en pc ls st h = some (pc', ls', st', h')) : am_le h h' := by
  obtain ⟨i, n, t, a, b, w⟩ := en
  cases i with
  | aconst_null =>
    simp only [am_st, cond_eq_ite] at hs
    repeat' (split at hs)
    all_goals first
      | (cases hs; done)
      | (cases hs; exact am_le.rf _)
  | iconst x0 =>
    simp only [am_st, cond_eq_ite] at hs
    repeat' (split at hs)
    all_goals first
      | (cases hs; done)
      | (cases hs; exact am_le.rf _)
  | bipush x0 =>
    simp only [am_st, cond_eq_ite] at hs
    repeat' (split at hs)
    all_goals first
      | (cases hs; done)
      | (cases hs; exact am_le.rf _)
  | sipush x0 =>
    simp only [am_st, cond_eq_ite] at hs
    repeat' (split at hs)
    all_goals first
      | (cases hs; done)
      | (cases hs; exact am_le.rf _)
  | lconst x0 =>
    simp only [am_st, cond_eq_ite] at hs
    repeat' (split at hs)
    all_goals first
      | (cases hs; done)
      | (cases hs; exact am_le.rf _)
  | iload x0 =>
    simp only [am_st, cond_eq_ite] at hs
    repeat' (split at hs)
    all_goals first
      | (cases hs; done)
      | (cases hs; exact am_le.rf _)
  | iload_n x0 =>
    simp only [am_st, cond_eq_ite] at hs
    repeat' (split at hs)
    all_goals first
      | (cases hs; done)
      | (cases hs; exact am_le.rf _)
  | lload x0 =>
    simp only [am_st, cond_eq_ite] at hs
    repeat' (split at hs)
    all_goals first
      | (cases hs; done)
      | (cases hs; exact am_le.rf _)
  | lload_n x0 =>
    simp only [am_st, cond_eq_ite] at hs
    repeat' (split at hs)
    all_goals first
      | (cases hs; done)
      | (cases hs; exact am_le.rf _)
  | aload x0 =>
    simp only [am_st, cond_eq_ite] at hs
    repeat' (split at hs)
    all_goals first
      | (cases hs; done)
      | (cases hs; exact am_le.rf _)
  | aload_n x0 =>
    simp only [am_st, cond_eq_ite] at hs
    repeat' (split at hs)
    all_goals first
      | (cases hs; done)
      | (cases hs; exact am_le.rf _)
  | istore x0 =>
    simp only [am_st, cond_eq_ite] at hs
    repeat' (split at hs)
    all_goals first
      | (cases hs; done)
      | (cases hs; exact am_le.rf _)
  | istore_n x0 =>
    simp only [am_st, cond_eq_ite] at hs
    repeat' (split at hs)
    all_goals first
      | (cases hs; done)
      | (cases hs; exact am_le.rf _)
  | lstore x0 =>
    simp only [am_st, cond_eq_ite] at hs
    repeat' (split at hs)
    all_goals first
      | (cases hs; done)
      | (cases hs; exact am_le.rf _)
  | lstore_n x0 =>
    simp only [am_st, cond_eq_ite] at hs
    repeat' (split at hs)
    all_goals first
      | (cases hs; done)
      | (cases hs; exact am_le.rf _)
  | astore x0 =>
    simp only [am_st, cond_eq_ite] at hs
    repeat' (split at hs)
    all_goals first
      | (cases hs; done)
      | (cases hs; exact am_le.rf _)
  | astore_n x0 =>
    simp only [am_st, cond_eq_ite] at hs
    repeat' (split at hs)
    all_goals first
      | (cases hs; done)
      | (cases hs; exact am_le.rf _)
  | iinc x0 x1 =>
    simp only [am_st, cond_eq_ite] at hs
    repeat' (split at hs)
    all_goals first
      | (cases hs; done)
      | (cases hs; exact am_le.rf _)
  | iadd =>
    simp only [am_st, cond_eq_ite] at hs
    repeat' (split at hs)
    all_goals first
      | (cases hs; done)
      | (cases hs; exact am_le.rf _)
  | isub =>
    simp only [am_st, cond_eq_ite] at hs
    repeat' (split at hs)
    all_goals first
      | (cases hs; done)
      | (cases hs; exact am_le.rf _)
  | imul =>
    simp only [am_st, cond_eq_ite] at hs
    repeat' (split at hs)
    all_goals first
      | (cases hs; done)
      | (cases hs; exact am_le.rf _)
  | iand =>
    simp only [am_st, cond_eq_ite] at hs
    repeat' (split at hs)
    all_goals first
      | (cases hs; done)
      | (cases hs; exact am_le.rf _)
  | ior =>
    simp only [am_st, cond_eq_ite] at hs
    repeat' (split at hs)
    all_goals first
      | (cases hs; done)
      | (cases hs; exact am_le.rf _)
  | ixor =>
    simp only [am_st, cond_eq_ite] at hs
    repeat' (split at hs)
    all_goals first
      | (cases hs; done)
      | (cases hs; exact am_le.rf _)
  | ineg =>
    simp only [am_st, cond_eq_ite] at hs
    repeat' (split at hs)
    all_goals first
      | (cases hs; done)
      | (cases hs; exact am_le.rf _)
  | ishl =>
    simp only [am_st, cond_eq_ite] at hs
    repeat' (split at hs)
    all_goals first
      | (cases hs; done)
      | (cases hs; exact am_le.rf _)
  | ishr =>
    simp only [am_st, cond_eq_ite] at hs
    repeat' (split at hs)
    all_goals first
      | (cases hs; done)
      | (cases hs; exact am_le.rf _)
  | ladd =>
    simp only [am_st, cond_eq_ite] at hs
    repeat' (split at hs)
    all_goals first
      | (cases hs; done)
      | (cases hs; exact am_le.rf _)
  | lsub =>
    simp only [am_st, cond_eq_ite] at hs
    repeat' (split at hs)
    all_goals first
      | (cases hs; done)
      | (cases hs; exact am_le.rf _)
  | lmul =>
    simp only [am_st, cond_eq_ite] at hs
    repeat' (split at hs)
    all_goals first
      | (cases hs; done)
      | (cases hs; exact am_le.rf _)
  | lor =>
    simp only [am_st, cond_eq_ite] at hs
    repeat' (split at hs)
    all_goals first
      | (cases hs; done)
      | (cases hs; exact am_le.rf _)
  | land =>
    simp only [am_st, cond_eq_ite] at hs
    repeat' (split at hs)
    all_goals first
      | (cases hs; done)
      | (cases hs; exact am_le.rf _)
  | iushr =>
    simp only [am_st, cond_eq_ite] at hs
    repeat' (split at hs)
    all_goals first
      | (cases hs; done)
      | (cases hs; exact am_le.rf _)
  | lshl =>
    simp only [am_st, cond_eq_ite] at hs
    repeat' (split at hs)
    all_goals first
      | (cases hs; done)
      | (cases hs; exact am_le.rf _)
  | i2l =>
    simp only [am_st, cond_eq_ite] at hs
    repeat' (split at hs)
    all_goals first
      | (cases hs; done)
      | (cases hs; exact am_le.rf _)
  | l2i =>
    simp only [am_st, cond_eq_ite] at hs
    repeat' (split at hs)
    all_goals first
      | (cases hs; done)
      | (cases hs; exact am_le.rf _)
  | i2b =>
    simp only [am_st, cond_eq_ite] at hs
    repeat' (split at hs)
    all_goals first
      | (cases hs; done)
      | (cases hs; exact am_le.rf _)
  | i2c =>
    simp only [am_st, cond_eq_ite] at hs
    repeat' (split at hs)
    all_goals first
      | (cases hs; done)
      | (cases hs; exact am_le.rf _)
  | lcmp =>
    simp only [am_st, cond_eq_ite] at hs
    repeat' (split at hs)
    all_goals first
      | (cases hs; done)
      | (cases hs; exact am_le.rf _)
  | idiv =>
    simp only [am_st, cond_eq_ite] at hs
    repeat' (split at hs)
    all_goals first
      | (cases hs; done)
      | (cases hs; exact am_le.rf _)
  | irem =>
    simp only [am_st, cond_eq_ite] at hs
    repeat' (split at hs)
    all_goals first
      | (cases hs; done)
      | (cases hs; exact am_le.rf _)
  | ldiv =>
    simp only [am_st, cond_eq_ite] at hs
    repeat' (split at hs)
    all_goals first
      | (cases hs; done)
      | (cases hs; exact am_le.rf _)
  | lrem =>
    simp only [am_st, cond_eq_ite] at hs
    repeat' (split at hs)
    all_goals first
      | (cases hs; done)
      | (cases hs; exact am_le.rf _)
  | dup =>
    simp only [am_st, cond_eq_ite] at hs
    repeat' (split at hs)
    all_goals first
      | (cases hs; done)
      | (cases hs; exact am_le.rf _)
  | pop =>
    simp only [am_st, cond_eq_ite] at hs
    repeat' (split at hs)
    all_goals first
      | (cases hs; done)
      | (cases hs; exact am_le.rf _)
  | dup2 =>
    simp only [am_st, cond_eq_ite] at hs
    repeat' (split at hs)
    all_goals first
      | (cases hs; done)
      | (cases hs; exact am_le.rf _)
  | goto x0 =>
    simp only [am_st, cond_eq_ite] at hs
    repeat' (split at hs)
    all_goals first
      | (cases hs; done)
      | (cases hs; exact am_le.rf _)
  | ifCond cnd off =>
    simp only [am_st, cond_eq_ite] at hs
    repeat' (split at hs)
    all_goals first
      | (cases hs; done)
      | (cases hs; exact am_le.rf _)
  | if_icmp cnd off =>
    simp only [am_st, cond_eq_ite] at hs
    repeat' (split at hs)
    all_goals first
      | (cases hs; done)
      | (cases hs; exact am_le.rf _)
  | ifnull x0 =>
    simp only [am_st, cond_eq_ite] at hs
    repeat' (split at hs)
    all_goals first
      | (cases hs; done)
      | (cases hs; exact am_le.rf _)
  | ifnonnull x0 =>
    simp only [am_st, cond_eq_ite] at hs
    repeat' (split at hs)
    all_goals first
      | (cases hs; done)
      | (cases hs; exact am_le.rf _)
  | tableswitch d0 lo hi offs =>
    simp only [am_st, cond_eq_ite] at hs
    repeat' (split at hs)
    all_goals first
      | (cases hs; done)
      | (cases hs; exact am_le.rf _)
  | ldc x0 =>
    simp only [am_st, cond_eq_ite] at hs
    repeat' (split at hs)
    all_goals first
      | (cases hs; done)
      | (cases hs; exact am_le.rf _)
  | ldc_w x0 =>
    simp only [am_st, cond_eq_ite] at hs
    repeat' (split at hs)
    all_goals first
      | (cases hs; done)
      | (cases hs; exact am_le.rf _)
  | ldc2_w x0 =>
    simp only [am_st, cond_eq_ite] at hs
    repeat' (split at hs)
    all_goals first
      | (cases hs; done)
      | (cases hs; exact am_le.rf _)
  | getstatic x0 =>
    simp only [am_st, cond_eq_ite] at hs
    repeat' (split at hs)
    all_goals first
      | (cases hs; done)
      | (cases hs; exact am_le.rf _)
  | getfield x0 =>
    simp only [am_st, cond_eq_ite] at hs
    repeat' (split at hs)
    all_goals first
      | (cases hs; done)
      | (cases hs; exact am_le.rf _)
  | putfield x0 =>
    simp only [am_st, cond_eq_ite] at hs
    repeat' (split at hs)
    all_goals first
      | (cases hs; done)
      | (cases hs; exact am_le.rf _)
  | iaload =>
    simp only [am_st, cond_eq_ite] at hs
    repeat' (split at hs)
    all_goals first
      | (cases hs; done)
      | (cases hs; exact am_le.rf _)
  | baload =>
    simp only [am_st, cond_eq_ite] at hs
    repeat' (split at hs)
    all_goals first
      | (cases hs; done)
      | (cases hs; exact am_le.rf _)
  | laload =>
    simp only [am_st, cond_eq_ite] at hs
    repeat' (split at hs)
    all_goals first
      | (cases hs; done)
      | (cases hs; exact am_le.rf _)
  | aaload =>
    simp only [am_st, cond_eq_ite] at hs
    repeat' (split at hs)
    all_goals first
      | (cases hs; done)
      | (cases hs; exact am_le.rf _)
  | arraylength =>
    simp only [am_st, cond_eq_ite] at hs
    repeat' (split at hs)
    all_goals first
      | (cases hs; done)
      | (cases hs; exact am_le.rf _)
  | iastore =>
    simp only [am_st, cond_eq_ite] at hs
    repeat' (split at hs)
    all_goals first
      | (cases hs; done)
      | (cases hs; exact am_le.wr (by assumption))
      | (cases hs; rename_i hq; split at hq <;> exact am_le.wr hq)
  | lastore =>
    simp only [am_st, cond_eq_ite] at hs
    repeat' (split at hs)
    all_goals first
      | (cases hs; done)
      | (cases hs; exact am_le.wr (by assumption))
      | (cases hs; rename_i hq; split at hq <;> exact am_le.wr hq)
  | bastore =>
    simp only [am_st, cond_eq_ite] at hs
    repeat' (split at hs)
    all_goals first
      | (cases hs; done)
      | (cases hs; exact am_le.wr (by assumption))
      | (cases hs; rename_i hq; split at hq <;> exact am_le.wr hq)
  | aastore =>
    simp only [am_st, cond_eq_ite] at hs
    repeat' (split at hs)
    all_goals first
      | (cases hs; done)
      | (cases hs; exact am_le.wr (by assumption))
      | (cases hs; rename_i hq; split at hq <;> exact am_le.wr hq)
  | new x0 =>
    simp only [am_st, cond_eq_ite] at hs
    repeat' (split at hs)
    all_goals first
      | (cases hs; done)
      | (cases hs; exact ⟨Nat.le_succ _, Nat.le_add_right _ _⟩)
  | newarray x0 =>
    simp only [am_st, cond_eq_ite] at hs
    repeat' (split at hs)
    all_goals first
      | (cases hs; done)
      | (cases hs; exact ⟨Nat.le_succ _, Nat.le_add_right _ _⟩)
  | anewarray x0 =>
    simp only [am_st, cond_eq_ite] at hs
    repeat' (split at hs)
    all_goals first
      | (cases hs; done)
      | (cases hs; exact ⟨Nat.le_succ _, Nat.le_add_right _ _⟩)
  | _ => exact absurd hs (fun q => by cases q)
theorem am_le.thr {n d y pc a : Nat} {ls : List Value} {h h' : am_H} {r : Option Value} (ih : ∀ (d y pc : Nat) (ls st : List Value) (h : am_H) (r : Option Value) (h' : am_H), am_run n d y pc ls st h = some (r, h') → am_le h h') (q : am_thr (am_run n) d y pc ls a h = some (r, h')) : am_le h h' := by
  obtain ⟨-, -, ⟨hp, -, q⟩ | ⟨-, -, rfl⟩⟩ := am_thr_inv q
  · exact ih _ _ _ _ _ _ _ _ q
  · exact am_le.rf _
theorem am_le.run : ∀ (n d y pc : Nat) (ls st : List Value) (h : am_H) (r : Option Value) (h' : am_H), am_run n d y pc ls st h = some (r, h') → am_le h h' := by
  intro n
  induction n with
  | zero => intro d y pc ls st h r h' q; cases q
  | succ n ih =>
    intro d y pc ls st h r h' q
    rw [am_run_s] at q
    obtain ⟨en, -, ⟨-, -, rfl⟩ | ⟨-, q⟩ | ⟨pc', ls', st', h1, q1, q2⟩ | ⟨-, a, rr, -, q⟩ | ⟨idx, i, k, -, -, q⟩⟩ := am_one_inv q
    · exact am_le.rf _
    · rcases am_cal_or q with q | q
      · obtain ⟨d', rfl, ⟨k, rr, -, -, -, -, -, q⟩ | ⟨j, k, rr, -, -, -, -, -, -, -, q⟩⟩ := am_cas_inv q
        · exact ih _ _ _ _ _ _ _ _ q
        · exact ih _ _ _ _ _ _ _ _ q
      obtain ⟨d', rfl, ⟨-, x, rr, -, -, q⟩ | ⟨-, n, dp, b, sp, a, rr, h2, -, -, hcp, q⟩ | ⟨-, x, rr, -, -, -, -, q⟩ | ⟨-, a, b, rr, -, -, -, q⟩ | ⟨-, a, b, rr, -, -, -, q⟩ | ⟨-, -, -, -, -, -, as, rr, v, h2, -, -, -, -, -, q1, ⟨-, q2⟩ | ⟨a, -, -, q2⟩⟩⟩ := am_cal_inv q
      · exact ih _ _ _ _ _ _ _ _ q
      · exact (am_le.cp hcp).tr (ih _ _ _ _ _ _ _ _ q)
      · have q2 := ih _ _ _ _ _ _ _ _ q
        exact ⟨q2.1, q2.2⟩
      · exact ih _ _ _ _ _ _ _ _ q
      · exact ih _ _ _ _ _ _ _ _ q
      · exact (ih _ _ _ _ _ _ _ _ q1).tr (ih _ _ _ _ _ _ _ _ q2)
      · exact (ih _ _ _ _ _ _ _ _ q1).tr (am_le.thr ih q2)
    · exact (am_le.st q1).tr (ih _ _ _ _ _ _ _ _ q2)
    · exact am_le.thr ih q
    · exact ih _ _ _ _ _ _ _ _ q
