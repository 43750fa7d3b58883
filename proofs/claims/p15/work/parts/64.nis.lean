/-! a step of a method that only reads -/
theorem ni_st {e : am_E} {pc : Nat} {ls st : List Value} {h : am_H} {x : Nat × List Value × List Value × am_H} (ok : ni_i e = true) (I : cq_Inv none h) (hl : ni_L ls) (hs : ni_L st) (q : am_st e pc ls st h = some x) : x.2.2.2 = h ∧ ni_L x.2.1 ∧ ni_L x.2.2.1 ∧ ∀ h2, ni_R h h2 → am_st e pc ls st h2 = some (x.1, x.2.1, x.2.2.1, h2) := by
  obtain ⟨i, r⟩ := e
  cases i
  all_goals first
    | exact absurd ok Bool.false_ne_true
    | skip
  case iconst k =>
    cases q
    exact ⟨rfl, hl, hs.int, fun _ _ => rfl⟩
  case bipush k =>
    cases q
    exact ⟨rfl, hl, hs.int, fun _ _ => rfl⟩
  case sipush k =>
    cases q
    exact ⟨rfl, hl, hs.int, fun _ _ => rfl⟩
  case goto k =>
    cases q
    exact ⟨rfl, hl, hs, fun _ _ => rfl⟩
  case iload k =>
    dsimp only [am_st] at q ⊢
    split at q
    · rename_i v hv
      cases q
      refine ⟨rfl, hl, hs.int, fun _ _ => ?_⟩
      simp only [hv]
    · cases q
  case iload_n k =>
    dsimp only [am_st] at q ⊢
    split at q
    · rename_i v hv
      cases q
      refine ⟨rfl, hl, hs.int, fun _ _ => ?_⟩
      simp only [hv]
    · cases q
  case aload_n k =>
    dsimp only [am_st] at q ⊢
    split at q
    · rename_i v hv
      cases q
      refine ⟨rfl, hl, hs.cons (hl _ (List.mem_of_getElem? hv)), fun _ _ => ?_⟩
      simp only [hv]
    · rename_i hv
      cases q
      refine ⟨rfl, hl, hs.cons (hl _ (List.mem_of_getElem? hv)), fun _ _ => ?_⟩
      simp only [hv]
    · cases q
  case istore k =>
    dsimp only [am_st] at q ⊢
    split at q
    · rw [cond_eq_ite] at q
      split at q
      · rename_i hb
        cases q
        refine ⟨rfl, hl.set1 ni_v_int, hs.tail, fun _ _ => ?_⟩
        rw [hb]
        rfl
      · cases q
    · cases q
  case istore_n k =>
    dsimp only [am_st] at q ⊢
    split at q
    · rw [cond_eq_ite] at q
      split at q
      · rename_i hb
        cases q
        refine ⟨rfl, hl.set1 ni_v_int, hs.tail, fun _ _ => ?_⟩
        rw [hb]
        rfl
      · cases q
    · cases q
  case iinc k n =>
    dsimp only [am_st] at q ⊢
    split at q
    · rename_i v hv
      cases q
      refine ⟨rfl, hl.set1 ni_v_int, hs, fun _ _ => ?_⟩
      simp only [hv]
    · cases q
  case iadd =>
    dsimp only [am_st] at q ⊢
    split at q
    · cases q
      exact ⟨rfl, hl, hs.tail.tail.int, fun _ _ => rfl⟩
    · cases q
  case isub =>
    dsimp only [am_st] at q ⊢
    split at q
    · cases q
      exact ⟨rfl, hl, hs.tail.tail.int, fun _ _ => rfl⟩
    · cases q
  case imul =>
    dsimp only [am_st] at q ⊢
    split at q
    · cases q
      exact ⟨rfl, hl, hs.tail.tail.int, fun _ _ => rfl⟩
    · cases q
  case iand =>
    dsimp only [am_st] at q ⊢
    split at q
    · cases q
      exact ⟨rfl, hl, hs.tail.tail.int, fun _ _ => rfl⟩
    · cases q
  case ishr =>
    dsimp only [am_st] at q ⊢
    split at q
    · cases q
      exact ⟨rfl, hl, hs.tail.tail.int, fun _ _ => rfl⟩
    · cases q
  case ldc_w k =>
    dsimp only [am_st] at q ⊢
    rw [cond_eq_ite] at q
    split at q
    · rename_i hb
      cases q
      refine ⟨rfl, hl, hs.int, fun _ _ => ?_⟩
      rw [hb]
      rfl
    · cases q
  case ifCond c k =>
    dsimp only [am_st] at q ⊢
    split at q
    · cases c <;> dsimp only at q ⊢ <;> split at q <;> rename_i hb <;> cases q <;>
        first
        | exact ⟨rfl, hl, hs.tail, fun _ _ => if_pos hb⟩
        | exact ⟨rfl, hl, hs.tail, fun _ _ => if_neg hb⟩
    · cases q
  case if_icmp c k =>
    dsimp only [am_st] at q ⊢
    split at q
    · cases c <;> dsimp only at q ⊢ <;> split at q <;> rename_i hb <;> cases q <;>
        first
        | exact ⟨rfl, hl, hs.tail.tail, fun _ _ => if_pos hb⟩
        | exact ⟨rfl, hl, hs.tail.tail, fun _ _ => if_neg hb⟩
    · cases q
  case getfield k =>
    have ok := (Bool.and_eq_true _ _ ▸ (show (Nat.beq r.2.2.1 13 && ni_f r.2.2.2.1) = true from ok))
    have ec := am_beq ok.1
    dsimp only [am_st] at q ⊢
    split at q
    · rename_i a rr
      rw [cond_eq_ite] at q
      split at q
      · rename_i hb
        cases q
        rw [ec] at hb
        obtain ⟨e78, hv⟩ := ni_fld I (hs _ List.mem_cons_self a rfl) hb ok.2
        refine ⟨rfl, hl, hs.tail.cons hv, fun h2 R => ?_⟩
        rw [ec, ni_isO R, hb]
        have : h2.2.2.2 a r.2.2.2.1 = h.2.2.2 a r.2.2.2.1 := by
          rw [e78.1]
          exact (R.2.2 78 (by have := I.lo; omega) (by decide) _ (fun z => e78.2 z.2)).symm
        rw [this]
        rfl
      · cases q
    · cases q
  case iaload =>
    dsimp only [am_st] at q ⊢
    split at q
    · rename_i i a rr
      split at q
      · rename_i v hv
        cases q
        obtain ⟨hA, w, ew⟩ := ni_rd I (hs _ (List.mem_cons_of_mem _ List.mem_cons_self) a rfl) hv
        subst ew
        refine ⟨rfl, hl, hs.tail.tail.int, fun h2 R => ?_⟩
        simp only [ni_rd2 I R hA, hv]
      · cases q
    · cases q
  case baload =>
    dsimp only [am_st] at q ⊢
    split at q
    · rename_i i a rr
      split at q
      · rename_i v hv
        cases q
        obtain ⟨hA, w, ew⟩ := ni_rd I (hs _ (List.mem_cons_of_mem _ List.mem_cons_self) a rfl) hv
        subst ew
        refine ⟨rfl, hl, hs.tail.tail.int, fun h2 R => ?_⟩
        simp only [ni_rd2 I R hA, hv]
      · cases q
    · cases q
  case ireturn =>
    cases q
  case invokevirtual k =>
    cases q
  case invokestatic k =>
    cases q
