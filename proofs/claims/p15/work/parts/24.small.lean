/-! SMALL METHODS: their contracts (the first, as a pattern) -/
theorem am_ct237 : am_Ct 1 237 (fun as h => ∃ k v, as = [.ref k] ∧ am_isO h k 13 = true ∧ h.2.2.2 k 54 = .int v) (fun as h r h' => h' = h ∧ ∃ k, as = [.ref k] ∧ r = some (h.2.2.2 k 54)) := by
  rintro d as h hd ⟨k, v, rfl, hk, hv⟩
  refine ⟨some (.int v), h, ?_, rfl, k, rfl, by rw [hv]⟩
  refine am_ev.step (e := am_s (.aload_n 0) 1) (pc' := 1) (ls' := am_ent [.ref k] 1) (st' := [.ref k]) (h' := h) rfl rfl ?_
  refine am_ev.step (e := (.getfield 433, 3, 0, 13, 54, 1432)) (pc' := 4) (ls' := am_ent [.ref k] 1) (st' := [.int v]) (h' := h) rfl (by simp [am_st, hk, hv]) ?_
  exact am_ev.reti (e := am_s .ireturn 1) rfl rfl rfl
/-- Tape.isBlank: the pattern for branches; places and stacks are found by rfl -/
theorem am_ct22 : am_Ct 1 22 (fun as _ => ∃ c : Int32, as = [.int c]) (fun as h r h' => h' = h ∧ ∃ c : Int32, as = [.int c] ∧ r = some (.int (if c = 32 ∨ c = 10 then 1 else 0))) := by
  rintro d as h hd ⟨c, rfl⟩
  refine ⟨_, h, ?_, rfl, c, rfl, rfl⟩
  refine am_ev.step rfl rfl ?_
  refine am_ev.step rfl rfl ?_
  by_cases h1 : c = 32
  · rw [if_pos (Or.inl h1)]
    refine am_ev.step (pc' := 12) (ls' := am_ent [.int c] 1) (st' := []) (h' := h) rfl (if_pos h1) ?_
    refine am_ev.step rfl rfl ?_
    refine am_ev.step rfl rfl ?_
    exact am_ev.reti rfl rfl rfl
  · refine am_ev.step (pc' := 6) (ls' := am_ent [.int c] 1) (st' := []) (h' := h) rfl (if_neg h1) ?_
    refine am_ev.step rfl rfl ?_
    refine am_ev.step rfl rfl ?_
    by_cases h2 : c = 10
    · rw [if_pos (Or.inr h2)]
      refine am_ev.step (pc' := 12) (ls' := am_ent [.int c] 1) (st' := []) (h' := h) rfl (if_pos h2) ?_
      refine am_ev.step rfl rfl ?_
      refine am_ev.step rfl rfl ?_
      exact am_ev.reti rfl rfl rfl
    · rw [if_neg (fun q => q.elim h1 h2)]
      refine am_ev.step (pc' := 16) (ls' := am_ent [.int c] 1) (st' := []) (h' := h) rfl (if_neg h2) ?_
      refine am_ev.step rfl rfl ?_
      exact am_ev.reti rfl rfl rfl
