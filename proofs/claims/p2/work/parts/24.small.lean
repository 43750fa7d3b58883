/-! SMALL METHODS: their contracts (the first, as a pattern) -/
theorem am_ct237 : am_Ct 1 237 (fun as h => ∃ k v, as = [.ref k] ∧ am_isO h k 13 = true ∧ h.2.2.2 k 54 = .int v) (fun as h r h' => h' = h ∧ ∃ k, as = [.ref k] ∧ r = some (h.2.2.2 k 54)) := by
  rintro d as h hd ⟨k, v, rfl, hk, hv⟩
  refine ⟨some (.int v), h, ?_, rfl, k, rfl, by rw [hv]⟩
  refine am_ev.step (e := am_s (.aload_n 0) 1) (pc' := 1) (ls' := am_ent [.ref k] 1) (st' := [.ref k]) (h' := h) rfl rfl ?_
  refine am_ev.step (e := (.getfield 433, 3, 0, 13, 54, 1432)) (pc' := 4) (ls' := am_ent [.ref k] 1) (st' := [.int v]) (h' := h) rfl (by simp [am_st, hk, hv]) ?_
  exact am_ev.reti (e := am_s .ireturn 1) rfl rfl rfl
