/-! BY HAND, 2: findPages out of its stronger contract -/
theorem ok_198 : cq_CT 198 ct_198 := by
  intro d h ρ as hd M g
  have I : cq_Inv none h := M.I
  have b0 : (0 : Int) ≤ ρ 0 ∧ ρ 0 ≤ 119 := M.P.1 (0, 0, 119) List.mem_cons_self
  have t93 := cq_tA I (c := 93) (j := (ρ 0).toNat) (by decide) (by decide) (by decide +kernel) (by decide) (by rw [show (cq_fix 93).2.2 = 121 by decide +kernel]; omega)
  rw [show cq_ar 93 = (1, 0, 30, 0, 0, 0) by decide +kernel] at t93
  obtain ⟨n, en, n0, n1⟩ := t93
  let ρs : Nat → Int := fun s => if s = 1 then n.toInt else ρ s
  have r0 : ρs 0 = ρ 0 := rfl
  have r1 : ρs 1 = n.toInt := rfl
  have M0 : cq_Md ct_198s.2.2.2.1 h ρs ct_198s.2.2.1 h := by
    refine cq_Md_p ⟨fun b hb => ?_, fun _ z => (by cases z)⟩ (fun e he => ?_) (fun e he => ?_) I
    · simp only [List.mem_cons, List.not_mem_nil, or_false] at hb
      rcases hb with rfl | rfl
      · exact b0
      · exact ⟨n0, n1⟩
    · rw [List.mem_singleton.1 he]
      have ej : (cq_e ρs ((0, [(0, 1)]) : cq_F)).toNat = (ρ 0).toNat := by rw [show cq_e ρs ((0, [(0, 1)]) : cq_F) = ρs 0 from cq_s_e ρs 0, r0]
      show cq_g ρs (1, (0, [(1, 1)]), 0) (h.2.2.2 93 (cq_e ρs ((0, [(0, 1)]) : cq_F)).toNat)
      rw [ej, en]
      exact ⟨n, rfl, by rw [show cq_e ρs ((0, [(1, 1)]) : cq_F) = ρs 1 from cq_s_e ρs 1, r1]⟩
    · rw [List.mem_singleton.1 he]
      refine cq_mOk_tag 1093 (by decide) ?_
      rw [show cq_e ρs ((0, [(1, 1)]) : cq_F) = ρs 1 from cq_s_e ρs 1, show cq_e ρs ((0, [(0, 1)]) : cq_F) = ρs 0 from cq_s_e ρs 0, cq_U_c h 1093 _ (by decide) (by decide)]
      exact (cq_n_int en).symm
  have g0 : cq_gs ρs ct_198s.2.1 as := by
    obtain ⟨v, r, e, g1, g2⟩ := cq_gs_cons g
    obtain ⟨w, r2, e2, g3, g4⟩ := cq_gs_cons g2
    rw [e, e2, cq_gs_nil g4]
    obtain ⟨x, ex, hx⟩ := g3
    refine ⟨g1, ⟨x, ex, ?_⟩, trivial⟩
    rw [hx]
    rfl
  obtain ⟨r, h', ev, x, hx, ρ', a', Mx, hr⟩ := ok_198s d h ρs as hd M0 g0
  have hx := List.mem_singleton.1 hx
  subst hx
  have bx : (0 : Int) ≤ ρ' 2 ∧ ρ' 2 ≤ 1000000000 := Mx.P.1 (2, 0, 1000000000) List.mem_cons_self
  refine ⟨r, h', ev, _, List.mem_cons_self, fun s => if s < 1 then ρ s else ρ' 2, fun s hs => if_pos hs, cq_Md_s ⟨fun b hb => ?_, fun _ z => (by cases z)⟩ Mx.I Mx.F Mx.A, ?_⟩
  · rw [List.mem_singleton.1 hb]
    exact bx
  · rcases hr with ⟨q1, q2, q3⟩ | ⟨q1, -⟩
    · refine Or.inl ⟨rfl, q2, ?_⟩
      obtain ⟨v, rr, e, g1, g2⟩ := cq_gs_cons q3
      rw [e, cq_gs_nil g2]
      obtain ⟨z, ez, hz⟩ := g1
      refine ⟨⟨z, ez, ?_⟩, trivial⟩
      rw [hz]
      rfl
    · cases q1
