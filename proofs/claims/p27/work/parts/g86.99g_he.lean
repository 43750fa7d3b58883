/-! THE LAW'S LOOP, 2: all turns -/
def lw_Fn (x : Option Value × am_H) : Prop := x.1 = some (.int 1) ∧ x.2.1 ≤ 601064 ∧ x.2.2.1 ≤ 7293034
theorem lw_HE {m : cq_W} {h : am_H} {ρ : Nat → Int} {n0 : Nat} (h1 : h.1 ≤ 601064) (h2 : h.2.1 ≤ 7293034) : cq_HE m h ρ n0 lw_ck lw_Fn := by
  refine ⟨fun vs S h' v ρ1 hck a hn H => ?_, fun S h' ρ1 hck a hn H => ?_⟩
  · have c1 := (Bool.and_eq_true _ _ ▸ hck)
    have c2 := (Bool.and_eq_true _ _ ▸ c1.1)
    have c3 := (Bool.and_eq_true _ _ ▸ c2.1)
    obtain ⟨D, g⟩ := H ρ1 cq_ag.rf
    have A := D.A
    rw [am_beq c3.2, am_beq c2.2] at A
    have z := c1.2
    split at z
    · rename_i f k
      cases v with
      | none => exact g.elim
      | some w =>
        obtain ⟨x, ex, hx⟩ := g.1
        rw [cq_fe_ok z, cq_c_e] at hx
        have e1 : x = 1 := by
          apply Int32.toInt_inj.1
          rw [hx]
          decide
        subst e1
        exact ⟨congrArg some ex, Nat.le_trans A.1 h1, Nat.le_trans A.2 h2⟩
    · cases z
  · cases hck
