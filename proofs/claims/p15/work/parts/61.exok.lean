section CXC
variable {m : cq_W} {h0 : am_H} {ρ0 : Nat → Int} {n0 : Nat} {Fin : Option Value × am_H → Prop} {nx : cq_Z → Option (List cq_Z)} {lps : Nat → Option (Option (Nat × Nat) × cq_Lp)} {y0 : Nat}
theorem cq_exec_ok (NX : ∀ {Z : cq_Z} {out : List cq_Z} {ρ : Nat → Int} {ls st : List Value} {h : am_H} {fs : List cq_Fm} {d : Nat}, cq_ag n0 ρ ρ0 → n0 ≤ Z.2.2.2.2.2.2.n → nx Z = some out → cq_Rz m h0 ρ Z ls st h fs → Z.2.2.2.2.2.1 ≤ d → cq_Kn m h0 ρ Z.2.2.2.2.2.2.n Fin out → cq_Go Fin d Z.1 Z.2.1 ls st h fs) : ∀ (f : Nat) (act : List cq_Rc) (Z : cq_Z) (ρ : Nat → Int) (ls st : List Value) (h : am_H) (fs : List cq_Fm) (d : Nat), cq_exec nx lps y0 f act Z = true → cq_ag n0 ρ ρ0 → n0 ≤ Z.2.2.2.2.2.2.n → cq_Rz m h0 ρ Z ls st h fs → Z.2.2.2.2.2.1 ≤ d → cq_Ac m h0 Fin y0 act ρ Z.2.2.2.2.2.2.n → cq_Go Fin d Z.1 Z.2.1 ls st h fs := by
  intro f
  induction f with
  | zero => intro act Z ρ ls st h fs d q; cases q
  | succ f ih =>
    intro act Z ρ ls st h fs d q a0 hn0 H hd A
    have plain : ∀ (act : List cq_Rc) (Z : cq_Z) (ρ : Nat → Int) (ls st : List Value) (h : am_H) (fs : List cq_Fm) (d : Nat), (match nx Z with
      | some out => out.all (cq_exec nx lps y0 f act)
      | none => false) = true → cq_ag n0 ρ ρ0 → n0 ≤ Z.2.2.2.2.2.2.n → cq_Rz m h0 ρ Z ls st h fs → Z.2.2.2.2.2.1 ≤ d → cq_Ac m h0 Fin y0 act ρ Z.2.2.2.2.2.2.n → cq_Go Fin d Z.1 Z.2.1 ls st h fs := fun act Z ρ ls st h fs d q a0 hn0 H hd A => by
      split at q
      · rename_i out hx
        refine NX a0 hn0 hx H hd fun Z' hZ' ρ1 ls1 st1 h1 fs1 d1 a1 n1 R1 d2 => ?_
        exact ih act Z' ρ1 ls1 st1 h1 fs1 d1 (List.all_eq_true.1 q Z' hZ') ((a1.lt hn0).tr a0) (Nat.le_trans hn0 n1) R1 d2 (A.tr a1 n1)
      · cases q
    have q : (match (bif Z.2.2.2.2.1.isEmpty && Nat.beq Z.1 y0 then lps Z.2.1 else none) with
      | some lp => bif cq_skp lp.1 Z.2.2.2.2.2.2 then (match nx Z with
          | some out => out.all (cq_exec nx lps y0 f act)
          | none => false)
        else (match cq_fR Z.2.1 act with
          | some R => cq_bck R Z
          | none => (match cq_arr lp.2 Z with
            | some RZ => (match nx RZ.2 with
              | some out => out.all (cq_exec nx lps y0 f (RZ.1 :: act))
              | none => false)
            | none => false))
      | none => (match nx Z with
        | some out => out.all (cq_exec nx lps y0 f act)
        | none => false)) = true := q
    cases hlp : (bif Z.2.2.2.2.1.isEmpty && Nat.beq Z.1 y0 then lps Z.2.1 else none) with
    | none =>
      rw [hlp] at q
      exact plain act Z ρ ls st h fs d q a0 hn0 H hd A
    | some lp =>
      rw [hlp] at q
      dsimp only at q
      have ey : Z.1 = y0 := by
        cases hb : Z.2.2.2.2.1.isEmpty && Nat.beq Z.1 y0 with
        | false => rw [hb] at hlp; cases hlp
        | true => exact am_beq (Bool.and_eq_true _ _ ▸ hb).2
      cases hsk : cq_skp lp.1 Z.2.2.2.2.2.2 with
      | true =>
        rw [hsk] at q
        exact plain act Z ρ ls st h fs d q a0 hn0 H hd A
      | false =>
        rw [hsk] at q
        simp only [cond_false] at q
        cases hR : cq_fR Z.2.1 act with
        | some R =>
          rw [hR] at q
          dsimp only at q
          obtain ⟨hR1, hR2⟩ := cq_fR_ok hR
          obtain ⟨k1, k2, k3⟩ := A R hR1
          obtain ⟨efs, hdb, ρ2, a2, L, mu⟩ := cq_bck_ok k1 k2 q H
          subst efs
          have g := k3 ρ2 h ls st d a2 (Nat.le_trans hdb hd) L mu
          rw [hR2] at g
          rw [ey]
          exact g
        | none =>
          rw [hR] at q
          dsimp only at q
          cases hA : cq_arr lp.2 Z with
          | none => rw [hA] at q; cases q
          | some RZ =>
            rw [hA] at q
            dsimp only at q
            obtain ⟨y, pc, als, ast, fr, db, S⟩ := Z
            unfold cq_arr at hA
            dsimp only at hA hn0 A hd ey
            rw [cond_eq_ite] at hA
            split at hA
            · rename_i hb
              have hb := (Bool.and_eq_true _ _ ▸ hb)
              have ef : fr = [] := List.isEmpty_iff.1 hb.1
              have eU : S.U = none := Option.isNone_iff_eq_none.1 hb.2
              subst ef
              have hfs : fs = [] := by
                have := (H ρ cq_ag.rf).2.2.2
                cases fs with
                | nil => rfl
                | cons c cs => exact this.elim
              subst hfs
              split at hA
              · cases hA
              · rename_i S1 hpl
                obtain ⟨hn1, ρ1, a1, k1⟩ := cq_pl_ok hpl fun ρ' a => (H ρ' a).1
                split at hA
                · rename_i arr ext harr hext
                  split at hA
                  · rename_i P hG
                    rw [cond_eq_ite] at hA
                    split at hA
                    · rename_i hck
                      have hck := (Bool.and_eq_true _ _ ▸ hck)
                      have hA := Option.some.inj hA
                      subst hA
                      dsimp only at q
                      have L0 := cq_cks_ok hck.2 hck.1 (k1 ρ1 cq_ag.rf) (cq_pl_U hpl eU) (H ρ1 a1).2.1 (H ρ1 a1).2.2.1
                      dsimp only at L0
                      have claim : ∀ (N : Nat) (ρ2 : Nat → Int) (h2 : am_H) (ls2 st2 : List Value) (d : Nat), cq_ag S1.n ρ2 ρ1 → db ≤ d → cq_Lc m h0 (pc, S1.n, db, cq_lh S1.n lp.2 0 als, ast, cq_hS lp.2 S1 P, arr, ext, lp.2) ρ2 h2 ls2 st2 → cq_ms (pc, S1.n, db, cq_lh S1.n lp.2 0 als, ast, cq_hS lp.2 S1 P, arr, ext, lp.2) ρ2 < N → cq_Go Fin d y0 pc ls2 st2 h2 [] := by
                        intro N
                        induction N with
                        | zero => intro ρ2 h2 ls2 st2 d _ _ _ hN; exact absurd hN (Nat.not_lt_zero _)
                        | succ N ihN =>
                          intro ρ2 h2 ls2 st2 d a2 hd2 L hN
                          have rb := cq_Lc_rb hck.2 k1 hG L a2
                          have aS : cq_ag S.n ρ2 ρ := (a2.lt hn1).tr a1
                          have nS : S.n ≤ (cq_hS lp.2 S1 P).n := Nat.le_trans hn1 (Nat.le_add_right _ _)
                          have g := plain ((pc, S1.n, db, cq_lh S1.n lp.2 0 als, ast, cq_hS lp.2 S1 P, arr, ext, lp.2) :: act) (y, pc, cq_lh S1.n lp.2 0 als, ast, [], db, cq_hS lp.2 S1 P) ρ2 ls2 st2 h2 [] d q ((aS.lt hn0).tr a0) (Nat.le_trans hn0 nS) (fun ρ' a => ⟨(rb ρ' a).1, (rb ρ' a).2.1, (rb ρ' a).2.2, trivial⟩) hd2 (fun R hR => by
                            rcases List.mem_cons.1 hR with z | z
                            · subst z
                              refine ⟨hck.2, Nat.le_refl _, fun ρ3 h3 ls3 st3 d3 a3 hd3 L3 mu3 => ?_⟩
                              exact ihN ρ3 h3 ls3 st3 d3 (cq_ag.tr a3 a2) hd3 L3 (by omega)
                            · obtain ⟨j1, j2, j3⟩ := A R z
                              exact ⟨j1, Nat.le_trans j2 nS, j3.tr j1 j2 aS⟩)
                          dsimp only at g
                          rw [ey] at g
                          exact g
                      have fin := claim _ _ h ls st d cq_r2_ag hd L0 (Nat.lt_succ_self _)
                      show cq_Go Fin d y pc ls st h []
                      rw [ey]
                      exact fin
                    · cases hA
                  · cases hA
                · cases hA
            · cases hA
end CXC
