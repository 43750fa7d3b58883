section
/-! THE CHECKER, 30: all paths -/
section CXB
variable {m : cq_W} {h0 : am_H} {ρ ρ0 : Nat → Int} {S : cq_S} {h : am_H} {n0 : Nat} {Fin : Option Value × am_H → Prop} {ck : Bool → List cq_A → cq_S → Bool} {cal : Nat → cq_Z → Option (List cq_Z)} {lps : Nat → Option (Option (Nat × Nat) × cq_Lp)} {y0 : Nat}
theorem cq_hB_lt : ∀ (vs : List cq_Vr) (n : Nat), ∀ b ∈ cq_hB n vs, b.1 < n + vs.length
  | [], _, b, hb => by cases hb
  | v :: vs, n, b, hb => by
    unfold cq_hB at hb
    rw [List.length_cons]
    cases h2 : Nat.beq v.1 2 with
    | true =>
      rw [h2] at hb
      have := cq_hB_lt vs (n + 1) b hb
      omega
    | false =>
      rw [h2] at hb
      rcases List.mem_cons.1 hb with z | z
      · rw [z]
        show n < _
        omega
      · have := cq_hB_lt vs (n + 1) b z
        omega
theorem cq_hB_mem : ∀ (vs : List cq_Vr) (n k : Nat) (v : cq_Vr), vs[k]? = some v → Nat.beq v.1 2 = false → (n + k, v.2.2.2.1, v.2.2.2.2) ∈ cq_hB n vs
  | [], _, k, v, h, _ => by simp at h
  | w :: vs, n, 0, v, h, h2 => by
    have e : w = v := by simpa using h
    subst e
    unfold cq_hB
    rw [h2]
    exact List.mem_cons_self
  | w :: vs, n, k + 1, v, h, h2 => by
    rw [List.getElem?_cons_succ] at h
    have := cq_hB_mem vs (n + 1) k v h h2
    rw [show n + (k + 1) = n + 1 + k by omega]
    unfold cq_hB
    cases Nat.beq w.1 2 with
    | true => exact this
    | false => exact List.mem_cons_of_mem _ this
/-- the head's facts give the head's store -/
theorem cq_Lc_rb {pc db : Nat} {ls0 st0 arr ext : List cq_A} {lp : cq_Lp} {P : cq_P} {ρ2 : Nat → Int} {h2 : am_H} {ls st : List Value} (wf : cq_wfR (pc, S.n, db, ls0, st0, cq_hS lp S P, arr, ext, lp) = true) (H : ∀ ρ', cq_ag S.n ρ' ρ → cq_Md m h0 ρ' S h) (hG : cq_shG (cq_cod 0 (cq_hv S.n lp.1) arr ext) 10000 0 lp.2.2.2.1 (cq_hB S.n lp.1 ++ S.P.1, S.P.2) = some (some P)) (L : cq_Lc m h0 (pc, S.n, db, ls0, st0, cq_hS lp S P, arr, ext, lp) ρ2 h2 ls st) (a2 : cq_ag S.n ρ2 ρ) : ∀ ρ', cq_ag (cq_hS lp S P).n ρ' ρ2 → cq_Md m h0 ρ' (cq_hS lp S P) h2 ∧ cq_gs ρ' ls0 ls ∧ cq_gs ρ' st0 st := by
  intro ρ' a
  have w1 := (Bool.and_eq_true _ _ ▸ wf)
  have w2 := (Bool.and_eq_true _ _ ▸ w1.1)
  have w3 := (Bool.and_eq_true _ _ ▸ w2.1)
  have w4 := (Bool.and_eq_true _ _ ▸ w3.1)
  have w5 := (Bool.and_eq_true _ _ ▸ w4.1)
  have w6 := (Bool.and_eq_true _ _ ▸ w5.1)
  have w7 := (Bool.and_eq_true _ _ ▸ w6.1)
  obtain ⟨l1, l2, l3, l4, l5, l6, l7, l8, l9, l10⟩ := L
  have hn : (cq_hS lp S P).n = S.n + lp.1.length := rfl
  have aS : cq_ag S.n ρ' ρ := (a.lt (by rw [hn]; exact Nat.le_add_right _ _)).tr a2
  have D := H ρ' aS
  refine ⟨⟨?_, D.N, fun e he hp => ?_, fun s hs => ?_, fun e he => ?_, fun e he => ?_, D.M, l6, l7, l8, fun q hq => by cases hq⟩, cq_smas_g w7.1 a l9, cq_smas_g w7.2 a l10⟩
  · have k := cq_shG_ok (ρ := ρ') hG ⟨fun b hb => ?_, D.P.2⟩ (fun g hg => ?_)
    · obtain ⟨P', e, hP⟩ := k
      have e := Option.some.inj e
      subst e
      exact hP
    · rcases List.mem_append.1 hb with z | z
      · have := cq_hB_lt lp.1 S.n b z
        rw [a b.1 (by rw [hn]; exact this)]
        exact l1 b z
      · exact D.P.1 b z
    · have ag : cq_ag 10000 (cq_rc1 (cq_cod 0 (cq_hv S.n lp.1) arr ext) 10000 0 ρ') (cq_rc1 (cq_cod 0 (cq_hv S.n lp.1) arr ext) 10000 0 ρ2) := fun s hs => by
        rw [cq_rc1_vx hs, cq_rc1_vx hs]
        unfold cq_vx
        cases hx : cq_sx s (cq_cod 0 (cq_hv S.n lp.1) arr ext) with
        | none => rfl
        | some x =>
          obtain ⟨q, hq, eq⟩ := cq_sx_mem hx
          have sm := List.all_eq_true.1 w2.2 q hq
          rw [eq] at sm
          exact cq_vi_ag sm a
      rw [cq_sm_e (List.all_eq_true.1 w3.2 g hg) ag]
      exact l2 g hg
  · have lt : e.1 < (cq_hS lp S P).n := Nat.le_of_ble_eq_true (List.all_eq_true.1 w4.2 e he)
    rw [a e.1 lt] at hp ⊢
    exact l5 e he hp
  · obtain ⟨x1, x2, x3⟩ := D.W s hs
    exact ⟨Nat.lt_of_lt_of_le x1 (Nat.le_add_right _ _), x2, fun e he hlt => x3 e (List.mem_filter.1 he).1 hlt⟩
  · have z := List.all_eq_true.1 w6.2 e he
    have z1 := (Bool.and_eq_true _ _ ▸ z)
    have z2 := (Bool.and_eq_true _ _ ▸ z1.1)
    rw [cq_smc_e z2.1 a, cq_sm_e z2.2 a]
    exact cq_sma_g z1.2 a (l3 e he)
  · have z := List.all_eq_true.1 w5.2 e he
    have z1 := (Bool.and_eq_true _ _ ▸ z)
    rw [cq_smc_e z1.1 a, cq_sm_e z1.2 a]
    exact l4 e he
/-- the measure of a record -/
def cq_ms (R : cq_Rc) (ρ : Nat → Int) : Nat := match R.2.2.2.2.2.2.2.2.1[R.2.2.2.2.2.2.2.2.2.2.2.2.1.1]? with
  | some v => bif R.2.2.2.2.2.2.2.2.2.2.2.2.1.2 then (v.2.2.2.2 - ρ (R.2.1 + R.2.2.2.2.2.2.2.2.2.2.2.2.1.1)).toNat else (ρ (R.2.1 + R.2.2.2.2.2.2.2.2.2.2.2.2.1.1) - v.2.2.2.1).toNat
  | none => 0
def cq_HR (m : cq_W) (h0 : am_H) (Fin : Option Value × am_H → Prop) (y0 : Nat) (R : cq_Rc) (ρ : Nat → Int) : Prop := ∀ ρ2 h2 ls2 st2 d, cq_ag R.2.1 ρ2 ρ → R.2.2.1 ≤ d → cq_Lc m h0 R ρ2 h2 ls2 st2 → cq_ms R ρ2 < cq_ms R ρ → cq_Go Fin d y0 R.1 ls2 st2 h2 []
theorem cq_wfR_n {R : cq_Rc} (wf : cq_wfR R = true) : R.2.2.2.2.2.1.n = R.2.1 + R.2.2.2.2.2.2.2.2.1.length := by
  obtain ⟨pc, n, db, ls0, st0, S0, arr, ext, lp⟩ := R
  have w1 := (Bool.and_eq_true _ _ ▸ wf)
  exact am_beq w1.2
theorem cq_ms_ag {R : cq_Rc} {ρ1 : Nat → Int} {n : Nat} (wf : cq_wfR R = true) (hn : R.2.2.2.2.2.1.n ≤ n) (a : cq_ag n ρ1 ρ) : cq_ms R ρ1 = cq_ms R ρ := by
  unfold cq_ms
  have e := cq_wfR_n wf
  cases hv : R.2.2.2.2.2.2.2.2.1[R.2.2.2.2.2.2.2.2.2.2.2.2.1.1]? with
  | none => rfl
  | some v =>
    have lt := (List.getElem?_eq_some_iff.1 hv).1
    dsimp only
    rw [a _ (by omega)]
theorem cq_HR.tr {R : cq_Rc} {ρ1 : Nat → Int} {n : Nat} (k : cq_HR m h0 Fin y0 R ρ) (wf : cq_wfR R = true) (hn : R.2.2.2.2.2.1.n ≤ n) (a : cq_ag n ρ1 ρ) : cq_HR m h0 Fin y0 R ρ1 := fun ρ2 h2 ls2 st2 d a2 hd L mu => by
  have e := cq_wfR_n wf
  rw [cq_ms_ag wf hn a] at mu
  exact k ρ2 h2 ls2 st2 d (a2.tr (a.lt (by omega))) hd L mu
/-- what is asked of the records that are under way -/
def cq_Ac (m : cq_W) (h0 : am_H) (Fin : Option Value × am_H → Prop) (y0 : Nat) (act : List cq_Rc) (ρ : Nat → Int) (n : Nat) : Prop := ∀ R ∈ act, cq_wfR R = true ∧ R.2.2.2.2.2.1.n ≤ n ∧ cq_HR m h0 Fin y0 R ρ
theorem cq_Ac.tr {act : List cq_Rc} {ρ1 : Nat → Int} {n n1 : Nat} (k : cq_Ac m h0 Fin y0 act ρ n) (a : cq_ag n ρ1 ρ) (hn : n ≤ n1) : cq_Ac m h0 Fin y0 act ρ1 n1 := fun R hR => by
  obtain ⟨k1, k2, k3⟩ := k R hR
  exact ⟨k1, Nat.le_trans k2 hn, k3.tr k1 k2 a⟩
theorem cq_fR_ok {pc : Nat} {R : cq_Rc} : ∀ {act : List cq_Rc}, cq_fR pc act = some R → R ∈ act ∧ R.1 = pc
  | [], q => by cases q
  | X :: r, q => by
    unfold cq_fR at q
    cases hb : Nat.beq X.1 pc with
    | true =>
      rw [hb] at q
      have e := Option.some.inj q
      subst e
      exact ⟨List.mem_cons_self, am_beq hb⟩
    | false =>
      rw [hb] at q
      obtain ⟨k1, k2⟩ := cq_fR_ok q
      exact ⟨List.mem_cons_of_mem _ k1, k2⟩
theorem cq_bck_ok {R : cq_Rc} {Z : cq_Z} {ls st : List Value} {fs : List cq_Fm} (wf : cq_wfR R = true) (hn : R.2.2.2.2.2.1.n ≤ Z.2.2.2.2.2.2.n) (q : cq_bck R Z = true) (H : cq_Rz m h0 ρ Z ls st h fs) : fs = [] ∧ R.2.2.1 ≤ Z.2.2.2.2.2.1 ∧ ∃ ρ2, cq_ag R.2.1 ρ2 ρ ∧ cq_Lc m h0 R ρ2 h ls st ∧ cq_ms R ρ2 < cq_ms R ρ := by
  obtain ⟨y, pc, als, ast, fr, db, S⟩ := Z
  unfold cq_bck at q
  dsimp only at q hn
  rw [cond_eq_ite] at q
  split at q
  · rename_i hb
    have hb1 := (Bool.and_eq_true _ _ ▸ hb)
    have hb2 := (Bool.and_eq_true _ _ ▸ hb1.1)
    have ef : fr = [] := List.isEmpty_iff.1 hb2.1
    have eU : S.U = none := Option.isNone_iff_eq_none.1 hb2.2
    subst ef
    have hfs : fs = [] := by
      have := (H ρ cq_ag.rf).2.2.2
      cases fs with
      | nil => rfl
      | cons c cs => exact this.elim
    refine ⟨hfs, Nat.le_of_ble_eq_true hb1.2, ?_⟩
    split at q
    · cases q
    · rename_i S1 hpl
      obtain ⟨hn1, ρ1, a1, k1⟩ := cq_pl_ok hpl fun ρ' a => (H ρ' a).1
      split at q
      · rename_i cur hcur
        have q := (Bool.and_eq_true _ _ ▸ q)
        have D1 := k1 ρ1 cq_ag.rf
        have L := cq_cks_ok wf q.1 D1 (cq_pl_U hpl eU) (H ρ1 a1).2.1 (H ρ1 a1).2.2.1
        have eR := cq_wfR_n wf
        refine ⟨cq_r2 R.2.1 cur ρ1, cq_r2_ag.tr (a1.lt (by omega)), L, ?_⟩
        have q2 := q.2
        split at q2
        · rename_i c v hc hv
          have z1 := (Bool.and_eq_true _ _ ▸ q2)
          have z2 := (Bool.and_eq_true _ _ ▸ z1.1)
          have n2 := cq_nb z2.2
          have lt := (List.getElem?_eq_some_iff.1 hv).1
          have bd : v.2.2.2.1 ≤ cq_r2 R.2.1 cur ρ1 (R.2.1 + R.2.2.2.2.2.2.2.2.2.2.2.2.1.1) ∧ cq_r2 R.2.1 cur ρ1 (R.2.1 + R.2.2.2.2.2.2.2.2.2.2.2.2.1.1) ≤ v.2.2.2.2 := by
            have L1 : cq_bOk (cq_r2 R.2.1 cur ρ1) (cq_hB R.2.1 R.2.2.2.2.2.2.2.2.1) := L.1
            exact L1 _ (cq_hB_mem _ R.2.1 _ v hv n2)
          have er : cq_r2 R.2.1 cur ρ1 (R.2.1 + R.2.2.2.2.2.2.2.2.2.2.2.2.1.1) = cq_e ρ1 c.2.1 := by
            unfold cq_r2
            rw [if_neg (by omega), Nat.add_sub_cancel_left, hc]
            dsimp only
            rw [cq_tag z2.1]
            rfl
          have e1 : ρ1 (R.2.1 + R.2.2.2.2.2.2.2.2.2.2.2.2.1.1) = ρ (R.2.1 + R.2.2.2.2.2.2.2.2.2.2.2.2.1.1) := a1 _ (by omega)
          have en := cq_en_ok D1.P z1.2
          unfold cq_ms
          rw [hv]
          dsimp only
          cases hup : R.2.2.2.2.2.2.2.2.2.2.2.2.1.2 with
          | true =>
            rw [hup] at en
            simp only [cond_true] at en ⊢
            rw [cq_ac_e, cq_sub_e, cq_s_e, e1] at en
            omega
          | false =>
            rw [hup] at en
            simp only [cond_false] at en ⊢
            rw [cq_ac_e, cq_sub_e, cq_s_e, e1] at en
            omega
        · cases q2
      · cases q
  · cases q
end CXB
end
section
section CXC
variable {m : cq_W} {h0 : am_H} {ρ0 : Nat → Int} {n0 : Nat} {Fin : Option Value × am_H → Prop} {nx : cq_Z → Option (List cq_Z)} {lps : Nat → Option (Option (Nat × Nat) × cq_Lp)} {y0 : Nat}
theorem cq_exec_ok (NX : ∀ {Z : cq_Z} {out : List cq_Z} {ρ : Nat → Int} {ls st : List Value} {h : am_H} {fs : List cq_Fm} {d : Nat}, cq_ag n0 ρ ρ0 → n0 ≤ Z.2.2.2.2.2.2.n → nx Z = some out → cq_Rz m h0 ρ Z ls st h fs → Z.2.2.2.2.2.1 ≤ d → cq_Kn m h0 ρ Z.2.2.2.2.2.2.n Fin out → cq_Go Fin d Z.1 Z.2.1 ls st h fs) : ∀ (f : Nat) (act : List cq_Rc) (Z : cq_Z) (ρ : Nat → Int) (ls st : List Value) (h : am_H) (fs : List cq_Fm) (d : Nat), cq_exec nx lps y0 f act Z = true → cq_ag n0 ρ ρ0 → n0 ≤ Z.2.2.2.2.2.2.n → cq_Rz m h0 ρ Z ls st h fs → Z.2.2.2.2.2.1 ≤ d → cq_Ac m h0 Fin y0 act ρ Z.2.2.2.2.2.2.n → cq_Go Fin d Z.1 Z.2.1 ls st h fs := by
  intro f
  induction f with
  | zero => intro act Z ρ ls st h fs d q; cases q
  | succ f ih =>
    intro act Z ρ ls st h fs d q a0 hn0 H hd A
    have plain : ∀ (act : List cq_Rc) (Z : cq_Z) (ρ : Nat → Int) (ls st : List Value) (h : am_H) (fs : List cq_Fm) (d : Nat), (match nx Z with
      | some out => out.all (cq_exec nx lps y0 f act)
      | none => false) = true → cq_ag n0 ρ ρ0 → n0 ≤ Z.2.2.2.2.2.2.n → cq_Rz m h0 ρ Z ls st h fs → Z.2.2.2.2.2.1 ≤ d → cq_Ac m h0 Fin y0 act ρ Z.2.2.2.2.2.2.n → cq_Go Fin d Z.1 Z.2.1 ls st h fs := fun act Z ρ ls st h fs d q a0 hn0 H hd A => by
      split at q
      · rename_i out hx
        refine NX a0 hn0 hx H hd fun Z' hZ' ρ1 ls1 st1 h1 fs1 d1 a1 n1 R1 d2 => ?_
        exact ih act Z' ρ1 ls1 st1 h1 fs1 d1 (List.all_eq_true.1 q Z' hZ') ((a1.lt hn0).tr a0) (Nat.le_trans hn0 n1) R1 d2 (A.tr a1 n1)
      · cases q
    have q : (match (bif Z.2.2.2.2.1.isEmpty && Nat.beq Z.1 y0 then lps Z.2.1 else none) with
      | some lp => bif cq_skp lp.1 Z.2.2.2.2.2.2 then (match nx Z with
          | some out => out.all (cq_exec nx lps y0 f act)
          | none => false)
        else (match cq_fR Z.2.1 act with
          | some R => cq_bck R Z
          | none => (match cq_arr lp.2 Z with
            | some RZ => (match nx RZ.2 with
              | some out => out.all (cq_exec nx lps y0 f (RZ.1 :: act))
              | none => false)
            | none => false))
      | none => (match nx Z with
        | some out => out.all (cq_exec nx lps y0 f act)
        | none => false)) = true := q
    cases hlp : (bif Z.2.2.2.2.1.isEmpty && Nat.beq Z.1 y0 then lps Z.2.1 else none) with
    | none =>
      rw [hlp] at q
      exact plain act Z ρ ls st h fs d q a0 hn0 H hd A
    | some lp =>
      rw [hlp] at q
      dsimp only at q
      have ey : Z.1 = y0 := by
        cases hb : Z.2.2.2.2.1.isEmpty && Nat.beq Z.1 y0 with
        | false => rw [hb] at hlp; cases hlp
        | true => exact am_beq (Bool.and_eq_true _ _ ▸ hb).2
      cases hsk : cq_skp lp.1 Z.2.2.2.2.2.2 with
      | true =>
        rw [hsk] at q
        exact plain act Z ρ ls st h fs d q a0 hn0 H hd A
      | false =>
        rw [hsk] at q
        simp only [cond_false] at q
        cases hR : cq_fR Z.2.1 act with
        | some R =>
          rw [hR] at q
          dsimp only at q
          obtain ⟨hR1, hR2⟩ := cq_fR_ok hR
          obtain ⟨k1, k2, k3⟩ := A R hR1
          obtain ⟨efs, hdb, ρ2, a2, L, mu⟩ := cq_bck_ok k1 k2 q H
          subst efs
          have g := k3 ρ2 h ls st d a2 (Nat.le_trans hdb hd) L mu
          rw [hR2] at g
          rw [ey]
          exact g
        | none =>
          rw [hR] at q
          dsimp only at q
          cases hA : cq_arr lp.2 Z with
          | none => rw [hA] at q; cases q
          | some RZ =>
            rw [hA] at q
            dsimp only at q
            obtain ⟨y, pc, als, ast, fr, db, S⟩ := Z
            unfold cq_arr at hA
            dsimp only at hA hn0 A hd ey
            rw [cond_eq_ite] at hA
            split at hA
            · rename_i hb
              have hb := (Bool.and_eq_true _ _ ▸ hb)
              have ef : fr = [] := List.isEmpty_iff.1 hb.1
              have eU : S.U = none := Option.isNone_iff_eq_none.1 hb.2
              subst ef
              have hfs : fs = [] := by
                have := (H ρ cq_ag.rf).2.2.2
                cases fs with
                | nil => rfl
                | cons c cs => exact this.elim
              subst hfs
              split at hA
              · cases hA
              · rename_i S1 hpl
                obtain ⟨hn1, ρ1, a1, k1⟩ := cq_pl_ok hpl fun ρ' a => (H ρ' a).1
                split at hA
                · rename_i arr ext harr hext
                  split at hA
                  · rename_i P hG
                    rw [cond_eq_ite] at hA
                    split at hA
                    · rename_i hck
                      have hck := (Bool.and_eq_true _ _ ▸ hck)
                      have hA := Option.some.inj hA
                      subst hA
                      dsimp only at q
                      have L0 := cq_cks_ok hck.2 hck.1 (k1 ρ1 cq_ag.rf) (cq_pl_U hpl eU) (H ρ1 a1).2.1 (H ρ1 a1).2.2.1
                      dsimp only at L0
                      have claim : ∀ (N : Nat) (ρ2 : Nat → Int) (h2 : am_H) (ls2 st2 : List Value) (d : Nat), cq_ag S1.n ρ2 ρ1 → db ≤ d → cq_Lc m h0 (pc, S1.n, db, cq_lh S1.n lp.2 0 als, ast, cq_hS lp.2 S1 P, arr, ext, lp.2) ρ2 h2 ls2 st2 → cq_ms (pc, S1.n, db, cq_lh S1.n lp.2 0 als, ast, cq_hS lp.2 S1 P, arr, ext, lp.2) ρ2 < N → cq_Go Fin d y0 pc ls2 st2 h2 [] := by
                        intro N
                        induction N with
                        | zero => intro ρ2 h2 ls2 st2 d _ _ _ hN; exact absurd hN (Nat.not_lt_zero _)
                        | succ N ihN =>
                          intro ρ2 h2 ls2 st2 d a2 hd2 L hN
                          have rb := cq_Lc_rb hck.2 k1 hG L a2
                          have aS : cq_ag S.n ρ2 ρ := (a2.lt hn1).tr a1
                          have nS : S.n ≤ (cq_hS lp.2 S1 P).n := Nat.le_trans hn1 (Nat.le_add_right _ _)
                          have g := plain ((pc, S1.n, db, cq_lh S1.n lp.2 0 als, ast, cq_hS lp.2 S1 P, arr, ext, lp.2) :: act) (y, pc, cq_lh S1.n lp.2 0 als, ast, [], db, cq_hS lp.2 S1 P) ρ2 ls2 st2 h2 [] d q ((aS.lt hn0).tr a0) (Nat.le_trans hn0 nS) (fun ρ' a => ⟨(rb ρ' a).1, (rb ρ' a).2.1, (rb ρ' a).2.2, trivial⟩) hd2 (fun R hR => by
                            rcases List.mem_cons.1 hR with z | z
                            · subst z
                              refine ⟨hck.2, Nat.le_refl _, fun ρ3 h3 ls3 st3 d3 a3 hd3 L3 mu3 => ?_⟩
                              exact ihN ρ3 h3 ls3 st3 d3 (cq_ag.tr a3 a2) hd3 L3 (by omega)
                            · obtain ⟨j1, j2, j3⟩ := A R z
                              exact ⟨j1, Nat.le_trans j2 nS, j3.tr j1 j2 aS⟩)
                          dsimp only at g
                          rw [ey] at g
                          exact g
                      have fin := claim _ _ h ls st d cq_r2_ag hd L0 (Nat.lt_succ_self _)
                      show cq_Go Fin d y pc ls st h []
                      rw [ey]
                      exact fin
                    · cases hA
                  · cases hA
                · cases hA
            · cases hA
end CXC
end
section
/-! THE CHECKER, 31: a method meets its contract -/
def cq_cl0 (m : cq_W) (ck : Bool → List cq_A → cq_S → Bool) (cts : Nat → Option cq_Ct) (z : Nat) (Z : cq_Z) : Option (List cq_Z) := match cts z with
  | some c => cq_cc m ck c z Z
  | none => (match cq_inl z Z with
    | some Z' => some [Z']
    | none => none)
/-- a contract's own symbols stand for themselves -/
def cq_bdS : List (cq_C × cq_F × cq_A) → List (Nat × cq_A) → List (Nat × cq_A)
  | [], σ => σ
  | q :: r, σ => cq_bdS r (cq_bd1 q.2.2 q.2.2 σ)
def cq_bdN : List (cq_F × cq_F × cq_F) → List (Nat × cq_A) → List (Nat × cq_A)
  | [], σ => σ
  | q :: r, σ => cq_bdN r (cq_bd1 (cq_i q.2.2) (cq_i q.2.2) σ)
def cq_idn (σ : List (Nat × cq_A)) (n : Nat) : Bool := (List.range n).all fun i => match cq_sx i σ with
  | some a => (bif Nat.beq a.1 6 then Nat.beq a.2.2 i else (Nat.beq a.1 1 || Nat.beq a.1 2) && cq_fe a.2.1 (cq_s i))
  | none => false
def cq_xk (c : cq_Ct) (x : Bool × List cq_A × cq_S) (vs : List cq_A) (S : cq_S) : Bool := match cq_pl x.2.2.T S with
  | none => false
  | some S1 => (match cq_bdT S1 x.2.2.T (cq_bds x.2.1 vs (cq_bdN c.2.2.1.M (cq_bdS c.2.2.1.T (cq_bds c.2.1 c.2.1 [])))) with
    | σ => cq_idn σ c.2.2.1.n && cq_mvs S1.P σ x.2.2.n x.2.1 vs && cq_vP S1 σ x.2.2.n x.2.2 && x.2.2.N.all (cq_vN S1 σ) && x.2.2.K.all (cq_vK S1 σ) && x.2.2.T.all (cq_vT S1 σ x.2.2.n) && Nat.ble S1.ac x.2.2.ac && Nat.ble S1.al x.2.2.al && cq_no0 x.2.1)
def cq_ckx (c : cq_Ct) (thr : Bool) (vs : List cq_A) (S : cq_S) : Bool := S.U.isNone && c.2.2.2.2.any fun x => (x.1 == thr) && cq_xk c x vs S
section CYA
variable {m : cq_W} {h0 : am_H} {ρ ρ0 : Nat → Int} {n0 : Nat} {S : cq_S} {h : am_H}
/-- an exit's store, out of a store that meets it -/
theorem cq_xk_ok {c : cq_Ct} {x : Bool × List cq_A × cq_S} {vs : List cq_A} {w : List Value} (wf : cq_wfC c = true) (hx : x ∈ c.2.2.2.2) (hU : S.U = none) (hn : c.2.2.1.n ≤ S.n) (q : cq_xk c x vs S = true) (H : ∀ ρ', cq_ag S.n ρ' ρ → cq_Md c.2.2.2.1 h0 ρ' S h ∧ cq_gs ρ' vs w) : ∃ ρ', cq_ag c.2.2.1.n ρ' ρ ∧ cq_Md c.2.2.2.1 h0 ρ' x.2.2 h ∧ cq_gs ρ' x.2.1 w ∧ cq_no0 x.2.1 = true := by
  have w1 := (Bool.and_eq_true _ _ ▸ wf)
  have w0 := (Bool.and_eq_true _ _ ▸ w1.1)
  have w2 := (Bool.and_eq_true _ _ ▸ w0.1)
  have wx := List.all_eq_true.1 w2.2 x hx
  have eM : x.2.2.M = [] := List.isEmpty_iff.1 (List.all_eq_true.1 w0.2 x hx)
  have wx1 := (Bool.and_eq_true _ _ ▸ wx)
  have wx2 := (Bool.and_eq_true _ _ ▸ wx1.1)
  have nle := Nat.le_of_ble_eq_true wx1.2
  unfold cq_xk at q
  split at q
  · cases q
  · rename_i S1 hpl
    dsimp only at q
    generalize cq_bdT S1 x.2.2.T (cq_bds x.2.1 vs (cq_bdN c.2.2.1.M (cq_bdS c.2.2.1.T (cq_bds c.2.1 c.2.1 [])))) = σ at q
    have q1 := (Bool.and_eq_true _ _ ▸ q)
    have q2 := (Bool.and_eq_true _ _ ▸ q1.1)
    have q3 := (Bool.and_eq_true _ _ ▸ q2.1)
    have q4 := (Bool.and_eq_true _ _ ▸ q3.1)
    have q5 := (Bool.and_eq_true _ _ ▸ q4.1)
    have q6 := (Bool.and_eq_true _ _ ▸ q5.1)
    have q7 := (Bool.and_eq_true _ _ ▸ q6.1)
    have q8 := (Bool.and_eq_true _ _ ▸ q7.1)
    obtain ⟨hn1, ρ1, a1, k1⟩ := cq_pl_ok hpl fun ρ' a => (H ρ' a).1
    have D := k1 ρ1 cq_ag.rf
    have pre := cq_pre_ok (mc := c.2.2.2.1) (σ := σ) (n0 := x.2.2.n) wx2.1 rfl D (cq_pl_U hpl hU) q7.2 q6.2 q5.2 q4.2 (by rw [eM]; rfl) (Or.inl eM)
    refine ⟨cq_rc1 σ x.2.2.n 0 ρ1, fun s hs => ?_, ?_, cq_mvs_ok q8.2 D.P (H ρ1 a1).2, q1.2⟩
    · have z := List.all_eq_true.1 q8.1 s (List.mem_range.2 hs)
      split at z
      · rename_i a ha
        rw [cq_rc1_x (Nat.lt_of_lt_of_le hs nle) ha]
        rw [cond_eq_ite] at z
        have e1 : ρ1 s = ρ s := a1 s (Nat.lt_of_lt_of_le hs hn)
        split at z
        · rename_i h6
          rw [cq_tag h6]
          show ρ1 a.2.2 = ρ s
          rw [am_beq z]
          exact e1
        · have z := (Bool.and_eq_true _ _ ▸ z)
          rcases Bool.or_eq_true _ _ ▸ z.1 with y | y
          · rw [cq_tag y]
            show cq_e ρ1 a.2.1 = ρ s
            rw [cq_fe_ok z.2, cq_s_e]
            exact e1
          · rw [cq_tag y]
            show cq_e ρ1 a.2.1 = ρ s
            rw [cq_fe_ok z.2, cq_s_e]
            exact e1
      · cases z
    · have A := D.A
      have b1 := Nat.le_of_ble_eq_true q3.2
      have b2 := Nat.le_of_ble_eq_true q2.2
      have q1' := (Bool.and_eq_true _ _ ▸ wx2.1)
      have q2' := (Bool.and_eq_true _ _ ▸ q1'.1)
      have q3' := (Bool.and_eq_true _ _ ▸ q2'.1)
      have q4' := (Bool.and_eq_true _ _ ▸ q3'.1)
      have eW : x.2.2.W = [] := List.isEmpty_iff.1 q4'.2
      have eU : x.2.2.U = none := Option.isNone_iff_eq_none.1 q1'.2
      refine ⟨pre.1, pre.2.1, pre.2.2.1, ?_, pre.2.2.2.2.1, pre.2.2.2.2.2.1, (fun e he => by rw [eM] at he; cases he), pre.I, D.F, ⟨by omega, by omega⟩, ?_⟩
      · rw [eW]
        exact fun s hs => (by cases hs)
      · rw [eU]
        exact fun s hs => (by cases hs)
theorem cq_isT_no {as : List cq_A} {v : Option Value} (q : cq_no0 as = true) (g : cq_gs ρ as v.toList) : am_isT v = none := by
  cases v with
  | none => rfl
  | some w =>
    cases as with
    | nil => exact g.elim
    | cons a r =>
      have g1 : cq_g ρ a w := g.1
      have q1 := (Bool.and_eq_true _ _ ▸ (show ((!Nat.beq a.1 0) && cq_no0 r) = true from q))
      obtain ⟨t, f, k⟩ := a
      rcases t with _ | _ | _ | _ | _ | _ | _ | t
      · cases q1.1
      · obtain ⟨x, e, -⟩ := g1; rw [e]; rfl
      · obtain ⟨x, e, -⟩ := g1; rw [e]; rfl
      · obtain ⟨x, e, -⟩ := g1; rw [e]; rfl
      · have e : w = .null := g1
        rw [e]; rfl
      · have e : w = .ref k := g1
        rw [e]; rfl
      · rcases g1 with ⟨-, e⟩ | ⟨-, e⟩ <;> (rw [e]; rfl)
      · exact g1.elim
/-- what it means to end as a contract says -/
def cq_Fin (c : cq_Ct) (h : am_H) (ρ : Nat → Int) (r : Option Value × am_H) : Prop := ∃ x ∈ c.2.2.2.2, ∃ ρ', cq_ag c.2.2.1.n ρ' ρ ∧ cq_Md c.2.2.2.1 h ρ' x.2.2 r.2 ∧ ((x.1 = false ∧ am_isT r.1 = none ∧ cq_gs ρ' x.2.1 r.1.toList) ∨ (x.1 = true ∧ r.1 = some (.retAddr 80)))
theorem cq_HE_ok {c : cq_Ct} (wf : cq_wfC c = true) : cq_HE c.2.2.2.1 h ρ c.2.2.1.n (cq_ckx c) (cq_Fin c h ρ) := by
  refine ⟨fun vs S h2 v ρ1 hck a hn H => ?_, fun S h2 ρ1 hck a hn H => ?_⟩
  · have hck := (Bool.and_eq_true _ _ ▸ hck)
    obtain ⟨x, hx, z⟩ := List.any_eq_true.1 hck.2
    have z := (Bool.and_eq_true _ _ ▸ z)
    obtain ⟨ρ2, a2, M2, g2, n0⟩ := cq_xk_ok wf hx (Option.isNone_iff_eq_none.1 hck.1) hn z.2 H
    exact ⟨x, hx, ρ2, a2.tr a, M2, Or.inl ⟨eq_of_beq z.1, cq_isT_no n0 g2, g2⟩⟩
  · have hck := (Bool.and_eq_true _ _ ▸ hck)
    obtain ⟨x, hx, z⟩ := List.any_eq_true.1 hck.2
    have z := (Bool.and_eq_true _ _ ▸ z)
    obtain ⟨ρ2, a2, M2, -, -⟩ := cq_xk_ok (w := []) wf hx (Option.isNone_iff_eq_none.1 hck.1) hn z.2 (fun ρ' a => ⟨H ρ' a, trivial⟩)
    exact ⟨x, hx, ρ2, a2.tr a, M2, Or.inr ⟨eq_of_beq z.1, rfl⟩⟩
/-- what next states stand for -/
def cq_NX (m : cq_W) (h0 : am_H) (ρ0 : Nat → Int) (n0 : Nat) (Fin : Option Value × am_H → Prop) (nx : cq_Z → Option (List cq_Z)) : Prop := ∀ (Z : cq_Z) (out : List cq_Z) (ρ : Nat → Int) (ls st : List Value) (h : am_H) (fs : List cq_Fm) (d : Nat), cq_ag n0 ρ ρ0 → n0 ≤ Z.2.2.2.2.2.2.n → nx Z = some out → cq_Rz m h0 ρ Z ls st h fs → Z.2.2.2.2.2.1 ≤ d → cq_Kn m h0 ρ Z.2.2.2.2.2.2.n Fin out → cq_Go Fin d Z.1 Z.2.1 ls st h fs
/-- a method whose paths all end well meets its contract: with any steps that are sound -/
theorem cq_methN {y f : Nat} {c : cq_Ct} {nx : cq_Z → Option (List cq_Z)} {lps : Nat → Option (Option (Nat × Nat) × cq_Lp)} (wf : cq_wfC c = true) (q0 : (cq_no0 c.2.1 && c.2.1.all (cq_sma c.2.2.1.n)) = true) (NX : ∀ h ρ as, cq_Md c.2.2.2.1 h ρ c.2.2.1 h → cq_gs ρ c.2.1 as → cq_NX c.2.2.2.1 h ρ c.2.2.1.n (cq_Fin c h ρ) nx) (q : cq_exec nx lps y f [] (y, 0, cq_ent0 c.2.1 (am_in y).2.2.1, [], [], c.1, c.2.2.1) = true) : cq_CT y c := by
  intro d h ρ as hD M g
  have NX1 := NX h ρ as M g
  have q0 := (Bool.and_eq_true _ _ ▸ q0)
  have w1 := (Bool.and_eq_true _ _ ▸ wf)
  have w0 := (Bool.and_eq_true _ _ ▸ w1.1)
  have w2 := (Bool.and_eq_true _ _ ▸ w0.1)
  have G := cq_exec_ok (Fin := cq_Fin c h ρ) (fun a hn hq H hd K => NX1 _ _ _ _ _ _ _ _ a hn hq H hd K) f [] (y, 0, cq_ent0 c.2.1 (am_in y).2.2.1, [], [], c.1, c.2.2.1) ρ (am_ent as (am_in y).2.2.1) [] h [] d q cq_ag.rf (Nat.le_refl _) (fun ρ' a => ⟨cq_wf_ag w2.1 a M, (cq_gs_ent q0.1 (cq_smas_g q0.2 a g)).1, trivial, trivial⟩) hD (fun R hR => by cases hR)
  obtain ⟨x, ev, k⟩ := G
  obtain ⟨r, h'⟩ := x
  exact ⟨r, h', ev, k⟩
/-- a table of contracts that hold -/
def cq_TK (m : cq_W) (h0 : am_H) (cts : Nat → Option cq_Ct) : Prop := ∀ z c', cts z = some c' → cq_wfC c' = true ∧ cq_CT z c' ∧ (c'.2.2.1.M = [] ∨ cq_UT m h0)
theorem cq_HC_ok {c : cq_Ct} {cts : Nat → Option cq_Ct} (wf : cq_wfC c = true) (HT : cq_TK c.2.2.2.1 h cts) : cq_HC c.2.2.2.1 h ρ c.2.2.1.n (cq_Fin c h ρ) (cq_cl0 c.2.2.2.1 (cq_ckx c) cts) := by
  intro e Z out ρ1 ls st h2 fs d2 a hn hc hi hq H hd K
  unfold cq_cl0 at hq
  split at hq
  · rename_i c' hc'
    obtain ⟨wf', CT', UT'⟩ := HT _ c' hc'
    exact cq_cc_ok (cq_HE_ok wf) a hn wf' CT' UT' hc hi hq H hd K
  · split at hq
    · rename_i Z' hz
      rw [← Option.some.inj hq] at K
      refine cq_inl_ok hc hi hz H hd fun ls' st' fs' d' R' hd' => ?_
      refine K.one List.mem_cons_self cq_ag.rf ?_ R' hd'
      obtain ⟨y1, pc1, als1, ast1, fr1, db1, S1⟩ := Z
      unfold cq_inl at hz
      split at hz
      · rename_i heq
        cases heq
        rw [cond_eq_ite] at hz
        split at hz
        · rw [← Option.some.inj hz]
          exact Nat.le_refl _
        · cases hz
      · cases hz
    · cases hq
theorem cq_meth {y f : Nat} {c : cq_Ct} {cts : Nat → Option cq_Ct} {lps : Nat → Option (Option (Nat × Nat) × cq_Lp)} (HT : ∀ h, cq_Inv none h → cq_TK c.2.2.2.1 h cts) (wf : cq_wfC c = true) (q0 : (cq_no0 c.2.1 && c.2.1.all (cq_sma c.2.2.1.n)) = true) (q : cq_exec (cq_nx c.2.2.2.1 (cq_ckx c) (cq_cl0 c.2.2.2.1 (cq_ckx c) cts)) lps y f [] (y, 0, cq_ent0 c.2.1 (am_in y).2.2.1, [], [], c.1, c.2.2.1) = true) : cq_CT y c := by
  refine cq_methN wf q0 (fun h ρ as M g => ?_) q
  have w1 := (Bool.and_eq_true _ _ ▸ wf)
  have w0 := (Bool.and_eq_true _ _ ▸ w1.1)
  have w2 := (Bool.and_eq_true _ _ ▸ w0.1)
  have x1 := (Bool.and_eq_true _ _ ▸ w2.1)
  have eU : c.2.2.1.U = none := Option.isNone_iff_eq_none.1 x1.2
  have I := M.I
  rw [eU] at I
  exact fun _ _ _ _ _ _ _ _ a hn hq H hd K => cq_nx_ok (cq_HE_ok wf) (cq_HC_ok wf (HT h I)) a hn hq H hd K
def cq_t0 : Nat → Option cq_Ct := fun _ => none
def cq_tc (y : Nat) (c : cq_Ct) (t : Nat → Option cq_Ct) (z : Nat) : Option cq_Ct := bif Nat.beq z y then some c else t z
theorem cq_t0_ok {m : cq_W} : ∀ h, cq_Inv none h → cq_TK m h cq_t0 := fun _ _ _ _ q => by cases q
theorem cq_tc_gen {m : cq_W} {y : Nat} {c : cq_Ct} {t : Nat → Option cq_Ct} (wf : cq_wfC c = true) (ok : cq_CT y c) (U : c.2.2.1.M = [] ∨ ∀ h, cq_Inv none h → cq_UT m h) (H : ∀ h, cq_Inv none h → cq_TK m h t) : ∀ h, cq_Inv none h → cq_TK m h (cq_tc y c t) := by
  intro h I z c' q
  unfold cq_tc at q
  cases hb : Nat.beq z y with
  | true =>
    rw [hb] at q
    rw [← Option.some.inj q, am_beq hb]
    exact ⟨wf, ok, U.imp id (fun k => k h I)⟩
  | false =>
    rw [hb] at q
    exact H h I z c' q
theorem cq_tc_ok {m : cq_W} {y : Nat} {c : cq_Ct} {t : Nat → Option cq_Ct} (wf : cq_wfC c = true) (ok : cq_CT y c) (H : ∀ h, cq_Inv none h → cq_TK m h t) (e : c.2.2.1.M = [] := by rfl) : ∀ h, cq_Inv none h → cq_TK m h (cq_tc y c t) := cq_tc_gen wf ok (Or.inl e) H
theorem cq_tc_gh {m : cq_W} {y : Nat} {c : cq_Ct} {t : Nat → Option cq_Ct} (U : ∀ h, cq_Inv none h → cq_UT m h) (wf : cq_wfC c = true) (ok : cq_CT y c) (H : ∀ h, cq_Inv none h → cq_TK m h t) : ∀ h, cq_Inv none h → cq_TK m h (cq_tc y c t) := cq_tc_gen wf ok (Or.inr U) H
end CYA
end
section
/-! METHODS THAT ONLY READ: what they answer doesn't hang on the cells that they don't read, nor on the depth -/
def ni_M (y : Nat) : Bool := Nat.beq y 191 || Nat.beq y 199 || Nat.beq y 200 || Nat.beq y 201 || Nat.beq y 220 || Nat.beq y 221 || Nat.beq y 222 || Nat.beq y 230 || Nat.beq y 231
def ni_X (a : Nat) : Bool := Nat.beq a 98 || Nat.beq a 99 || Nat.beq a 100 || Nat.beq a 119 || Nat.beq a 120 || Nat.beq a 121 || Nat.beq a 126 || Nat.beq a 127 || Nat.beq a 128
def ni_A (a : Nat) : Bool := Nat.ble 40 a && Nat.blt a 130 && Nat.beq (cq_fix a).1 1 && Nat.ble (cq_fix a).2.1 2 && !ni_X a
def ni_g (a : Nat) : Bool := Nat.beq a 78 || ni_A a
def ni_v (v : Value) : Prop := ∀ a, v = .ref a → ni_g a = true
def ni_L (l : List Value) : Prop := ∀ v ∈ l, ni_v v
def ni_it (t : cq_T) : Bool := Nat.beq t.1 1 || Nat.beq t.1 8 || Nat.beq t.1 9 || Nat.beq t.1 10
def ni_f (b : Nat) : Bool := Nat.blt b (am_N 13) && !Nat.beq b 32 && (ni_it (cq_cl 13 b) || (Nat.beq (cq_cl 13 b).1 3 && ni_A (cq_cl 13 b).2.2.2.1))
def ni_i (e : am_E) : Bool := match e.1 with
  | .getfield _ => Nat.beq e.2.2.2.1 13 && ni_f e.2.2.2.2.1
  | .ldc_w _ => Nat.beq e.2.2.2.2.1 0
  | .invokevirtual _ => ni_M e.2.2.2.1
  | .invokestatic _ => ni_M e.2.2.2.1
  | .ireturn => true
  | .aload_n _ => true
  | .iload_n _ => true
  | .iload _ => true
  | .iconst _ => true
  | .bipush _ => true
  | .sipush _ => true
  | .iaload => true
  | .baload => true
  | .if_icmp _ _ => true
  | .ifCond _ _ => true
  | .goto _ => true
  | .istore _ => true
  | .istore_n _ => true
  | .iinc _ _ => true
  | .ishr => true
  | .iand => true
  | .imul => true
  | .iadd => true
  | .isub => true
  | _ => false
def ni_all : Bool := [191, 199, 200, 201, 220, 221, 222, 230, 231].all fun y => (List.range (am_bd y)).all fun pc => match am_code y pc with
  | some e => ni_i e
  | none => true
theorem ni_all_ok : ni_all = true := by decide +kernel
theorem ni_M_mem {y : Nat} (q : ni_M y = true) : y ∈ [191, 199, 200, 201, 220, 221, 222, 230, 231] := by
  unfold ni_M at q
  simp only [Bool.or_eq_true, Nat.beq_eq] at q
  simp only [List.mem_cons, List.not_mem_nil, or_false]
  omega
theorem ni_code {y pc : Nat} {e : am_E} (q : ni_M y = true) (hp : pc < am_bd y) (hc : am_code y pc = some e) : ni_i e = true := by
  have h1 := List.all_eq_true.1 ni_all_ok y (ni_M_mem q)
  have h2 := List.all_eq_true.1 h1 pc (List.mem_range.2 hp)
  rw [hc] at h2
  exact h2
def ni_arT : Bool := (List.range 130).all fun a => !ni_A a || (ni_it (cq_ar a) && ni_it (cq_ty a 1))
theorem ni_arT_ok : ni_arT = true := by decide +kernel
def ni_R (h h2 : am_H) : Prop := h.1 = h2.1 ∧ (∀ c, c < h.1 → h.2.2.1 c = h2.2.2.1 c) ∧ (∀ c, c < h.1 → ni_X c = false → ∀ j, ¬ (c = 78 ∧ j = 32) → h.2.2.2 c j = h2.2.2.2 c j)
theorem ni_v_int {x : Int32} : ni_v (.int x) := fun a q => by cases q
theorem ni_v_ph : ni_v am_ph := fun a q => by cases q
theorem ni_L.tail {v : Value} {l : List Value} (q : ni_L (v :: l)) : ni_L l := fun w hw => q w (List.mem_cons_of_mem _ hw)
theorem ni_L.int {x : Int32} {l : List Value} (q : ni_L l) : ni_L (.int x :: l) := fun w hw => by
  rcases List.mem_cons.1 hw with z | z
  · rw [z]; exact ni_v_int
  · exact q w z
theorem ni_L.cons {v : Value} {l : List Value} (hv : ni_v v) (q : ni_L l) : ni_L (v :: l) := fun w hw => by
  rcases List.mem_cons.1 hw with z | z
  · rw [z]; exact hv
  · exact q w z
theorem ni_L.set {l : List Value} {i : Nat} {v : Value} (q : ni_L l) (hv : ni_v v) : ni_L (l.set i v) := fun w hw => by
  rcases List.mem_or_eq_of_mem_set hw with z | z
  · exact q w z
  · rw [z]; exact hv
theorem ni_L.kill {l : List Value} {i : Nat} (q : ni_L l) : ni_L (am_kill l i) := by
  unfold am_kill
  split
  · exact q
  · split
    · rw [cond_eq_ite]
      split
      · exact q.set ni_v_ph
      · exact q
    · exact q
theorem ni_L.set1 {l : List Value} {i : Nat} {v : Value} (q : ni_L l) (hv : ni_v v) : ni_L (am_set1 l i v) := q.kill.set hv
theorem ni_ty_int {h : am_H} {j : Nat} {t : cq_T} {v : Value} (q : ni_it t = true) (k : cq_ht h j t v) : ∃ x : Int32, v = .int x := by
  obtain ⟨a, b, c, d, e, f⟩ := t
  unfold ni_it at q
  simp only [Bool.or_eq_true, Nat.beq_eq] at q
  rcases q with ((q | q) | q) | q
  · subst q
    obtain ⟨x, ex, -⟩ := k
    exact ⟨x, ex⟩
  · subst q
    obtain ⟨x, ex, -⟩ := k
    exact ⟨x, ex⟩
  · subst q
    obtain ⟨x, ex, -⟩ := k
    exact ⟨x, ex⟩
  · subst q
    obtain ⟨x, ex, -⟩ := k
    exact ⟨x, ex⟩
theorem ni_A_un {a : Nat} (q : ni_A a = true) : 40 ≤ a ∧ a < 130 ∧ (cq_fix a).1 = 1 ∧ ni_X a = false := by
  have q1 := (Bool.and_eq_true _ _ ▸ q)
  have q2 := (Bool.and_eq_true _ _ ▸ q1.1)
  have q3 := (Bool.and_eq_true _ _ ▸ q2.1)
  have q4 := (Bool.and_eq_true _ _ ▸ q3.1)
  exact ⟨Nat.le_of_ble_eq_true q4.1, Nat.le_of_ble_eq_true q4.2, am_beq q3.2, cq_nb q1.2⟩
theorem ni_fld {h : am_H} {a b : Nat} (I : cq_Inv none h) (hg : ni_g a = true) (ho : am_isO h a 13 = true) (hf : ni_f b = true) : (a = 78 ∧ b ≠ 32) ∧ ni_v (h.2.2.2 a b) := by
  have e78 : a = 78 := by
    rcases Bool.or_eq_true _ _ ▸ hg with z | z
    · exact am_beq z
    · exfalso
      obtain ⟨a1, a2, a3, -⟩ := ni_A_un z
      have o1 := (Bool.and_eq_true _ _ ▸ ho)
      have o2 := (Bool.and_eq_true _ _ ▸ o1.1)
      have := am_beq o2.2
      rw [I.fx a a1 a2, a3] at this
      omega
  have f0 := (Bool.and_eq_true _ _ ▸ hf)
  have f00 := (Bool.and_eq_true _ _ ▸ f0.1)
  refine ⟨⟨e78, fun z => ?_⟩, ?_⟩
  · have := cq_nb f00.2
    rw [z] at this
    cases this
  subst e78
  have f1 := (Bool.and_eq_true _ _ ▸ hf)
  have fx := I.fx 78 (by decide) (by decide)
  have hlt : b < (h.2.2.1 78).2.2 := by
    rw [fx]
    exact Nat.le_of_ble_eq_true (Bool.and_eq_true _ _ ▸ f1.1).1
  have t := I.ty 78 (by decide) (by have := I.lo; omega) (fun z => by cases z) b hlt
  have et : cq_tyOf 78 (h.2.2.1 78) b = cq_cl 13 b := by
    unfold cq_tyOf cq_ty cq_isA cq_ob
    have e1 : Nat.blt 78 130 = true := by decide
    have e2 : Nat.beq (cq_fix 78).1 1 = false := by decide +kernel
    have e3 : (Nat.beq 78 54 && Nat.blt b 3) = false := by rw [show Nat.beq 78 54 = false by decide]; rfl
    have e4 : (cq_fix 78).2.1 = 13 := by decide +kernel
    rw [e1, e2, e3, e4]
    rfl
  rw [et] at t
  rcases Bool.or_eq_true _ _ ▸ f1.2 with z | z
  · obtain ⟨x, ex⟩ := ni_ty_int z t
    rw [ex]
    exact ni_v_int
  · have z := (Bool.and_eq_true _ _ ▸ z)
    have z1 := am_beq z.1
    generalize cq_cl 13 b = tt at t z1 z
    obtain ⟨t1, t2, t3, t4, t5, t6⟩ := tt
    dsimp only at z1
    subst z1
    have t : h.2.2.2 78 b = .ref t4 := t
    rw [t]
    intro a' e'
    cases e'
    show (_ || ni_A t4) = true
    rw [z.2, Bool.or_true]
theorem ni_rd {h : am_H} {a : Nat} {i : Int32} {ok : Nat → Bool} {v : Value} (I : cq_Inv none h) (hg : ni_g a = true) (q : am_rd h a i ok = some v) : ni_A a = true ∧ ∃ x : Int32, v = .int x := by
  unfold am_rd at q
  rw [cond_eq_ite] at q
  split at q
  · rename_i hb
    split at q
    · cases q
    · rename_i hi
      have b1 := (Bool.and_eq_true _ _ ▸ hb)
      have b2 := (Bool.and_eq_true _ _ ▸ b1.1)
      have hA : ni_A a = true := by
        rcases Bool.or_eq_true _ _ ▸ hg with z | z
        · exfalso
          have e78 := am_beq z
          subst e78
          have fx := I.fx 78 (by decide) (by decide)
          have := b2.2
          rw [fx] at this
          revert this
          decide +kernel
        · exact z
      obtain ⟨a1, a2, a3, -⟩ := ni_A_un hA
      refine ⟨hA, ?_⟩
      rw [← Option.some.inj q]
      have t := I.ty a a1 (Nat.le_of_ble_eq_true b2.1) (fun z => by cases z) i.toNatClampNeg (by omega)
      have al := List.all_eq_true.1 ni_arT_ok a (List.mem_range.2 a2)
      rw [hA] at al
      have al := (Bool.and_eq_true _ _ ▸ (show (ni_it (cq_ar a) && ni_it (cq_ty a 1)) = true from al))
      refine ni_ty_int (t := cq_tyOf a (h.2.2.1 a) i.toNatClampNeg) ?_ t
      unfold cq_tyOf
      rw [show Nat.blt a 130 = true from Nat.ble_eq_true_of_le a2]
      simp only [cond_true]
      by_cases e1 : i.toNatClampNeg = 1
      · rw [e1]
        exact al.2
      · unfold cq_ty cq_isA
        rw [a3]
        have : Nat.beq i.toNatClampNeg 1 = false := by
          cases hh : Nat.beq i.toNatClampNeg 1 with
          | false => rfl
          | true => exact absurd (am_beq hh) e1
        rw [this, Bool.and_false]
        exact al.1
  · cases q
theorem ni_rd2 {h h2 : am_H} {a : Nat} {i : Int32} {ok : Nat → Bool} (I : cq_Inv none h) (R : ni_R h h2) (hA : ni_A a = true) : am_rd h2 a i ok = am_rd h a i ok := by
  obtain ⟨a1, a2, a3, a4⟩ := ni_A_un hA
  have hl : a < h.1 := Nat.lt_of_lt_of_le a2 I.lo
  unfold am_rd
  have ne : a ≠ 78 := fun z => by
    rw [z] at a3
    revert a3
    decide +kernel
  rw [← R.1, ← R.2.1 a hl, R.2.2 a hl a4 _ (fun z => ne z.1)]
theorem ni_isO {h h2 : am_H} (R : ni_R h h2) (a ci : Nat) : am_isO h2 a ci = am_isO h a ci := by
  unfold am_isO
  rw [← R.1]
  cases hb : Nat.blt a h.1 with
  | false => rfl
  | true => rw [← R.2.1 a (Nat.le_of_ble_eq_true hb)]
end
section
/-! a step of a method that only reads -/
theorem ni_st {e : am_E} {pc : Nat} {ls st : List Value} {h : am_H} {x : Nat × List Value × List Value × am_H} (ok : ni_i e = true) (I : cq_Inv none h) (hl : ni_L ls) (hs : ni_L st) (q : am_st e pc ls st h = some x) : x.2.2.2 = h ∧ ni_L x.2.1 ∧ ni_L x.2.2.1 ∧ ∀ h2, ni_R h h2 → am_st e pc ls st h2 = some (x.1, x.2.1, x.2.2.1, h2) := by
  obtain ⟨i, r⟩ := e
  cases i
  all_goals first
    | exact absurd ok Bool.false_ne_true
    | skip
  case iconst k =>
    cases q
    exact ⟨rfl, hl, hs.int, fun _ _ => rfl⟩
  case bipush k =>
    cases q
    exact ⟨rfl, hl, hs.int, fun _ _ => rfl⟩
  case sipush k =>
    cases q
    exact ⟨rfl, hl, hs.int, fun _ _ => rfl⟩
  case goto k =>
    cases q
    exact ⟨rfl, hl, hs, fun _ _ => rfl⟩
  case iload k =>
    dsimp only [am_st] at q ⊢
    split at q
    · rename_i v hv
      cases q
      refine ⟨rfl, hl, hs.int, fun _ _ => ?_⟩
      simp only [hv]
    · cases q
  case iload_n k =>
    dsimp only [am_st] at q ⊢
    split at q
    · rename_i v hv
      cases q
      refine ⟨rfl, hl, hs.int, fun _ _ => ?_⟩
      simp only [hv]
    · cases q
  case aload_n k =>
    dsimp only [am_st] at q ⊢
    split at q
    · rename_i v hv
      cases q
      refine ⟨rfl, hl, hs.cons (hl _ (List.mem_of_getElem? hv)), fun _ _ => ?_⟩
      simp only [hv]
    · rename_i hv
      cases q
      refine ⟨rfl, hl, hs.cons (hl _ (List.mem_of_getElem? hv)), fun _ _ => ?_⟩
      simp only [hv]
    · cases q
  case istore k =>
    dsimp only [am_st] at q ⊢
    split at q
    · rw [cond_eq_ite] at q
      split at q
      · rename_i hb
        cases q
        refine ⟨rfl, hl.set1 ni_v_int, hs.tail, fun _ _ => ?_⟩
        rw [hb]
        rfl
      · cases q
    · cases q
  case istore_n k =>
    dsimp only [am_st] at q ⊢
    split at q
    · rw [cond_eq_ite] at q
      split at q
      · rename_i hb
        cases q
        refine ⟨rfl, hl.set1 ni_v_int, hs.tail, fun _ _ => ?_⟩
        rw [hb]
        rfl
      · cases q
    · cases q
  case iinc k n =>
    dsimp only [am_st] at q ⊢
    split at q
    · rename_i v hv
      cases q
      refine ⟨rfl, hl.set1 ni_v_int, hs, fun _ _ => ?_⟩
      simp only [hv]
    · cases q
  case iadd =>
    dsimp only [am_st] at q ⊢
    split at q
    · cases q
      exact ⟨rfl, hl, hs.tail.tail.int, fun _ _ => rfl⟩
    · cases q
  case isub =>
    dsimp only [am_st] at q ⊢
    split at q
    · cases q
      exact ⟨rfl, hl, hs.tail.tail.int, fun _ _ => rfl⟩
    · cases q
  case imul =>
    dsimp only [am_st] at q ⊢
    split at q
    · cases q
      exact ⟨rfl, hl, hs.tail.tail.int, fun _ _ => rfl⟩
    · cases q
  case iand =>
    dsimp only [am_st] at q ⊢
    split at q
    · cases q
      exact ⟨rfl, hl, hs.tail.tail.int, fun _ _ => rfl⟩
    · cases q
  case ishr =>
    dsimp only [am_st] at q ⊢
    split at q
    · cases q
      exact ⟨rfl, hl, hs.tail.tail.int, fun _ _ => rfl⟩
    · cases q
  case ldc_w k =>
    dsimp only [am_st] at q ⊢
    rw [cond_eq_ite] at q
    split at q
    · rename_i hb
      cases q
      refine ⟨rfl, hl, hs.int, fun _ _ => ?_⟩
      rw [hb]
      rfl
    · cases q
  case ifCond c k =>
    dsimp only [am_st] at q ⊢
    split at q
    · cases c <;> dsimp only at q ⊢ <;> split at q <;> rename_i hb <;> cases q <;>
        first
        | exact ⟨rfl, hl, hs.tail, fun _ _ => if_pos hb⟩
        | exact ⟨rfl, hl, hs.tail, fun _ _ => if_neg hb⟩
    · cases q
  case if_icmp c k =>
    dsimp only [am_st] at q ⊢
    split at q
    · cases c <;> dsimp only at q ⊢ <;> split at q <;> rename_i hb <;> cases q <;>
        first
        | exact ⟨rfl, hl, hs.tail.tail, fun _ _ => if_pos hb⟩
        | exact ⟨rfl, hl, hs.tail.tail, fun _ _ => if_neg hb⟩
    · cases q
  case getfield k =>
    have ok := (Bool.and_eq_true _ _ ▸ (show (Nat.beq r.2.2.1 13 && ni_f r.2.2.2.1) = true from ok))
    have ec := am_beq ok.1
    dsimp only [am_st] at q ⊢
    split at q
    · rename_i a rr
      rw [cond_eq_ite] at q
      split at q
      · rename_i hb
        cases q
        rw [ec] at hb
        obtain ⟨e78, hv⟩ := ni_fld I (hs _ List.mem_cons_self a rfl) hb ok.2
        refine ⟨rfl, hl, hs.tail.cons hv, fun h2 R => ?_⟩
        rw [ec, ni_isO R, hb]
        have : h2.2.2.2 a r.2.2.2.1 = h.2.2.2 a r.2.2.2.1 := by
          rw [e78.1]
          exact (R.2.2 78 (by have := I.lo; omega) (by decide) _ (fun z => e78.2 z.2)).symm
        rw [this]
        rfl
      · cases q
    · cases q
  case iaload =>
    dsimp only [am_st] at q ⊢
    split at q
    · rename_i i a rr
      split at q
      · rename_i v hv
        cases q
        obtain ⟨hA, w, ew⟩ := ni_rd I (hs _ (List.mem_cons_of_mem _ List.mem_cons_self) a rfl) hv
        subst ew
        refine ⟨rfl, hl, hs.tail.tail.int, fun h2 R => ?_⟩
        simp only [ni_rd2 I R hA, hv]
      · cases q
    · cases q
  case baload =>
    dsimp only [am_st] at q ⊢
    split at q
    · rename_i i a rr
      split at q
      · rename_i v hv
        cases q
        obtain ⟨hA, w, ew⟩ := ni_rd I (hs _ (List.mem_cons_of_mem _ List.mem_cons_self) a rfl) hv
        subst ew
        refine ⟨rfl, hl, hs.tail.tail.int, fun h2 R => ?_⟩
        simp only [ni_rd2 I R hA, hv]
      · cases q
    · cases q
  case ireturn =>
    cases q
  case invokevirtual k =>
    cases q
  case invokestatic k =>
    cases q
end
section
/-! runs of methods that only read -/
theorem ni_sp {z : Nat} (q : ni_M z = true) : Nat.beq z 1000 = false ∧ Nat.beq z 1001 = false ∧ Nat.beq z 1002 = false ∧ Nat.beq z 1003 = false ∧ Nat.beq z 1004 = false ∧ Nat.beq z 10 = false ∧ Nat.beq z 57 = false := by
  have := ni_M_mem q
  simp only [List.mem_cons, List.not_mem_nil, or_false] at this
  rcases this with h | h | h | h | h | h | h | h | h <;> subst h <;> decide
theorem ni_ent {as : List Value} {mx : Nat} (q : ni_L as) : ni_L (am_ent as mx) := by
  intro v hv
  unfold am_ent at hv
  rcases List.mem_append.1 hv with z | z
  · unfold am_wid at z
    obtain ⟨w, hw, hz⟩ := List.mem_flatMap.1 z
    rw [cond_eq_ite] at hz
    split at hz
    · rcases List.mem_cons.1 hz with y | y
      · rw [y]; exact q w hw
      · rw [List.mem_singleton.1 y]; exact ni_v_ph
    · rw [List.mem_singleton.1 hz]; exact q w hw
  · rw [(List.mem_replicate.1 z).2]
    exact ni_v_ph
theorem ni_rcv {h h2 : am_H} (R : ni_R h h2) (z : Nat) (as : List Value) : am_rcv z as h2 = am_rcv z as h := by
  unfold am_rcv
  split
  · rfl
  · rfl
  · split
    · exact ni_isO R _ _
    · rfl
def ni_P (n : Nat) : Prop := ∀ d y pc ls st h x, ni_M y = true → cq_Inv none h → ni_L ls → ni_L st → am_run n d y pc ls st h = some x → x.2 = h ∧ (∃ v : Int32, x.1 = some (.int v)) ∧ ∀ h2 d2, ni_R h h2 → d ≤ d2 → am_run n d2 y pc ls st h2 = some (x.1, h2)
theorem ni_cal {n : Nat} (ih : ni_P n) {d y pc : Nat} {ls st : List Value} {h : am_H} {x : Option Value × am_H} {e : am_E} (hy : ni_M y = true) (hz : ni_M e.2.2.2.1 = true) (I : cq_Inv none h) (hl : ni_L ls) (hs : ni_L st) (q : am_cal (am_run n) d y pc ls st h e = some x) : x.2 = h ∧ (∃ v : Int32, x.1 = some (.int v)) ∧ ∀ h2 d2, ni_R h h2 → d ≤ d2 → am_cal (am_run n) d2 y pc ls st h2 e = some (x.1, h2) := by
  obtain ⟨s1, s2, s3, s4, s5, s6, s7⟩ := ni_sp hz
  unfold am_cal at q ⊢
  rw [s4, s5] at q ⊢
  simp only [Bool.or_self, cond_false] at q ⊢
  unfold am_cal0 at q ⊢
  cases d with
  | zero => cases q
  | succ d =>
    simp only [s1, s2, s3, s6, s7, cond_false] at q ⊢
    generalize hz1 : e.2.2.2.1 = z at q hz ⊢
    rw [cond_eq_ite] at q
    split at q
    · rename_i hb
      split at q
      · rename_i v h' hv
        have has : ni_L (st.take (am_in z).2.1).reverse := fun w hw => hs w (List.mem_of_mem_take (List.mem_reverse.1 hw))
        obtain ⟨e1, ⟨w, e2⟩, k⟩ := ih d z 0 _ [] h (v, h') hz I (ni_ent has) (fun _ hw => by cases hw) hv
        dsimp only at e1 e2 k
        subst e1
        subst e2
        have q : am_run n (d + 1) y (pc + 3) ls (.int w :: st.drop (am_in z).2.1) h' = some x := q
        obtain ⟨f1, f2, k2⟩ := ih (d + 1) y (pc + 3) ls _ h' x hy I hl (ni_L.int fun w hw => hs w (List.mem_of_mem_drop hw)) q
        refine ⟨f1, f2, fun h2 d2 R hd => ?_⟩
        cases d2 with
        | zero => exact absurd hd (Nat.not_succ_le_zero _)
        | succ d2 =>
          simp only [s1, s2, s3, s6, s7, cond_false]
          rw [ni_rcv R, hb]
          simp only [cond_true]
          rw [k h2 d2 R (Nat.le_of_succ_le_succ hd)]
          show am_run n (d2 + 1) y (pc + 3) ls (.int w :: st.drop (am_in z).2.1) h2 = _
          exact k2 h2 (d2 + 1) R hd
      · cases q
    · cases q
theorem ni_run : ∀ n, ni_P n
  | 0 => fun _ _ _ _ _ _ _ _ _ _ _ q => by cases q
  | n + 1 => fun d y pc ls st h x hy I hl hs q => by
    have ih := ni_run n
    rw [am_run_s] at q
    have goal : x.2 = h ∧ (∃ v : Int32, x.1 = some (.int v)) ∧ ∀ h2 d2, ni_R h h2 → d ≤ d2 → am_one (am_run n) d2 y pc ls st h2 = some (x.1, h2) := by
      unfold am_one at q ⊢
      split at q
      · cases q
      · rename_i e hc
        have hp : pc < am_bd y ∧ am_code y pc = some e := by
          cases hb : Nat.blt y am_NM && Nat.blt pc (am_bd y) with
          | false => rw [hb] at hc; cases hc
          | true =>
            rw [hb] at hc
            exact ⟨Nat.le_of_ble_eq_true (Bool.and_eq_true _ _ ▸ hb).2, hc⟩
        have ok := ni_code hy hp.1 hp.2
        try simp only [hc]
        split at q
        · rename_i hi
          try simp only [hi]
          split at q
          · rename_i v
            rw [cond_eq_ite] at q
            split at q
            · rename_i hr
              cases q
              refine ⟨rfl, ⟨v, rfl⟩, fun h2 d2 _ _ => ?_⟩
              rw [hr]
              rfl
            · cases q
          · cases q
        · rename_i hi
          exfalso
          unfold ni_i at ok
          rw [hi] at ok
          cases ok
        · rename_i hi
          exfalso
          unfold ni_i at ok
          rw [hi] at ok
          cases ok
        · rename_i hi
          exfalso
          unfold ni_i at ok
          rw [hi] at ok
          cases ok
        · rename_i hi
          exfalso
          unfold ni_i at ok
          rw [hi] at ok
          cases ok
        · rename_i i hi
          try simp only [hi]
          unfold ni_i at ok
          rw [hi] at ok
          exact ni_cal ih hy ok I hl hs q
        · rename_i i hi
          try simp only [hi]
          unfold ni_i at ok
          rw [hi] at ok
          exact ni_cal ih hy ok I hl hs q
        · rename_i i hi
          exfalso
          unfold ni_i at ok
          rw [hi] at ok
          cases ok
        · rename_i n1 n2 n3 n4 n5 n6 n7 n8
          split at q
          · rename_i pc' ls' st' h' hst
            obtain ⟨e1, l1, l2, k⟩ := ni_st ok I hl hs hst
            dsimp only at e1 l1 l2 k
            subst e1
            obtain ⟨f1, f2, k2⟩ := ih d y pc' ls' st' h' x hy I l1 l2 q
            refine ⟨f1, f2, fun h2 d2 R hd => ?_⟩
            simp only [k h2 R]
            exact k2 h2 d2 R hd
          · rename_i hst
            exfalso
            unfold am_lds at q
            split at q
            · rename_i idx hi
              unfold ni_i at ok
              rw [hi] at ok
              cases ok
            · rename_i idx hi
              unfold ni_i at ok
              rw [hi] at ok
              unfold am_st at hst
              rw [hi] at hst
              dsimp only at ok hst
              rw [ok] at hst
              cases hst
            · cases q
    refine ⟨goal.1, goal.2.1, fun h2 d2 R hd => ?_⟩
    rw [am_run_s]
    exact goal.2.2 h2 d2 R hd
end
section
/-! WHAT IS ASKED OF HEAPS stays as it is where nothing but unread cells is written; a method that only reads answers what is asked -/
def ni_W (m : cq_W) : Bool := m.all fun w => !w.1 && (ni_X w.2.1 || (Nat.beq w.2.1 78 && Nat.beq w.2.2.1 33))
theorem ni_R_of {m : cq_W} {h0 h : am_H} (hm : ni_W m = true) (F : cq_Fr m h0 h) (e : h.1 = h0.1) : ni_R h0 h := by
  refine ⟨e.symm, fun c hc => (F.sh c hc).symm, fun c hc hx j hj => (F.vl c hc j ?_).symm⟩
  cases hb : cq_inW m c (h0.2.2.1 c) j with
  | false => rfl
  | true =>
    exfalso
    obtain ⟨w, hw, hz⟩ := List.any_eq_true.1 hb
    have k := List.all_eq_true.1 hm w hw
    have k := (Bool.and_eq_true _ _ ▸ k)
    have w1 := cq_nb k.1
    rw [w1] at hz
    simp only [cond_false] at hz
    have hz := (Bool.and_eq_true _ _ ▸ hz)
    have e2 := am_beq hz.1
    have k2 := k.2
    rw [e2, hx, Bool.false_or] at k2
    have k3 := (Bool.and_eq_true _ _ ▸ k2)
    refine hj ⟨am_beq k3.1, ?_⟩
    rcases Bool.or_eq_true _ _ ▸ hz.2 with z | z
    · have z1 := am_beq z
      have z2 := am_beq k3.2
      omega
    · have z1 := am_beq z
      have z2 := am_beq k3.2
      omega
theorem ni_R.symm {h h2 : am_H} (R : ni_R h h2) : ni_R h2 h := ⟨R.1.symm, fun c hc => (R.2.1 c (by rw [R.1]; exact hc)).symm, fun c hc hx j hj => (R.2.2 c (by rw [R.1]; exact hc) hx j hj).symm⟩
theorem ni_R.rf {h : am_H} : ni_R h h := ⟨rfl, fun _ _ => rfl, fun _ _ _ _ _ => rfl⟩
theorem ni_ev {d d2 y mx : Nat} {as : List Value} {h h2 h' : am_H} {r : Option Value} (hy : ni_M y = true) (I : cq_Inv none h) (ha : ni_L as) (ev : am_ev d y 0 (am_ent as mx) [] h (r, h')) (R : ni_R h h2) (hd : d ≤ d2) : h' = h ∧ am_ev d2 y 0 (am_ent as mx) [] h2 (r, h2) := by
  obtain ⟨n, q⟩ := ev
  obtain ⟨e1, -, k⟩ := ni_run n d y 0 _ [] h (r, h') hy I (ni_ent ha) (fun _ z => by cases z) q
  exact ⟨e1, n, k h2 d2 R hd⟩
theorem ni_dgL : ∀ (n : Nat) (x : Int), ni_L (cq_dg n x)
  | 0, _ => fun _ z => by cases z
  | n + 1, x => ni_L.int (ni_dgL n (x / 65536))
theorem ni_dg78 (n : Nat) (x : Int) : ni_L (.ref 78 :: cq_dg n x) := (ni_dgL n x).cons fun a q => by cases q; rfl
theorem am_ev_det {d y pc : Nat} {ls st : List Value} {h : am_H} {x x' : Option Value × am_H} (a : am_ev d y pc ls st h x) (b : am_ev d y pc ls st h x') : x = x' := by
  obtain ⟨n, q⟩ := a
  obtain ⟨k, q'⟩ := b
  have h1 := am_run_le (Nat.le_max_left n k) q
  have h2 := am_run_le (Nat.le_max_right n k) q'
  rw [h1] at h2
  exact Option.some.inj h2
theorem ni_An_eq {y : Nat} {as : List Value} {h0 h : am_H} (hy : ni_M y = true) (I0 : cq_Inv none h0) (I : cq_Inv none h) (R : ni_R h0 h) (ha : ni_L as) : cq_An h y as = cq_An h0 y as := by
  have e : (fun r : Int32 => ∃ h', am_ev 60 y 0 (am_ent as (am_in y).2.2.1) [] h (some (.int r), h')) = (fun r : Int32 => ∃ h', am_ev 60 y 0 (am_ent as (am_in y).2.2.1) [] h0 (some (.int r), h')) := funext fun r => propext ⟨fun ⟨h', ev⟩ => ⟨_, (ni_ev hy I ha ev R.symm (Nat.le_refl _)).2⟩, fun ⟨h', ev⟩ => ⟨_, (ni_ev hy I0 ha ev R (Nat.le_refl _)).2⟩⟩
  unfold cq_An
  rw [e]
/-- what a run answers is what is asked -/
theorem ni_An_of {y d : Nat} {as : List Value} {h h' : am_H} {r : Int32} (hy : ni_M y = true) (I : cq_Inv none h) (ha : ni_L as) (hd : d ≤ 60) (ev : am_ev d y 0 (am_ent as (am_in y).2.2.1) [] h (some (.int r), h')) : cq_An h y as = r.toInt := by
  have ev60 := (ni_ev hy I ha ev ni_R.rf hd).2
  have sp := Classical.epsilon_spec (p := fun r : Int32 => ∃ h', am_ev 60 y 0 (am_ent as (am_in y).2.2.1) [] h (some (.int r), h')) ⟨r, h, ev60⟩
  obtain ⟨h2, e2⟩ := sp
  have := am_ev_det ev60 e2
  unfold cq_An
  have e3 := (Prod.mk.inj this).1
  have e4 := Value.int.inj (Option.some.inj e3)
  rw [← e4]
theorem ni_n {h0 h : am_H} (I0 : cq_Inv none h0) (R : ni_R h0 h) {c : Nat} (hc : c < 130) (hx : ni_X c = false) (h78 : Nat.beq c 78 = false) (j : Nat) : cq_n h c j = cq_n h0 c j := by
  unfold cq_n
  rw [R.2.2 c (Nat.lt_of_lt_of_le hc I0.lo) hx j (fun z => by rw [z.1] at h78; cases h78)]
theorem ni_n78 {h0 h : am_H} (I0 : cq_Inv none h0) (R : ni_R h0 h) {j : Nat} (hj : j ≠ 32) : cq_n h 78 j = cq_n h0 78 j := by
  unfold cq_n
  rw [R.2.2 78 (by have := I0.lo; omega) (by decide) j (fun z => hj z.2)]
theorem ni_U0 {h0 h : am_H} (I0 : cq_Inv none h0) (I : cq_Inv none h) (R : ni_R h0 h) {k : Nat} (hk : (ni_M k && Nat.blt k 1000 || Nat.beq k 1092 || Nat.beq k 1093 || Nat.beq k 1096) = true) (x : Int) : cq_U0 h k x = cq_U0 h0 k x := by
  unfold cq_U0
  simp only [Bool.or_eq_true, Bool.and_eq_true] at hk
  rcases hk with ((⟨hM, hb⟩ | hk) | hk) | hk
  · rw [hb]
    exact ni_An_eq hM I0 I R (ni_dg78 _ _)
  · rw [am_beq hk]
    exact ni_n I0 R (by decide) (by decide) (by decide) _
  · rw [am_beq hk]
    exact ni_n I0 R (by decide) (by decide) (by decide) _
  · rw [am_beq hk]
    exact ni_n I0 R (by decide) (by decide) (by decide) _
theorem ni_AL {h0 h : am_H} (I0 : cq_Inv none h0) (I : cq_Inv none h) (R : ni_R h0 h) (p : Int) : cq_AL h p ↔ cq_AL h0 p := by
  unfold cq_AL
  rw [ni_U0 I0 I R (by decide), ni_U0 I0 I R (by decide), ni_U0 I0 I R (by decide), ni_n78 I0 R (j := 15) (by decide)]
theorem ni_RW {h0 h : am_H} (I0 : cq_Inv none h0) (I : cq_Inv none h) (R : ni_R h0 h) : cq_RW h ↔ cq_RW h0 := by
  unfold cq_RW
  rw [ni_n78 I0 R (j := 55) (by decide)]
  constructor
  · intro k i hi
    have := k i hi
    rw [ni_AL I0 I R, ni_n I0 R (c := 118) (by decide) (by decide) (by decide), ni_n I0 R (c := 117) (by decide) (by decide) (by decide)] at this
    exact this
  · intro k i hi
    rw [ni_AL I0 I R, ni_n I0 R (c := 118) (by decide) (by decide) (by decide), ni_n I0 R (c := 117) (by decide) (by decide) (by decide)]
    exact k i hi
theorem ni_UT {m : cq_W} (hm : ni_W m = true) : ∀ h0, cq_Inv none h0 → cq_UT m h0 := by
  intro h0 I0 h F I e k x hk
  have R := ni_R_of hm F e
  unfold cq_U
  by_cases h2 : k = 2000
  · subst h2
    rw [show Nat.blt 2000 2000 = false by decide]
    simp only [cond_false]
    have e2 : cq_RW h = cq_RW h0 := propext (ni_RW I0 I R)
    rw [e2]
  · have hb : (ni_M k && Nat.blt k 1000 || Nat.beq k 1092 || Nat.beq k 1093 || Nat.beq k 1096) = true ∧ Nat.blt k 2000 = true := by
      unfold cq_okT at hk
      simp only [Bool.or_eq_true, Nat.beq_eq] at hk
      rcases hk with (((((((z | z) | z) | z) | z) | z) | z) | z) | z
      all_goals first
        | (subst z; decide)
        | exact absurd z h2
    rw [hb.2]
    exact ni_U0 I0 I R hb.1 x
/-- the contract of a method that only reads: its answer is what is asked of the heap -/
def cq_bG (B : cq_B) : List cq_F := B.flatMap fun b => [cq_ac (cq_s b.1) (- b.2.1), cq_ac (cq_neg (cq_s b.1)) b.2.2]
def cq_xg (x : Bool × List cq_A × cq_S) : Bool × List cq_A × cq_S := (x.1, x.2.1, x.2.2.sP (x.2.2.P.1, x.2.2.P.2 ++ cq_bG x.2.2.P.1))
theorem cq_xg_ok {m : cq_W} {h0 : am_H} {ρ : Nat → Int} {x : Bool × List cq_A × cq_S} {h : am_H} (D : cq_Md m h0 ρ x.2.2 h) : cq_Md m h0 ρ (cq_xg x).2.2 h := by
  refine D.sP ⟨D.P.1, fun g hg => ?_⟩
  rcases List.mem_append.1 hg with z | z
  · exact D.P.2 g z
  · obtain ⟨b, hb, hz⟩ := List.mem_flatMap.1 z
    have bb := D.P.1 b hb
    rcases List.mem_cons.1 hz with y | y
    · rw [y, cq_ac_e, cq_s_e]; omega
    · rw [List.mem_singleton.1 y, cq_ac_e, cq_neg_e, cq_s_e]; omega
def cq_fn (k : Nat) (f : cq_F) (c : cq_Ct) : cq_Ct := (c.1, c.2.1, cq_mk (c.2.2.1.n + 1) ((c.2.2.1.n, -2147483648, 2147483647) :: c.2.2.1.P.1, c.2.2.1.P.2) c.2.2.1.N c.2.2.1.K [] c.2.2.1.T [] [(f, (1000000000000 + (k : Int), []), cq_s c.2.2.1.n)] none 0 0, c.2.2.2.1, c.2.2.2.2.map cq_xg)
def cq_fx (n : Nat) (x : Bool × List cq_A × cq_S) : Bool := !x.1 && Nat.beq x.2.2.n (n + 1) && (match x.2.1 with
  | [(1, g, _)] => cq_fe g (cq_s n)
  | _ => false)
theorem cq_fun {k : Nat} {f : cq_F} {c : cq_Ct} (hk : (ni_M k && Nat.blt k 1000) = true) (hD : c.1 ≤ 60) (wf : cq_wfC c = true) (CT : cq_CT k c) (hM : c.2.2.1.M = []) (hx : c.2.2.2.2.all (cq_fx c.2.2.1.n) = true) (dec : ∀ h ρ as, cq_Md c.2.2.2.1 h ρ c.2.2.1 h → cq_gs ρ c.2.1 as → as = .ref 78 :: cq_dg ((am_in k).2.1 - 1) (cq_e ρ f)) : cq_CT k (cq_fn k f c) := by
  intro d h ρ as hd M g
  have hk := (Bool.and_eq_true _ _ ▸ hk)
  have w1 := (Bool.and_eq_true _ _ ▸ wf)
  have w0 := (Bool.and_eq_true _ _ ▸ w1.1)
  have w2 := (Bool.and_eq_true _ _ ▸ w0.1)
  have q1 := (Bool.and_eq_true _ _ ▸ w2.1)
  have q2 := (Bool.and_eq_true _ _ ▸ q1.1)
  have q3 := (Bool.and_eq_true _ _ ▸ q2.1)
  have q4 := (Bool.and_eq_true _ _ ▸ q3.1)
  have eW : c.2.2.1.W = [] := List.isEmpty_iff.1 q4.2
  have eL : c.2.2.1.L = [] := List.isEmpty_iff.1 q3.2
  have eU : c.2.2.1.U = none := Option.isNone_iff_eq_none.1 q1.2
  have M0 : cq_Md c.2.2.2.1 h ρ c.2.2.1 h := by
    refine ⟨⟨fun b hb => M.P.1 b (List.mem_cons_of_mem _ hb), M.P.2⟩, M.N, M.K, ?_, M.T, ?_, ?_, ?_, M.F, ⟨Nat.le_add_right _ _, Nat.le_add_right _ _⟩, ?_⟩
    · rw [eW]; exact fun s hs => (by cases hs)
    · rw [eL]; exact fun s hs => (by cases hs)
    · rw [hM]; exact fun s hs => (by cases hs)
    · rw [eU]; exact M.I
    · rw [eU]; exact fun s hs => (by cases hs)
  have I : cq_Inv none h := M.I
  obtain ⟨r, h', ev, x, hxm, ρ', a', Mx, hr⟩ := CT c.1 h ρ as (Nat.le_refl _) M0 g
  have z := List.all_eq_true.1 hx x hxm
  have z1 := (Bool.and_eq_true _ _ ▸ z)
  have z2 := (Bool.and_eq_true _ _ ▸ z1.1)
  have x0 := cq_nb z2.1
  rcases hr with ⟨-, hT, gr⟩ | ⟨x1, -⟩
  · have z3 := z1.2
    split at z3
    · rename_i gg kk e21
      have eg := cq_fe_ok z3
      subst eg
      rw [e21] at gr
      have hv : ∃ v : Int32, r = some (.int v) ∧ v.toInt = ρ' c.2.2.1.n := by
        cases r with
        | none => exact gr.elim
        | some w =>
          obtain ⟨v, ev, hv⟩ := gr.1
          exact ⟨v, by rw [ev], by rw [hv, cq_s_e]⟩
      obtain ⟨v, er, hv⟩ := hv
      subst er
      have eas := dec h ρ as M0 g
      have ha : ni_L as := by rw [eas]; exact ni_dg78 _ _
      obtain ⟨e1, ev2⟩ := ni_ev hk.1 I ha ev ni_R.rf hd
      subst e1
      have eA := ni_An_of hk.1 I ha hD ev
      have MM := (M.M _ List.mem_cons_self).2 k rfl
      dsimp only at MM
      rw [cq_s_e] at MM
      have eU : cq_U h' k (cq_e ρ f) = v.toInt := by
        unfold cq_U cq_U0
        have h2 : Nat.blt k 2000 = true := by
          have := Nat.le_of_ble_eq_true hk.2
          exact Nat.ble_eq_true_of_le (by omega)
        rw [h2, hk.2]
        simp only [cond_true]
        rw [← eas]
        exact eA
      refine ⟨some (.int v), h', ev2, cq_xg x, List.mem_map_of_mem hxm, ρ', fun s hs => ?_, cq_xg_ok Mx, Or.inl ⟨x0, hT, ?_⟩⟩
      · have hs : s < c.2.2.1.n + 1 := hs
        by_cases es : s = c.2.2.1.n
        · rw [es, ← hv, ← eU, ← MM]
        · exact a' s (by omega)
      · show cq_gs ρ' x.2.1 _
        rw [e21]
        exact gr
    · cases z3
  · rw [x0] at x1; cases x1
/-- arguments out of one number -/
theorem cq_ofI (a : Int32) {x : Int} (h : x = a.toInt) : Int32.ofInt x = a := by rw [h]; exact Int32.ofInt_toInt a
theorem cq_dg1 {a : Int32} {x : Int} (h0 : 0 ≤ a.toInt) (h1 : a.toInt < 65536) (e : x = a.toInt) : cq_dg 1 x = [.int a] := by
  show [Value.int (Int32.ofInt (x % 65536))] = _
  rw [cq_ofI a (by omega)]
theorem cq_dg2 {a b : Int32} {x : Int} (h0 : 0 ≤ a.toInt) (h1 : a.toInt < 65536) (h2 : 0 ≤ b.toInt) (h3 : b.toInt < 65536) (e : x = a.toInt + 65536 * b.toInt) : cq_dg 2 x = [.int a, .int b] := by
  show Value.int (Int32.ofInt (x % 65536)) :: cq_dg 1 (x / 65536) = _
  rw [cq_ofI a (by omega), cq_dg1 (a := b) h2 h3 (by omega)]
theorem cq_dg3 {a b c : Int32} {x : Int} (h0 : 0 ≤ a.toInt) (h1 : a.toInt < 65536) (h2 : 0 ≤ b.toInt) (h3 : b.toInt < 65536) (h4 : 0 ≤ c.toInt) (h5 : c.toInt < 65536) (e : x = a.toInt + 65536 * b.toInt + 4294967296 * c.toInt) : cq_dg 3 x = [.int a, .int b, .int c] := by
  show Value.int (Int32.ofInt (x % 65536)) :: cq_dg 2 (x / 65536) = _
  rw [cq_ofI a (by omega), cq_dg2 (a := b) (b := c) h2 h3 h4 h5 (by omega)]
end
section
/-! arguments out of one number, for contracts; a step that also compares the stanzas' places -/
theorem cq_dec1 {ρ : Nat → Int} {as : List Value} {l u : Int} (g : cq_gs ρ [(5, (0, []), 78), (1, (0, [(0, 1)]), 0)] as) (b : l ≤ ρ 0 ∧ ρ 0 ≤ u) (h1 : 0 ≤ l) (h2 : u < 65536) : as = .ref 78 :: cq_dg 1 (cq_e ρ (0, [(0, 1)])) := by
  obtain ⟨v, r, e, g1, g2⟩ := cq_gs_cons g
  obtain ⟨w, r2, e2, g3, g4⟩ := cq_gs_cons g2
  have e3 := cq_gs_nil g4
  subst e e2 e3
  have g1 : v = .ref 78 := g1
  obtain ⟨x, ex, hx⟩ := g3
  have hx : x.toInt = cq_e ρ (cq_s 0) := hx
  rw [cq_s_e] at hx
  rw [g1, ex, cq_dg1 (a := x) (by omega) (by omega)]
  show cq_e ρ (cq_s 0) = _
  rw [cq_s_e, hx]
theorem cq_dec2 {ρ : Nat → Int} {as : List Value} {l u l' u' : Int} (g : cq_gs ρ [(5, (0, []), 78), (1, (0, [(0, 1)]), 0), (1, (0, [(1, 1)]), 0)] as) (b : l ≤ ρ 0 ∧ ρ 0 ≤ u) (b' : l' ≤ ρ 1 ∧ ρ 1 ≤ u') (h1 : 0 ≤ l) (h2 : u < 65536) (h3 : 0 ≤ l') (h4 : u' < 65536) : as = .ref 78 :: cq_dg 2 (cq_e ρ (0, [(0, 1), (1, 65536)])) := by
  obtain ⟨v, r, e, g1, g2⟩ := cq_gs_cons g
  obtain ⟨w, r2, e2, g3, g4⟩ := cq_gs_cons g2
  obtain ⟨w', r3, e4, g5, g6⟩ := cq_gs_cons g4
  have e3 := cq_gs_nil g6
  subst e e2 e4 e3
  have g1 : v = .ref 78 := g1
  obtain ⟨x, ex, hx⟩ := g3
  obtain ⟨y, ey, hy⟩ := g5
  have hx : x.toInt = cq_e ρ (cq_s 0) := hx
  have hy : y.toInt = cq_e ρ (cq_s 1) := hy
  rw [cq_s_e] at hx hy
  rw [g1, ex, ey, cq_dg2 (a := x) (b := y) (by omega) (by omega) (by omega) (by omega)]
  simp only [cq_e, cq_eT]
  omega
def cq_rfP (P : cq_P) (j a : cq_F) : List (cq_C × cq_F × cq_A) → cq_P
  | [] => P
  | e :: r => bif !e.1.1 && Nat.beq e.1.2 96 && Nat.beq e.2.2.1 1 && cq_fe e.2.2.2.1 (cq_c 1) && cq_en P (cq_sub j e.2.1) then (match cq_asm P (cq_ac (cq_add (cq_sub j e.2.1) a) (-1)) with
      | some P' => P'
      | none => P) else cq_rfP P j a r
def cq_rfS (S : cq_S) : cq_S := match S.T with
  | e :: r => bif !e.1.1 && Nat.beq e.1.2 96 && Nat.beq e.2.2.1 1 && cq_nn S.P.1 e.2.2.2.1 then S.sP (cq_rfP S.P e.2.1 e.2.2.2.1 r) else S
  | [] => S
def cq_rfZ (Z : cq_Z) : cq_Z := match Z with
  | (y, pc, ls, st, fr, db, S) => (y, pc, ls, st, fr, db, cq_rfS S)
theorem cq_rfP_ok {ρ : Nat → Int} {h : am_H} {P : cq_P} {j a : cq_F} {x : Int32} (hP : cq_pOk ρ P) (hj : h.2.2.2 96 (cq_e ρ j).toNat = .int x) (hx : x.toInt = cq_e ρ a) (h0 : 0 ≤ cq_e ρ a) : ∀ (T : List (cq_C × cq_F × cq_A)), (∀ e ∈ T, cq_g ρ e.2.2 (h.2.2.2 (cq_ce ρ e.1) (cq_e ρ e.2.1).toNat)) → cq_pOk ρ (cq_rfP P j a T)
  | [], _ => hP
  | e :: r, hT => by
    unfold cq_rfP
    cases hb : !e.1.1 && Nat.beq e.1.2 96 && Nat.beq e.2.2.1 1 && cq_fe e.2.2.2.1 (cq_c 1) && cq_en P (cq_sub j e.2.1) with
    | false => exact cq_rfP_ok hP hj hx h0 r (fun q hq => hT q (List.mem_cons_of_mem _ hq))
    | true =>
      simp only [cond_true]
      have b1 := (Bool.and_eq_true _ _ ▸ hb)
      have b2 := (Bool.and_eq_true _ _ ▸ b1.1)
      have b3 := (Bool.and_eq_true _ _ ▸ b2.1)
      have b4 := (Bool.and_eq_true _ _ ▸ b3.1)
      have g := hT e List.mem_cons_self
      have ec : cq_ce ρ e.1 = 96 := by
        unfold cq_ce
        rw [cq_nb b4.1]
        exact am_beq b4.2
      rw [ec, cq_tag b3.2] at g
      obtain ⟨z, ez, hz⟩ := g
      rw [cq_fe_ok b2.2, cq_c_e] at hz
      have d0 := cq_en_ok hP b1.2
      have fact : 0 ≤ cq_e ρ (cq_ac (cq_add (cq_sub j e.2.1) a) (-1)) := by
        rw [cq_ac_e, cq_add_e]
        rw [cq_sub_e] at d0 ⊢
        by_cases eq : cq_e ρ j = cq_e ρ e.2.1
        · rw [eq, ez] at hj
          have := Value.int.inj hj
          subst this
          omega
        · omega
      obtain ⟨P', e1, hP'⟩ := cq_asm_ok hP fact
      rw [e1]
      exact hP'
theorem cq_rfS_ok {m : cq_W} {h0 : am_H} {ρ : Nat → Int} {S : cq_S} {h : am_H} (D : cq_Md m h0 ρ S h) : cq_Md m h0 ρ (cq_rfS S) h := by
  unfold cq_rfS
  split
  · rename_i e r hT
    cases hb : !e.1.1 && Nat.beq e.1.2 96 && Nat.beq e.2.2.1 1 && cq_nn S.P.1 e.2.2.2.1 with
    | false => exact D
    | true =>
      have b1 := (Bool.and_eq_true _ _ ▸ hb)
      have b2 := (Bool.and_eq_true _ _ ▸ b1.1)
      have b3 := (Bool.and_eq_true _ _ ▸ b2.1)
      have g := D.T e (by rw [hT]; exact List.mem_cons_self)
      have ec : cq_ce ρ e.1 = 96 := by
        unfold cq_ce
        rw [cq_nb b3.1]
        exact am_beq b3.2
      rw [ec, cq_tag b2.2] at g
      obtain ⟨x, ex, hx⟩ := g
      exact D.sP (cq_rfP_ok D.P ex hx (cq_nn_ok D.P.1 b1.2) r (fun q hq => D.T q (by rw [hT]; exact List.mem_cons_of_mem _ hq)))
  · exact D
theorem cq_rfS_n (S : cq_S) : (cq_rfS S).n = S.n := by
  unfold cq_rfS
  split
  · rw [cond_eq_ite]
    split <;> rfl
  · rfl
def cq_nxr (nx : cq_Z → Option (List cq_Z)) (Z : cq_Z) : Option (List cq_Z) := match nx Z with
  | some out => some (out.map cq_rfZ)
  | none => none
theorem cq_nxr_ok {m : cq_W} {h0 : am_H} {ρ0 : Nat → Int} {n0 : Nat} {Fin : Option Value × am_H → Prop} {nx : cq_Z → Option (List cq_Z)} (N : cq_NX m h0 ρ0 n0 Fin nx) : cq_NX m h0 ρ0 n0 Fin (cq_nxr nx) := by
  intro Z out ρ ls st h fs d a hn q H hd K
  unfold cq_nxr at q
  split at q
  · rename_i out' hq
    have q := Option.some.inj q
    subst q
    refine N Z out' ρ ls st h fs d a hn hq H hd fun Z' hZ' ρ1 ls1 st1 h1 fs1 d1 a1 n1 R1 d2 => ?_
    have k := K (cq_rfZ Z') (List.mem_map_of_mem hZ') ρ1 ls1 st1 h1 fs1 d1 a1
    obtain ⟨y, pc, als, ast, fr, db, S⟩ := Z'
    refine k (by rw [show (cq_rfZ (y, pc, als, ast, fr, db, S)).2.2.2.2.2.2.n = S.n from cq_rfS_n S]; exact n1) (fun ρ' a' => ?_) d2
    have a' : cq_ag (cq_rfS S).n ρ' ρ1 := a'
    rw [cq_rfS_n] at a'
    obtain ⟨r1, r2, r3, r4⟩ := R1 ρ' a'
    exact ⟨cq_rfS_ok r1, r2, r3, r4⟩
  · cases q
/-- steps by contracts -/
theorem cq_NX_of {c : cq_Ct} {cts : Nat → Option cq_Ct} {h : am_H} {ρ : Nat → Int} (wf : cq_wfC c = true) (HT : cq_TK c.2.2.2.1 h cts) : cq_NX c.2.2.2.1 h ρ c.2.2.1.n (cq_Fin c h ρ) (cq_nx c.2.2.2.1 (cq_ckx c) (cq_cl0 c.2.2.2.1 (cq_ckx c) cts)) := fun _ _ _ _ _ _ _ _ a hn hq H hd K => cq_nx_ok (cq_HE_ok wf) (cq_HC_ok wf HT) a hn hq H hd K
theorem cq_Inv0 {c : cq_Ct} {h : am_H} {ρ : Nat → Int} (wf : cq_wfC c = true) (M : cq_Md c.2.2.2.1 h ρ c.2.2.1 h) : cq_Inv none h := by
  have w1 := (Bool.and_eq_true _ _ ▸ wf)
  have w0 := (Bool.and_eq_true _ _ ▸ w1.1)
  have w2 := (Bool.and_eq_true _ _ ▸ w0.1)
  have x1 := (Bool.and_eq_true _ _ ▸ w2.1)
  have eU : c.2.2.1.U = none := Option.isNone_iff_eq_none.1 x1.2
  have I := M.I
  rw [eU] at I
  exact I
theorem cq_methR {y f : Nat} {c : cq_Ct} {cts : Nat → Option cq_Ct} {lps : Nat → Option (Option (Nat × Nat) × cq_Lp)} (HT : ∀ h, cq_Inv none h → cq_TK c.2.2.2.1 h cts) (wf : cq_wfC c = true) (q0 : (cq_no0 c.2.1 && c.2.1.all (cq_sma c.2.2.1.n)) = true) (q : cq_exec (cq_nxr (cq_nx c.2.2.2.1 (cq_ckx c) (cq_cl0 c.2.2.2.1 (cq_ckx c) cts))) lps y f [] (y, 0, cq_ent0 c.2.1 (am_in y).2.2.1, [], [], c.1, c.2.2.1) = true) : cq_CT y c := cq_methN wf q0 (fun _ _ _ M _ => cq_nxr_ok (cq_NX_of wf (HT _ (cq_Inv0 wf M)))) q
end
section
/-! CONTRACTS: 14 16 17 21 26 25 30 28 32 27 33 19 18 34 35 38 -/
def ct_14 : cq_Ct := (1, [(5, (0, []), 40), (1, (0, [(0, 1)]), 0), (1, (0, [(1, 1)]), 0), (1, (0, [(2, 1)]), 0), (1, (0, [(3, 1)]), 0), (1, (0, [(4, 1)]), 0)], cq_mk 5 ([(0, (-2147483648), 2147483647), (1, (-2147483648), 2147483647), (2, (-2147483648), 2147483647), (3, (-2147483648), 2147483647), (4, (-2147483648), 2147483647)], []) [] [] [] [] [] [] none 0 0, [(false, 41, 2, 0), (false, 42, 0, 0)], [(false, [(1, (0, [(5, 1)]), 0)], cq_mk 6 ([(5, (-3), 1600)], []) [] [] [] [] [] [] none 0 0)])
theorem wf_14 : cq_wfC ct_14 = true := by decide +kernel
def lp_14 (pc : Nat) : Option (Option (Nat × Nat) × cq_Lp) := none
theorem ok_14 : cq_CT 14 ct_14 := cq_meth (f := 100000) (cts := cq_t0) (lps := lp_14) cq_t0_ok wf_14 (by decide +kernel) (by decide +kernel)
def ct_16 : cq_Ct := (0, [(5, (0, []), 40), (1, (0, [(0, 1)]), 0)], cq_mk 1 ([(0, (-2147483648), 2147483647)], []) [] [] [] [] [] [] none 0 0, [(false, 41, 2, 0)], [(false, [(1, (0, [(1, 1)]), 0)], cq_mk 2 ([(1, (-1), 1600)], []) [] [] [] [] [] [] none 0 0)])
theorem wf_16 : cq_wfC ct_16 = true := by decide +kernel
def lp_16 (pc : Nat) : Option (Option (Nat × Nat) × cq_Lp) := none
theorem ok_16 : cq_CT 16 ct_16 := cq_meth (f := 100000) (cts := cq_t0) (lps := lp_16) cq_t0_ok wf_16 (by decide +kernel) (by decide +kernel)
def ct_17 : cq_Ct := (0, [(5, (0, []), 40), (1, (0, [(0, 1)]), 0)], cq_mk 1 ([(0, (-2147483648), 2147483647)], []) [] [] [] [] [] [] none 0 0, [(false, 40, 10, 0)], [(false, [(1, (0, [(1, 1)]), 0)], cq_mk 2 ([(1, (-2), 39997)], []) [] [] [] [] [] [] none 0 0)])
theorem wf_17 : cq_wfC ct_17 = true := by decide +kernel
def lp_17 (pc : Nat) : Option (Option (Nat × Nat) × cq_Lp) := none
theorem ok_17 : cq_CT 17 ct_17 := cq_meth (f := 100000) (cts := cq_t0) (lps := lp_17) cq_t0_ok wf_17 (by decide +kernel) (by decide +kernel)
def ct_21 : cq_Ct := (1, [(5, (0, []), 41)], cq_mk 0 ([], []) [] [] [] [] [] [] none 0 0, [(false, 41, 3, 0), (false, 41, 6, 0), (false, 41, 7, 0)], [(false, [], cq_mk 0 ([], []) [] [] [] [] [] [] none 0 0)])
theorem wf_21 : cq_wfC ct_21 = true := by decide +kernel
def lp_21 (pc : Nat) : Option (Option (Nat × Nat) × cq_Lp) := bif Nat.beq pc 0 then some (none, ([(1, 41, 6, 0, 1600)], [], [(false, 41, 7, 0)], [(0, [(0, 1), (1, (-1))])], (0, true), [])) else bif Nat.beq pc 81 then some (none, ([(1, 41, 6, 0, 1600)], [], [(false, 41, 7, 0)], [(0, [(0, 1), (1, (-1))])], (0, true), [])) else bif Nat.beq pc 153 then some (none, ([(1, 41, 6, 0, 1600)], [], [(false, 41, 7, 0)], [(0, [(0, 1), (1, (-1))])], (0, true), [])) else none
theorem ok_21 : cq_CT 21 ct_21 := cq_meth (f := 100000) (cts := cq_t0) (lps := lp_21) cq_t0_ok wf_21 (by decide +kernel) (by decide +kernel)
def ct_26 : cq_Ct := (5, [(5, (0, []), 41), (6, (0, []), 0)], cq_mk 1 ([], []) [(0, true)] [(0, (2, 0, 0))] [] [] [] [] none 0 0, [], [(false, [(1, (0, [(1, 1)]), 0)], cq_mk 2 ([(1, 0, 1)], []) [] [] [] [] [] [] none 0 0)])
theorem wf_26 : cq_wfC ct_26 = true := by decide +kernel
def lp_26 (pc : Nat) : Option (Option (Nat × Nat) × cq_Lp) := bif Nat.beq pc 28 then some (none, ([(0, 2, 0, 0, 1600)], [], [], [(0, [(0, 1), (1, (-1))])], (0, true), [])) else none
theorem ok_26 : cq_CT 26 ct_26 := cq_meth (f := 100000) (cts := cq_t0) (lps := lp_26) cq_t0_ok wf_26 (by decide +kernel) (by decide +kernel)
def ct_25 : cq_Ct := (6, [(5, (0, []), 41)], cq_mk 0 ([], []) [] [] [] [] [] [] none 0 0, [], [(false, [(1, (0, [(0, 1)]), 0)], cq_mk 1 ([(0, (-1), 7)], []) [] [] [] [] [] [] none 0 0)])
theorem wf_25 : cq_wfC ct_25 = true := by decide +kernel
def lp_25 (pc : Nat) : Option (Option (Nat × Nat) × cq_Lp) := none
theorem ok_25 : cq_CT 25 ct_25 := cq_meth (f := 100000) (cts := (cq_tc 26 ct_26 cq_t0)) (lps := lp_25) (cq_tc_ok wf_26 ok_26 cq_t0_ok) wf_25 (by decide +kernel) (by decide +kernel)
def ct_30 : cq_Ct := (0, [(5, (0, []), 41)], cq_mk 0 ([], []) [] [] [] [] [] [] none 0 0, [], [(false, [(1, (0, [(0, 1)]), 0)], cq_mk 1 ([(0, (-2147483648), 2147483647)], []) [] [] [] [] [] [] none 0 0)])
theorem wf_30 : cq_wfC ct_30 = true := by decide +kernel
def lp_30 (pc : Nat) : Option (Option (Nat × Nat) × cq_Lp) := bif Nat.beq pc 7 then some (none, ([(0, 1, 0, (-2147483648), 2147483647), (0, 2, 0, 0, 1600)], [], [], [(0, [(2, 1), (3, (-1))])], (1, true), [])) else none
theorem ok_30 : cq_CT 30 ct_30 := cq_meth (f := 100000) (cts := cq_t0) (lps := lp_30) cq_t0_ok wf_30 (by decide +kernel) (by decide +kernel)
def ct_28 : cq_Ct := (2, [(5, (0, []), 41), (1, (0, [(0, 1)]), 0), (1, (0, [(1, 1)]), 0)], cq_mk 2 ([(0, (-2147483648), 2147483647), (1, (-2147483648), 2147483647)], []) [] [] [] [] [] [] none 0 0, [(false, 41, 3, 0), (false, 41, 4, 0), (false, 41, 5, 0), (false, 41, 6, 0), (false, 41, 7, 0)], [(false, [(1, (0, [(2, 1)]), 0)], cq_mk 3 ([(2, 0, 1)], []) [] [] [] [] [] [] none 0 0)])
theorem wf_28 : cq_wfC ct_28 = true := by decide +kernel
def lp_28 (pc : Nat) : Option (Option (Nat × Nat) × cq_Lp) := none
theorem ok_28 : cq_CT 28 ct_28 := cq_meth (f := 100000) (cts := (cq_tc 21 ct_21 (cq_tc 30 ct_30 cq_t0))) (lps := lp_28) (cq_tc_ok wf_21 ok_21 (cq_tc_ok wf_30 ok_30 cq_t0_ok)) wf_28 (by decide +kernel) (by decide +kernel)
def ct_32 : cq_Ct := (2, [(5, (0, []), 41)], cq_mk 0 ([], []) [] [] [] [] [] [] none 0 0, [(false, 41, 3, 0), (false, 41, 4, 0), (false, 41, 5, 0), (false, 41, 6, 0), (false, 41, 7, 0)], [(false, [(1, (0, [(0, 1)]), 0)], cq_mk 1 ([(0, 0, 1)], []) [] [] [] [] [] [] none 0 0)])
theorem wf_32 : cq_wfC ct_32 = true := by decide +kernel
def lp_32 (pc : Nat) : Option (Option (Nat × Nat) × cq_Lp) := none
theorem ok_32 : cq_CT 32 ct_32 := cq_meth (f := 100000) (cts := (cq_tc 21 ct_21 cq_t0)) (lps := lp_32) (cq_tc_ok wf_21 ok_21 cq_t0_ok) wf_32 (by decide +kernel) (by decide +kernel)
def ct_27 : cq_Ct := (3, [(5, (0, []), 43), (5, (0, []), 41)], cq_mk 0 ([], []) [] [] [] [] [] [] none 0 0, [(false, 41, 3, 0), (false, 41, 4, 0), (false, 41, 5, 0), (false, 41, 6, 0), (false, 41, 7, 0), (false, 43, 6, 0), (false, 47, 0, 0)], [(false, [(1, (0, [(0, 1)]), 0)], cq_mk 1 ([(0, 0, 1)], []) [] [] [] [] [] [] none 0 0)])
theorem wf_27 : cq_wfC ct_27 = true := by decide +kernel
def lp_27 (pc : Nat) : Option (Option (Nat × Nat) × cq_Lp) := none
theorem ok_27 : cq_CT 27 ct_27 := cq_meth (f := 100000) (cts := (cq_tc 28 ct_28 (cq_tc 30 ct_30 (cq_tc 32 ct_32 cq_t0)))) (lps := lp_27) (cq_tc_ok wf_28 ok_28 (cq_tc_ok wf_30 ok_30 (cq_tc_ok wf_32 ok_32 cq_t0_ok))) wf_27 (by decide +kernel) (by decide +kernel)
def ct_33 : cq_Ct := (3, [(5, (0, []), 43), (1, (0, [(0, 1)]), 0), (5, (0, []), 41)], cq_mk 1 ([(0, (-2147483648), 2147483647)], []) [] [] [] [] [] [] none 0 0, [(false, 41, 3, 0), (false, 41, 4, 0), (false, 41, 5, 0), (false, 41, 6, 0), (false, 41, 7, 0), (false, 43, 5, 0), (false, 46, 0, 0)], [(false, [(1, (0, [(1, 1)]), 0)], cq_mk 2 ([(1, 0, 1)], []) [] [] [] [] [] [] none 0 0)])
theorem wf_33 : cq_wfC ct_33 = true := by decide +kernel
def lp_33 (pc : Nat) : Option (Option (Nat × Nat) × cq_Lp) := none
theorem ok_33 : cq_CT 33 ct_33 := cq_meth (f := 100000) (cts := (cq_tc 28 ct_28 (cq_tc 30 ct_30 (cq_tc 32 ct_32 cq_t0)))) (lps := lp_33) (cq_tc_ok wf_28 ok_28 (cq_tc_ok wf_30 ok_30 (cq_tc_ok wf_32 ok_32 cq_t0_ok))) wf_33 (by decide +kernel) (by decide +kernel)
def ct_19 : cq_Ct := (7, [(5, (0, []), 43), (5, (0, []), 41)], cq_mk 0 ([], []) [] [] [] [] [] [] none 0 0, [(false, 41, 3, 0), (false, 41, 4, 0), (false, 41, 5, 0), (false, 41, 6, 0), (false, 41, 7, 0), (false, 43, 5, 0), (false, 43, 6, 0), (false, 44, 0, 0), (false, 45, 0, 0), (false, 46, 0, 0), (false, 47, 0, 0)], [(false, [(1, (0, [(0, 1)]), 0)], cq_mk 1 ([(0, (-1), 13)], []) [] [] [] [] [] [] none 0 0)])
theorem wf_19 : cq_wfC ct_19 = true := by decide +kernel
def lp_19 (pc : Nat) : Option (Option (Nat × Nat) × cq_Lp) := bif Nat.beq pc 10 then some (none, ([(1, 41, 2, (-2147483648), 2147483647), (1, 41, 3, (-2147483648), 2147483647), (1, 41, 4, (-2147483648), 2147483647), (1, 41, 5, 0, 1600), (1, 41, 6, 0, 1600), (1, 43, 4, (-2147483648), 2147483647), (1, 43, 5, (-2147483648), 2147483647), (0, 2, 0, 0, 14)], [3, 4], [(false, 41, 3, 0), (false, 41, 4, 0), (false, 41, 5, 0), (false, 41, 6, 0), (false, 41, 7, 0), (false, 43, 5, 0), (false, 43, 6, 0), (false, 46, 0, 0), (false, 47, 0, 0)], [(0, [(8, 1), (9, (-1))]), (0, [(14, 1), (15, (-1))])], (7, true), [])) else none
theorem ok_19 : cq_CT 19 ct_19 := cq_meth (f := 100000) (cts := (cq_tc 21 ct_21 (cq_tc 25 ct_25 (cq_tc 27 ct_27 (cq_tc 33 ct_33 cq_t0))))) (lps := lp_19) (cq_tc_ok wf_21 ok_21 (cq_tc_ok wf_25 ok_25 (cq_tc_ok wf_27 ok_27 (cq_tc_ok wf_33 ok_33 cq_t0_ok)))) wf_19 (by decide +kernel) (by decide +kernel)
def ct_18 : cq_Ct := (8, [(5, (0, []), 40)], cq_mk 0 ([], []) [] [] [] [] [] [] none 0 0, [(false, 41, 2, 0), (false, 41, 3, 0), (false, 41, 4, 0), (false, 41, 5, 0), (false, 41, 6, 0), (false, 41, 7, 0), (false, 43, 5, 0), (false, 43, 6, 0), (false, 44, 0, 0), (false, 45, 0, 0), (false, 46, 0, 0), (false, 47, 0, 0)], [(false, [(1, (0, [(0, 1)]), 0)], cq_mk 1 ([(0, (-1), 13)], []) [] [] [] [] [] [] none 0 0)])
theorem wf_18 : cq_wfC ct_18 = true := by decide +kernel
def lp_18 (pc : Nat) : Option (Option (Nat × Nat) × cq_Lp) := none
theorem ok_18 : cq_CT 18 ct_18 := cq_meth (f := 100000) (cts := (cq_tc 19 ct_19 cq_t0)) (lps := lp_18) (cq_tc_ok wf_19 ok_19 cq_t0_ok) wf_18 (by decide +kernel) (by decide +kernel)
def ct_34 : cq_Ct := (0, [(5, (0, []), 40), (1, (0, [(0, 1)]), 0)], cq_mk 1 ([(0, (-2147483648), 2147483647)], []) [] [] [] [] [] [] none 0 0, [], [(false, [(1, (0, [(1, 1)]), 0)], cq_mk 2 ([(1, (-2147483648), 2147483647)], []) [] [] [] [] [] [] none 0 0)])
theorem wf_34 : cq_wfC ct_34 = true := by decide +kernel
def lp_34 (pc : Nat) : Option (Option (Nat × Nat) × cq_Lp) := none
theorem ok_34 : cq_CT 34 ct_34 := cq_meth (f := 100000) (cts := cq_t0) (lps := lp_34) cq_t0_ok wf_34 (by decide +kernel) (by decide +kernel)
def ct_35 : cq_Ct := (1, [(5, (0, []), 40), (1, (0, [(0, 1)]), 0)], cq_mk 1 ([(0, (-2147483648), 2147483647)], []) [] [] [] [] [] [] none 0 0, [], [(false, [(1, (0, [(1, 1)]), 0)], cq_mk 2 ([(1, (-2147483648), 2147483647)], []) [] [] [] [] [] [] none 0 0)])
theorem wf_35 : cq_wfC ct_35 = true := by decide +kernel
def lp_35 (pc : Nat) : Option (Option (Nat × Nat) × cq_Lp) := none
theorem ok_35 : cq_CT 35 ct_35 := cq_meth (f := 100000) (cts := cq_t0) (lps := lp_35) cq_t0_ok wf_35 (by decide +kernel) (by decide +kernel)
def ct_38 : cq_Ct := (2, [(5, (0, []), 40), (1, (0, [(0, 1)]), 0), (1, (0, [(1, 1)]), 0), (1, (0, [(2, 1)]), 0), (1, (0, [(3, 1)]), 0)], cq_mk 4 ([(0, (-2147483648), 2147483647), (1, (-2147483648), 2147483647), (2, (-2147483648), 2147483647), (3, (-2147483648), 2147483647)], []) [] [] [] [] [] [] none 0 0, [(false, 40, 9, 0), (false, 73, 0, 0), (true, 0, 6, 1), (true, 0, 6, 2), (true, 0, 6, 3), (true, 0, 6, 4), (true, 1, 0, 0)], [(false, [(1, (0, [(4, 1)]), 0)], cq_mk 5 ([(4, (-3), 39)], []) [] [] [] [] [] [] none 3 15)])
theorem wf_38 : cq_wfC ct_38 = true := by decide +kernel
def lp_38 (pc : Nat) : Option (Option (Nat × Nat) × cq_Lp) := none
theorem ok_38 : cq_CT 38 ct_38 := cq_meth (f := 100000) (cts := cq_t0) (lps := lp_38) cq_t0_ok wf_38 (by decide +kernel) (by decide +kernel)
end
section
/-! CONTRACTS: 41 46 45 44 49 48 47 43 60 61 58 54 64 63 51 -/
def ct_41 : cq_Ct := (1, [(5, (0, []), 40), (1, (0, [(0, 1)]), 0), (1, (0, [(1, 1)]), 0), (1, (0, [(2, 1)]), 0)], cq_mk 3 ([(0, (-2147483648), 2147483647), (1, (-2147483648), 2147483647), (2, (-2147483648), 2147483647)], []) [] [] [] [] [] [] none 0 0, [(true, 0, 6, 5), (true, 0, 6, 6)], [(false, [(1, (0, [(3, 1)]), 0)], cq_mk 4 ([(3, (-4), 1)], []) [] [] [] [] [] [] none 0 0)])
theorem wf_41 : cq_wfC ct_41 = true := by decide +kernel
def lp_41 (pc : Nat) : Option (Option (Nat × Nat) × cq_Lp) := none
theorem ok_41 : cq_CT 41 ct_41 := cq_meth (f := 100000) (cts := cq_t0) (lps := lp_41) cq_t0_ok wf_41 (by decide +kernel) (by decide +kernel)
def ct_46 : cq_Ct := (0, [(5, (0, []), 41)], cq_mk 0 ([], []) [] [] [] [] [] [] none 0 0, [], [(false, [(2, (0, [(0, 1)]), 0)], cq_mk 1 ([], []) [] [] [] [] [] [] none 0 0)])
theorem wf_46 : cq_wfC ct_46 = true := by decide +kernel
def lp_46 (pc : Nat) : Option (Option (Nat × Nat) × cq_Lp) := bif Nat.beq pc 4 then some (none, ([(0, 3, 0, 0, 12), (2, 1, 0, 0, 0)], [2, 4], [], [(0, [(0, 1), (1, (-1))])], (0, true), [])) else none
theorem ok_46 : cq_CT 46 ct_46 := cq_meth (f := 100000) (cts := cq_t0) (lps := lp_46) cq_t0_ok wf_46 (by decide +kernel) (by decide +kernel)
def ct_45 : cq_Ct := (2, [(5, (0, []), 54), (5, (0, []), 41)], cq_mk 0 ([], []) [] [] [] [] [] [] none 0 0, [(false, 41, 3, 0), (false, 41, 4, 0), (false, 41, 5, 0), (false, 41, 6, 0), (false, 41, 7, 0), (false, 54, 4, 0), (false, 54, 5, 0), (false, 55, 0, 0), (false, 56, 0, 0)], [(false, [(1, (0, [(0, 1)]), 0)], cq_mk 1 ([(0, 0, 1)], []) [] [] [] [] [] [] none 0 0)])
theorem wf_45 : cq_wfC ct_45 = true := by decide +kernel
def lp_45 (pc : Nat) : Option (Option (Nat × Nat) × cq_Lp) := bif Nat.beq pc 55 then some (none, ([(1, 41, 2, (-2147483648), 2147483647), (1, 41, 5, 0, 1600), (1, 41, 6, 0, 1600), (0, 2, 0, 0, 240), (0, 3, 0, 0, 8)], [], [(false, 41, 3, 0), (false, 41, 6, 0), (false, 41, 7, 0), (false, 55, 0, 0)], [(0, [(6, 1), (7, (-1))]), (0, [(8, 1), (9, (-1))])], (3, true), [])) else none
theorem ok_45 : cq_CT 45 ct_45 := cq_meth (f := 100000) (cts := (cq_tc 21 ct_21 (cq_tc 46 ct_46 cq_t0))) (lps := lp_45) (cq_tc_ok wf_21 ok_21 (cq_tc_ok wf_46 ok_46 cq_t0_ok)) wf_45 (by decide +kernel) (by decide +kernel)
def ct_44 : cq_Ct := (3, [(5, (0, []), 54), (5, (0, []), 41)], cq_mk 0 ([], []) [] [] [] [] [] [] none 0 0, [(false, 41, 3, 0), (false, 41, 4, 0), (false, 41, 5, 0), (false, 41, 6, 0), (false, 41, 7, 0), (false, 54, 4, 0), (false, 54, 5, 0), (false, 54, 6, 0), (false, 55, 0, 0), (false, 56, 0, 0)], [(false, [(1, (0, [(0, 1)]), 0)], cq_mk 1 ([(0, 0, 1)], []) [] [] [] [] [] [] none 0 0)])
theorem wf_44 : cq_wfC ct_44 = true := by decide +kernel
def lp_44 (pc : Nat) : Option (Option (Nat × Nat) × cq_Lp) := bif Nat.beq pc 21 then some (none, ([(1, 41, 2, (-2147483648), 2147483647), (1, 41, 3, (-2147483648), 2147483647), (1, 41, 4, (-2147483648), 2147483647), (1, 41, 5, 0, 1600), (1, 41, 6, 0, 1600), (1, 54, 3, 0, 30), (1, 54, 4, (-2147483648), 2147483647), (1, 54, 5, (-2147483648), 2147483647), (0, 2, 0, 0, 31)], [], [(false, 41, 3, 0), (false, 41, 4, 0), (false, 41, 5, 0), (false, 41, 6, 0), (false, 41, 7, 0), (false, 54, 4, 0), (false, 54, 5, 0), (false, 54, 6, 0), (false, 55, 0, 0), (false, 56, 0, 0)], [(0, [(8, 1), (9, (-1))]), (0, [(10, 1), (11, (-1))]), (0, [(16, 1), (17, (-1))])], (8, true), [])) else none
theorem ok_44 : cq_CT 44 ct_44 := cq_meth (f := 100000) (cts := (cq_tc 21 ct_21 (cq_tc 45 ct_45 cq_t0))) (lps := lp_44) (cq_tc_ok wf_21 ok_21 (cq_tc_ok wf_45 ok_45 cq_t0_ok)) wf_44 (by decide +kernel) (by decide +kernel)
def ct_49 : cq_Ct := (0, [(6, (0, []), 0), (1, (0, [(1, 1)]), 0)], cq_mk 2 ([(1, (-2147483648), 2147483647)], []) [(0, true)] [(0, (0, 3, 0))] [] [] [] [] none 0 0, [], [(false, [(1, (0, [(2, 1)]), 0)], cq_mk 3 ([(2, (-2147483648), 2147483647)], []) [] [] [] [] [] [] none 0 0)])
theorem wf_49 : cq_wfC ct_49 = true := by decide +kernel
def lp_49 (pc : Nat) : Option (Option (Nat × Nat) × cq_Lp) := none
theorem ok_49 : cq_CT 49 ct_49 := cq_meth (f := 100000) (cts := cq_t0) (lps := lp_49) cq_t0_ok wf_49 (by decide +kernel) (by decide +kernel)
def ct_48 : cq_Ct := (1, [(6, (0, []), 0)], cq_mk 1 ([], []) [(0, true)] [(0, (0, 3, 0))] [] [] [] [] none 0 0, [], [(false, [(1, (0, [(1, 1)]), 0)], cq_mk 2 ([(1, (-2147483648), 2147483647)], []) [] [] [] [] [] [] none 0 0)])
theorem wf_48 : cq_wfC ct_48 = true := by decide +kernel
def lp_48 (pc : Nat) : Option (Option (Nat × Nat) × cq_Lp) := none
theorem ok_48 : cq_CT 48 ct_48 := cq_meth (f := 100000) (cts := (cq_tc 49 ct_49 cq_t0)) (lps := lp_48) (cq_tc_ok wf_49 ok_49 cq_t0_ok) wf_48 (by decide +kernel) (by decide +kernel)
def ct_47 : cq_Ct := (2, [(5, (0, []), 54)], cq_mk 0 ([], []) [] [] [] [] [] [] none 0 0, [(true, 0, 3, 4), (true, 0, 3, 5), (true, 0, 3, 6), (true, 1, 0, 0), (true, 1, 3, 0)], [(false, [(6, (0, []), 0)], cq_mk 1 ([], []) [(0, true)] [(0, (0, 3, 0))] [] [] [] [] none 4 311)])
theorem wf_47 : cq_wfC ct_47 = true := by decide +kernel
def lp_47 (pc : Nat) : Option (Option (Nat × Nat) × cq_Lp) := bif Nat.beq pc 20 then some (none, ([(0, 3, 0, 0, 240)], [], [(true, 1, 3, 0)], [(0, [(0, 1), (1, (-1))])], (0, true), [])) else bif Nat.beq pc 54 then some (none, ([(0, 3, 0, 0, 31)], [], [(true, 1, 0, 0)], [(0, [(0, 1), (1, (-1))])], (0, true), [])) else none
theorem ok_47 : cq_CT 47 ct_47 := cq_meth (f := 100000) (cts := cq_t0) (lps := lp_47) cq_t0_ok wf_47 (by decide +kernel) (by decide +kernel)
def ct_43 : cq_Ct := (4, [(5, (0, []), 40), (1, (0, [(0, 1)]), 0)], cq_mk 1 ([(0, (-2147483648), 2147483647)], []) [] [] [] [] [] [] none 0 0, [(false, 41, 2, 0), (false, 41, 3, 0), (false, 41, 4, 0), (false, 41, 5, 0), (false, 41, 6, 0), (false, 41, 7, 0), (false, 54, 4, 0), (false, 54, 5, 0), (false, 54, 6, 0), (false, 55, 0, 0), (false, 56, 0, 0), (true, 0, 3, 4), (true, 0, 3, 5), (true, 0, 3, 6), (true, 0, 6, 7), (true, 1, 0, 0), (true, 1, 3, 0), (true, 1, 7, 0)], [(false, [(1, (0, [(1, 1)]), 0)], cq_mk 2 ([(1, (-3), 2)], []) [] [] [] [] [] [] none 4 311)])
theorem wf_43 : cq_wfC ct_43 = true := by decide +kernel
def lp_43 (pc : Nat) : Option (Option (Nat × Nat) × cq_Lp) := none
theorem ok_43 : cq_CT 43 ct_43 := cq_meth (f := 100000) (cts := (cq_tc 44 ct_44 (cq_tc 47 ct_47 cq_t0))) (lps := lp_43) (cq_tc_ok wf_44 ok_44 (cq_tc_ok wf_47 ok_47 cq_t0_ok)) wf_43 (by decide +kernel) (by decide +kernel)
def ct_60 : cq_Ct := (1, [(6, (0, []), 0), (1, (0, [(1, 1)]), 0)], cq_mk 2 ([(1, (-2147483648), 2147483647)], []) [(0, true)] [(0, (0, 3, 0))] [] [] [] [] none 0 0, [], [(false, [(1, (0, [(2, 1)]), 0)], cq_mk 3 ([(2, 0, 1)], []) [] [] [] [] [] [] none 0 0)])
theorem wf_60 : cq_wfC ct_60 = true := by decide +kernel
def lp_60 (pc : Nat) : Option (Option (Nat × Nat) × cq_Lp) := none
theorem ok_60 : cq_CT 60 ct_60 := cq_meth (f := 100000) (cts := cq_t0) (lps := lp_60) cq_t0_ok wf_60 (by decide +kernel) (by decide +kernel)
def ct_61 : cq_Ct := (0, [(5, (0, []), 53), (1, (0, [(0, 1)]), 0), (1, (0, [(1, 1)]), 0), (1, (0, [(2, 1)]), 0)], cq_mk 3 ([(0, 0, 28), (1, 0, 28), (2, (-2147483648), 2147483647)], [(0, [(0, (-1)), (1, 1)])]) [] [] [] [] [] [] none 0 0, [(false, 58, 0, 0), (false, 59, 0, 0), (false, 60, 0, 0)], [(false, [], cq_mk 3 ([], []) [] [] [] [] [] [] none 0 0)])
theorem wf_61 : cq_wfC ct_61 = true := by decide +kernel
def lp_61 (pc : Nat) : Option (Option (Nat × Nat) × cq_Lp) := none
theorem ok_61 : cq_CT 61 ct_61 := cq_meth (f := 100000) (cts := cq_t0) (lps := lp_61) cq_t0_ok wf_61 (by decide +kernel) (by decide +kernel)
def ct_58 : cq_Ct := (2, [(5, (0, []), 53), (6, (0, []), 0), (1, (0, [(1, 1)]), 0), (1, (0, [(2, 1)]), 0)], cq_mk 3 ([(1, 0, 29), (2, (-2147483648), 2147483647)], []) [(0, true)] [(0, (0, 3, 0))] [] [] [] [] none 0 0, [(false, 58, 0, 0), (false, 59, 0, 0), (false, 60, 0, 0)], [(false, [], cq_mk 3 ([], []) [] [] [] [] [] [] none 0 0)])
theorem wf_58 : cq_wfC ct_58 = true := by decide +kernel
def lp_58 (pc : Nat) : Option (Option (Nat × Nat) × cq_Lp) := bif Nat.beq pc 39 then some (none, ([(0, 5, 0, (-2147483648), 2147483647), (0, 6, 0, 0, 30)], [], [(false, 58, 0, 0), (false, 59, 0, 0), (false, 60, 0, 0)], [(0, [(2, 1), (3, (-1))])], (1, true), [])) else none
theorem ok_58 : cq_CT 58 ct_58 := cq_meth (f := 100000) (cts := (cq_tc 60 ct_60 (cq_tc 61 ct_61 cq_t0))) (lps := lp_58) (cq_tc_ok wf_60 ok_60 (cq_tc_ok wf_61 ok_61 cq_t0_ok)) wf_58 (by decide +kernel) (by decide +kernel)
def ct_54 : cq_Ct := (3, [(5, (0, []), 53), (6, (0, []), 0), (5, (0, []), 43)], cq_mk 1 ([], []) [(0, true)] [(0, (0, 3, 0))] [] [] [] [] none 0 0, [(false, 58, 0, 0), (false, 59, 0, 0), (false, 60, 0, 0), (true, 0, 3, 10), (true, 0, 3, 7), (true, 0, 3, 8), (true, 0, 3, 9), (true, 1, 0, 0)], [(false, [], cq_mk 1 ([], []) [] [] [] [] [] [] none 0 0)])
theorem wf_54 : cq_wfC ct_54 = true := by decide +kernel
def lp_54 (pc : Nat) : Option (Option (Nat × Nat) × cq_Lp) := bif Nat.beq pc 48 then some (none, ([(0, 6, 0, (-1), 29)], [], [(false, 58, 0, 0), (false, 59, 0, 0), (false, 60, 0, 0)], [(0, [(0, (-1)), (1, 1)])], (0, false), [])) else bif Nat.beq pc 121 then some (none, ([(0, 6, 0, (-2147483648), 2147483647), (0, 7, 0, 0, 30)], [], [(true, 1, 0, 0)], [(0, [(2, 1), (3, (-1))])], (1, true), [])) else none
theorem ok_54 : cq_CT 54 ct_54 := cq_meth (f := 100000) (cts := (cq_tc 58 ct_58 cq_t0)) (lps := lp_54) (cq_tc_ok wf_58 ok_58 cq_t0_ok) wf_54 (by decide +kernel) (by decide +kernel)
def ct_64 : cq_Ct := (0, [(1, (0, [(0, 1)]), 0)], cq_mk 1 ([(0, (-2147483648), 2147483647)], []) [] [] [] [] [] [] none 0 0, [], [(false, [(1, (0, [(1, 1)]), 0)], cq_mk 2 ([(1, 0, 63)], []) [] [] [] [] [] [] none 0 0)])
theorem wf_64 : cq_wfC ct_64 = true := by decide +kernel
def lp_64 (pc : Nat) : Option (Option (Nat × Nat) × cq_Lp) := none
theorem ok_64 : cq_CT 64 ct_64 := cq_meth (f := 100000) (cts := cq_t0) (lps := lp_64) cq_t0_ok wf_64 (by decide +kernel) (by decide +kernel)
def ct_63 : cq_Ct := (1, [(6, (0, []), 0)], cq_mk 1 ([], []) [(0, true)] [(0, (0, 3, 0))] [] [] [] [] none 0 0, [], [(false, [(1, (0, [(1, 1)]), 0)], cq_mk 2 ([(1, 0, 63)], []) [] [] [] [] [] [] none 0 0)])
theorem wf_63 : cq_wfC ct_63 = true := by decide +kernel
def lp_63 (pc : Nat) : Option (Option (Nat × Nat) × cq_Lp) := none
theorem ok_63 : cq_CT 63 ct_63 := cq_meth (f := 100000) (cts := (cq_tc 64 ct_64 cq_t0)) (lps := lp_63) (cq_tc_ok wf_64 ok_64 cq_t0_ok) wf_63 (by decide +kernel) (by decide +kernel)
def ct_51 : cq_Ct := (4, [(5, (0, []), 40), (1, (0, [(0, 1)]), 0), (1, (0, [(1, 1)]), 0), (1, (0, [(2, 1)]), 0)], cq_mk 3 ([(0, (-2147483648), 2147483647), (1, (-2147483648), 2147483647), (2, (-2147483648), 2147483647)], []) [] [] [] [] [] [] none 0 0, [(false, 58, 0, 0), (false, 59, 0, 0), (false, 60, 0, 0), (true, 0, 3, 10), (true, 0, 3, 7), (true, 0, 3, 8), (true, 0, 3, 9), (true, 1, 0, 0)], [(false, [(1, (0, [(3, 1)]), 0)], cq_mk 4 ([(3, (-2147483648), 2147483647)], []) [] [] [] [] [] [] none 0 0)])
theorem wf_51 : cq_wfC ct_51 = true := by decide +kernel
def lp_51 (pc : Nat) : Option (Option (Nat × Nat) × cq_Lp) := none
theorem ok_51 : cq_CT 51 ct_51 := cq_meth (f := 100000) (cts := (cq_tc 48 ct_48 (cq_tc 54 ct_54 (cq_tc 63 ct_63 cq_t0)))) (lps := lp_51) (cq_tc_ok wf_48 ok_48 (cq_tc_ok wf_54 ok_54 (cq_tc_ok wf_63 ok_63 cq_t0_ok))) wf_51 (by decide +kernel) (by decide +kernel)
end
section
/-! CONTRACTS: 65 70 72 71 69 68 67 73 77 80 79 81 82 83 84 78 76 74 88 86 89 91 -/
def ct_65 : cq_Ct := (4, [(5, (0, []), 40), (1, (0, [(0, 1)]), 0), (1, (0, [(1, 1)]), 0), (1, (0, [(2, 1)]), 0)], cq_mk 3 ([(0, (-2147483648), 2147483647), (1, (-2147483648), 2147483647), (2, (-2147483648), 2147483647)], []) [] [] [] [] [] [] none 0 0, [(false, 58, 0, 0), (false, 59, 0, 0), (false, 60, 0, 0), (true, 0, 3, 10), (true, 0, 3, 7), (true, 0, 3, 8), (true, 0, 3, 9), (true, 1, 0, 0)], [(false, [(1, (0, [(3, 1)]), 0)], cq_mk 4 ([(3, (-2147483648), 2147483647)], []) [] [] [] [] [] [] none 0 0)])
theorem wf_65 : cq_wfC ct_65 = true := by decide +kernel
def lp_65 (pc : Nat) : Option (Option (Nat × Nat) × cq_Lp) := none
theorem ok_65 : cq_CT 65 ct_65 := cq_meth (f := 100000) (cts := (cq_tc 54 ct_54 cq_t0)) (lps := lp_65) (cq_tc_ok wf_54 ok_54 cq_t0_ok) wf_65 (by decide +kernel) (by decide +kernel)
def ct_70 : cq_Ct := (1, [(6, (0, []), 0), (1, (0, [(1, 1)]), 0)], cq_mk 2 ([(1, (-2147483648), 2147483647)], []) [(0, true)] [(0, (0, 3, 0))] [] [] [] [] none 0 0, [], [(false, [(1, (0, [(2, 1)]), 0)], cq_mk 3 ([(2, (-2147483648), 2147483647)], []) [] [] [] [] [] [] none 0 0)])
theorem wf_70 : cq_wfC ct_70 = true := by decide +kernel
def lp_70 (pc : Nat) : Option (Option (Nat × Nat) × cq_Lp) := none
theorem ok_70 : cq_CT 70 ct_70 := cq_meth (f := 100000) (cts := (cq_tc 49 ct_49 cq_t0)) (lps := lp_70) (cq_tc_ok wf_49 ok_49 cq_t0_ok) wf_70 (by decide +kernel) (by decide +kernel)
def ct_72 : cq_Ct := (0, [(6, (0, []), 0), (1, (0, [(1, 1)]), 0)], cq_mk 2 ([(1, (-2147483648), 2147483647)], []) [(0, true)] [(0, (0, 3, 0))] [] [] [] [] none 0 0, [], [(false, [(2, (0, [(2, 1)]), 0)], cq_mk 3 ([], []) [] [] [] [] [] [] none 0 0)])
theorem wf_72 : cq_wfC ct_72 = true := by decide +kernel
def lp_72 (pc : Nat) : Option (Option (Nat × Nat) × cq_Lp) := none
theorem ok_72 : cq_CT 72 ct_72 := cq_meth (f := 100000) (cts := cq_t0) (lps := lp_72) cq_t0_ok wf_72 (by decide +kernel) (by decide +kernel)
def ct_71 : cq_Ct := (2, [(5, (0, []), 53), (6, (0, []), 0), (1, (0, [(1, 1)]), 0), (6, (0, []), 2), (1, (0, [(3, 1)]), 0)], cq_mk 4 ([(1, (-2147483648), 2147483647), (3, (-2147483648), 2147483647)], []) [(0, true), (2, true)] [(0, (0, 3, 0)), (2, (0, 3, 0))] [] [] [] [] none 0 0, [(false, 62, 0, 0)], [(false, [(1, (0, [(4, 1)]), 0)], cq_mk 5 ([(4, (-2147483648), 2147483647)], []) [] [] [] [] [] [] none 0 0)])
theorem wf_71 : cq_wfC ct_71 = true := by decide +kernel
def lp_71 (pc : Nat) : Option (Option (Nat × Nat) × cq_Lp) := bif Nat.beq pc 28 then some (none, ([(0, 7, 0, 0, 9)], [], [(false, 62, 0, 0)], [(0, [(0, 1), (1, (-1))])], (0, true), [])) else bif Nat.beq pc 68 then some (none, ([(0, 9, 0, 0, 8)], [10, 11, 12, 13, 14], [(false, 62, 0, 0)], [(0, [(0, 1), (1, (-1))])], (0, true), [])) else bif Nat.beq pc 107 then some (none, ([(0, 12, 0, (-2147483648), 2147483647), (0, 13, 0, 0, 8)], [14], [(false, 62, 0, 0)], [(0, [(2, 1), (3, (-1))])], (1, true), [])) else none
theorem ok_71 : cq_CT 71 ct_71 := cq_meth (f := 100000) (cts := (cq_tc 49 ct_49 (cq_tc 70 ct_70 (cq_tc 72 ct_72 cq_t0)))) (lps := lp_71) (cq_tc_ok wf_49 ok_49 (cq_tc_ok wf_70 ok_70 (cq_tc_ok wf_72 ok_72 cq_t0_ok))) wf_71 (by decide +kernel) (by decide +kernel)
def ct_69 : cq_Ct := (3, [(5, (0, []), 53), (6, (0, []), 0), (6, (0, []), 1)], cq_mk 2 ([], []) [(0, true), (1, true)] [(0, (0, 3, 0)), (1, (0, 3, 0))] [] [] [] [] none 0 0, [(false, 61, 0, 0), (false, 62, 0, 0)], [(false, [(1, (0, [(2, 1)]), 0)], cq_mk 3 ([(2, (-2147483648), 2147483647)], []) [] [] [] [] [] [] none 0 0)])
theorem wf_69 : cq_wfC ct_69 = true := by decide +kernel
def lp_69 (pc : Nat) : Option (Option (Nat × Nat) × cq_Lp) := bif Nat.beq pc 31 then some (none, ([(0, 5, 0, 0, 30)], [], [(false, 61, 0, 0)], [(0, [(0, 1), (1, (-1))])], (0, true), [])) else bif Nat.beq pc 70 then some (none, ([(0, 5, 0, 0, 30)], [6, 7, 8, 9, 10], [(false, 61, 0, 0)], [(0, [(0, 1), (1, (-1))])], (0, true), [])) else bif Nat.beq pc 106 then some (none, ([(0, 7, 0, (-2147483648), 2147483647), (0, 8, 0, 0, 30)], [9, 10], [(false, 61, 0, 0), (false, 62, 0, 0)], [(0, [(2, 1), (3, (-1))])], (1, true), [])) else none
theorem ok_69 : cq_CT 69 ct_69 := cq_meth (f := 100000) (cts := (cq_tc 70 ct_70 (cq_tc 71 ct_71 cq_t0))) (lps := lp_69) (cq_tc_ok wf_70 ok_70 (cq_tc_ok wf_71 ok_71 cq_t0_ok)) wf_69 (by decide +kernel) (by decide +kernel)
def ct_68 : cq_Ct := (4, [(6, (0, []), 0), (1, (0, [(1, 1)]), 0), (1, (0, [(2, 1)]), 0), (5, (0, []), 53)], cq_mk 3 ([(1, (-2147483648), 2147483647), (2, (-2147483648), 2147483647)], []) [(0, true)] [(0, (0, 6, 0))] [] [] [] [] none 0 0, [(false, 61, 0, 0), (false, 62, 0, 0), (true, 1, 0, 0)], [(false, [(1, (0, [(3, 1)]), 0)], cq_mk 4 ([(3, (-2147483648), 2147483647)], []) [] [] [] [] [] [] none 0 0)])
theorem wf_68 : cq_wfC ct_68 = true := by decide +kernel
def lp_68 (pc : Nat) : Option (Option (Nat × Nat) × cq_Lp) := none
theorem ok_68 : cq_CT 68 ct_68 := cq_meth (f := 100000) (cts := (cq_tc 69 ct_69 cq_t0)) (lps := lp_68) (cq_tc_ok wf_69 ok_69 cq_t0_ok) wf_68 (by decide +kernel) (by decide +kernel)
def ct_67 : cq_Ct := (5, [(5, (0, []), 40), (1, (0, [(0, 1)]), 0), (1, (0, [(1, 1)]), 0), (1, (0, [(2, 1)]), 0)], cq_mk 3 ([(0, (-2147483648), 2147483647), (1, (-2147483648), 2147483647), (2, (-2147483648), 2147483647)], []) [] [] [] [] [] [] none 0 0, [(false, 61, 0, 0), (false, 62, 0, 0), (true, 1, 0, 0)], [(false, [(1, (0, [(3, 1)]), 0)], cq_mk 4 ([(3, (-2147483648), 2147483647)], []) [] [] [] [] [] [] none 0 0)])
theorem wf_67 : cq_wfC ct_67 = true := by decide +kernel
def lp_67 (pc : Nat) : Option (Option (Nat × Nat) × cq_Lp) := none
theorem ok_67 : cq_CT 67 ct_67 := cq_meth (f := 100000) (cts := (cq_tc 68 ct_68 cq_t0)) (lps := lp_67) (cq_tc_ok wf_68 ok_68 cq_t0_ok) wf_67 (by decide +kernel) (by decide +kernel)
def ct_73 : cq_Ct := (5, [(5, (0, []), 40), (1, (0, [(0, 1)]), 0), (1, (0, [(1, 1)]), 0)], cq_mk 2 ([(0, (-2147483648), 2147483647), (1, (-2147483648), 2147483647)], []) [] [] [] [] [] [] none 0 0, [(false, 61, 0, 0), (false, 62, 0, 0), (true, 1, 0, 0)], [(false, [(1, (0, [(2, 1)]), 0)], cq_mk 3 ([(2, (-2), 1)], []) [] [] [] [] [] [] none 0 0)])
theorem wf_73 : cq_wfC ct_73 = true := by decide +kernel
def lp_73 (pc : Nat) : Option (Option (Nat × Nat) × cq_Lp) := bif Nat.beq pc 31 then some (none, ([(0, 4, 0, (-1), 1), (0, 5, 0, (-2147483648), 2147483647), (0, 6, 0, 0, 2)], [7], [(false, 61, 0, 0), (false, 62, 0, 0), (true, 1, 0, 0)], [(0, [(0, 1), (1, (-1))]), (0, [(4, 1), (5, (-1))])], (2, true), [])) else none
theorem ok_73 : cq_CT 73 ct_73 := cq_meth (f := 100000) (cts := (cq_tc 68 ct_68 cq_t0)) (lps := lp_73) (cq_tc_ok wf_68 ok_68 cq_t0_ok) wf_73 (by decide +kernel) (by decide +kernel)
def ct_77 : cq_Ct := (6, [(5, (0, []), 41)], cq_mk 0 ([], []) [] [] [] [] [] [] none 0 0, [], [(false, [(1, (0, [(0, 1)]), 0)], cq_mk 1 ([(0, (-1), 5)], []) [] [] [] [] [] [] none 0 0)])
theorem wf_77 : cq_wfC ct_77 = true := by decide +kernel
def lp_77 (pc : Nat) : Option (Option (Nat × Nat) × cq_Lp) := none
theorem ok_77 : cq_CT 77 ct_77 := cq_meth (f := 100000) (cts := (cq_tc 26 ct_26 cq_t0)) (lps := lp_77) (cq_tc_ok wf_26 ok_26 cq_t0_ok) wf_77 (by decide +kernel) (by decide +kernel)
def ct_80 : cq_Ct := (1, [(5, (0, []), 41), (1, (0, [(0, 1)]), 0), (1, (0, [(1, 1)]), 0)], cq_mk 2 ([(0, (-2147483648), 2147483647), (1, 0, 31)], []) [] [] [] [] [] [] none 0 0, [(false, 41, 4, 0), (false, 41, 5, 0)], [(false, [(1, (0, [(2, 1)]), 0)], cq_mk 3 ([(2, 0, 1)], []) [] [] [] [] [] [] none 0 0)])
theorem wf_80 : cq_wfC ct_80 = true := by decide +kernel
def lp_80 (pc : Nat) : Option (Option (Nat × Nat) × cq_Lp) := none
theorem ok_80 : cq_CT 80 ct_80 := cq_meth (f := 100000) (cts := (cq_tc 30 ct_30 cq_t0)) (lps := lp_80) (cq_tc_ok wf_30 ok_30 cq_t0_ok) wf_80 (by decide +kernel) (by decide +kernel)
def ct_79 : cq_Ct := (2, [(5, (0, []), 41), (1, (0, [(0, 1)]), 0)], cq_mk 1 ([(0, 0, 31)], []) [] [] [] [] [] [] none 0 0, [(false, 41, 3, 0), (false, 41, 4, 0), (false, 41, 5, 0), (false, 41, 6, 0), (false, 41, 7, 0)], [(false, [(1, (0, [(1, 1)]), 0)], cq_mk 2 ([(1, (-2147483648), 2147483647)], []) [] [] [] [] [] [] none 0 0)])
theorem wf_79 : cq_wfC ct_79 = true := by decide +kernel
def lp_79 (pc : Nat) : Option (Option (Nat × Nat) × cq_Lp) := bif Nat.beq pc 4 then some (none, ([(1, 41, 2, (-2147483648), 2147483647), (1, 41, 3, (-2147483648), 2147483647), (1, 41, 4, (-2147483648), 2147483647), (1, 41, 5, 0, 1600), (1, 41, 6, 0, 1600), (0, 2, 0, (-2147483648), 2147483647), (0, 3, 0, 0, 33)], [], [(false, 41, 3, 0), (false, 41, 4, 0), (false, 41, 5, 0), (false, 41, 6, 0), (false, 41, 7, 0)], [(0, [(12, 1), (13, (-1))])], (6, true), [])) else none
theorem ok_79 : cq_CT 79 ct_79 := cq_meth (f := 100000) (cts := (cq_tc 21 ct_21 (cq_tc 30 ct_30 (cq_tc 80 ct_80 cq_t0)))) (lps := lp_79) (cq_tc_ok wf_21 ok_21 (cq_tc_ok wf_30 ok_30 (cq_tc_ok wf_80 ok_80 cq_t0_ok))) wf_79 (by decide +kernel) (by decide +kernel)
def ct_81 : cq_Ct := (3, [(6, (0, []), 0), (5, (0, []), 41)], cq_mk 1 ([], []) [(0, true)] [(0, (0, 4, 0))] [] [] [] [] none 0 0, [(false, 41, 3, 0), (false, 41, 4, 0), (false, 41, 5, 0), (false, 41, 6, 0), (false, 41, 7, 0), (true, 0, 4, 4)], [(false, [(1, (0, [(1, 1)]), 0)], cq_mk 2 ([(1, 0, 1)], []) [] [] [] [] [] [] none 0 0)])
theorem wf_81 : cq_wfC ct_81 = true := by decide +kernel
def lp_81 (pc : Nat) : Option (Option (Nat × Nat) × cq_Lp) := none
theorem ok_81 : cq_CT 81 ct_81 := cq_meth (f := 100000) (cts := (cq_tc 28 ct_28 (cq_tc 30 ct_30 (cq_tc 32 ct_32 cq_t0)))) (lps := lp_81) (cq_tc_ok wf_28 ok_28 (cq_tc_ok wf_30 ok_30 (cq_tc_ok wf_32 ok_32 cq_t0_ok))) wf_81 (by decide +kernel) (by decide +kernel)
def ct_82 : cq_Ct := (6, [(6, (0, []), 0), (5, (0, []), 41)], cq_mk 1 ([], []) [(0, true)] [(0, (0, 4, 0))] [] [] [] [] none 0 0, [(false, 41, 3, 0), (false, 41, 4, 0), (false, 41, 5, 0), (false, 41, 6, 0), (false, 41, 7, 0), (true, 0, 4, 5), (true, 0, 4, 6)], [(false, [(1, (0, [(1, 1)]), 0)], cq_mk 2 ([(1, 0, 1)], []) [] [] [] [] [] [] none 0 0)])
theorem wf_82 : cq_wfC ct_82 = true := by decide +kernel
def lp_82 (pc : Nat) : Option (Option (Nat × Nat) × cq_Lp) := none
theorem ok_82 : cq_CT 82 ct_82 := cq_meth (f := 100000) (cts := (cq_tc 21 ct_21 (cq_tc 26 ct_26 (cq_tc 28 ct_28 (cq_tc 30 ct_30 (cq_tc 32 ct_32 cq_t0)))))) (lps := lp_82) (cq_tc_ok wf_21 ok_21 (cq_tc_ok wf_26 ok_26 (cq_tc_ok wf_28 ok_28 (cq_tc_ok wf_30 ok_30 (cq_tc_ok wf_32 ok_32 cq_t0_ok))))) wf_82 (by decide +kernel) (by decide +kernel)
def ct_83 : cq_Ct := (3, [(6, (0, []), 0), (5, (0, []), 41)], cq_mk 1 ([], []) [(0, true)] [(0, (0, 4, 0))] [] [] [] [] none 0 0, [(false, 41, 3, 0), (false, 41, 4, 0), (false, 41, 5, 0), (false, 41, 6, 0), (false, 41, 7, 0), (true, 0, 4, 8)], [(false, [(1, (0, [(1, 1)]), 0)], cq_mk 2 ([(1, 0, 1)], []) [] [] [] [] [] [] none 0 0)])
theorem wf_83 : cq_wfC ct_83 = true := by decide +kernel
def lp_83 (pc : Nat) : Option (Option (Nat × Nat) × cq_Lp) := none
theorem ok_83 : cq_CT 83 ct_83 := cq_meth (f := 100000) (cts := (cq_tc 28 ct_28 (cq_tc 30 ct_30 (cq_tc 32 ct_32 cq_t0)))) (lps := lp_83) (cq_tc_ok wf_28 ok_28 (cq_tc_ok wf_30 ok_30 (cq_tc_ok wf_32 ok_32 cq_t0_ok))) wf_83 (by decide +kernel) (by decide +kernel)
def ct_84 : cq_Ct := (2, [(6, (0, []), 0), (5, (0, []), 41)], cq_mk 1 ([], []) [(0, true)] [(0, (0, 4, 0))] [] [] [] [] none 0 0, [(false, 41, 3, 0), (false, 41, 4, 0), (false, 41, 5, 0), (false, 41, 6, 0), (false, 41, 7, 0), (true, 0, 4, 9)], [(false, [(1, (0, [(1, 1)]), 0)], cq_mk 2 ([(1, 0, 1)], []) [] [] [] [] [] [] none 0 0)])
theorem wf_84 : cq_wfC ct_84 = true := by decide +kernel
def lp_84 (pc : Nat) : Option (Option (Nat × Nat) × cq_Lp) := bif Nat.beq pc 2 then some (none, ([(1, 41, 2, (-2147483648), 2147483647), (1, 41, 5, 0, 1600), (1, 41, 6, 0, 1600), (0, 2, 0, 0, 7)], [], [(false, 41, 3, 0), (false, 41, 6, 0), (false, 41, 7, 0)], [(0, [(6, 1), (7, (-1))])], (3, true), [])) else none
theorem ok_84 : cq_CT 84 ct_84 := cq_meth (f := 100000) (cts := (cq_tc 21 ct_21 cq_t0)) (lps := lp_84) (cq_tc_ok wf_21 ok_21 cq_t0_ok) wf_84 (by decide +kernel) (by decide +kernel)
def ct_78 : cq_Ct := (7, [(6, (0, []), 0), (1, (0, [(1, 1)]), 0), (5, (0, []), 41)], cq_mk 2 ([(1, (-2147483648), 2147483647)], []) [(0, true)] [(0, (0, 4, 0))] [] [] [] [] none 0 0, [(false, 41, 3, 0), (false, 41, 4, 0), (false, 41, 5, 0), (false, 41, 6, 0), (false, 41, 7, 0), (true, 0, 4, 3), (true, 0, 4, 4), (true, 0, 4, 5), (true, 0, 4, 6), (true, 0, 4, 7), (true, 0, 4, 8), (true, 0, 4, 9)], [(false, [(1, (0, [(2, 1)]), 0)], cq_mk 3 ([(2, 0, 1)], []) [] [] [] [] [] [] none 0 0)])
theorem wf_78 : cq_wfC ct_78 = true := by decide +kernel
def lp_78 (pc : Nat) : Option (Option (Nat × Nat) × cq_Lp) := none
theorem ok_78 : cq_CT 78 ct_78 := cq_meth (f := 100000) (cts := (cq_tc 79 ct_79 (cq_tc 81 ct_81 (cq_tc 82 ct_82 (cq_tc 83 ct_83 (cq_tc 84 ct_84 cq_t0)))))) (lps := lp_78) (cq_tc_ok wf_79 ok_79 (cq_tc_ok wf_81 ok_81 (cq_tc_ok wf_82 ok_82 (cq_tc_ok wf_83 ok_83 (cq_tc_ok wf_84 ok_84 cq_t0_ok))))) wf_78 (by decide +kernel) (by decide +kernel)
def ct_76 : cq_Ct := (8, [(6, (0, []), 0), (5, (0, []), 41)], cq_mk 1 ([], []) [(0, true)] [(0, (0, 4, 0))] [] [] [] [] none 0 0, [(false, 41, 3, 0), (false, 41, 4, 0), (false, 41, 5, 0), (false, 41, 6, 0), (false, 41, 7, 0), (true, 0, 4, 3), (true, 0, 4, 4), (true, 0, 4, 5), (true, 0, 4, 6), (true, 0, 4, 7), (true, 0, 4, 8), (true, 0, 4, 9)], [(false, [(1, (0, [(1, 1)]), 0)], cq_mk 2 ([(1, 0, 1)], []) [] [] [] [] [] [] none 0 0)])
theorem wf_76 : cq_wfC ct_76 = true := by decide +kernel
def lp_76 (pc : Nat) : Option (Option (Nat × Nat) × cq_Lp) := bif Nat.beq pc 8 then some (none, ([(1, 41, 2, (-2147483648), 2147483647), (1, 41, 3, (-2147483648), 2147483647), (1, 41, 4, (-2147483648), 2147483647), (1, 41, 5, 0, 1600), (1, 41, 6, 0, 1600), (0, 2, 0, (-2147483648), 2147483647), (0, 3, 0, 0, 7)], [4], [(false, 41, 3, 0), (false, 41, 4, 0), (false, 41, 5, 0), (false, 41, 6, 0), (false, 41, 7, 0), (true, 0, 4, 3), (true, 0, 4, 4), (true, 0, 4, 5), (true, 0, 4, 6), (true, 0, 4, 7), (true, 0, 4, 8), (true, 0, 4, 9)], [(0, [(8, 1), (9, (-1))]), (0, [(12, 1), (13, (-1))])], (6, true), [])) else none
theorem ok_76 : cq_CT 76 ct_76 := cq_meth (f := 100000) (cts := (cq_tc 21 ct_21 (cq_tc 77 ct_77 (cq_tc 78 ct_78 cq_t0)))) (lps := lp_76) (cq_tc_ok wf_21 ok_21 (cq_tc_ok wf_77 ok_77 (cq_tc_ok wf_78 ok_78 cq_t0_ok))) wf_76 (by decide +kernel) (by decide +kernel)
def ct_74 : cq_Ct := (9, [(5, (0, []), 40), (1, (0, [(0, 1)]), 0)], cq_mk 1 ([(0, (-2147483648), 2147483647)], []) [] [] [] [] [] [] none 0 0, [(false, 41, 2, 0), (false, 41, 3, 0), (false, 41, 4, 0), (false, 41, 5, 0), (false, 41, 6, 0), (false, 41, 7, 0), (false, 48, 2, 0), (false, 49, 0, 0), (true, 0, 4, 1), (true, 0, 4, 10), (true, 0, 4, 11), (true, 0, 4, 2), (true, 0, 4, 3), (true, 0, 4, 4), (true, 0, 4, 5), (true, 0, 4, 6), (true, 0, 4, 7), (true, 0, 4, 8), (true, 0, 4, 9)], [(false, [(1, (0, [(1, 1)]), 0)], cq_mk 2 ([(1, (-3), 79)], []) [] [] [] [] [] [] none 1 11)])
theorem wf_74 : cq_wfC ct_74 = true := by decide +kernel
def lp_74 (pc : Nat) : Option (Option (Nat × Nat) × cq_Lp) := none
theorem ok_74 : cq_CT 74 ct_74 := cq_meth (f := 100000) (cts := (cq_tc 76 ct_76 cq_t0)) (lps := lp_74) (cq_tc_ok wf_76 ok_76 cq_t0_ok) wf_74 (by decide +kernel) (by decide +kernel)
def ct_88 : cq_Ct := (0, [(6, (0, []), 0), (1, (0, [(1, 1)]), 0)], cq_mk 2 ([(1, (-2147483648), 2147483647)], []) [(0, true)] [(0, (0, 4, 0))] [] [] [] [] none 0 0, [], [(false, [(1, (0, [(2, 1)]), 0)], cq_mk 3 ([(2, (-2147483648), 2147483647)], []) [] [] [] [] [] [] none 0 0)])
theorem wf_88 : cq_wfC ct_88 = true := by decide +kernel
def lp_88 (pc : Nat) : Option (Option (Nat × Nat) × cq_Lp) := none
theorem ok_88 : cq_CT 88 ct_88 := cq_meth (f := 100000) (cts := cq_t0) (lps := lp_88) cq_t0_ok wf_88 (by decide +kernel) (by decide +kernel)
def ct_86 : cq_Ct := (1, [(5, (0, []), 40), (1, (0, [(0, 1)]), 0), (1, (0, [(1, 1)]), 0)], cq_mk 2 ([(0, (-2147483648), 2147483647), (1, (-2147483648), 2147483647)], []) [] [] [] [] [] [] none 0 0, [], [(false, [(1, (0, [(2, 1)]), 0)], cq_mk 3 ([(2, (-2147483648), 2147483647)], []) [] [] [] [] [] [] none 0 0)])
theorem wf_86 : cq_wfC ct_86 = true := by decide +kernel
def lp_86 (pc : Nat) : Option (Option (Nat × Nat) × cq_Lp) := none
theorem ok_86 : cq_CT 86 ct_86 := cq_meth (f := 100000) (cts := (cq_tc 88 ct_88 cq_t0)) (lps := lp_86) (cq_tc_ok wf_88 ok_88 cq_t0_ok) wf_86 (by decide +kernel) (by decide +kernel)
def ct_89 : cq_Ct := (1, [(5, (0, []), 40), (1, (0, [(0, 1)]), 0), (1, (0, [(1, 1)]), 0)], cq_mk 2 ([(0, (-2147483648), 2147483647), (1, (-2147483648), 2147483647)], []) [] [] [] [] [] [] none 0 0, [(true, 0, 4, 10), (true, 0, 4, 11)], [(false, [(1, (0, [(2, 1)]), 0)], cq_mk 3 ([(2, (-4), 1)], []) [] [] [] [] [] [] none 0 0)])
theorem wf_89 : cq_wfC ct_89 = true := by decide +kernel
def lp_89 (pc : Nat) : Option (Option (Nat × Nat) × cq_Lp) := none
theorem ok_89 : cq_CT 89 ct_89 := cq_meth (f := 100000) (cts := cq_t0) (lps := lp_89) cq_t0_ok wf_89 (by decide +kernel) (by decide +kernel)
def ct_91 : cq_Ct := (0, [(5, (0, []), 48), (1, (0, [(0, 1)]), 0), (1, (0, [(1, 1)]), 0), (1, (0, [(2, 1)]), 0)], cq_mk 3 ([(0, (-2147483648), 2147483647), (1, (-2147483648), 2147483647), (2, (-2147483648), 2147483647)], []) [] [] [] [] [] [] none 0 0, [(false, 48, 6, 0), (false, 50, 0, 0), (false, 51, 0, 0), (false, 52, 0, 0)], [(false, [(1, (0, [(3, 1)]), 0)], cq_mk 4 ([(3, (-3), 60)], []) [] [] [] [] [] [] none 0 0)])
theorem wf_91 : cq_wfC ct_91 = true := by decide +kernel
def lp_91 (pc : Nat) : Option (Option (Nat × Nat) × cq_Lp) := none
theorem ok_91 : cq_CT 91 ct_91 := cq_meth (f := 100000) (cts := cq_t0) (lps := lp_91) cq_t0_ok wf_91 (by decide +kernel) (by decide +kernel)
end
section
/-! CONTRACTS: 90 94 93 96 97 95 92 98 99 101 104 -/
def ct_90 : cq_Ct := (1, [(5, (0, []), 40), (1, (0, [(0, 1)]), 0), (1, (0, [(1, 1)]), 0)], cq_mk 2 ([(0, (-2147483648), 2147483647), (1, (-2147483648), 2147483647)], []) [] [] [] [] [] [] none 0 0, [(false, 48, 6, 0), (false, 50, 0, 0), (false, 51, 0, 0), (false, 52, 0, 0)], [(false, [(1, (0, [(2, 1)]), 0)], cq_mk 3 ([(2, (-3), 60)], []) [] [] [] [] [] [] none 0 0)])
theorem wf_90 : cq_wfC ct_90 = true := by decide +kernel
def lp_90 (pc : Nat) : Option (Option (Nat × Nat) × cq_Lp) := none
theorem ok_90 : cq_CT 90 ct_90 := cq_meth (f := 100000) (cts := (cq_tc 91 ct_91 cq_t0)) (lps := lp_90) (cq_tc_ok wf_91 ok_91 cq_t0_ok) wf_90 (by decide +kernel) (by decide +kernel)
def ct_94 : cq_Ct := (0, [(5, (0, []), 48), (1, (0, [(0, 1)]), 0), (1, (0, [(1, 1)]), 0)], cq_mk 2 ([(0, (-2147483648), 2147483647), (1, (-2147483648), 2147483647)], []) [] [] [] [] [] [] none 0 0, [], [(false, [(1, (0, [(2, 1)]), 0)], cq_mk 3 ([(2, (-2147483648), 2147483647)], []) [] [] [] [] [] [] none 0 0)])
theorem wf_94 : cq_wfC ct_94 = true := by decide +kernel
def lp_94 (pc : Nat) : Option (Option (Nat × Nat) × cq_Lp) := bif Nat.beq pc 7 then some (none, ([(0, 3, 0, (-1), 59)], [], [], [(0, [(0, (-1)), (1, 1)])], (0, false), [])) else none
theorem ok_94 : cq_CT 94 ct_94 := cq_meth (f := 100000) (cts := cq_t0) (lps := lp_94) cq_t0_ok wf_94 (by decide +kernel) (by decide +kernel)
def ct_93 : cq_Ct := (1, [(5, (0, []), 48), (6, (0, []), 0), (5, (0, []), 43), (1, (0, [(1, 1)]), 0), (1, (0, [(2, 1)]), 0)], cq_mk 3 ([(1, (-2147483648), 2147483647), (2, (-2147483648), 2147483647)], []) [(0, true)] [(0, (0, 6, 0))] [] [] [] [] none 0 0, [], [(false, [(1, (0, [(3, 1)]), 0)], cq_mk 4 ([(3, (-2147483648), 2147483647)], []) [] [] [] [] [] [] none 0 0)])
theorem wf_93 : cq_wfC ct_93 = true := by decide +kernel
def lp_93 (pc : Nat) : Option (Option (Nat × Nat) × cq_Lp) := bif Nat.beq pc 63 then some (none, ([(0, 6, 0, (-2147483648), 2147483647), (0, 7, 0, 0, 6)], [], [], [(0, [(2, 1), (3, (-1))])], (1, true), [])) else none
theorem ok_93 : cq_CT 93 ct_93 := cq_meth (f := 100000) (cts := (cq_tc 94 ct_94 cq_t0)) (lps := lp_93) (cq_tc_ok wf_94 ok_94 cq_t0_ok) wf_93 (by decide +kernel) (by decide +kernel)
def ct_96 : cq_Ct := (0, [(5, (0, []), 48), (1, (0, [(0, 1)]), 0), (1, (0, [(1, 1)]), 0)], cq_mk 2 ([(0, (-2147483648), 2147483647), (1, (-2147483648), 2147483647)], []) [] [] [] [] [] [] none 0 0, [], [(false, [(1, (0, [(2, 1)]), 0)], cq_mk 3 ([(2, (-1), 79)], []) [] [] [] [] [] [] none 0 0)])
theorem wf_96 : cq_wfC ct_96 = true := by decide +kernel
def lp_96 (pc : Nat) : Option (Option (Nat × Nat) × cq_Lp) := bif Nat.beq pc 7 then some (none, ([(0, 3, 0, (-1), 79)], [], [], [(0, [(0, (-1)), (1, 1)])], (0, false), [])) else none
theorem ok_96 : cq_CT 96 ct_96 := cq_meth (f := 100000) (cts := cq_t0) (lps := lp_96) cq_t0_ok wf_96 (by decide +kernel) (by decide +kernel)
def ct_97 : cq_Ct := (0, [(6, (0, []), 0), (1, (0, [(1, 1)]), 0), (1, (0, [(2, 1)]), 0)], cq_mk 3 ([(1, (-2147483648), 2147483647), (2, (-2147483648), 2147483647)], []) [(0, true)] [(0, (0, 4, 0))] [] [] [] [] none 0 0, [], [(false, [(1, (0, [(3, 1)]), 0)], cq_mk 4 ([(3, (-2147483648), 2147483647)], []) [] [] [] [] [] [] none 0 0)])
theorem wf_97 : cq_wfC ct_97 = true := by decide +kernel
def lp_97 (pc : Nat) : Option (Option (Nat × Nat) × cq_Lp) := none
theorem ok_97 : cq_CT 97 ct_97 := cq_meth (f := 100000) (cts := cq_t0) (lps := lp_97) cq_t0_ok wf_97 (by decide +kernel) (by decide +kernel)
def ct_95 : cq_Ct := (1, [(5, (0, []), 48), (1, (0, [(0, 1)]), 0), (1, (0, [(1, 1)]), 0), (1, (0, [(2, 1)]), 0)], cq_mk 3 ([(0, (-2147483648), 2147483647), (1, (-2147483648), 2147483647), (2, (-2147483648), 2147483647)], []) [] [] [] [] [] [] none 0 0, [], [(false, [(1, (0, [(3, 1)]), 0)], cq_mk 4 ([(3, (-2147483648), 2147483647)], []) [] [] [] [] [] [] none 0 0)])
theorem wf_95 : cq_wfC ct_95 = true := by decide +kernel
def lp_95 (pc : Nat) : Option (Option (Nat × Nat) × cq_Lp) := none
theorem ok_95 : cq_CT 95 ct_95 := cq_meth (f := 100000) (cts := (cq_tc 96 ct_96 (cq_tc 97 ct_97 cq_t0))) (lps := lp_95) (cq_tc_ok wf_96 ok_96 (cq_tc_ok wf_97 ok_97 cq_t0_ok)) wf_95 (by decide +kernel) (by decide +kernel)
def ct_92 : cq_Ct := (2, [(5, (0, []), 40), (1, (0, [(0, 1)]), 0), (1, (0, [(1, 1)]), 0), (1, (0, [(2, 1)]), 0), (1, (0, [(3, 1)]), 0)], cq_mk 4 ([(0, (-2147483648), 2147483647), (1, (-2147483648), 2147483647), (2, (-2147483648), 2147483647), (3, (-2147483648), 2147483647)], []) [] [] [] [] [] [] none 0 0, [], [(false, [(1, (0, [(4, 1)]), 0)], cq_mk 5 ([(4, (-2), 2)], []) [] [] [] [] [] [] none 0 0)])
theorem wf_92 : cq_wfC ct_92 = true := by decide +kernel
def lp_92 (pc : Nat) : Option (Option (Nat × Nat) × cq_Lp) := none
theorem ok_92 : cq_CT 92 ct_92 := cq_meth (f := 100000) (cts := (cq_tc 93 ct_93 (cq_tc 95 ct_95 cq_t0))) (lps := lp_92) (cq_tc_ok wf_93 ok_93 (cq_tc_ok wf_95 ok_95 cq_t0_ok)) wf_92 (by decide +kernel) (by decide +kernel)
def ct_98 : cq_Ct := (1, [(5, (0, []), 40), (1, (0, [(0, 1)]), 0), (1, (0, [(1, 1)]), 0)], cq_mk 2 ([(0, (-2147483648), 2147483647), (1, (-2147483648), 2147483647)], []) [] [] [] [] [] [] none 0 0, [], [(false, [(1, (0, [(2, 1)]), 0)], cq_mk 3 ([(2, (-2), 79)], []) [] [] [] [] [] [] none 0 0)])
theorem wf_98 : cq_wfC ct_98 = true := by decide +kernel
def lp_98 (pc : Nat) : Option (Option (Nat × Nat) × cq_Lp) := none
theorem ok_98 : cq_CT 98 ct_98 := cq_meth (f := 100000) (cts := (cq_tc 96 ct_96 cq_t0)) (lps := lp_98) (cq_tc_ok wf_96 ok_96 cq_t0_ok) wf_98 (by decide +kernel) (by decide +kernel)
def ct_99 : cq_Ct := (1, [(5, (0, []), 40), (1, (0, [(0, 1)]), 0), (1, (0, [(1, 1)]), 0)], cq_mk 2 ([(0, (-2147483648), 2147483647), (1, (-2147483648), 2147483647)], []) [] [] [] [] [] [] none 0 0, [(false, 40, 11, 0), (false, 40, 12, 0)], [(false, [(1, (0, [(2, 1)]), 0)], cq_mk 3 ([(2, (-2), 1)], []) [] [] [] [] [] [] none 0 0)])
theorem wf_99 : cq_wfC ct_99 = true := by decide +kernel
def lp_99 (pc : Nat) : Option (Option (Nat × Nat) × cq_Lp) := none
theorem ok_99 : cq_CT 99 ct_99 := cq_meth (f := 100000) (cts := cq_t0) (lps := lp_99) cq_t0_ok wf_99 (by decide +kernel) (by decide +kernel)
def ct_101 : cq_Ct := (2, [(5, (0, []), 40), (1, (0, [(0, 1)]), 0)], cq_mk 1 ([(0, (-2147483648), 2147483647)], []) [] [] [] [] [] [] none 0 0, [(false, 40, 14, 0), (false, 63, 1, 0), (false, 72, 1, 0), (false, 74, 0, 0)], [(false, [(1, (0, [(1, 1)]), 0)], cq_mk 2 ([(1, (-4), 13)], []) [] [] [] [] [] [] none 1 8)])
theorem wf_101 : cq_wfC ct_101 = true := by decide +kernel
def lp_101 (pc : Nat) : Option (Option (Nat × Nat) × cq_Lp) := bif Nat.beq pc 15 then some (none, ([(0, 3, 0, 0, 14)], [], [], [(0, [(0, 1), (1, (-1))])], (0, true), [])) else none
theorem ok_101 : cq_CT 101 ct_101 := cq_meth (f := 100000) (cts := cq_t0) (lps := lp_101) cq_t0_ok wf_101 (by decide +kernel) (by decide +kernel)
def ct_104 : cq_Ct := (4, [(5, (0, []), 40), (6, (0, []), 0)], cq_mk 1 ([], []) [(0, true)] [(0, (0, 1, 0))] [] [] [] [] none 0 0, [(false, 58, 0, 0), (false, 59, 0, 0), (false, 60, 0, 0), (true, 0, 1, 3), (true, 0, 1, 4), (true, 0, 1, 5), (true, 0, 1, 6), (true, 0, 1, 7), (true, 0, 1, 8), (true, 0, 3, 10), (true, 0, 3, 7), (true, 0, 3, 8), (true, 0, 3, 9), (true, 1, 0, 0)], [(false, [], cq_mk 1 ([], []) [] [] [] [] [] [] none 0 0)])
theorem wf_104 : cq_wfC ct_104 = true := by decide +kernel
def lp_104 (pc : Nat) : Option (Option (Nat × Nat) × cq_Lp) := none
theorem ok_104 : cq_CT 104 ct_104 := cq_meth (f := 100000) (cts := (cq_tc 54 ct_54 (cq_tc 93 ct_93 (cq_tc 96 ct_96 (cq_tc 97 ct_97 cq_t0))))) (lps := lp_104) (cq_tc_ok wf_54 ok_54 (cq_tc_ok wf_93 ok_93 (cq_tc_ok wf_96 ok_96 (cq_tc_ok wf_97 ok_97 cq_t0_ok)))) wf_104 (by decide +kernel) (by decide +kernel)
end
section
/-! CONTRACTS: 103 108 110 112 113 111_14 111_13 111_12 111_11 111_10 111_9 111_8 111_7 111_6 111_5 111_4 111_3 -/
def ct_103 : cq_Ct := (5, [(5, (0, []), 40), (1, (0, [(0, 1)]), 0), (1, (0, [(1, 1)]), 0)], cq_mk 2 ([(0, (-2147483648), 2147483647), (1, (-2147483648), 2147483647)], []) [] [] [] [] [] [] none 0 0, [(false, 58, 0, 0), (false, 59, 0, 0), (false, 60, 0, 0), (true, 0, 1, 3), (true, 0, 1, 4), (true, 0, 1, 5), (true, 0, 1, 6), (true, 0, 1, 7), (true, 0, 1, 8), (true, 0, 3, 10), (true, 0, 3, 7), (true, 0, 3, 8), (true, 0, 3, 9), (true, 1, 0, 0)], [(false, [(1, (0, [(2, 1)]), 0)], cq_mk 3 ([(2, (-2147483648), 2147483647)], []) [] [] [] [] [] [] none 0 0)])
theorem wf_103 : cq_wfC ct_103 = true := by decide +kernel
def lp_103 (pc : Nat) : Option (Option (Nat × Nat) × cq_Lp) := none
theorem ok_103 : cq_CT 103 ct_103 := cq_meth (f := 100000) (cts := (cq_tc 104 ct_104 cq_t0)) (lps := lp_103) (cq_tc_ok wf_104 ok_104 cq_t0_ok) wf_103 (by decide +kernel) (by decide +kernel)
def ct_108 : cq_Ct := (5, [(5, (0, []), 40), (1, (0, [(0, 1)]), 0)], cq_mk 1 ([(0, (-2147483648), 2147483647)], []) [] [] [] [] [] [] none 0 0, [(false, 58, 0, 0), (false, 59, 0, 0), (false, 60, 0, 0), (true, 0, 1, 3), (true, 0, 1, 4), (true, 0, 1, 5), (true, 0, 1, 6), (true, 0, 1, 7), (true, 0, 1, 8), (true, 0, 3, 10), (true, 0, 3, 7), (true, 0, 3, 8), (true, 0, 3, 9), (true, 1, 0, 0)], [(false, [(1, (0, [(1, 1)]), 0)], cq_mk 2 ([(1, 0, 1)], []) [] [] [] [] [] [] none 0 0)])
theorem wf_108 : cq_wfC ct_108 = true := by decide +kernel
def lp_108 (pc : Nat) : Option (Option (Nat × Nat) × cq_Lp) := bif Nat.beq pc 4 then some (none, ([(0, 2, 0, 0, 1), (0, 3, 0, 0, 14)], [], [(false, 58, 0, 0), (false, 59, 0, 0), (false, 60, 0, 0), (true, 0, 1, 3), (true, 0, 1, 4), (true, 0, 1, 5), (true, 0, 1, 6), (true, 0, 1, 7), (true, 0, 1, 8), (true, 0, 3, 10), (true, 0, 3, 7), (true, 0, 3, 8), (true, 0, 3, 9), (true, 1, 0, 0)], [(0, [(0, (-1)), (1, 1)]), (0, [(2, 1), (3, (-1))])], (1, true), [])) else none
theorem ok_108 : cq_CT 108 ct_108 := cq_meth (f := 100000) (cts := (cq_tc 104 ct_104 cq_t0)) (lps := lp_108) (cq_tc_ok wf_104 ok_104 cq_t0_ok) wf_108 (by decide +kernel) (by decide +kernel)
def ct_110 : cq_Ct := (1, [(5, (0, []), 63), (5, (0, []), 74), (1, (0, [(0, 1)]), 0), (5, (0, []), 43)], cq_mk 2 ([(0, 0, 14), (1, 0, 14)], [(0, [(0, (-1)), (1, 1)])]) [] [] [] [((false, 40), (13, []), (1, (0, [(1, 1)]), 0))] [] [] none 0 0, [(false, 63, 4, 0), (false, 63, 5, 0), (false, 63, 6, 0), (false, 63, 7, 0), (false, 63, 8, 0), (false, 64, 0, 0)], [(false, [], cq_mk 2 ([], []) [] [] [] [((false, 63), (3, []), (5, (0, []), 74))] [] [] none 0 0)])
theorem wf_110 : cq_wfC ct_110 = true := by decide +kernel
def lp_110 (pc : Nat) : Option (Option (Nat × Nat) × cq_Lp) := none
theorem ok_110 : cq_CT 110 ct_110 := cq_meth (f := 100000) (cts := cq_t0) (lps := lp_110) cq_t0_ok wf_110 (by decide +kernel) (by decide +kernel)
def ct_112 : cq_Ct := (0, [(5, (0, []), 63), (1, (0, [(0, 1)]), 0), (1, (0, [(1, 1)]), 0), (1, (0, [(2, 1)]), 0), (1, (0, [(3, 1)]), 0)], cq_mk 4 ([(0, (-2147483648), 2147483647), (1, (-2147483648), 2147483647), (2, (-2147483648), 2147483647), (3, (-2147483648), 2147483647)], []) [] [] [] [] [] [] none 0 0, [], [(false, [(1, (0, [(4, 1)]), 0)], cq_mk 5 ([(4, 0, 1)], []) [] [] [] [] [] [] none 0 0)])
theorem wf_112 : cq_wfC ct_112 = true := by decide +kernel
def lp_112 (pc : Nat) : Option (Option (Nat × Nat) × cq_Lp) := none
theorem ok_112 : cq_CT 112 ct_112 := cq_meth (f := 100000) (cts := cq_t0) (lps := lp_112) cq_t0_ok wf_112 (by decide +kernel) (by decide +kernel)
def ct_113 : cq_Ct := (0, [(5, (0, []), 63), (6, (0, []), 0), (1, (0, [(1, 1)]), 0), (1, (0, [(2, 1)]), 0)], cq_mk 3 ([(1, (-2147483648), 2147483647), (2, (-2147483648), 2147483647)], []) [(0, true)] [(0, (0, 1, 0))] [] [] [] [] none 0 0, [], [(false, [(1, (0, [(3, 1)]), 0)], cq_mk 4 ([(3, 0, 1)], []) [] [] [] [] [] [] none 0 0)])
theorem wf_113 : cq_wfC ct_113 = true := by decide +kernel
def lp_113 (pc : Nat) : Option (Option (Nat × Nat) × cq_Lp) := none
theorem ok_113 : cq_CT 113 ct_113 := cq_meth (f := 100000) (cts := cq_t0) (lps := lp_113) cq_t0_ok wf_113 (by decide +kernel) (by decide +kernel)
def ct_111_14 : cq_Ct := (2, [(5, (0, []), 63), (1, (0, [(0, 1)]), 0), (1, (0, [(1, 1)]), 0), (1, (0, [(2, 1)]), 0), (1, (0, [(3, 1)]), 0), (1, (0, [(4, 1)]), 0)], cq_mk 5 ([(0, 14, 14), (1, (-2147483648), 2147483647), (2, (-2147483648), 2147483647), (3, (-2147483648), 2147483647), (4, (-2147483648), 2147483647)], []) [] [] [] [((false, 63), (3, []), (5, (0, []), 74))] [] [] none 0 0, [(false, 63, 10, 0), (false, 63, 11, 0), (false, 63, 12, 0), (false, 63, 9, 0)], [(false, [], cq_mk 5 ([], []) [] [] [] [] [] [] none 0 0)])
theorem wf_111_14 : cq_wfC ct_111_14 = true := by decide +kernel
def lp_111_14 (pc : Nat) : Option (Option (Nat × Nat) × cq_Lp) := none
theorem ok_111_14 : cq_CT 111 ct_111_14 := cq_meth (f := 100000) (cts := (cq_tc 112 ct_112 (cq_tc 113 ct_113 cq_t0))) (lps := lp_111_14) (cq_tc_ok wf_112 ok_112 (cq_tc_ok wf_113 ok_113 cq_t0_ok)) wf_111_14 (by decide +kernel) (by decide +kernel)
def ct_111_13 : cq_Ct := (3, [(5, (0, []), 63), (1, (0, [(0, 1)]), 0), (1, (0, [(1, 1)]), 0), (1, (0, [(2, 1)]), 0), (1, (0, [(3, 1)]), 0), (1, (0, [(4, 1)]), 0)], cq_mk 5 ([(0, 13, 14), (1, (-2147483648), 2147483647), (2, (-2147483648), 2147483647), (3, (-2147483648), 2147483647), (4, (-2147483648), 2147483647)], []) [] [] [] [((false, 63), (3, []), (5, (0, []), 74))] [] [] none 0 0, [(false, 63, 10, 0), (false, 63, 11, 0), (false, 63, 12, 0), (false, 63, 9, 0), (false, 64, 0, 0)], [(false, [], cq_mk 5 ([], []) [] [] [] [] [] [] none 0 0)])
theorem wf_111_13 : cq_wfC ct_111_13 = true := by decide +kernel
def lp_111_13 (pc : Nat) : Option (Option (Nat × Nat) × cq_Lp) := none
theorem ok_111_13 : cq_CT 111 ct_111_13 := cq_meth (f := 100000) (cts := (cq_tc 111 ct_111_14 (cq_tc 112 ct_112 (cq_tc 113 ct_113 cq_t0)))) (lps := lp_111_13) (cq_tc_ok wf_111_14 ok_111_14 (cq_tc_ok wf_112 ok_112 (cq_tc_ok wf_113 ok_113 cq_t0_ok))) wf_111_13 (by decide +kernel) (by decide +kernel)
def ct_111_12 : cq_Ct := (4, [(5, (0, []), 63), (1, (0, [(0, 1)]), 0), (1, (0, [(1, 1)]), 0), (1, (0, [(2, 1)]), 0), (1, (0, [(3, 1)]), 0), (1, (0, [(4, 1)]), 0)], cq_mk 5 ([(0, 12, 14), (1, (-2147483648), 2147483647), (2, (-2147483648), 2147483647), (3, (-2147483648), 2147483647), (4, (-2147483648), 2147483647)], []) [] [] [] [((false, 63), (3, []), (5, (0, []), 74))] [] [] none 0 0, [(false, 63, 10, 0), (false, 63, 11, 0), (false, 63, 12, 0), (false, 63, 9, 0), (false, 64, 0, 0)], [(false, [], cq_mk 5 ([], []) [] [] [] [] [] [] none 0 0)])
theorem wf_111_12 : cq_wfC ct_111_12 = true := by decide +kernel
def lp_111_12 (pc : Nat) : Option (Option (Nat × Nat) × cq_Lp) := none
theorem ok_111_12 : cq_CT 111 ct_111_12 := cq_meth (f := 100000) (cts := (cq_tc 111 ct_111_13 (cq_tc 112 ct_112 (cq_tc 113 ct_113 cq_t0)))) (lps := lp_111_12) (cq_tc_ok wf_111_13 ok_111_13 (cq_tc_ok wf_112 ok_112 (cq_tc_ok wf_113 ok_113 cq_t0_ok))) wf_111_12 (by decide +kernel) (by decide +kernel)
def ct_111_11 : cq_Ct := (5, [(5, (0, []), 63), (1, (0, [(0, 1)]), 0), (1, (0, [(1, 1)]), 0), (1, (0, [(2, 1)]), 0), (1, (0, [(3, 1)]), 0), (1, (0, [(4, 1)]), 0)], cq_mk 5 ([(0, 11, 14), (1, (-2147483648), 2147483647), (2, (-2147483648), 2147483647), (3, (-2147483648), 2147483647), (4, (-2147483648), 2147483647)], []) [] [] [] [((false, 63), (3, []), (5, (0, []), 74))] [] [] none 0 0, [(false, 63, 10, 0), (false, 63, 11, 0), (false, 63, 12, 0), (false, 63, 9, 0), (false, 64, 0, 0)], [(false, [], cq_mk 5 ([], []) [] [] [] [] [] [] none 0 0)])
theorem wf_111_11 : cq_wfC ct_111_11 = true := by decide +kernel
def lp_111_11 (pc : Nat) : Option (Option (Nat × Nat) × cq_Lp) := none
theorem ok_111_11 : cq_CT 111 ct_111_11 := cq_meth (f := 100000) (cts := (cq_tc 111 ct_111_12 (cq_tc 112 ct_112 (cq_tc 113 ct_113 cq_t0)))) (lps := lp_111_11) (cq_tc_ok wf_111_12 ok_111_12 (cq_tc_ok wf_112 ok_112 (cq_tc_ok wf_113 ok_113 cq_t0_ok))) wf_111_11 (by decide +kernel) (by decide +kernel)
def ct_111_10 : cq_Ct := (6, [(5, (0, []), 63), (1, (0, [(0, 1)]), 0), (1, (0, [(1, 1)]), 0), (1, (0, [(2, 1)]), 0), (1, (0, [(3, 1)]), 0), (1, (0, [(4, 1)]), 0)], cq_mk 5 ([(0, 10, 14), (1, (-2147483648), 2147483647), (2, (-2147483648), 2147483647), (3, (-2147483648), 2147483647), (4, (-2147483648), 2147483647)], []) [] [] [] [((false, 63), (3, []), (5, (0, []), 74))] [] [] none 0 0, [(false, 63, 10, 0), (false, 63, 11, 0), (false, 63, 12, 0), (false, 63, 9, 0), (false, 64, 0, 0)], [(false, [], cq_mk 5 ([], []) [] [] [] [] [] [] none 0 0)])
theorem wf_111_10 : cq_wfC ct_111_10 = true := by decide +kernel
def lp_111_10 (pc : Nat) : Option (Option (Nat × Nat) × cq_Lp) := none
theorem ok_111_10 : cq_CT 111 ct_111_10 := cq_meth (f := 100000) (cts := (cq_tc 111 ct_111_11 (cq_tc 112 ct_112 (cq_tc 113 ct_113 cq_t0)))) (lps := lp_111_10) (cq_tc_ok wf_111_11 ok_111_11 (cq_tc_ok wf_112 ok_112 (cq_tc_ok wf_113 ok_113 cq_t0_ok))) wf_111_10 (by decide +kernel) (by decide +kernel)
def ct_111_9 : cq_Ct := (7, [(5, (0, []), 63), (1, (0, [(0, 1)]), 0), (1, (0, [(1, 1)]), 0), (1, (0, [(2, 1)]), 0), (1, (0, [(3, 1)]), 0), (1, (0, [(4, 1)]), 0)], cq_mk 5 ([(0, 9, 14), (1, (-2147483648), 2147483647), (2, (-2147483648), 2147483647), (3, (-2147483648), 2147483647), (4, (-2147483648), 2147483647)], []) [] [] [] [((false, 63), (3, []), (5, (0, []), 74))] [] [] none 0 0, [(false, 63, 10, 0), (false, 63, 11, 0), (false, 63, 12, 0), (false, 63, 9, 0), (false, 64, 0, 0)], [(false, [], cq_mk 5 ([], []) [] [] [] [] [] [] none 0 0)])
theorem wf_111_9 : cq_wfC ct_111_9 = true := by decide +kernel
def lp_111_9 (pc : Nat) : Option (Option (Nat × Nat) × cq_Lp) := none
theorem ok_111_9 : cq_CT 111 ct_111_9 := cq_meth (f := 100000) (cts := (cq_tc 111 ct_111_10 (cq_tc 112 ct_112 (cq_tc 113 ct_113 cq_t0)))) (lps := lp_111_9) (cq_tc_ok wf_111_10 ok_111_10 (cq_tc_ok wf_112 ok_112 (cq_tc_ok wf_113 ok_113 cq_t0_ok))) wf_111_9 (by decide +kernel) (by decide +kernel)
def ct_111_8 : cq_Ct := (8, [(5, (0, []), 63), (1, (0, [(0, 1)]), 0), (1, (0, [(1, 1)]), 0), (1, (0, [(2, 1)]), 0), (1, (0, [(3, 1)]), 0), (1, (0, [(4, 1)]), 0)], cq_mk 5 ([(0, 8, 14), (1, (-2147483648), 2147483647), (2, (-2147483648), 2147483647), (3, (-2147483648), 2147483647), (4, (-2147483648), 2147483647)], []) [] [] [] [((false, 63), (3, []), (5, (0, []), 74))] [] [] none 0 0, [(false, 63, 10, 0), (false, 63, 11, 0), (false, 63, 12, 0), (false, 63, 9, 0), (false, 64, 0, 0)], [(false, [], cq_mk 5 ([], []) [] [] [] [] [] [] none 0 0)])
theorem wf_111_8 : cq_wfC ct_111_8 = true := by decide +kernel
def lp_111_8 (pc : Nat) : Option (Option (Nat × Nat) × cq_Lp) := none
theorem ok_111_8 : cq_CT 111 ct_111_8 := cq_meth (f := 100000) (cts := (cq_tc 111 ct_111_9 (cq_tc 112 ct_112 (cq_tc 113 ct_113 cq_t0)))) (lps := lp_111_8) (cq_tc_ok wf_111_9 ok_111_9 (cq_tc_ok wf_112 ok_112 (cq_tc_ok wf_113 ok_113 cq_t0_ok))) wf_111_8 (by decide +kernel) (by decide +kernel)
def ct_111_7 : cq_Ct := (9, [(5, (0, []), 63), (1, (0, [(0, 1)]), 0), (1, (0, [(1, 1)]), 0), (1, (0, [(2, 1)]), 0), (1, (0, [(3, 1)]), 0), (1, (0, [(4, 1)]), 0)], cq_mk 5 ([(0, 7, 14), (1, (-2147483648), 2147483647), (2, (-2147483648), 2147483647), (3, (-2147483648), 2147483647), (4, (-2147483648), 2147483647)], []) [] [] [] [((false, 63), (3, []), (5, (0, []), 74))] [] [] none 0 0, [(false, 63, 10, 0), (false, 63, 11, 0), (false, 63, 12, 0), (false, 63, 9, 0), (false, 64, 0, 0)], [(false, [], cq_mk 5 ([], []) [] [] [] [] [] [] none 0 0)])
theorem wf_111_7 : cq_wfC ct_111_7 = true := by decide +kernel
def lp_111_7 (pc : Nat) : Option (Option (Nat × Nat) × cq_Lp) := none
theorem ok_111_7 : cq_CT 111 ct_111_7 := cq_meth (f := 100000) (cts := (cq_tc 111 ct_111_8 (cq_tc 112 ct_112 (cq_tc 113 ct_113 cq_t0)))) (lps := lp_111_7) (cq_tc_ok wf_111_8 ok_111_8 (cq_tc_ok wf_112 ok_112 (cq_tc_ok wf_113 ok_113 cq_t0_ok))) wf_111_7 (by decide +kernel) (by decide +kernel)
def ct_111_6 : cq_Ct := (10, [(5, (0, []), 63), (1, (0, [(0, 1)]), 0), (1, (0, [(1, 1)]), 0), (1, (0, [(2, 1)]), 0), (1, (0, [(3, 1)]), 0), (1, (0, [(4, 1)]), 0)], cq_mk 5 ([(0, 6, 14), (1, (-2147483648), 2147483647), (2, (-2147483648), 2147483647), (3, (-2147483648), 2147483647), (4, (-2147483648), 2147483647)], []) [] [] [] [((false, 63), (3, []), (5, (0, []), 74))] [] [] none 0 0, [(false, 63, 10, 0), (false, 63, 11, 0), (false, 63, 12, 0), (false, 63, 9, 0), (false, 64, 0, 0)], [(false, [], cq_mk 5 ([], []) [] [] [] [] [] [] none 0 0)])
theorem wf_111_6 : cq_wfC ct_111_6 = true := by decide +kernel
def lp_111_6 (pc : Nat) : Option (Option (Nat × Nat) × cq_Lp) := none
theorem ok_111_6 : cq_CT 111 ct_111_6 := cq_meth (f := 100000) (cts := (cq_tc 111 ct_111_7 (cq_tc 112 ct_112 (cq_tc 113 ct_113 cq_t0)))) (lps := lp_111_6) (cq_tc_ok wf_111_7 ok_111_7 (cq_tc_ok wf_112 ok_112 (cq_tc_ok wf_113 ok_113 cq_t0_ok))) wf_111_6 (by decide +kernel) (by decide +kernel)
def ct_111_5 : cq_Ct := (11, [(5, (0, []), 63), (1, (0, [(0, 1)]), 0), (1, (0, [(1, 1)]), 0), (1, (0, [(2, 1)]), 0), (1, (0, [(3, 1)]), 0), (1, (0, [(4, 1)]), 0)], cq_mk 5 ([(0, 5, 14), (1, (-2147483648), 2147483647), (2, (-2147483648), 2147483647), (3, (-2147483648), 2147483647), (4, (-2147483648), 2147483647)], []) [] [] [] [((false, 63), (3, []), (5, (0, []), 74))] [] [] none 0 0, [(false, 63, 10, 0), (false, 63, 11, 0), (false, 63, 12, 0), (false, 63, 9, 0), (false, 64, 0, 0)], [(false, [], cq_mk 5 ([], []) [] [] [] [] [] [] none 0 0)])
theorem wf_111_5 : cq_wfC ct_111_5 = true := by decide +kernel
def lp_111_5 (pc : Nat) : Option (Option (Nat × Nat) × cq_Lp) := none
theorem ok_111_5 : cq_CT 111 ct_111_5 := cq_meth (f := 100000) (cts := (cq_tc 111 ct_111_6 (cq_tc 112 ct_112 (cq_tc 113 ct_113 cq_t0)))) (lps := lp_111_5) (cq_tc_ok wf_111_6 ok_111_6 (cq_tc_ok wf_112 ok_112 (cq_tc_ok wf_113 ok_113 cq_t0_ok))) wf_111_5 (by decide +kernel) (by decide +kernel)
def ct_111_4 : cq_Ct := (12, [(5, (0, []), 63), (1, (0, [(0, 1)]), 0), (1, (0, [(1, 1)]), 0), (1, (0, [(2, 1)]), 0), (1, (0, [(3, 1)]), 0), (1, (0, [(4, 1)]), 0)], cq_mk 5 ([(0, 4, 14), (1, (-2147483648), 2147483647), (2, (-2147483648), 2147483647), (3, (-2147483648), 2147483647), (4, (-2147483648), 2147483647)], []) [] [] [] [((false, 63), (3, []), (5, (0, []), 74))] [] [] none 0 0, [(false, 63, 10, 0), (false, 63, 11, 0), (false, 63, 12, 0), (false, 63, 9, 0), (false, 64, 0, 0)], [(false, [], cq_mk 5 ([], []) [] [] [] [] [] [] none 0 0)])
theorem wf_111_4 : cq_wfC ct_111_4 = true := by decide +kernel
def lp_111_4 (pc : Nat) : Option (Option (Nat × Nat) × cq_Lp) := none
theorem ok_111_4 : cq_CT 111 ct_111_4 := cq_meth (f := 100000) (cts := (cq_tc 111 ct_111_5 (cq_tc 112 ct_112 (cq_tc 113 ct_113 cq_t0)))) (lps := lp_111_4) (cq_tc_ok wf_111_5 ok_111_5 (cq_tc_ok wf_112 ok_112 (cq_tc_ok wf_113 ok_113 cq_t0_ok))) wf_111_4 (by decide +kernel) (by decide +kernel)
def ct_111_3 : cq_Ct := (13, [(5, (0, []), 63), (1, (0, [(0, 1)]), 0), (1, (0, [(1, 1)]), 0), (1, (0, [(2, 1)]), 0), (1, (0, [(3, 1)]), 0), (1, (0, [(4, 1)]), 0)], cq_mk 5 ([(0, 3, 14), (1, (-2147483648), 2147483647), (2, (-2147483648), 2147483647), (3, (-2147483648), 2147483647), (4, (-2147483648), 2147483647)], []) [] [] [] [((false, 63), (3, []), (5, (0, []), 74))] [] [] none 0 0, [(false, 63, 10, 0), (false, 63, 11, 0), (false, 63, 12, 0), (false, 63, 9, 0), (false, 64, 0, 0)], [(false, [], cq_mk 5 ([], []) [] [] [] [] [] [] none 0 0)])
theorem wf_111_3 : cq_wfC ct_111_3 = true := by decide +kernel
def lp_111_3 (pc : Nat) : Option (Option (Nat × Nat) × cq_Lp) := none
theorem ok_111_3 : cq_CT 111 ct_111_3 := cq_meth (f := 100000) (cts := (cq_tc 111 ct_111_4 (cq_tc 112 ct_112 (cq_tc 113 ct_113 cq_t0)))) (lps := lp_111_3) (cq_tc_ok wf_111_4 ok_111_4 (cq_tc_ok wf_112 ok_112 (cq_tc_ok wf_113 ok_113 cq_t0_ok))) wf_111_3 (by decide +kernel) (by decide +kernel)
end
