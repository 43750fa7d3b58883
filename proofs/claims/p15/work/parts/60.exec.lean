/-! THE CHECKER, 30: all paths -/
section CXB
variable {m : cq_W} {h0 : am_H} {ρ ρ0 : Nat → Int} {S : cq_S} {h : am_H} {n0 : Nat} {Fin : Option Value × am_H → Prop} {ck : Bool → List cq_A → cq_S → Bool} {cal : Nat → cq_Z → Option (List cq_Z)} {lps : Nat → Option (Option (Nat × Nat) × cq_Lp)} {y0 : Nat}
theorem cq_hB_lt : ∀ (vs : List cq_Vr) (n : Nat), ∀ b ∈ cq_hB n vs, b.1 < n + vs.length
  | [], _, b, hb => by cases hb
  | v :: vs, n, b, hb => by
    unfold cq_hB at hb
    rw [List.length_cons]
    cases h2 : Nat.beq v.1 2 with
    | true =>
      rw [h2] at hb
      have := cq_hB_lt vs (n + 1) b hb
      omega
    | false =>
      rw [h2] at hb
      rcases List.mem_cons.1 hb with z | z
      · rw [z]
        show n < _
        omega
      · have := cq_hB_lt vs (n + 1) b z
        omega
theorem cq_hB_mem : ∀ (vs : List cq_Vr) (n k : Nat) (v : cq_Vr), vs[k]? = some v → Nat.beq v.1 2 = false → (n + k, v.2.2.2.1, v.2.2.2.2) ∈ cq_hB n vs
  | [], _, k, v, h, _ => by simp at h
  | w :: vs, n, 0, v, h, h2 => by
    have e : w = v := by simpa using h
    subst e
    unfold cq_hB
    rw [h2]
    exact List.mem_cons_self
  | w :: vs, n, k + 1, v, h, h2 => by
    rw [List.getElem?_cons_succ] at h
    have := cq_hB_mem vs (n + 1) k v h h2
    rw [show n + (k + 1) = n + 1 + k by omega]
    unfold cq_hB
    cases Nat.beq w.1 2 with
    | true => exact this
    | false => exact List.mem_cons_of_mem _ this
/-- the head's facts give the head's store -/
theorem cq_Lc_rb {pc db : Nat} {ls0 st0 arr ext : List cq_A} {lp : cq_Lp} {P : cq_P} {ρ2 : Nat → Int} {h2 : am_H} {ls st : List Value} (wf : cq_wfR (pc, S.n, db, ls0, st0, cq_hS lp S P, arr, ext, lp) = true) (H : ∀ ρ', cq_ag S.n ρ' ρ → cq_Md m h0 ρ' S h) (hG : cq_shG (cq_cod 0 (cq_hv S.n lp.1) arr ext) 10000 0 lp.2.2.2.1 (cq_hB S.n lp.1 ++ S.P.1, S.P.2) = some (some P)) (L : cq_Lc m h0 (pc, S.n, db, ls0, st0, cq_hS lp S P, arr, ext, lp) ρ2 h2 ls st) (a2 : cq_ag S.n ρ2 ρ) : ∀ ρ', cq_ag (cq_hS lp S P).n ρ' ρ2 → cq_Md m h0 ρ' (cq_hS lp S P) h2 ∧ cq_gs ρ' ls0 ls ∧ cq_gs ρ' st0 st := by
  intro ρ' a
  have w1 := (Bool.and_eq_true _ _ ▸ wf)
  have w2 := (Bool.and_eq_true _ _ ▸ w1.1)
  have w3 := (Bool.and_eq_true _ _ ▸ w2.1)
  have w4 := (Bool.and_eq_true _ _ ▸ w3.1)
  have w5 := (Bool.and_eq_true _ _ ▸ w4.1)
  have w6 := (Bool.and_eq_true _ _ ▸ w5.1)
  have w7 := (Bool.and_eq_true _ _ ▸ w6.1)
  obtain ⟨l1, l2, l3, l4, l5, l6, l7, l8, l9, l10⟩ := L
  have hn : (cq_hS lp S P).n = S.n + lp.1.length := rfl
  have aS : cq_ag S.n ρ' ρ := (a.lt (by rw [hn]; exact Nat.le_add_right _ _)).tr a2
  have D := H ρ' aS
  refine ⟨⟨?_, D.N, fun e he hp => ?_, fun s hs => ?_, fun e he => ?_, fun e he => ?_, D.M, l6, l7, l8, fun q hq => by cases hq⟩, cq_smas_g w7.1 a l9, cq_smas_g w7.2 a l10⟩
  · have k := cq_shG_ok (ρ := ρ') hG ⟨fun b hb => ?_, D.P.2⟩ (fun g hg => ?_)
    · obtain ⟨P', e, hP⟩ := k
      have e := Option.some.inj e
      subst e
      exact hP
    · rcases List.mem_append.1 hb with z | z
      · have := cq_hB_lt lp.1 S.n b z
        rw [a b.1 (by rw [hn]; exact this)]
        exact l1 b z
      · exact D.P.1 b z
    · have ag : cq_ag 10000 (cq_rc1 (cq_cod 0 (cq_hv S.n lp.1) arr ext) 10000 0 ρ') (cq_rc1 (cq_cod 0 (cq_hv S.n lp.1) arr ext) 10000 0 ρ2) := fun s hs => by
        rw [cq_rc1_vx hs, cq_rc1_vx hs]
        unfold cq_vx
        cases hx : cq_sx s (cq_cod 0 (cq_hv S.n lp.1) arr ext) with
        | none => rfl
        | some x =>
          obtain ⟨q, hq, eq⟩ := cq_sx_mem hx
          have sm := List.all_eq_true.1 w2.2 q hq
          rw [eq] at sm
          exact cq_vi_ag sm a
      rw [cq_sm_e (List.all_eq_true.1 w3.2 g hg) ag]
      exact l2 g hg
  · have lt : e.1 < (cq_hS lp S P).n := Nat.le_of_ble_eq_true (List.all_eq_true.1 w4.2 e he)
    rw [a e.1 lt] at hp ⊢
    exact l5 e he hp
  · obtain ⟨x1, x2, x3⟩ := D.W s hs
    exact ⟨Nat.lt_of_lt_of_le x1 (Nat.le_add_right _ _), x2, fun e he hlt => x3 e (List.mem_filter.1 he).1 hlt⟩
  · have z := List.all_eq_true.1 w6.2 e he
    have z1 := (Bool.and_eq_true _ _ ▸ z)
    have z2 := (Bool.and_eq_true _ _ ▸ z1.1)
    rw [cq_smc_e z2.1 a, cq_sm_e z2.2 a]
    exact cq_sma_g z1.2 a (l3 e he)
  · have z := List.all_eq_true.1 w5.2 e he
    have z1 := (Bool.and_eq_true _ _ ▸ z)
    rw [cq_smc_e z1.1 a, cq_sm_e z1.2 a]
    exact l4 e he
/-- the measure of a record -/
def cq_ms (R : cq_Rc) (ρ : Nat → Int) : Nat := match R.2.2.2.2.2.2.2.2.1[R.2.2.2.2.2.2.2.2.2.2.2.2.1.1]? with
  | some v => bif R.2.2.2.2.2.2.2.2.2.2.2.2.1.2 then (v.2.2.2.2 - ρ (R.2.1 + R.2.2.2.2.2.2.2.2.2.2.2.2.1.1)).toNat else (ρ (R.2.1 + R.2.2.2.2.2.2.2.2.2.2.2.2.1.1) - v.2.2.2.1).toNat
  | none => 0
def cq_HR (m : cq_W) (h0 : am_H) (Fin : Option Value × am_H → Prop) (y0 : Nat) (R : cq_Rc) (ρ : Nat → Int) : Prop := ∀ ρ2 h2 ls2 st2 d, cq_ag R.2.1 ρ2 ρ → R.2.2.1 ≤ d → cq_Lc m h0 R ρ2 h2 ls2 st2 → cq_ms R ρ2 < cq_ms R ρ → cq_Go Fin d y0 R.1 ls2 st2 h2 []
theorem cq_wfR_n {R : cq_Rc} (wf : cq_wfR R = true) : R.2.2.2.2.2.1.n = R.2.1 + R.2.2.2.2.2.2.2.2.1.length := by
  obtain ⟨pc, n, db, ls0, st0, S0, arr, ext, lp⟩ := R
  have w1 := (Bool.and_eq_true _ _ ▸ wf)
  exact am_beq w1.2
theorem cq_ms_ag {R : cq_Rc} {ρ1 : Nat → Int} {n : Nat} (wf : cq_wfR R = true) (hn : R.2.2.2.2.2.1.n ≤ n) (a : cq_ag n ρ1 ρ) : cq_ms R ρ1 = cq_ms R ρ := by
  unfold cq_ms
  have e := cq_wfR_n wf
  cases hv : R.2.2.2.2.2.2.2.2.1[R.2.2.2.2.2.2.2.2.2.2.2.2.1.1]? with
  | none => rfl
  | some v =>
    have lt := (List.getElem?_eq_some_iff.1 hv).1
    dsimp only
    rw [a _ (by omega)]
theorem cq_HR.tr {R : cq_Rc} {ρ1 : Nat → Int} {n : Nat} (k : cq_HR m h0 Fin y0 R ρ) (wf : cq_wfR R = true) (hn : R.2.2.2.2.2.1.n ≤ n) (a : cq_ag n ρ1 ρ) : cq_HR m h0 Fin y0 R ρ1 := fun ρ2 h2 ls2 st2 d a2 hd L mu => by
  have e := cq_wfR_n wf
  rw [cq_ms_ag wf hn a] at mu
  exact k ρ2 h2 ls2 st2 d (a2.tr (a.lt (by omega))) hd L mu
/-- what is asked of the records that are under way -/
def cq_Ac (m : cq_W) (h0 : am_H) (Fin : Option Value × am_H → Prop) (y0 : Nat) (act : List cq_Rc) (ρ : Nat → Int) (n : Nat) : Prop := ∀ R ∈ act, cq_wfR R = true ∧ R.2.2.2.2.2.1.n ≤ n ∧ cq_HR m h0 Fin y0 R ρ
theorem cq_Ac.tr {act : List cq_Rc} {ρ1 : Nat → Int} {n n1 : Nat} (k : cq_Ac m h0 Fin y0 act ρ n) (a : cq_ag n ρ1 ρ) (hn : n ≤ n1) : cq_Ac m h0 Fin y0 act ρ1 n1 := fun R hR => by
  obtain ⟨k1, k2, k3⟩ := k R hR
  exact ⟨k1, Nat.le_trans k2 hn, k3.tr k1 k2 a⟩
theorem cq_fR_ok {pc : Nat} {R : cq_Rc} : ∀ {act : List cq_Rc}, cq_fR pc act = some R → R ∈ act ∧ R.1 = pc
  | [], q => by cases q
  | X :: r, q => by
    unfold cq_fR at q
    cases hb : Nat.beq X.1 pc with
    | true =>
      rw [hb] at q
      have e := Option.some.inj q
      subst e
      exact ⟨List.mem_cons_self, am_beq hb⟩
    | false =>
      rw [hb] at q
      obtain ⟨k1, k2⟩ := cq_fR_ok q
      exact ⟨List.mem_cons_of_mem _ k1, k2⟩
theorem cq_bck_ok {R : cq_Rc} {Z : cq_Z} {ls st : List Value} {fs : List cq_Fm} (wf : cq_wfR R = true) (hn : R.2.2.2.2.2.1.n ≤ Z.2.2.2.2.2.2.n) (q : cq_bck R Z = true) (H : cq_Rz m h0 ρ Z ls st h fs) : fs = [] ∧ R.2.2.1 ≤ Z.2.2.2.2.2.1 ∧ ∃ ρ2, cq_ag R.2.1 ρ2 ρ ∧ cq_Lc m h0 R ρ2 h ls st ∧ cq_ms R ρ2 < cq_ms R ρ := by
  obtain ⟨y, pc, als, ast, fr, db, S⟩ := Z
  unfold cq_bck at q
  dsimp only at q hn
  rw [cond_eq_ite] at q
  split at q
  · rename_i hb
    have hb1 := (Bool.and_eq_true _ _ ▸ hb)
    have hb2 := (Bool.and_eq_true _ _ ▸ hb1.1)
    have ef : fr = [] := List.isEmpty_iff.1 hb2.1
    have eU : S.U = none := Option.isNone_iff_eq_none.1 hb2.2
    subst ef
    have hfs : fs = [] := by
      have := (H ρ cq_ag.rf).2.2.2
      cases fs with
      | nil => rfl
      | cons c cs => exact this.elim
    refine ⟨hfs, Nat.le_of_ble_eq_true hb1.2, ?_⟩
    split at q
    · cases q
    · rename_i S1 hpl
      obtain ⟨hn1, ρ1, a1, k1⟩ := cq_pl_ok hpl fun ρ' a => (H ρ' a).1
      split at q
      · rename_i cur hcur
        have q := (Bool.and_eq_true _ _ ▸ q)
        have D1 := k1 ρ1 cq_ag.rf
        have L := cq_cks_ok wf q.1 D1 (cq_pl_U hpl eU) (H ρ1 a1).2.1 (H ρ1 a1).2.2.1
        have eR := cq_wfR_n wf
        refine ⟨cq_r2 R.2.1 cur ρ1, cq_r2_ag.tr (a1.lt (by omega)), L, ?_⟩
        have q2 := q.2
        split at q2
        · rename_i c v hc hv
          have z1 := (Bool.and_eq_true _ _ ▸ q2)
          have z2 := (Bool.and_eq_true _ _ ▸ z1.1)
          have n2 := cq_nb z2.2
          have lt := (List.getElem?_eq_some_iff.1 hv).1
          have bd : v.2.2.2.1 ≤ cq_r2 R.2.1 cur ρ1 (R.2.1 + R.2.2.2.2.2.2.2.2.2.2.2.2.1.1) ∧ cq_r2 R.2.1 cur ρ1 (R.2.1 + R.2.2.2.2.2.2.2.2.2.2.2.2.1.1) ≤ v.2.2.2.2 := by
            have L1 : cq_bOk (cq_r2 R.2.1 cur ρ1) (cq_hB R.2.1 R.2.2.2.2.2.2.2.2.1) := L.1
            exact L1 _ (cq_hB_mem _ R.2.1 _ v hv n2)
          have er : cq_r2 R.2.1 cur ρ1 (R.2.1 + R.2.2.2.2.2.2.2.2.2.2.2.2.1.1) = cq_e ρ1 c.2.1 := by
            unfold cq_r2
            rw [if_neg (by omega), Nat.add_sub_cancel_left, hc]
            dsimp only
            rw [cq_tag z2.1]
            rfl
          have e1 : ρ1 (R.2.1 + R.2.2.2.2.2.2.2.2.2.2.2.2.1.1) = ρ (R.2.1 + R.2.2.2.2.2.2.2.2.2.2.2.2.1.1) := a1 _ (by omega)
          have en := cq_en_ok D1.P z1.2
          unfold cq_ms
          rw [hv]
          dsimp only
          cases hup : R.2.2.2.2.2.2.2.2.2.2.2.2.1.2 with
          | true =>
            rw [hup] at en
            simp only [cond_true] at en ⊢
            rw [cq_ac_e, cq_sub_e, cq_s_e, e1] at en
            omega
          | false =>
            rw [hup] at en
            simp only [cond_false] at en ⊢
            rw [cq_ac_e, cq_sub_e, cq_s_e, e1] at en
            omega
        · cases q2
      · cases q
  · cases q
end CXB
