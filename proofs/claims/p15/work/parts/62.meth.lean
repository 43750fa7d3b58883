/-! THE CHECKER, 31: a method meets its contract -/
def cq_cl0 (m : cq_W) (ck : Bool → List cq_A → cq_S → Bool) (cts : Nat → Option cq_Ct) (z : Nat) (Z : cq_Z) : Option (List cq_Z) := match cts z with
  | some c => cq_cc m ck c z Z
  | none => (match cq_inl z Z with
    | some Z' => some [Z']
    | none => none)
/-- a contract's own symbols stand for themselves -/
def cq_bdS : List (cq_C × cq_F × cq_A) → List (Nat × cq_A) → List (Nat × cq_A)
  | [], σ => σ
  | q :: r, σ => cq_bdS r (cq_bd1 q.2.2 q.2.2 σ)
def cq_bdN : List (cq_F × cq_F × cq_F) → List (Nat × cq_A) → List (Nat × cq_A)
  | [], σ => σ
  | q :: r, σ => cq_bdN r (cq_bd1 (cq_i q.2.2) (cq_i q.2.2) σ)
def cq_idn (σ : List (Nat × cq_A)) (n : Nat) : Bool := (List.range n).all fun i => match cq_sx i σ with
  | some a => (bif Nat.beq a.1 6 then Nat.beq a.2.2 i else (Nat.beq a.1 1 || Nat.beq a.1 2) && cq_fe a.2.1 (cq_s i))
  | none => false
def cq_xk (c : cq_Ct) (x : Bool × List cq_A × cq_S) (vs : List cq_A) (S : cq_S) : Bool := match cq_pl x.2.2.T S with
  | none => false
  | some S1 => (match cq_bdT S1 x.2.2.T (cq_bds x.2.1 vs (cq_bdN c.2.2.1.M (cq_bdS c.2.2.1.T (cq_bds c.2.1 c.2.1 [])))) with
    | σ => cq_idn σ c.2.2.1.n && cq_mvs S1.P σ x.2.2.n x.2.1 vs && cq_vP S1 σ x.2.2.n x.2.2 && x.2.2.N.all (cq_vN S1 σ) && x.2.2.K.all (cq_vK S1 σ) && x.2.2.T.all (cq_vT S1 σ x.2.2.n) && Nat.ble S1.ac x.2.2.ac && Nat.ble S1.al x.2.2.al && cq_no0 x.2.1)
def cq_ckx (c : cq_Ct) (thr : Bool) (vs : List cq_A) (S : cq_S) : Bool := S.U.isNone && c.2.2.2.2.any fun x => (x.1 == thr) && cq_xk c x vs S
section CYA
variable {m : cq_W} {h0 : am_H} {ρ ρ0 : Nat → Int} {n0 : Nat} {S : cq_S} {h : am_H}
/-- an exit's store, out of a store that meets it -/
theorem cq_xk_ok {c : cq_Ct} {x : Bool × List cq_A × cq_S} {vs : List cq_A} {w : List Value} (wf : cq_wfC c = true) (hx : x ∈ c.2.2.2.2) (hU : S.U = none) (hn : c.2.2.1.n ≤ S.n) (q : cq_xk c x vs S = true) (H : ∀ ρ', cq_ag S.n ρ' ρ → cq_Md c.2.2.2.1 h0 ρ' S h ∧ cq_gs ρ' vs w) : ∃ ρ', cq_ag c.2.2.1.n ρ' ρ ∧ cq_Md c.2.2.2.1 h0 ρ' x.2.2 h ∧ cq_gs ρ' x.2.1 w ∧ cq_no0 x.2.1 = true := by
  have w1 := (Bool.and_eq_true _ _ ▸ wf)
  have w0 := (Bool.and_eq_true _ _ ▸ w1.1)
  have w2 := (Bool.and_eq_true _ _ ▸ w0.1)
  have wx := List.all_eq_true.1 w2.2 x hx
  have eM : x.2.2.M = [] := List.isEmpty_iff.1 (List.all_eq_true.1 w0.2 x hx)
  have wx1 := (Bool.and_eq_true _ _ ▸ wx)
  have wx2 := (Bool.and_eq_true _ _ ▸ wx1.1)
  have nle := Nat.le_of_ble_eq_true wx1.2
  unfold cq_xk at q
  split at q
  · cases q
  · rename_i S1 hpl
    dsimp only at q
    generalize cq_bdT S1 x.2.2.T (cq_bds x.2.1 vs (cq_bdN c.2.2.1.M (cq_bdS c.2.2.1.T (cq_bds c.2.1 c.2.1 [])))) = σ at q
    have q1 := (Bool.and_eq_true _ _ ▸ q)
    have q2 := (Bool.and_eq_true _ _ ▸ q1.1)
    have q3 := (Bool.and_eq_true _ _ ▸ q2.1)
    have q4 := (Bool.and_eq_true _ _ ▸ q3.1)
    have q5 := (Bool.and_eq_true _ _ ▸ q4.1)
    have q6 := (Bool.and_eq_true _ _ ▸ q5.1)
    have q7 := (Bool.and_eq_true _ _ ▸ q6.1)
    have q8 := (Bool.and_eq_true _ _ ▸ q7.1)
    obtain ⟨hn1, ρ1, a1, k1⟩ := cq_pl_ok hpl fun ρ' a => (H ρ' a).1
    have D := k1 ρ1 cq_ag.rf
    have pre := cq_pre_ok (mc := c.2.2.2.1) (σ := σ) (n0 := x.2.2.n) wx2.1 rfl D (cq_pl_U hpl hU) q7.2 q6.2 q5.2 q4.2 (by rw [eM]; rfl) (Or.inl eM)
    refine ⟨cq_rc1 σ x.2.2.n 0 ρ1, fun s hs => ?_, ?_, cq_mvs_ok q8.2 D.P (H ρ1 a1).2, q1.2⟩
    · have z := List.all_eq_true.1 q8.1 s (List.mem_range.2 hs)
      split at z
      · rename_i a ha
        rw [cq_rc1_x (Nat.lt_of_lt_of_le hs nle) ha]
        rw [cond_eq_ite] at z
        have e1 : ρ1 s = ρ s := a1 s (Nat.lt_of_lt_of_le hs hn)
        split at z
        · rename_i h6
          rw [cq_tag h6]
          show ρ1 a.2.2 = ρ s
          rw [am_beq z]
          exact e1
        · have z := (Bool.and_eq_true _ _ ▸ z)
          rcases Bool.or_eq_true _ _ ▸ z.1 with y | y
          · rw [cq_tag y]
            show cq_e ρ1 a.2.1 = ρ s
            rw [cq_fe_ok z.2, cq_s_e]
            exact e1
          · rw [cq_tag y]
            show cq_e ρ1 a.2.1 = ρ s
            rw [cq_fe_ok z.2, cq_s_e]
            exact e1
      · cases z
    · have A := D.A
      have b1 := Nat.le_of_ble_eq_true q3.2
      have b2 := Nat.le_of_ble_eq_true q2.2
      have q1' := (Bool.and_eq_true _ _ ▸ wx2.1)
      have q2' := (Bool.and_eq_true _ _ ▸ q1'.1)
      have q3' := (Bool.and_eq_true _ _ ▸ q2'.1)
      have q4' := (Bool.and_eq_true _ _ ▸ q3'.1)
      have eW : x.2.2.W = [] := List.isEmpty_iff.1 q4'.2
      have eU : x.2.2.U = none := Option.isNone_iff_eq_none.1 q1'.2
      refine ⟨pre.1, pre.2.1, pre.2.2.1, ?_, pre.2.2.2.2.1, pre.2.2.2.2.2.1, (fun e he => by rw [eM] at he; cases he), pre.I, D.F, ⟨by omega, by omega⟩, ?_⟩
      · rw [eW]
        exact fun s hs => (by cases hs)
      · rw [eU]
        exact fun s hs => (by cases hs)
theorem cq_isT_no {as : List cq_A} {v : Option Value} (q : cq_no0 as = true) (g : cq_gs ρ as v.toList) : am_isT v = none := by
  cases v with
  | none => rfl
  | some w =>
    cases as with
    | nil => exact g.elim
    | cons a r =>
      have g1 : cq_g ρ a w := g.1
      have q1 := (Bool.and_eq_true _ _ ▸ (show ((!Nat.beq a.1 0) && cq_no0 r) = true from q))
      obtain ⟨t, f, k⟩ := a
      rcases t with _ | _ | _ | _ | _ | _ | _ | t
      · cases q1.1
      · obtain ⟨x, e, -⟩ := g1; rw [e]; rfl
      · obtain ⟨x, e, -⟩ := g1; rw [e]; rfl
      · obtain ⟨x, e, -⟩ := g1; rw [e]; rfl
      · have e : w = .null := g1
        rw [e]; rfl
      · have e : w = .ref k := g1
        rw [e]; rfl
      · rcases g1 with ⟨-, e⟩ | ⟨-, e⟩ <;> (rw [e]; rfl)
      · exact g1.elim
/-- what it means to end as a contract says -/
def cq_Fin (c : cq_Ct) (h : am_H) (ρ : Nat → Int) (r : Option Value × am_H) : Prop := ∃ x ∈ c.2.2.2.2, ∃ ρ', cq_ag c.2.2.1.n ρ' ρ ∧ cq_Md c.2.2.2.1 h ρ' x.2.2 r.2 ∧ ((x.1 = false ∧ am_isT r.1 = none ∧ cq_gs ρ' x.2.1 r.1.toList) ∨ (x.1 = true ∧ r.1 = some (.retAddr 80)))
theorem cq_HE_ok {c : cq_Ct} (wf : cq_wfC c = true) : cq_HE c.2.2.2.1 h ρ c.2.2.1.n (cq_ckx c) (cq_Fin c h ρ) := by
  refine ⟨fun vs S h2 v ρ1 hck a hn H => ?_, fun S h2 ρ1 hck a hn H => ?_⟩
  · have hck := (Bool.and_eq_true _ _ ▸ hck)
    obtain ⟨x, hx, z⟩ := List.any_eq_true.1 hck.2
    have z := (Bool.and_eq_true _ _ ▸ z)
    obtain ⟨ρ2, a2, M2, g2, n0⟩ := cq_xk_ok wf hx (Option.isNone_iff_eq_none.1 hck.1) hn z.2 H
    exact ⟨x, hx, ρ2, a2.tr a, M2, Or.inl ⟨eq_of_beq z.1, cq_isT_no n0 g2, g2⟩⟩
  · have hck := (Bool.and_eq_true _ _ ▸ hck)
    obtain ⟨x, hx, z⟩ := List.any_eq_true.1 hck.2
    have z := (Bool.and_eq_true _ _ ▸ z)
    obtain ⟨ρ2, a2, M2, -, -⟩ := cq_xk_ok (w := []) wf hx (Option.isNone_iff_eq_none.1 hck.1) hn z.2 (fun ρ' a => ⟨H ρ' a, trivial⟩)
    exact ⟨x, hx, ρ2, a2.tr a, M2, Or.inr ⟨eq_of_beq z.1, rfl⟩⟩
/-- what next states stand for -/
def cq_NX (m : cq_W) (h0 : am_H) (ρ0 : Nat → Int) (n0 : Nat) (Fin : Option Value × am_H → Prop) (nx : cq_Z → Option (List cq_Z)) : Prop := ∀ (Z : cq_Z) (out : List cq_Z) (ρ : Nat → Int) (ls st : List Value) (h : am_H) (fs : List cq_Fm) (d : Nat), cq_ag n0 ρ ρ0 → n0 ≤ Z.2.2.2.2.2.2.n → nx Z = some out → cq_Rz m h0 ρ Z ls st h fs → Z.2.2.2.2.2.1 ≤ d → cq_Kn m h0 ρ Z.2.2.2.2.2.2.n Fin out → cq_Go Fin d Z.1 Z.2.1 ls st h fs
/-- a method whose paths all end well meets its contract: with any steps that are sound -/
theorem cq_methN {y f : Nat} {c : cq_Ct} {nx : cq_Z → Option (List cq_Z)} {lps : Nat → Option (Option (Nat × Nat) × cq_Lp)} (wf : cq_wfC c = true) (q0 : (cq_no0 c.2.1 && c.2.1.all (cq_sma c.2.2.1.n)) = true) (NX : ∀ h ρ as, cq_Md c.2.2.2.1 h ρ c.2.2.1 h → cq_gs ρ c.2.1 as → cq_NX c.2.2.2.1 h ρ c.2.2.1.n (cq_Fin c h ρ) nx) (q : cq_exec nx lps y f [] (y, 0, cq_ent0 c.2.1 (am_in y).2.2.1, [], [], c.1, c.2.2.1) = true) : cq_CT y c := by
  intro d h ρ as hD M g
  have NX1 := NX h ρ as M g
  have q0 := (Bool.and_eq_true _ _ ▸ q0)
  have w1 := (Bool.and_eq_true _ _ ▸ wf)
  have w0 := (Bool.and_eq_true _ _ ▸ w1.1)
  have w2 := (Bool.and_eq_true _ _ ▸ w0.1)
  have G := cq_exec_ok (Fin := cq_Fin c h ρ) (fun a hn hq H hd K => NX1 _ _ _ _ _ _ _ _ a hn hq H hd K) f [] (y, 0, cq_ent0 c.2.1 (am_in y).2.2.1, [], [], c.1, c.2.2.1) ρ (am_ent as (am_in y).2.2.1) [] h [] d q cq_ag.rf (Nat.le_refl _) (fun ρ' a => ⟨cq_wf_ag w2.1 a M, (cq_gs_ent q0.1 (cq_smas_g q0.2 a g)).1, trivial, trivial⟩) hD (fun R hR => by cases hR)
  obtain ⟨x, ev, k⟩ := G
  obtain ⟨r, h'⟩ := x
  exact ⟨r, h', ev, k⟩
/-- a table of contracts that hold -/
def cq_TK (m : cq_W) (h0 : am_H) (cts : Nat → Option cq_Ct) : Prop := ∀ z c', cts z = some c' → cq_wfC c' = true ∧ cq_CT z c' ∧ (c'.2.2.1.M = [] ∨ cq_UT m h0)
theorem cq_HC_ok {c : cq_Ct} {cts : Nat → Option cq_Ct} (wf : cq_wfC c = true) (HT : cq_TK c.2.2.2.1 h cts) : cq_HC c.2.2.2.1 h ρ c.2.2.1.n (cq_Fin c h ρ) (cq_cl0 c.2.2.2.1 (cq_ckx c) cts) := by
  intro e Z out ρ1 ls st h2 fs d2 a hn hc hi hq H hd K
  unfold cq_cl0 at hq
  split at hq
  · rename_i c' hc'
    obtain ⟨wf', CT', UT'⟩ := HT _ c' hc'
    exact cq_cc_ok (cq_HE_ok wf) a hn wf' CT' UT' hc hi hq H hd K
  · split at hq
    · rename_i Z' hz
      rw [← Option.some.inj hq] at K
      refine cq_inl_ok hc hi hz H hd fun ls' st' fs' d' R' hd' => ?_
      refine K.one List.mem_cons_self cq_ag.rf ?_ R' hd'
      obtain ⟨y1, pc1, als1, ast1, fr1, db1, S1⟩ := Z
      unfold cq_inl at hz
      split at hz
      · rename_i heq
        cases heq
        rw [cond_eq_ite] at hz
        split at hz
        · rw [← Option.some.inj hz]
          exact Nat.le_refl _
        · cases hz
      · cases hz
    · cases hq
theorem cq_meth {y f : Nat} {c : cq_Ct} {cts : Nat → Option cq_Ct} {lps : Nat → Option (Option (Nat × Nat) × cq_Lp)} (HT : ∀ h, cq_Inv none h → cq_TK c.2.2.2.1 h cts) (wf : cq_wfC c = true) (q0 : (cq_no0 c.2.1 && c.2.1.all (cq_sma c.2.2.1.n)) = true) (q : cq_exec (cq_nx c.2.2.2.1 (cq_ckx c) (cq_cl0 c.2.2.2.1 (cq_ckx c) cts)) lps y f [] (y, 0, cq_ent0 c.2.1 (am_in y).2.2.1, [], [], c.1, c.2.2.1) = true) : cq_CT y c := by
  refine cq_methN wf q0 (fun h ρ as M g => ?_) q
  have w1 := (Bool.and_eq_true _ _ ▸ wf)
  have w0 := (Bool.and_eq_true _ _ ▸ w1.1)
  have w2 := (Bool.and_eq_true _ _ ▸ w0.1)
  have x1 := (Bool.and_eq_true _ _ ▸ w2.1)
  have eU : c.2.2.1.U = none := Option.isNone_iff_eq_none.1 x1.2
  have I := M.I
  rw [eU] at I
  exact fun _ _ _ _ _ _ _ _ a hn hq H hd K => cq_nx_ok (cq_HE_ok wf) (cq_HC_ok wf (HT h I)) a hn hq H hd K
def cq_t0 : Nat → Option cq_Ct := fun _ => none
def cq_tc (y : Nat) (c : cq_Ct) (t : Nat → Option cq_Ct) (z : Nat) : Option cq_Ct := bif Nat.beq z y then some c else t z
theorem cq_t0_ok {m : cq_W} : ∀ h, cq_Inv none h → cq_TK m h cq_t0 := fun _ _ _ _ q => by cases q
theorem cq_tc_gen {m : cq_W} {y : Nat} {c : cq_Ct} {t : Nat → Option cq_Ct} (wf : cq_wfC c = true) (ok : cq_CT y c) (U : c.2.2.1.M = [] ∨ ∀ h, cq_Inv none h → cq_UT m h) (H : ∀ h, cq_Inv none h → cq_TK m h t) : ∀ h, cq_Inv none h → cq_TK m h (cq_tc y c t) := by
  intro h I z c' q
  unfold cq_tc at q
  cases hb : Nat.beq z y with
  | true =>
    rw [hb] at q
    rw [← Option.some.inj q, am_beq hb]
    exact ⟨wf, ok, U.imp id (fun k => k h I)⟩
  | false =>
    rw [hb] at q
    exact H h I z c' q
theorem cq_tc_ok {m : cq_W} {y : Nat} {c : cq_Ct} {t : Nat → Option cq_Ct} (wf : cq_wfC c = true) (ok : cq_CT y c) (H : ∀ h, cq_Inv none h → cq_TK m h t) (e : c.2.2.1.M = [] := by rfl) : ∀ h, cq_Inv none h → cq_TK m h (cq_tc y c t) := cq_tc_gen wf ok (Or.inl e) H
theorem cq_tc_gh {m : cq_W} {y : Nat} {c : cq_Ct} {t : Nat → Option cq_Ct} (U : ∀ h, cq_Inv none h → cq_UT m h) (wf : cq_wfC c = true) (ok : cq_CT y c) (H : ∀ h, cq_Inv none h → cq_TK m h t) : ∀ h, cq_Inv none h → cq_TK m h (cq_tc y c t) := cq_tc_gen wf ok (Or.inr U) H
end CYA
