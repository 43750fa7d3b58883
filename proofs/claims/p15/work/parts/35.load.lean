/-! THE CHECKER, 10: reading a place -/
/-- the count that stands at a place -/
def cq_cn (S : cq_S) (c i : Nat) : Option (cq_F × cq_S) := match cq_tl (false, c) (cq_c i) S.T with
  | some (1, f, _) => some (f, S)
  | some _ => none
  | none => (match cq_cl (cq_fix c).2.1 i with
    | (1, l, u, _) => some (cq_s S.n, (S.fb l u).aT ((false, c), cq_c i, cq_i (cq_s S.n)))
    | _ => none)
/-- a fact that is known to hold -/
def cq_fct (S : cq_S) (g : cq_F) : Option cq_S := match cq_asm S.P g with
  | some P => some (S.sP P)
  | none => none
/-- a value of a type at a place -/
def cq_vt (S : cq_S) (t : cq_T) (j : cq_F) : Option (cq_A × cq_S) := match t with
  | (1, l, u, _) => some (cq_fi S l u)
  | (2, _) => some (cq_anl S)
  | (3, _, _, k, _) => some (cq_rc k, S)
  | (4, _, _, k, _) => some (cq_rs S.n, S.fk (0, k, 0) true)
  | (5, _, _, k, _) => some (cq_rs S.n, S.fk (0, k, 0) false)
  | (6, _, _, tc, ln, _) => some (cq_rs S.n, S.fk (1, tc, ln) true)
  | (8, l, u, k, _) => (match cq_cn S 40 13 with
    | some (f, S1) => (match cq_fct (S1.fb l u) (cq_sub (cq_sc k f) (cq_s S1.n)) with
      | some S2 => some (cq_i (cq_s S1.n), S2)
      | none => none)
    | none => none)
  | (9, l, u, _) => (match cq_cn S 40 13 with
    | some (f, S1) => bif cq_en S1.P (cq_ac f (-1)) then (match cq_fct (S1.fb l u) (cq_sub (cq_ac f (-1)) (cq_s S1.n)) with
      | some S2 => some (cq_i (cq_s S1.n), S2)
      | none => none) else some (cq_fi S1 l u)
    | none => none)
  | (10, l, u, _) => (match cq_fct (S.fb l u) (cq_sub (cq_sub (cq_c u) j) (cq_s S.n)) with
    | some S2 => some (cq_i (cq_s S.n), S2)
    | none => none)
  | (11, _, _, k, c, i) => (match cq_cn S c i with
    | some (f, S1) => bif cq_en S1.P (cq_ac (cq_sub f j) (-1)) then some (cq_rs S1.n, S1.fk (0, k, 0) true) else some (cq_rs S1.n, S1.fk (0, k, 0) false)
    | none => none)
  | _ => none
section CQX
variable {m : cq_W} {h0 : am_H} {ρ : Nat → Int} {S : cq_S} {h : am_H}
/-- first one thing is made, then, with what it has left, another -/
theorem cq_Mk.seq {a : cq_A} {S1 : cq_S} {q : cq_A × cq_S} {v w : Value} (k : cq_Mk m h0 ρ S h (a, S1) v) (n : ∀ ρ1, cq_ag S.n ρ1 ρ → (∀ ρ', cq_ag S1.n ρ' ρ1 → cq_Md m h0 ρ' S1 h ∧ cq_g ρ' a v) → cq_Mk m h0 ρ1 S1 h q w) : cq_Mk m h0 ρ S h q w := by
  obtain ⟨hn, ρ1, a1, k⟩ := k
  obtain ⟨hn2, ρ2, a2, k2⟩ := n ρ1 a1 k
  exact ⟨Nat.le_trans hn hn2, ρ2, (a2.lt hn).tr a1, k2⟩
theorem cq_cn_ty : cq_tyOf 40 (cq_fix 40) 13 = cq_cl (cq_fix 40).2.1 13 ∧ cq_tyOf 48 (cq_fix 48) 1 = cq_cl (cq_fix 48).2.1 1 ∧ 13 < (cq_fix 40).2.2 ∧ 1 < (cq_fix 48).2.2 := by decide +kernel
def cq_cok (c i : Nat) : Bool := (Nat.beq c 40 && Nat.beq i 13) || (Nat.beq c 48 && Nat.beq i 1)
theorem cq_cn_pl {c i : Nat} (hc : cq_cok c i = true) (I : cq_Inv (S.U.map fun q => (ρ q.1).toNat) h) (hU : ∀ q, S.U = some q → 130 ≤ ρ q.1) : cq_ht h i (cq_cl (cq_fix c).2.1 i) (h.2.2.2 c i) := by
  have nU : c < 130 → some c ≠ S.U.map (fun q => (ρ q.1).toNat) := fun hc e => by
    cases hu : S.U with
    | none => rw [hu] at e; cases e
    | some q =>
      have := hU q hu
      rw [hu] at e
      have e : c = (ρ q.1).toNat := Option.some.inj e
      omega
  obtain ⟨t1, t2, l1, l2⟩ := cq_cn_ty
  rcases Bool.or_eq_true _ _ ▸ hc with z | z
  · have z := (Bool.and_eq_true _ _ ▸ z)
    have e1 := am_beq z.1
    have e2 := am_beq z.2
    subst e1
    subst e2
    have k := I.ty 40 (by omega) (by have := I.lo; omega) (nU (by omega)) 13 (by rw [I.fx 40 (by omega) (by omega)]; exact l1)
    rw [I.fx 40 (by omega) (by omega), t1] at k
    exact k
  · have z := (Bool.and_eq_true _ _ ▸ z)
    have e1 := am_beq z.1
    have e2 := am_beq z.2
    subst e1
    subst e2
    have k := I.ty 48 (by omega) (by have := I.lo; omega) (nU (by omega)) 1 (by rw [I.fx 48 (by omega) (by omega)]; exact l2)
    rw [I.fx 48 (by omega) (by omega), t2] at k
    exact k
theorem cq_cn_ok {c i : Nat} {f : cq_F} {S1 : cq_S} (hc : cq_cok c i = true) (q : cq_cn S c i = some (f, S1)) (H : ∀ ρ', cq_ag S.n ρ' ρ → cq_Md m h0 ρ' S h) : ∃ x : Int32, h.2.2.2 c i = .int x ∧ S1.U = S.U ∧ S1.W = S.W ∧ cq_Mk m h0 ρ S h (cq_i f, S1) (.int x) := by
  unfold cq_cn at q
  have e0 : ∀ ρ', cq_e ρ' (cq_c (i : Int)) = (i : Int) := fun ρ' => cq_c_e ρ' i
  split at q
  · rename_i f' k ht
    have q := Option.some.inj q
    have e1 : f' = f := congrArg (·.1) q
    have e2 : S = S1 := congrArg (·.2) q
    subst e1
    subst e2
    have key : ∀ ρ', cq_ag S.n ρ' ρ → cq_g ρ' (1, f', k) (h.2.2.2 c i) := fun ρ' a => by
      have z := (H ρ' a).T _ (cq_tl_ok ht)
      dsimp only at z
      rw [e0 ρ', Int.toNat_natCast] at z
      exact z
    obtain ⟨x, ex, -⟩ := key ρ cq_ag.rf
    refine ⟨x, ex, rfl, rfl, cq_Mk.of fun ρ' a => ⟨H ρ' a, ?_⟩⟩
    have z := key ρ' a
    rw [ex] at z
    exact z
  · cases q
  · split at q
    · rename_i l u r he
      have q := Option.some.inj q
      have e1 : cq_s S.n = f := congrArg (·.1) q
      have e2 : (S.fb l u).aT ((false, c), cq_c i, cq_i (cq_s S.n)) = S1 := congrArg (·.2) q
      subst e1
      subst e2
      have z := cq_cn_pl hc (H ρ cq_ag.rf).I (fun q hq => ((H ρ cq_ag.rf).U q hq).1)
      rw [he] at z
      obtain ⟨x, ex, b1, b2⟩ := z
      refine ⟨x, ex, rfl, rfl, ?_⟩
      have k := cq_fi_ok (m := m) (h0 := h0) (ρ := ρ) (S := S) (h := h) H b1 b2
      exact k.aT (c := (false, c)) (j := cq_c i) fun ρ' a => by rw [e0 ρ', Int.toNat_natCast]; exact ex
    · cases q
theorem cq_fct_ok {g : cq_F} {a : cq_A} {v : Value} {S1 S2 : cq_S} (q : cq_fct S1 g = some S2) (k : cq_Mk m h0 ρ S h (a, S1) v) (hg : ∀ ρ1, cq_ag S.n ρ1 ρ → cq_Md m h0 ρ1 S1 h → cq_g ρ1 a v → 0 ≤ cq_e ρ1 g) : cq_Mk m h0 ρ S h (a, S2) v := by
  unfold cq_fct at q
  split at q
  · rename_i P hP
    rw [← Option.some.inj q]
    obtain ⟨hn, ρ1, a1, k⟩ := k
    refine ⟨hn, ρ1, a1, fun ρ' a => ?_⟩
    obtain ⟨D, g1⟩ := k ρ' a
    obtain ⟨P', e, hP'⟩ := cq_asm_ok D.P (hg ρ' ((a.lt hn).tr a1) D g1)
    rw [hP] at e
    rw [← Option.some.inj e] at hP'
    exact ⟨D.sP hP', g1⟩
  · cases q
/-- a value of a type is made -/
theorem cq_vt_ok {t : cq_T} {j : cq_F} {v : Value} {q : cq_A × cq_S} (e : cq_vt S t j = some q) (H : ∀ ρ', cq_ag S.n ρ' ρ → cq_Md m h0 ρ' S h) (hj : ∀ ρ', cq_ag S.n ρ' ρ → cq_e ρ' j = cq_e ρ j ∧ 0 ≤ cq_e ρ' j) (ht : cq_ht h (cq_e ρ j).toNat t v) (hc : t.1 = 11 → cq_cok t.2.2.2.2.1 t.2.2.2.2.2 = true) : q.2.U = S.U ∧ q.2.W = S.W ∧ cq_Mk m h0 ρ S h q v := by
  unfold cq_vt at e
  split at e
  · rename_i l u r
    obtain ⟨x, ex, b1, b2⟩ := ht
    subst ex
    rw [← Option.some.inj e]
    exact ⟨rfl, rfl, cq_fi_ok H b1 b2⟩
  · obtain ⟨x, ex⟩ := ht
    subst ex
    rw [← Option.some.inj e]
    exact ⟨rfl, rfl, cq_anl_ok H⟩
  · rw [← Option.some.inj e]
    exact ⟨rfl, rfl, cq_Mk.of fun ρ' a => ⟨H ρ' a, ht⟩⟩
  · rw [← Option.some.inj e]
    exact ⟨rfl, rfl, cq_fk_ok H (Or.inr ht)⟩
  · rw [← Option.some.inj e]
    refine ⟨rfl, rfl, cq_fk_ok H ?_⟩
    rcases ht with z | z
    · exact Or.inl ⟨rfl, z⟩
    · exact Or.inr z
  · rw [← Option.some.inj e]
    exact ⟨rfl, rfl, cq_fk_ok H (Or.inr ht)⟩
  · rename_i l u k r
    obtain ⟨x, ex, b1, b2, b3⟩ := ht
    subst ex
    split at e
    · rename_i f S1 hcn
      obtain ⟨y, ey, u1, w1, kk⟩ := cq_cn_ok (m := m) (h0 := h0) (ρ := ρ) (h := h) (c := 40) (i := 13) rfl hcn H
      split at e
      · rename_i S2 hf
        rw [← Option.some.inj e]
        have e40 : cq_n h 40 13 = y.toInt := by unfold cq_n; rw [ey]
        have eS : S2.U = S1.U ∧ S2.W = S1.W := by
          unfold cq_fct at hf
          split at hf
          · rw [← Option.some.inj hf]; exact ⟨rfl, rfl⟩
          · cases hf
        refine ⟨eS.1.trans u1, eS.2.trans w1, kk.seq fun ρ1 a1 k1 => ?_⟩
        refine cq_fct_ok hf (cq_fi_ok (fun ρ' a => (k1 ρ' a).1) b1 b2) fun ρ2 a2 D g => ?_
        obtain ⟨y', ey', hy⟩ := (k1 ρ2 a2).2
        cases ey'
        obtain ⟨x', ex', hx⟩ := g
        cases ex'
        rw [cq_sub_e, cq_sc_e, ← hy, ← hx]
        rw [e40] at b3
        omega
      · cases e
    · cases e
  · rename_i l u r
    obtain ⟨x, ex, b1, b2, b3⟩ := ht
    subst ex
    split at e
    · rename_i f S1 hcn
      obtain ⟨y, ey, u1, w1, kk⟩ := cq_cn_ok (m := m) (h0 := h0) (ρ := ρ) (h := h) (c := 40) (i := 13) rfl hcn H
      have e40 : cq_n h 40 13 = y.toInt := by unfold cq_n; rw [ey]
      rw [cond_eq_ite] at e
      split at e
      · rename_i hen
        split at e
        · rename_i S2 hf
          rw [← Option.some.inj e]
          have eS : S2.U = S1.U ∧ S2.W = S1.W := by
            unfold cq_fct at hf
            split at hf
            · rw [← Option.some.inj hf]; exact ⟨rfl, rfl⟩
            · cases hf
          refine ⟨eS.1.trans u1, eS.2.trans w1, kk.seq fun ρ1 a1 k1 => ?_⟩
          refine cq_fct_ok hf (cq_fi_ok (fun ρ' a => (k1 ρ' a).1) b1 b2) fun ρ2 a2 D g => ?_
          obtain ⟨D1, y', ey', hy⟩ := k1 ρ2 a2
          cases ey'
          obtain ⟨x', ex', hx⟩ := g
          cases ex'
          have := cq_en_ok D1.P hen
          rw [cq_ac_e] at this
          rw [cq_sub_e, cq_ac_e, ← hy, ← hx]
          rw [e40] at b3
          omega
        · cases e
      · rw [← Option.some.inj e]
        exact ⟨u1, w1, kk.seq fun ρ1 a1 k1 => cq_fi_ok (fun ρ' a => (k1 ρ' a).1) b1 b2⟩
    · cases e
  · rename_i l u r
    obtain ⟨x, ex, b1, b2⟩ := ht
    subst ex
    split at e
    · rename_i S2 hf
      rw [← Option.some.inj e]
      have eS : S2.U = S.U ∧ S2.W = S.W := by
        unfold cq_fct at hf
        split at hf
        · rw [← Option.some.inj hf]; exact ⟨rfl, rfl⟩
        · cases hf
      have hj0 := (hj ρ cq_ag.rf).2
      refine ⟨eS.1, eS.2, cq_fct_ok hf (cq_fi_ok H b1 (by omega)) fun ρ2 a2 D g => ?_⟩
      obtain ⟨x', ex', hx⟩ := g
      cases ex'
      have := (hj ρ2 a2).1
      rw [cq_sub_e, cq_sub_e, cq_c_e, ← hx]
      omega
    · cases e
  · rename_i k c i
    split at e
    · rename_i f S1 hcn
      obtain ⟨y, ey, u1, w1, kk⟩ := cq_cn_ok (m := m) (h0 := h0) (ρ := ρ) (h := h) (hc rfl) hcn H
      have ec : cq_n h c i = y.toInt := by unfold cq_n; rw [ey]
      rw [cond_eq_ite] at e
      split at e
      · rename_i hen
        rw [← Option.some.inj e]
        refine ⟨u1, w1, kk.seq fun ρ1 a1 k1 => cq_fk_ok (fun ρ' a => (k1 ρ' a).1) ?_⟩
        rcases ht with ⟨-, z⟩ | z
        · obtain ⟨D1, y', ey', hy⟩ := k1 ρ1 cq_ag.rf
          cases ey'
          have := cq_en_ok D1.P hen
          rw [cq_ac_e, cq_sub_e] at this
          have := hj ρ1 a1
          rw [ec] at z
          omega
        · exact Or.inr z
      · rw [← Option.some.inj e]
        refine ⟨u1, w1, kk.seq fun ρ1 a1 k1 => cq_fk_ok (fun ρ' a => (k1 ρ' a).1) ?_⟩
        rcases ht with ⟨z, -⟩ | z
        · exact Or.inl ⟨rfl, z⟩
        · exact Or.inr z
    · cases e
  · cases e
end CQX
