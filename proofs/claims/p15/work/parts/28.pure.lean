/-! THE CHECKER, 4: lists of values, new symbols, steps that leave the heap alone -/
theorem cq_gs_len {ρ : Nat → Int} : ∀ {as : List cq_A} {vs : List Value}, cq_gs ρ as vs → as.length = vs.length
  | [], [], _ => rfl
  | [], _ :: _, h => h.elim
  | _ :: _, [], h => h.elim
  | _ :: as, _ :: vs, h => by
    simp only [List.length_cons]
    rw [cq_gs_len h.2]
theorem cq_gs_get {ρ : Nat → Int} : ∀ {as : List cq_A} {vs : List Value} {i : Nat} {a : cq_A}, cq_gs ρ as vs → as[i]? = some a → ∃ v, vs[i]? = some v ∧ cq_g ρ a v
  | [], _, i, a, _, h => by simp at h
  | _ :: _, [], _, _, h, _ => h.elim
  | b :: as, v :: vs, 0, a, h, e => by
    simp only [List.getElem?_cons_zero, Option.some.injEq] at e
    exact ⟨v, rfl, e ▸ h.1⟩
  | b :: as, v :: vs, i + 1, a, h, e => by
    simp only [List.getElem?_cons_succ] at e ⊢
    exact cq_gs_get h.2 e
theorem cq_gs_set {ρ : Nat → Int} {a : cq_A} {v : Value} (ha : cq_g ρ a v) : ∀ {as : List cq_A} {vs : List Value} (i : Nat), cq_gs ρ as vs → cq_gs ρ (as.set i a) (vs.set i v)
  | [], [], _, h => h
  | [], _ :: _, _, h => h.elim
  | _ :: _, [], _, h => h.elim
  | b :: as, w :: vs, 0, h => ⟨ha, h.2⟩
  | b :: as, w :: vs, i + 1, h => ⟨h.1, cq_gs_set ha i h.2⟩
/-- a place is set to anything: the values may be as they were -/
theorem cq_gs_setu {ρ : Nat → Int} : ∀ {as : List cq_A} {vs : List Value} (i : Nat), cq_gs ρ as vs → cq_gs ρ (as.set i cq_u) vs
  | [], [], _, h => h
  | [], _ :: _, _, h => h.elim
  | _ :: _, [], _, h => h.elim
  | b :: as, w :: vs, 0, h => ⟨trivial, h.2⟩
  | b :: as, w :: vs, i + 1, h => ⟨h.1, cq_gs_setu i h.2⟩
def cq_kill (ls : List cq_A) (i : Nat) : List cq_A := match i with
  | 0 => ls
  | j + 1 => (match ls[j]? with
    | some a => bif Nat.beq a.1 2 || Nat.beq a.1 0 then ls.set j cq_u else ls
    | none => ls)
theorem cq_cat1 {ρ : Nat → Int} {a : cq_A} {v : Value} (h : cq_g ρ a v) (h2 : a.1 ≠ 2) (h0 : a.1 ≠ 0) : v.category = 1 := by
  obtain ⟨t, f, k⟩ := a
  rcases t with _ | _ | _ | _ | _ | _ | _ | t
  · exact absurd rfl h0
  · obtain ⟨x, e, -⟩ := h; rw [e]; rfl
  · exact absurd rfl h2
  · obtain ⟨x, e, -⟩ := h; rw [e]; rfl
  · have e : v = .null := h
    rw [e]; rfl
  · have e : v = .ref k := h
    rw [e]; rfl
  · rcases h with ⟨-, e⟩ | ⟨-, e⟩ <;> (rw [e]; rfl)
  · exact h.elim
theorem cq_cat2 {ρ : Nat → Int} {f : cq_F} {k : Nat} {v : Value} (h : cq_g ρ (2, f, k) v) : v.category = 2 := by
  obtain ⟨x, e, -⟩ := h
  rw [e]; rfl
theorem cq_kill_ok {ρ : Nat → Int} {as : List cq_A} {vs : List Value} (h : cq_gs ρ as vs) (i : Nat) : cq_gs ρ (cq_kill as i) (am_kill vs i) := by
  cases i with
  | zero => exact h
  | succ j =>
    show cq_gs ρ (match as[j]? with
      | some a => bif Nat.beq a.1 2 || Nat.beq a.1 0 then as.set j cq_u else as
      | none => as) (match vs[j]? with
      | some v => bif Nat.beq v.category 2 then vs.set j am_ph else vs
      | none => vs)
    cases ha : as[j]? with
    | none =>
      have hv : vs[j]? = none := by
        rw [List.getElem?_eq_none_iff] at ha ⊢
        rw [← cq_gs_len h]; exact ha
      rw [hv]
      exact h
    | some a =>
      obtain ⟨v, hv, hg⟩ := cq_gs_get h ha
      rw [hv]
      dsimp only
      cases hb : Nat.beq a.1 2 || Nat.beq a.1 0 with
      | true =>
        cases Nat.beq v.category 2 with
        | true => exact cq_gs_set (a := cq_u) trivial j h
        | false => exact cq_gs_setu j h
      | false =>
        have h2 : a.1 ≠ 2 := fun q => by rw [q] at hb; cases hb
        have h0 : a.1 ≠ 0 := fun q => by rw [q] at hb; cases hb
        rw [cq_cat1 hg h2 h0]
        exact h
def cq_set1 (ls : List cq_A) (i : Nat) (v : cq_A) : List cq_A := (cq_kill ls i).set i v
def cq_set2 (ls : List cq_A) (i : Nat) (v : cq_A) : List cq_A := ((cq_kill ls i).set i v).set (i + 1) cq_u
theorem cq_set1_ok {ρ : Nat → Int} {as : List cq_A} {vs : List Value} {a : cq_A} {v : Value} (h : cq_gs ρ as vs) (ha : cq_g ρ a v) (i : Nat) : cq_gs ρ (cq_set1 as i a) (am_set1 vs i v) := cq_gs_set ha i (cq_kill_ok h i)
theorem cq_set2_ok {ρ : Nat → Int} {as : List cq_A} {vs : List Value} {a : cq_A} {v : Value} (h : cq_gs ρ as vs) (ha : cq_g ρ a v) (i : Nat) : cq_gs ρ (cq_set2 as i a) (am_set2 vs i v) := cq_gs_set (a := cq_u) trivial (i + 1) (cq_gs_set ha i (cq_kill_ok h i))
/-! outcomes -/
abbrev cq_O : Type := Nat × List cq_A × List cq_A × cq_S
section CQP
variable (m : cq_W) (h0 : am_H)
/-- at every valuation alike below the next symbol: store, places and stack -/
def cq_Rb (ρ : Nat → Int) (S : cq_S) (als ast : List cq_A) (ls st : List Value) (h : am_H) : Prop := ∀ ρ', cq_ag S.n ρ' ρ → cq_Md m h0 ρ' S h ∧ cq_gs ρ' als ls ∧ cq_gs ρ' ast st
def cq_RO (ρ : Nat → Int) (n : Nat) (o : cq_O) (r : Nat × List Value × List Value × am_H) : Prop := o.1 = r.1 ∧ n ≤ o.2.2.2.n ∧ ∃ ρ1, cq_ag n ρ1 ρ ∧ cq_Rb m h0 ρ1 o.2.2.2 o.2.1 o.2.2.1 r.2.1 r.2.2.1 r.2.2.2
def cq_Res (ρ : Nat → Int) (n : Nat) (out : List cq_O) (ar : am_R) : Prop := ∃ r, ar = some r ∧ ∃ o ∈ out, cq_RO m h0 ρ n o r
end CQP
section CQQ
variable {m : cq_W} {h0 : am_H} {ρ : Nat → Int} {S : cq_S} {als ast : List cq_A} {ls st : List Value} {h : am_H}
/-- one outcome at the same valuation -/
theorem cq_keep {n pc' : Nat} {als' ast' : List cq_A} {S' : cq_S} {ls' st' : List Value} {h' : am_H} (hn : S'.n = n) (k : ∀ ρ', cq_ag n ρ' ρ → cq_Md m h0 ρ' S' h' ∧ cq_gs ρ' als' ls' ∧ cq_gs ρ' ast' st') : cq_Res m h0 ρ n [(pc', als', ast', S')] (some (pc', ls', st', h')) :=
  ⟨_, rfl, _, List.mem_cons_self, rfl, Nat.le_of_eq hn.symm, ρ, cq_ag.rf, fun ρ' a => k ρ' (hn ▸ a)⟩
/-- a new symbol with bounds -/
def cq_S.fb (S : cq_S) (l u : Int) : cq_S := cq_mk (S.n + 1) ((S.n, l, u) :: S.P.1, S.P.2) S.N S.K S.W S.T S.L S.M S.U S.ac S.al
theorem cq_fb_ok {l u w : Int} (H : ∀ ρ', cq_ag S.n ρ' ρ → cq_Md m h0 ρ' S h) (h1 : l ≤ w) (h2 : w ≤ u) : ∀ ρ', cq_ag (S.n + 1) ρ' (cq_up ρ S.n w) → cq_Md m h0 ρ' (S.fb l u) h ∧ ρ' S.n = w := by
  intro ρ' a
  have e := cq_up_s a
  have D := H ρ' (cq_up_a a)
  exact ⟨⟨⟨D.P.1.cons (by rw [e]; exact h1) (by rw [e]; exact h2), D.P.2⟩, D.N, D.K, fun s hs => ⟨Nat.lt_succ_of_lt (D.W s hs).1, (D.W s hs).2⟩, D.2.2.2.2⟩, e⟩
/-- a value that is made, with the store after it -/
def cq_Mk (m : cq_W) (h0 : am_H) (ρ : Nat → Int) (S : cq_S) (h : am_H) (q : cq_A × cq_S) (v : Value) : Prop := S.n ≤ q.2.n ∧ ∃ ρ1, cq_ag S.n ρ1 ρ ∧ ∀ ρ', cq_ag q.2.n ρ' ρ1 → cq_Md m h0 ρ' q.2 h ∧ cq_g ρ' q.1 v
theorem cq_Mk.of {a : cq_A} {v : Value} (H : ∀ ρ', cq_ag S.n ρ' ρ → cq_Md m h0 ρ' S h ∧ cq_g ρ' a v) : cq_Mk m h0 ρ S h (a, S) v := ⟨Nat.le_refl _, ρ, cq_ag.rf, H⟩
theorem cq_Mk.res {q : cq_A × cq_S} {v : Value} {pc' : Nat} {r : List cq_A} {rs : List Value} (k : cq_Mk m h0 ρ S h q v) (H : ∀ ρ', cq_ag S.n ρ' ρ → cq_gs ρ' als ls ∧ cq_gs ρ' r rs) : cq_Res m h0 ρ S.n [(pc', als, q.1 :: r, q.2)] (some (pc', ls, v :: rs, h)) := by
  obtain ⟨hn, ρ1, a1, k⟩ := k
  refine ⟨_, rfl, _, List.mem_cons_self, rfl, hn, ρ1, a1, fun ρ' a => ?_⟩
  obtain ⟨D, g⟩ := k ρ' a
  obtain ⟨g1, g2⟩ := H ρ' ((a.lt hn).tr a1)
  exact ⟨D, g1, g, g2⟩
def cq_fi (S : cq_S) (l u : Int) : cq_A × cq_S := (cq_i (cq_s S.n), S.fb l u)
def cq_fl (S : cq_S) (l u : Int) : cq_A × cq_S := (cq_l (cq_s S.n), S.fb l u)
theorem cq_fi_ok {l u : Int} {x : Int32} (H : ∀ ρ', cq_ag S.n ρ' ρ → cq_Md m h0 ρ' S h) (h1 : l ≤ x.toInt) (h2 : x.toInt ≤ u) : cq_Mk m h0 ρ S h (cq_fi S l u) (.int x) := by
  refine ⟨Nat.le_succ _, cq_up ρ S.n x.toInt, cq_up_g, fun ρ' a => ?_⟩
  obtain ⟨D, e⟩ := cq_fb_ok H h1 h2 ρ' a
  exact ⟨D, x, rfl, by rw [cq_s_e, e]⟩
theorem cq_fl_ok {l u : Int} {x : Int64} (H : ∀ ρ', cq_ag S.n ρ' ρ → cq_Md m h0 ρ' S h) (h1 : l ≤ x.toInt) (h2 : x.toInt ≤ u) : cq_Mk m h0 ρ S h (cq_fl S l u) (.long x) := by
  refine ⟨Nat.le_succ _, cq_up ρ S.n x.toInt, cq_up_g, fun ρ' a => ?_⟩
  obtain ⟨D, e⟩ := cq_fb_ok H h1 h2 ρ' a
  exact ⟨D, x, rfl, by rw [cq_s_e, e]⟩
def cq_any (S : cq_S) : cq_A × cq_S := cq_fi S (-2147483648) 2147483647
def cq_anl (S : cq_S) : cq_A × cq_S := cq_fl S (-9223372036854775808) 9223372036854775807
theorem cq_any_ok {x : Int32} (H : ∀ ρ', cq_ag S.n ρ' ρ → cq_Md m h0 ρ' S h) : cq_Mk m h0 ρ S h (cq_any S) (.int x) := cq_fi_ok H x.le_toInt (by have := x.toInt_lt; omega)
theorem cq_anl_ok {x : Int64} (H : ∀ ρ', cq_ag S.n ρ' ρ → cq_Md m h0 ρ' S h) : cq_Mk m h0 ρ S h (cq_anl S) (.long x) := cq_fl_ok H x.le_toInt (by have := x.toInt_lt; omega)
def cq_rg (S : cq_S) (f : cq_F) : Bool := cq_in S.P f (-2147483648) 2147483647
def cq_rl (S : cq_S) (f : cq_F) : Bool := cq_in S.P f (-9223372036854775808) 9223372036854775807
/-- an int that is a form, if that is in range -/
def cq_ai (S : cq_S) (f : cq_F) : cq_A × cq_S := bif cq_rg S f then (cq_i f, S) else cq_any S
def cq_al (S : cq_S) (f : cq_F) : cq_A × cq_S := bif cq_rl S f then (cq_l f, S) else cq_anl S
theorem cq_ai_ok {f : cq_F} {x : Int32} (H : ∀ ρ', cq_ag S.n ρ' ρ → cq_Md m h0 ρ' S h ∧ x.toInt = (cq_e ρ' f).bmod (2 ^ 32)) : cq_Mk m h0 ρ S h (cq_ai S f) (.int x) := by
  unfold cq_ai
  cases hr : cq_rg S f with
  | true =>
    refine cq_Mk.of fun ρ' a => ?_
    obtain ⟨D, e⟩ := H ρ' a
    obtain ⟨b1, b2⟩ := cq_in_ok D.P hr
    refine ⟨D, x, rfl, ?_⟩
    rw [e]
    exact Int.bmod_eq_of_le (by omega) (by omega)
  | false => exact cq_any_ok fun ρ' a => (H ρ' a).1
theorem cq_al_ok {f : cq_F} {x : Int64} (H : ∀ ρ', cq_ag S.n ρ' ρ → cq_Md m h0 ρ' S h ∧ x.toInt = (cq_e ρ' f).bmod (2 ^ 64)) : cq_Mk m h0 ρ S h (cq_al S f) (.long x) := by
  unfold cq_al
  cases hr : cq_rl S f with
  | true =>
    refine cq_Mk.of fun ρ' a => ?_
    obtain ⟨D, e⟩ := H ρ' a
    obtain ⟨b1, b2⟩ := cq_in_ok D.P hr
    refine ⟨D, x, rfl, ?_⟩
    rw [e]
    exact Int.bmod_eq_of_le (by omega) (by omega)
  | false => exact cq_anl_ok fun ρ' a => (H ρ' a).1
end CQQ
