/-! THE CHECKER, 6: jumps -/
def cq_opt (o : Option cq_P) (pc : Nat) (ls st : List cq_A) (S : cq_S) : List cq_O := match o with
  | some P => [(pc, ls, st, S.sP P)]
  | none => []
def cq_br (c : Jvm.ClassFile.Cond) (f : cq_F) (tp fp : Nat) (ls r : List cq_A) (S : cq_S) : List cq_O := match c with
  | .eq => cq_opt (cq_aeq S.P f) tp ls r S ++ cq_opt (cq_ane S.P f) fp ls r S
  | .ne => cq_opt (cq_ane S.P f) tp ls r S ++ cq_opt (cq_aeq S.P f) fp ls r S
  | .lt => cq_opt (cq_asm S.P (cq_ac (cq_neg f) (-1))) tp ls r S ++ cq_opt (cq_asm S.P f) fp ls r S
  | .ge => cq_opt (cq_asm S.P f) tp ls r S ++ cq_opt (cq_asm S.P (cq_ac (cq_neg f) (-1))) fp ls r S
  | .gt => cq_opt (cq_asm S.P (cq_ac f (-1))) tp ls r S ++ cq_opt (cq_asm S.P (cq_neg f)) fp ls r S
  | .le => cq_opt (cq_asm S.P (cq_neg f)) tp ls r S ++ cq_opt (cq_asm S.P (cq_ac f (-1))) fp ls r S
def cq_cd (c : Jvm.ClassFile.Cond) (w : Int) : Prop := match c with
  | .eq => w = 0
  | .ne => w ≠ 0
  | .lt => w < 0
  | .ge => 0 ≤ w
  | .gt => 0 < w
  | .le => w ≤ 0
section CQJ
variable {m : cq_W} {h0 : am_H} {ρ : Nat → Int} {S : cq_S} {als r : List cq_A} {ls rs : List Value} {h : am_H}
theorem cq_opt_ok {o : Option cq_P} {pc : Nat} {out : List cq_O} (H : ∀ ρ', cq_ag S.n ρ' ρ → cq_Md m h0 ρ' S h ∧ cq_gs ρ' als ls ∧ cq_gs ρ' r rs) (K : ∀ ρ', cq_ag S.n ρ' ρ → ∃ P', o = some P' ∧ cq_pOk ρ' P') (hi : ∀ x ∈ cq_opt o pc als r S, x ∈ out) : cq_Res m h0 ρ S.n out (some (pc, ls, rs, h)) := by
  obtain ⟨P', e, -⟩ := K ρ cq_ag.rf
  subst e
  refine ⟨_, rfl, _, hi _ List.mem_cons_self, rfl, Nat.le_refl _, ρ, cq_ag.rf, fun ρ' a => ?_⟩
  obtain ⟨D, g1, g2⟩ := H ρ' a
  obtain ⟨P2, e2, hP⟩ := K ρ' a
  rw [← Option.some.inj e2] at hP
  exact ⟨D.sP hP, g1, g2⟩
theorem cq_br_t {c : Jvm.ClassFile.Cond} {f : cq_F} {w : Int} {tp fp : Nat} (H : ∀ ρ', cq_ag S.n ρ' ρ → cq_Md m h0 ρ' S h ∧ cq_gs ρ' als ls ∧ cq_gs ρ' r rs) (K : ∀ ρ', cq_ag S.n ρ' ρ → (w < 0 ↔ cq_e ρ' f < 0) ∧ (w = 0 ↔ cq_e ρ' f = 0)) (hw : cq_cd c w) : cq_Res m h0 ρ S.n (cq_br c f tp fp als r S) (some (tp, ls, rs, h)) := by
  cases c with
  | eq =>
    have hw : w = 0 := hw
    exact cq_opt_ok H (fun ρ' a => cq_aeq_ok (H ρ' a).1.P (by have := K ρ' a; omega)) (fun x hx => List.mem_append_left _ hx)
  | ne =>
    have hw : w ≠ 0 := hw
    exact cq_opt_ok H (fun ρ' a => cq_ane_ok (H ρ' a).1.P (by have := K ρ' a; omega)) (fun x hx => List.mem_append_left _ hx)
  | lt =>
    have hw : w < 0 := hw
    exact cq_opt_ok H (fun ρ' a => cq_asm_ok (H ρ' a).1.P (by have := K ρ' a; rw [cq_ac_e, cq_neg_e]; omega)) (fun x hx => List.mem_append_left _ hx)
  | ge =>
    have hw : 0 ≤ w := hw
    exact cq_opt_ok H (fun ρ' a => cq_asm_ok (H ρ' a).1.P (by have := K ρ' a; omega)) (fun x hx => List.mem_append_left _ hx)
  | gt =>
    have hw : 0 < w := hw
    exact cq_opt_ok H (fun ρ' a => cq_asm_ok (H ρ' a).1.P (by have := K ρ' a; rw [cq_ac_e]; omega)) (fun x hx => List.mem_append_left _ hx)
  | le =>
    have hw : w ≤ 0 := hw
    exact cq_opt_ok H (fun ρ' a => cq_asm_ok (H ρ' a).1.P (by have := K ρ' a; rw [cq_neg_e]; omega)) (fun x hx => List.mem_append_left _ hx)
theorem cq_br_f {c : Jvm.ClassFile.Cond} {f : cq_F} {w : Int} {tp fp : Nat} (H : ∀ ρ', cq_ag S.n ρ' ρ → cq_Md m h0 ρ' S h ∧ cq_gs ρ' als ls ∧ cq_gs ρ' r rs) (K : ∀ ρ', cq_ag S.n ρ' ρ → (w < 0 ↔ cq_e ρ' f < 0) ∧ (w = 0 ↔ cq_e ρ' f = 0)) (hw : ¬ cq_cd c w) : cq_Res m h0 ρ S.n (cq_br c f tp fp als r S) (some (fp, ls, rs, h)) := by
  cases c with
  | eq =>
    have hw : ¬ w = 0 := hw
    exact cq_opt_ok H (fun ρ' a => cq_ane_ok (H ρ' a).1.P (by have := K ρ' a; omega)) (fun x hx => List.mem_append_right _ hx)
  | ne =>
    have hw : ¬ w ≠ 0 := hw
    exact cq_opt_ok H (fun ρ' a => cq_aeq_ok (H ρ' a).1.P (by have := K ρ' a; omega)) (fun x hx => List.mem_append_right _ hx)
  | lt =>
    have hw : ¬ w < 0 := hw
    exact cq_opt_ok H (fun ρ' a => cq_asm_ok (H ρ' a).1.P (by have := K ρ' a; omega)) (fun x hx => List.mem_append_right _ hx)
  | ge =>
    have hw : ¬ 0 ≤ w := hw
    exact cq_opt_ok H (fun ρ' a => cq_asm_ok (H ρ' a).1.P (by have := K ρ' a; rw [cq_ac_e, cq_neg_e]; omega)) (fun x hx => List.mem_append_right _ hx)
  | gt =>
    have hw : ¬ 0 < w := hw
    exact cq_opt_ok H (fun ρ' a => cq_asm_ok (H ρ' a).1.P (by have := K ρ' a; rw [cq_neg_e]; omega)) (fun x hx => List.mem_append_right _ hx)
  | le =>
    have hw : ¬ w ≤ 0 := hw
    exact cq_opt_ok H (fun ρ' a => cq_asm_ok (H ρ' a).1.P (by have := K ρ' a; rw [cq_ac_e]; omega)) (fun x hx => List.mem_append_right _ hx)
end CQJ
/-- a jump of an int against 0 (or of a comparison's sign) and of two ints -/
def cq_j1 (c : Jvm.ClassFile.Cond) (tp fp : Nat) (ls st : List cq_A) (S : cq_S) : Option (List cq_O) := match st with
  | (t, f, _) :: r => bif Nat.beq t 1 || Nat.beq t 3 then some (cq_br c f tp fp ls r S) else none
  | _ => none
def cq_j2 (c : Jvm.ClassFile.Cond) (tp fp : Nat) (ls st : List cq_A) (S : cq_S) : Option (List cq_O) := match st with
  | (1, g, _) :: (1, f, _) :: r => some (cq_br c (cq_sub f g) tp fp ls r S)
  | _ => none
section CQK
variable {m : cq_W} {h0 : am_H} {ρ : Nat → Int} {S : cq_S} {als ast : List cq_A} {ls st : List Value} {h : am_H} {out : List cq_O}
theorem cq_gs_cons {ρ : Nat → Int} {a : cq_A} {as : List cq_A} : ∀ {vs : List Value}, cq_gs ρ (a :: as) vs → ∃ v r, vs = v :: r ∧ cq_g ρ a v ∧ cq_gs ρ as r
  | [], h => h.elim
  | v :: r, h => ⟨v, r, rfl, h.1, h.2⟩
/-- the top of a stack -/
theorem cq_pop1 {a : cq_A} {r : List cq_A} (H : cq_Rb m h0 ρ S als (a :: r) ls st h) : ∃ v rs, st = v :: rs ∧ (∀ ρ', cq_ag S.n ρ' ρ → cq_g ρ' a v) ∧ cq_Rb m h0 ρ S als r ls rs h := by
  obtain ⟨v, rs, e, -, -⟩ := cq_gs_cons (H ρ cq_ag.rf).2.2
  subst e
  exact ⟨v, rs, rfl, fun ρ' a => (H ρ' a).2.2.1, fun ρ' a => ⟨(H ρ' a).1, (H ρ' a).2.1, (H ρ' a).2.2.2⟩⟩
theorem cq_int {f : cq_F} {k : Nat} {v : Value} (K : ∀ ρ', cq_ag S.n ρ' ρ → cq_g ρ' (1, f, k) v) : ∃ x : Int32, v = .int x ∧ ∀ ρ', cq_ag S.n ρ' ρ → x.toInt = cq_e ρ' f := by
  obtain ⟨x, e, -⟩ := K ρ cq_ag.rf
  subst e
  refine ⟨x, rfl, fun ρ' a => ?_⟩
  obtain ⟨y, e, hy⟩ := K ρ' a
  cases e
  exact hy
theorem cq_lng {f : cq_F} {k : Nat} {v : Value} (K : ∀ ρ', cq_ag S.n ρ' ρ → cq_g ρ' (2, f, k) v) : ∃ x : Int64, v = .long x ∧ ∀ ρ', cq_ag S.n ρ' ρ → x.toInt = cq_e ρ' f := by
  obtain ⟨x, e, -⟩ := K ρ cq_ag.rf
  subst e
  refine ⟨x, rfl, fun ρ' a => ?_⟩
  obtain ⟨y, e, hy⟩ := K ρ' a
  cases e
  exact hy
theorem cq_sgn {t : Nat} {f : cq_F} {k : Nat} {v : Value} (ht : (Nat.beq t 1 || Nat.beq t 3) = true) (K : ∀ ρ', cq_ag S.n ρ' ρ → cq_g ρ' (t, f, k) v) : ∃ x : Int32, v = .int x ∧ ∀ ρ', cq_ag S.n ρ' ρ → (x.toInt < 0 ↔ cq_e ρ' f < 0) ∧ (x.toInt = 0 ↔ cq_e ρ' f = 0) := by
  rcases Bool.or_eq_true _ _ ▸ ht with q | q
  · have e := am_beq q
    subst e
    obtain ⟨x, e, hx⟩ := cq_int K
    exact ⟨x, e, fun ρ' a => by rw [hx ρ' a]; exact ⟨Iff.rfl, Iff.rfl⟩⟩
  · have e := am_beq q
    subst e
    obtain ⟨x, e, -⟩ := K ρ cq_ag.rf
    subst e
    refine ⟨x, rfl, fun ρ' a => ?_⟩
    obtain ⟨y, e, hy⟩ := K ρ' a
    cases e
    exact hy
theorem cq_i0 : (0 : Int32).toInt = 0 := rfl
theorem cq_j1_ok {e : am_E} {c : Jvm.ClassFile.Cond} {o : Int} {pc : Nat} (he : e.1 = .ifCond c o) (H : cq_Rb m h0 ρ S als ast ls st h) (q : cq_j1 c e.2.2.1.toNat (pc + 3) als ast S = some out) : cq_Res m h0 ρ S.n out (am_st e pc ls st h) := by
  unfold cq_j1 at q
  split at q
  · rename_i t f k r
    cases ht : Nat.beq t 1 || Nat.beq t 3 with
    | false => rw [ht] at q; cases q
    | true =>
      rw [ht] at q
      have q := Option.some.inj q
      subst q
      obtain ⟨v, rs, e1, K, H2⟩ := cq_pop1 H
      subst e1
      obtain ⟨x, e2, hx⟩ := cq_sgn ht K
      subst e2
      simp only [am_st, he]
      have l0 : x < 0 ↔ x.toInt < 0 := by rw [Int32.lt_iff_toInt_lt, cq_i0]
      have l1 : 0 ≤ x ↔ 0 ≤ x.toInt := by rw [Int32.le_iff_toInt_le, cq_i0]
      have l2 : 0 < x ↔ 0 < x.toInt := by rw [Int32.lt_iff_toInt_lt, cq_i0]
      have l3 : x ≤ 0 ↔ x.toInt ≤ 0 := by rw [Int32.le_iff_toInt_le, cq_i0]
      have l4 : x = 0 ↔ x.toInt = 0 := by rw [← Int32.toInt_inj, cq_i0]
      cases c with
      | eq =>
        dsimp only
        by_cases hc : x = 0
        · rw [if_pos hc]; exact cq_br_t H2 hx (l4.1 hc)
        · rw [if_neg hc]; exact cq_br_f H2 hx (fun z => hc (l4.2 z))
      | ne =>
        dsimp only
        by_cases hc : x = 0
        · rw [if_pos hc]; exact cq_br_f H2 hx (fun z => z (l4.1 hc))
        · rw [if_neg hc]; exact cq_br_t H2 hx (fun z => hc (l4.2 z))
      | lt =>
        dsimp only
        by_cases hc : x < 0
        · rw [if_pos hc]; exact cq_br_t H2 hx (l0.1 hc)
        · rw [if_neg hc]; exact cq_br_f H2 hx (fun z => hc (l0.2 z))
      | ge =>
        dsimp only
        by_cases hc : 0 ≤ x
        · rw [if_pos hc]; exact cq_br_t H2 hx (l1.1 hc)
        · rw [if_neg hc]; exact cq_br_f H2 hx (fun z => hc (l1.2 z))
      | gt =>
        dsimp only
        by_cases hc : 0 < x
        · rw [if_pos hc]; exact cq_br_t H2 hx (l2.1 hc)
        · rw [if_neg hc]; exact cq_br_f H2 hx (fun z => hc (l2.2 z))
      | le =>
        dsimp only
        by_cases hc : x ≤ 0
        · rw [if_pos hc]; exact cq_br_t H2 hx (l3.1 hc)
        · rw [if_neg hc]; exact cq_br_f H2 hx (fun z => hc (l3.2 z))
  · cases q
theorem cq_j2_ok {e : am_E} {c : Jvm.ClassFile.Cond} {o : Int} {pc : Nat} (he : e.1 = .if_icmp c o) (H : cq_Rb m h0 ρ S als ast ls st h) (q : cq_j2 c e.2.2.1.toNat (pc + 3) als ast S = some out) : cq_Res m h0 ρ S.n out (am_st e pc ls st h) := by
  unfold cq_j2 at q
  split at q
  · rename_i g k1 f k2 r
    have q := Option.some.inj q
    subst q
    obtain ⟨v, rs, e1, K1, H1⟩ := cq_pop1 H
    subst e1
    obtain ⟨y, e2, hy⟩ := cq_int K1
    subst e2
    obtain ⟨v, rs, e1, K2, H2⟩ := cq_pop1 H1
    subst e1
    obtain ⟨x, e2, hx0⟩ := cq_int K2
    subst e2
    simp only [am_st, he]
    have hx : ∀ ρ', cq_ag S.n ρ' ρ → (x.toInt - y.toInt < 0 ↔ cq_e ρ' (cq_sub f g) < 0) ∧ (x.toInt - y.toInt = 0 ↔ cq_e ρ' (cq_sub f g) = 0) := fun ρ' a => by
      rw [hx0 ρ' a, hy ρ' a, cq_sub_e]
      exact ⟨Iff.rfl, Iff.rfl⟩
    have l0 : x < y ↔ x.toInt - y.toInt < 0 := by rw [Int32.lt_iff_toInt_lt]; omega
    have l1 : y ≤ x ↔ 0 ≤ x.toInt - y.toInt := by rw [Int32.le_iff_toInt_le]; omega
    have l2 : y < x ↔ 0 < x.toInt - y.toInt := by rw [Int32.lt_iff_toInt_lt]; omega
    have l3 : x ≤ y ↔ x.toInt - y.toInt ≤ 0 := by rw [Int32.le_iff_toInt_le]; omega
    have l4 : x = y ↔ x.toInt - y.toInt = 0 := by rw [← Int32.toInt_inj]; omega
    cases c with
    | eq =>
      dsimp only
      by_cases hc : x = y
      · rw [if_pos hc]; exact cq_br_t H2 hx (l4.1 hc)
      · rw [if_neg hc]; exact cq_br_f H2 hx (fun z => hc (l4.2 z))
    | ne =>
      dsimp only
      by_cases hc : x = y
      · rw [if_pos hc]; exact cq_br_f H2 hx (fun z => z (l4.1 hc))
      · rw [if_neg hc]; exact cq_br_t H2 hx (fun z => hc (l4.2 z))
    | lt =>
      dsimp only
      by_cases hc : x < y
      · rw [if_pos hc]; exact cq_br_t H2 hx (l0.1 hc)
      · rw [if_neg hc]; exact cq_br_f H2 hx (fun z => hc (l0.2 z))
    | ge =>
      dsimp only
      by_cases hc : y ≤ x
      · rw [if_pos hc]; exact cq_br_t H2 hx (l1.1 hc)
      · rw [if_neg hc]; exact cq_br_f H2 hx (fun z => hc (l1.2 z))
    | gt =>
      dsimp only
      by_cases hc : y < x
      · rw [if_pos hc]; exact cq_br_t H2 hx (l2.1 hc)
      · rw [if_neg hc]; exact cq_br_f H2 hx (fun z => hc (l2.2 z))
    | le =>
      dsimp only
      by_cases hc : x ≤ y
      · rw [if_pos hc]; exact cq_br_t H2 hx (l3.1 hc)
      · rw [if_neg hc]; exact cq_br_f H2 hx (fun z => hc (l3.2 z))
  · cases q
end CQK
