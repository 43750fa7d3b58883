/-! THE CHECKER, 2: a new fact and what it does to the bounds -/
def cq_neg (f : cq_F) : cq_F := cq_sc (-1) f
theorem cq_neg_e (ρ : Nat → Int) (f : cq_F) : cq_e ρ (cq_neg f) = - cq_e ρ f := by
  rw [cq_neg, cq_sc_e]
  omega
def cq_st1 (B : cq_B) (g : cq_F) (t : Nat × Int) : Option cq_B := match cq_bd t.1 B with
  | none => some B
  | some b => (match cq_lo B (cq_neg (cq_add g (0, [(t.1, - t.2)]))) with
    | none => some B
    | some m => bif cq_z t.2 then some B else bif cq_p t.2 then
        (bif cq_p (b.1 + ((- m) / t.2)) then some B else bif cq_p (b.2 + ((- m) / t.2)) then some ((t.1, - ((- m) / t.2), b.2) :: B) else none)
      else
        (bif cq_p ((- m) / (- t.2) - b.2) then some B else bif cq_p ((- m) / (- t.2) - b.1) then some ((t.1, b.1, (- m) / (- t.2)) :: B) else none))
theorem cq_bOk.cons {ρ : Nat → Int} {B : cq_B} (hB : cq_bOk ρ B) {s : Nat} {l u : Int} (h1 : l ≤ ρ s) (h2 : ρ s ≤ u) : cq_bOk ρ ((s, l, u) :: B) := fun b hb => by
  rcases List.mem_cons.1 hb with q | q
  · rw [q]; exact ⟨h1, h2⟩
  · exact hB b q
theorem cq_np {a : Int} (h : cq_p a = false) : a < 0 := by
  rcases (show a < 0 ∨ 0 ≤ a by omega) with q | q
  · exact q
  · rw [cq_p_of q] at h; cases h
theorem cq_st1_ok {ρ : Nat → Int} {B : cq_B} (hB : cq_bOk ρ B) {g : cq_F} (hg : 0 ≤ cq_e ρ g) (t : Nat × Int) : ∃ B', cq_st1 B g t = some B' ∧ cq_bOk ρ B' := by
  unfold cq_st1
  cases hb : cq_bd t.1 B with
  | none => exact ⟨B, rfl, hB⟩
  | some b =>
    have hbb := cq_bd_ok hB hb
    cases hl : cq_lo B (cq_neg (cq_add g (0, [(t.1, - t.2)]))) with
    | none => exact ⟨B, rfl, hB⟩
    | some m =>
      have hm := cq_lo_ok hB hl
      rw [cq_neg_e, cq_add_e] at hm
      have e1 : cq_e ρ ((0, [(t.1, - t.2)]) : cq_F) = - (t.2 * ρ t.1) := by
        simp only [cq_e, cq_eT, Int.neg_mul]
        omega
      rw [e1] at hm
      dsimp only
      cases hz : cq_z t.2 with
      | true => exact ⟨B, rfl, hB⟩
      | false =>
        have ht : t.2 ≠ 0 := fun q => by rw [q] at hz; cases hz
        simp only [cond_false]
        have hk : - (- m) ≤ t.2 * ρ t.1 := by omega
        generalize - m = w at hk ⊢
        cases hp : cq_p t.2 with
        | true =>
          have hpos : 0 < t.2 := by have := cq_p_le hp; omega
          simp only [cond_true]
          have key : - (w / t.2) ≤ ρ t.1 := by
            rcases (show ρ t.1 < - (w / t.2) ∨ - (w / t.2) ≤ ρ t.1 by omega) with q | q
            · have a1 := Int.lt_ediv_add_one_mul_self w hpos
              have a2 : ρ t.1 ≤ - (w / t.2 + 1) := by omega
              have a3 := Int.mul_le_mul_of_nonneg_left a2 (Int.le_of_lt hpos)
              rw [Int.mul_neg, Int.mul_comm t.2 (w / t.2 + 1)] at a3
              omega
            · exact q
          cases h1 : cq_p (b.1 + w / t.2) with
          | true => exact ⟨B, rfl, hB⟩
          | false =>
            cases h2 : cq_p (b.2 + w / t.2) with
            | true => exact ⟨_, rfl, hB.cons key hbb.2⟩
            | false => have := cq_np h2; omega
        | false =>
          have hneg : 0 < - t.2 := by have := cq_np hp; omega
          simp only [cond_false]
          have key : ρ t.1 ≤ w / (- t.2) := by
            rcases (show w / (- t.2) < ρ t.1 ∨ ρ t.1 ≤ w / (- t.2) by omega) with q | q
            · have a1 := Int.lt_ediv_add_one_mul_self w hneg
              have a2 : w / (- t.2) + 1 ≤ ρ t.1 := by omega
              have a3 := Int.mul_le_mul_of_nonneg_left a2 (Int.le_of_lt hneg)
              rw [Int.mul_comm (- t.2) (w / (- t.2) + 1), Int.neg_mul t.2 (ρ t.1)] at a3
              omega
            · exact q
          cases h1 : cq_p (w / (- t.2) - b.2) with
          | true => exact ⟨B, rfl, hB⟩
          | false =>
            cases h2 : cq_p (w / (- t.2) - b.1) with
            | true => exact ⟨_, rfl, hB.cons hbb.1 key⟩
            | false => have := cq_np h2; omega
def cq_prT (g : cq_F) : List (Nat × Int) → cq_B → Option cq_B
  | [], B => some B
  | t :: r, B => match cq_st1 B g t with
    | none => none
    | some B' => cq_prT g r B'
theorem cq_prT_ok {ρ : Nat → Int} {g : cq_F} (hg : 0 ≤ cq_e ρ g) : ∀ (l : List (Nat × Int)) {B : cq_B}, cq_bOk ρ B → ∃ B', cq_prT g l B = some B' ∧ cq_bOk ρ B'
  | [], B, hB => ⟨B, rfl, hB⟩
  | t :: r, B, hB => by
    obtain ⟨B1, e1, h1⟩ := cq_st1_ok hB hg t
    obtain ⟨B2, e2, h2⟩ := cq_prT_ok hg r h1
    exact ⟨B2, by simp only [cq_prT, e1]; exact e2, h2⟩
def cq_prG : List cq_F → cq_B → Option cq_B
  | [], B => some B
  | g :: r, B => match cq_prT g g.2 B with
    | none => none
    | some B' => cq_prG r B'
theorem cq_prG_ok {ρ : Nat → Int} : ∀ (l : List cq_F), cq_gOk ρ l → ∀ {B : cq_B}, cq_bOk ρ B → ∃ B', cq_prG l B = some B' ∧ cq_bOk ρ B'
  | [], _, B, hB => ⟨B, rfl, hB⟩
  | g :: r, hG, B, hB => by
    obtain ⟨B1, e1, h1⟩ := cq_prT_ok (hG g List.mem_cons_self) g.2 hB
    obtain ⟨B2, e2, h2⟩ := cq_prG_ok r (fun q hq => hG q (List.mem_cons_of_mem _ hq)) h1
    exact ⟨B2, by simp only [cq_prG, e1]; exact e2, h2⟩
abbrev cq_P : Type := cq_B × List cq_F
def cq_pOk (ρ : Nat → Int) (P : cq_P) : Prop := cq_bOk ρ P.1 ∧ cq_gOk ρ P.2
def cq_one (f : cq_F) : Bool := match f.2 with
  | _ :: _ :: _ => false
  | _ => true
/-- a fact is taken up; none: it can't be -/
def cq_asm (P : cq_P) (g : cq_F) : Option cq_P :=
  bif cq_k g then (bif cq_p g.1 then some P else none)
  else bif cq_nn P.1 (cq_ac (cq_neg g) (-1)) then none
  else bif cq_nn P.1 g then some P
  else bif P.2.any (fun q => cq_nn P.1 (cq_ac (cq_neg (cq_add g q)) (-1))) then none
  else (match cq_prT g g.2 P.1 with
    | none => none
    | some B => (match cq_prG P.2 B with
      | none => none
      | some B' => some (B', bif cq_one g then P.2 else g :: P.2)))
theorem cq_asm_ok {ρ : Nat → Int} {P : cq_P} (hP : cq_pOk ρ P) {g : cq_F} (hg : 0 ≤ cq_e ρ g) : ∃ P', cq_asm P g = some P' ∧ cq_pOk ρ P' := by
  unfold cq_asm
  cases h1 : cq_k g with
  | true =>
    have e := cq_k_e h1 ρ
    simp only [cond_true]
    rw [cq_p_of (by omega)]
    exact ⟨P, rfl, hP⟩
  | false =>
    simp only [cond_false]
    cases h2 : cq_nn P.1 (cq_ac (cq_neg g) (-1)) with
    | true =>
      have := cq_nn_ok hP.1 h2
      rw [cq_ac_e, cq_neg_e] at this
      omega
    | false =>
      simp only [cond_false]
      cases h3 : cq_nn P.1 g with
      | true => exact ⟨P, rfl, hP⟩
      | false =>
        simp only [cond_false]
        cases h4 : P.2.any (fun q => cq_nn P.1 (cq_ac (cq_neg (cq_add g q)) (-1))) with
        | true =>
          obtain ⟨q, hq, h5⟩ := List.any_eq_true.1 h4
          have := cq_nn_ok hP.1 h5
          have := hP.2 q hq
          rw [cq_ac_e, cq_neg_e, cq_add_e] at *
          omega
        | false =>
          simp only [cond_false]
          obtain ⟨B1, e1, b1⟩ := cq_prT_ok hg g.2 hP.1
          obtain ⟨B2, e2, b2⟩ := cq_prG_ok P.2 hP.2 b1
          simp only [e1, e2]
          refine ⟨_, rfl, b2, ?_⟩
          cases cq_one g with
          | true => exact hP.2
          | false =>
            intro q hq
            rcases List.mem_cons.1 hq with r | r
            · rw [r]; exact hg
            · exact hP.2 q r
/-- how deep the search for a fact goes -/
def cq_dp : Nat := 5
def cq_en (P : cq_P) (f : cq_F) : Bool := cq_ent P.1 P.2 cq_dp f
theorem cq_en_ok {ρ : Nat → Int} {P : cq_P} (hP : cq_pOk ρ P) {f : cq_F} (h : cq_en P f = true) : 0 ≤ cq_e ρ f := cq_ent_ok hP.1 hP.2 h
def cq_aeq (P : cq_P) (f : cq_F) : Option cq_P := match cq_asm P f with
  | none => none
  | some P' => cq_asm P' (cq_neg f)
theorem cq_aeq_ok {ρ : Nat → Int} {P : cq_P} (hP : cq_pOk ρ P) {f : cq_F} (hf : cq_e ρ f = 0) : ∃ P', cq_aeq P f = some P' ∧ cq_pOk ρ P' := by
  obtain ⟨P1, e1, h1⟩ := cq_asm_ok hP (g := f) (by omega)
  obtain ⟨P2, e2, h2⟩ := cq_asm_ok h1 (g := cq_neg f) (by rw [cq_neg_e]; omega)
  exact ⟨P2, by simp only [cq_aeq, e1]; exact e2, h2⟩
def cq_ane (P : cq_P) (f : cq_F) : Option cq_P :=
  bif cq_k f then (bif cq_z f.1 then none else some P)
  else bif cq_en P f then cq_asm P (cq_ac f (-1)) else bif cq_en P (cq_neg f) then cq_asm P (cq_ac (cq_neg f) (-1)) else some P
theorem cq_ane_ok {ρ : Nat → Int} {P : cq_P} (hP : cq_pOk ρ P) {f : cq_F} (hf : cq_e ρ f ≠ 0) : ∃ P', cq_ane P f = some P' ∧ cq_pOk ρ P' := by
  unfold cq_ane
  cases h1 : cq_k f with
  | true =>
    have e := cq_k_e h1 ρ
    simp only [cond_true]
    cases h2 : cq_z f.1 with
    | true => have := cq_z_eq h2; omega
    | false => exact ⟨P, rfl, hP⟩
  | false =>
    simp only [cond_false]
    cases h2 : cq_en P f with
    | true =>
      have := cq_en_ok hP h2
      exact cq_asm_ok hP (by rw [cq_ac_e]; omega)
    | false =>
      simp only [cond_false]
      cases h3 : cq_en P (cq_neg f) with
      | true =>
        have := cq_en_ok hP h3
        exact cq_asm_ok hP (by rw [cq_ac_e]; rw [cq_neg_e] at *; omega)
      | false => exact ⟨P, rfl, hP⟩
/-- least and greatest, as far as they are known to lie in a range -/
def cq_in (P : cq_P) (f : cq_F) (l u : Int) : Bool := cq_nn P.1 (cq_ac f (- l)) && cq_nn P.1 (cq_ac (cq_neg f) u)
theorem cq_in_ok {ρ : Nat → Int} {P : cq_P} (hP : cq_pOk ρ P) {f : cq_F} {l u : Int} (h : cq_in P f l u = true) : l ≤ cq_e ρ f ∧ cq_e ρ f ≤ u := by
  have h1 := cq_nn_ok hP.1 (Bool.and_eq_true _ _ ▸ h).1
  have h2 := cq_nn_ok hP.1 (Bool.and_eq_true _ _ ▸ h).2
  rw [cq_ac_e] at h1 h2
  rw [cq_neg_e] at h2
  omega
def cq_inE (P : cq_P) (f : cq_F) (l u : Int) : Bool := cq_en P (cq_ac f (- l)) && cq_en P (cq_ac (cq_neg f) u)
theorem cq_inE_ok {ρ : Nat → Int} {P : cq_P} (hP : cq_pOk ρ P) {f : cq_F} {l u : Int} (h : cq_inE P f l u = true) : l ≤ cq_e ρ f ∧ cq_e ρ f ≤ u := by
  have h1 := cq_en_ok hP (Bool.and_eq_true _ _ ▸ h).1
  have h2 := cq_en_ok hP (Bool.and_eq_true _ _ ▸ h).2
  rw [cq_ac_e] at h1 h2
  rw [cq_neg_e] at h2
  omega
