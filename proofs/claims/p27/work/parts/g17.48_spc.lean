/-! THE CHECKER, 20: the calls that have rules of their own -/
/-- how much a stack takes; none where that is not known -/
def cq_cs : List cq_A → Option Nat
  | [] => some 0
  | a :: r => bif Nat.beq a.1 0 then none else (match cq_cs r with
    | some n => some (n + (bif Nat.beq a.1 2 then 2 else 1))
    | none => none)
def cq_c8 (st : List cq_A) : Bool := match cq_cs st with
  | some n => Nat.ble n 8
  | none => false
section CTB
variable {m : cq_W} {h0 : am_H} {ρ : Nat → Int} {S : cq_S} {h : am_H} {als ast : List cq_A} {ls st : List Value} {out : List cq_O} {e : am_E} {pc pc' : Nat}
theorem cq_cs_ok : ∀ {st : List cq_A} {vs : List Value} {n : Nat}, cq_gs ρ st vs → cq_cs st = some n → am_cs vs = n
  | [], [], n, _, q => by
    have := Option.some.inj q
    subst this
    rfl
  | [], _ :: _, _, g, _ => g.elim
  | _ :: _, [], _, g, _ => g.elim
  | a :: r, v :: vs, n, g, q => by
    unfold cq_cs at q
    rw [cond_eq_ite] at q
    split at q
    · cases q
    · rename_i h0
      split at q
      · rename_i k hk
        have ih := cq_cs_ok g.2 hk
        have e1 : am_cs (v :: vs) = v.category + am_cs vs := by
          unfold am_cs
          rw [List.map_cons, List.sum_cons]
        rw [e1, ih, ← Option.some.inj q]
        have n0 : a.1 ≠ 0 := fun z => by rw [z] at h0; exact h0 rfl
        cases h2 : Nat.beq a.1 2 with
        | true =>
          have g1 := g.1
          rw [cq_tag h2] at g1
          rw [cq_cat2 g1]
          simp only [cond_true]
          omega
        | false =>
          have n2 : a.1 ≠ 2 := fun z => by rw [z] at h2; cases h2
          rw [cq_cat1 g.1 n2 n0]
          simp only [cond_false]
          omega
      · cases q
theorem cq_c8_ok {vs : List Value} (g : cq_gs ρ ast vs) (q : cq_c8 ast = true) : am_cs vs ≤ 8 := by
  unfold cq_c8 at q
  split at q
  · rename_i n hn
    rw [cq_cs_ok g hn]
    exact Nat.le_of_ble_eq_true q
  · cases q
end CTB
/-- the greater (or the lesser) of two -/
def cq_mx (b : Bool) (S : cq_S) (f g : cq_F) : Option (cq_A × cq_S) := match cq_lo S.P.1 f, cq_lo S.P.1 g, cq_hi S.P.1 f, cq_hi S.P.1 g with
  | some l1, some l2, some u1, some u2 => (match cq_fct (S.fb (bif cq_p (l1 - l2) == b then l1 else l2) (bif cq_p (u1 - u2) == b then u1 else u2)) (bif b then cq_sub (cq_s S.n) f else cq_sub f (cq_s S.n)) with
    | some S1 => (match cq_fct S1 (bif b then cq_sub (cq_s S.n) g else cq_sub g (cq_s S.n)) with
      | some S2 => some (cq_i (cq_s S.n), S2)
      | none => none)
    | none => none)
  | _, _, _, _ => none
section CTC
variable {m : cq_W} {h0 : am_H} {ρ : Nat → Int} {S : cq_S} {h : am_H}
theorem cq_mx_ok {b : Bool} {f g : cq_F} {q : cq_A × cq_S} {x y z : Int32} (e : cq_mx b S f g = some q) (H : ∀ ρ', cq_ag S.n ρ' ρ → cq_Md m h0 ρ' S h ∧ x.toInt = cq_e ρ' f ∧ y.toInt = cq_e ρ' g) (hz : (b = true ∧ z = if x < y then y else x) ∨ (b = false ∧ z = if y < x then y else x)) : cq_Mk m h0 ρ S h q (.int z) := by
  unfold cq_mx at e
  split at e
  · rename_i l1 l2 u1 u2 hl1 hl2 hu1 hu2
    split at e
    · rename_i S1 hf1
      split at e
      · rename_i S2 hf2
        rw [← Option.some.inj e]
        have H1 : ∀ ρ', cq_ag S.n ρ' ρ → cq_Md m h0 ρ' S h := fun ρ' a => (H ρ' a).1
        obtain ⟨D, ex, ey⟩ := H ρ cq_ag.rf
        have a1 := cq_lo_ok D.P.1 hl1
        have a2 := cq_lo_ok D.P.1 hl2
        have a3 := cq_hi_ok D.P.1 hu1
        have a4 := cq_hi_ok D.P.1 hu2
        have hlt : x < y ↔ x.toInt < y.toInt := Int32.lt_iff_toInt_lt
        have hlt2 : y < x ↔ y.toInt < x.toInt := Int32.lt_iff_toInt_lt
        have key : (b = true → (z.toInt = x.toInt ∨ z.toInt = y.toInt) ∧ x.toInt ≤ z.toInt ∧ y.toInt ≤ z.toInt) ∧ (b = false → (z.toInt = x.toInt ∨ z.toInt = y.toInt) ∧ z.toInt ≤ x.toInt ∧ z.toInt ≤ y.toInt) := by
          rcases hz with ⟨hb, hz⟩ | ⟨hb, hz⟩
          · refine ⟨fun _ => ?_, fun q => by rw [hb] at q; cases q⟩
            by_cases c : x < y
            · rw [if_pos c] at hz
              have := hlt.1 c
              rw [hz]
              omega
            · rw [if_neg c] at hz
              have : ¬ x.toInt < y.toInt := fun w => c (hlt.2 w)
              rw [hz]
              omega
          · refine ⟨fun q => (by rw [hb] at q; cases q), fun _ => ?_⟩
            by_cases c : y < x
            · rw [if_pos c] at hz
              have := hlt2.1 c
              rw [hz]
              omega
            · rw [if_neg c] at hz
              have : ¬ y.toInt < x.toInt := fun w => c (hlt2.2 w)
              rw [hz]
              omega
        have pq : ∀ w : Int, (cq_p w = true ∧ 0 ≤ w) ∨ (cq_p w = false ∧ w < 0) := fun w => by
          cases hp : cq_p w with
          | true => exact Or.inl ⟨rfl, cq_p_le hp⟩
          | false => exact Or.inr ⟨rfl, cq_np hp⟩
        have bl : (bif cq_p (l1 - l2) == b then l1 else l2) ≤ z.toInt := by
          cases b with
          | true =>
            have := key.1 rfl
            rcases pq (l1 - l2) with ⟨p, w⟩ | ⟨p, w⟩
            · rw [p]; show l1 ≤ _; omega
            · rw [p]; show l2 ≤ _; omega
          | false =>
            have := key.2 rfl
            rcases pq (l1 - l2) with ⟨p, w⟩ | ⟨p, w⟩
            · rw [p]; show l2 ≤ _; omega
            · rw [p]; show l1 ≤ _; omega
        have bu : z.toInt ≤ (bif cq_p (u1 - u2) == b then u1 else u2) := by
          cases b with
          | true =>
            have := key.1 rfl
            rcases pq (u1 - u2) with ⟨p, w⟩ | ⟨p, w⟩
            · rw [p]; show _ ≤ u1; omega
            · rw [p]; show _ ≤ u2; omega
          | false =>
            have := key.2 rfl
            rcases pq (u1 - u2) with ⟨p, w⟩ | ⟨p, w⟩
            · rw [p]; show _ ≤ u2; omega
            · rw [p]; show _ ≤ u1; omega
        refine cq_fct_ok hf2 (cq_fct_ok hf1 (cq_fi_ok H1 bl bu) ?_) ?_
        · intro ρ1 a D1 g1
          obtain ⟨z', ez, hz'⟩ := g1
          cases ez
          obtain ⟨-, ex', ey'⟩ := H ρ1 a
          cases b with
          | true =>
            have := key.1 rfl
            show 0 ≤ cq_e ρ1 (cq_sub (cq_s S.n) f)
            rw [cq_sub_e, ← hz', ← ex']
            omega
          | false =>
            have := key.2 rfl
            show 0 ≤ cq_e ρ1 (cq_sub f (cq_s S.n))
            rw [cq_sub_e, ← hz', ← ex']
            omega
        · intro ρ1 a D1 g1
          obtain ⟨z', ez, hz'⟩ := g1
          cases ez
          obtain ⟨-, ex', ey'⟩ := H ρ1 a
          cases b with
          | true =>
            have := key.1 rfl
            show 0 ≤ cq_e ρ1 (cq_sub (cq_s S.n) g)
            rw [cq_sub_e, ← hz', ← ey']
            omega
          | false =>
            have := key.2 rfl
            show 0 ≤ cq_e ρ1 (cq_sub g (cq_s S.n))
            rw [cq_sub_e, ← hz', ← ey']
            omega
      · cases e
    · cases e
  · cases e
end CTC
