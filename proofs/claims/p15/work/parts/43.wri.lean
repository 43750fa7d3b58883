/-! THE CHECKER, 16: the steps that write the heap -/
def cq_fk (S : cq_S) (ty : FieldType) (a : cq_A) : Bool := match ty with
  | .int => Nat.beq a.1 1
  | .boolean => Nat.beq a.1 1 && cq_in S.P a.2.1 0 1
  | .long => Nat.beq a.1 2
  | .object _ => cq_tR a.1
  | .array _ => cq_tR a.1
  | _ => false
def cq_pf (m : cq_W) (ci j pc' : Nat) (ls st : List cq_A) (S : cq_S) : Option (List cq_O) := match st with
  | a :: b :: r => (match cq_cel S b with
    | some (c, (0, ci', z)) => bif Nat.beq ci' ci && Nat.blt j (am_N ci) && cq_fk S (am_ty ci j) a then (match cq_wrp m S c (0, ci', z) (cq_c j) a with
      | some S' => some [(pc', ls, r, S')]
      | none => none) else none
    | _ => none)
  | _ => none
/-- what an array of a code takes -/
def cq_va (w : Nat) (S : cq_S) (tc : Nat) (a : cq_A) : Option (cq_A × cq_S) := match w with
  | 0 => bif Nat.beq tc 0 && Nat.beq a.1 1 then some (a, S) else none
  | 1 => bif Nat.beq a.1 1 && Nat.beq tc 1 then (bif cq_in S.P a.2.1 (-128) 127 then some (a, S) else some (cq_fi S (-128) 127)) else bif Nat.beq a.1 1 && Nat.beq tc 2 then (bif cq_in S.P a.2.1 0 1 then some (a, S) else some (cq_fi S 0 1)) else none
  | 2 => bif Nat.beq tc 3 && Nat.beq a.1 2 then some (a, S) else none
  | _ => bif Nat.beq a.1 6 then (match cq_sk S a.2.2 with
    | some (0, k, _) => bif Nat.beq tc (k + 4) && am_isA (k + 4) then some (a, S) else none
    | _ => none) else none
def cq_ast (m : cq_W) (w pc' : Nat) (ls st : List cq_A) (S : cq_S) : Option (List cq_O) := match st with
  | a :: (1, i, _) :: b :: r => (match cq_cel S b with
    | some (c, (1, tc, ln)) => bif c.1 || Nat.ble 40 c.2 then (match cq_va w S tc a with
      | some (a', S0) => (match cq_lnp S0 c (1, tc, ln) with
        | (f, S1) => bif cq_en S1.P i && cq_en S1.P (cq_ac (cq_sub f i) (-1)) then (match cq_wrp m S1 c (1, tc, ln) i a' with
          | some S2 => some [(pc', ls, r, S2)]
          | none => none) else none)
      | none => none) else none
    | _ => none)
  | _ => none
section CSE
variable {m : cq_W} {h0 : am_H} {ρ : Nat → Int} {S : cq_S} {h : am_H} {als ast : List cq_A} {ls st : List Value} {out : List cq_O} {e : am_E} {pc pc' : Nat}
theorem cq_fk_fok {ty : FieldType} {a : cq_A} {v : Value} (q : cq_fk S ty a = true) (D : cq_Md m h0 ρ S h) (g : cq_g ρ a v) : am_fok ty v = true := by
  have int : Nat.beq a.1 1 = true → ∃ x : Int32, v = .int x ∧ x.toInt = cq_e ρ a.2.1 := fun z => by
    rw [cq_tag z] at g
    exact g
  have ref : cq_tR a.1 = true → v = .null ∨ ∃ x, v = .ref x := fun z => cq_tR_ok z g
  unfold cq_fk at q
  split at q
  · obtain ⟨x, ex, -⟩ := int q
    rw [ex]; rfl
  · have q := (Bool.and_eq_true _ _ ▸ q)
    obtain ⟨x, ex, hx⟩ := int q.1
    obtain ⟨b1, b2⟩ := cq_in_ok D.P q.2
    rw [ex]
    show (x == 0 || x == 1) = true
    rcases (show x.toInt = 0 ∨ x.toInt = 1 by omega) with z | z
    · have : x = 0 := Int32.toInt_inj.1 z
      rw [this]; rfl
    · have : x = 1 := Int32.toInt_inj.1 z
      rw [this]; rfl
  · rw [cq_tag q] at g
    obtain ⟨x, ex, -⟩ := g
    rw [ex]; rfl
  · rcases ref q with z | ⟨x, z⟩
    · rw [z]; rfl
    · rw [z]; rfl
  · rcases ref q with z | ⟨x, z⟩
    · rw [z]; rfl
    · rw [z]; rfl
  · cases q
theorem cq_pf_ok {x : Nat} (he : e.1 = .putfield x) (H : cq_Rb m h0 ρ S als ast ls st h) (q : cq_pf m e.2.2.2.1 e.2.2.2.2.1 (pc + 3) als ast S = some out) : cq_Res m h0 ρ S.n out (am_st e pc ls st h) := by
  unfold cq_pf at q
  split at q
  · rename_i a b r
    split at q
    · rename_i c ci' z hcel
      rw [cond_eq_ite] at q
      split at q
      · rename_i hb
        have hb0 := (Bool.and_eq_true _ _ ▸ hb)
        have hb := (Bool.and_eq_true _ _ ▸ hb0.1)
        have e1 := am_beq hb.1
        have e2 : e.2.2.2.2.1 < am_N e.2.2.2.1 := Nat.le_of_ble_eq_true hb.2
        split at q
        · rename_i S' hw
          rw [← Option.some.inj q]
          obtain ⟨v, rs, es, K1, H1⟩ := cq_pop1 H
          subst es
          obtain ⟨v2, rs, es, K2, H2⟩ := cq_pop1 H1
          subst es
          obtain ⟨ev, hl, hu⟩ := cq_cel_u hcel fun ρ' a => ⟨(H ρ' a).1, K2 ρ' a⟩
          subst ev
          have hO : am_isO h (cq_ce ρ c) e.2.2.2.1 = true := by
            rw [← e1]
            exact cq_isO_of (ci := ci') ⟨hl.1, hl.2⟩
          have hfo := cq_fk_fok hb0.2 (H ρ cq_ag.rf).1 (K1 ρ cq_ag.rf)
          have est : am_st e pc ls (v :: .ref (cq_ce ρ c) :: rs) h = some (pc + 3, ls, rs, am_put h (cq_ce ρ c) e.2.2.2.2.1 v) := by
            simp only [am_st, he, hO, hfo, Bool.and_self, cond_true]
          rw [est]
          have en : S'.n = S.n := cq_wrp_n hw
          refine cq_keep en fun ρ' a' => ⟨?_, (H2 ρ' a').2⟩
          have D' := (H ρ' a').1
          have ej : cq_e ρ' (cq_c (e.2.2.2.2.1 : Int)) = (e.2.2.2.2.1 : Int) := cq_c_e ρ' _
          have k := cq_wrp_ok hcel hw D' (K1 ρ' a') (by rw [ej]; exact Int.natCast_nonneg _) (by
            rw [ej, Int.toNat_natCast, hu ρ' a', hl.2]
            show e.2.2.2.2.1 < am_N ci'
            rw [e1]
            exact e2)
          rw [ej, Int.toNat_natCast, hu ρ' a'] at k
          exact k
        · cases q
      · cases q
    · cases q
  · cases q
theorem cq_wr_ev {a tc : Nat} {i : Int32} {v : Value} (h1 : a < h.1) (h2 : (h.2.2.1 a).1 = 1) (h3 : (h.2.2.1 a).2.1 = tc) (h4 : ¬ i < 0) (h5 : i.toNatClampNeg < (h.2.2.1 a).2.2) : am_wr h a i tc v = some (am_put h a i.toNatClampNeg v) := by
  unfold am_wr
  rw [show Nat.blt a h.1 = true from Nat.ble_eq_true_of_le h1, h2, h3, Nat.beq_refl, Nat.beq_refl]
  simp only [Bool.and_self, cond_true]
  rw [if_neg (fun z => by rcases z with z | z; exact h4 z; omega)]
theorem cq_va_eq {w tc : Nat} {a : cq_A} {q : cq_A × cq_S} (e : cq_va w S tc a = some q) : q.2.N = S.N ∧ q.2.K = S.K := by
  unfold cq_va at e
  split at e
  · rw [cond_eq_ite] at e
    split at e
    · rw [← Option.some.inj e]; exact ⟨rfl, rfl⟩
    · cases e
  · rw [cond_eq_ite] at e
    split at e
    · rw [cond_eq_ite] at e
      split at e
      · rw [← Option.some.inj e]; exact ⟨rfl, rfl⟩
      · rw [← Option.some.inj e]; exact ⟨rfl, rfl⟩
    · rw [cond_eq_ite] at e
      split at e
      · rw [cond_eq_ite] at e
        split at e
        · rw [← Option.some.inj e]; exact ⟨rfl, rfl⟩
        · rw [← Option.some.inj e]; exact ⟨rfl, rfl⟩
      · cases e
  · rw [cond_eq_ite] at e
    split at e
    · rw [← Option.some.inj e]; exact ⟨rfl, rfl⟩
    · cases e
  · rw [cond_eq_ite] at e
    split at e
    · split at e
      · rw [cond_eq_ite] at e
        split at e
        · rw [← Option.some.inj e]; exact ⟨rfl, rfl⟩
        · cases e
      · cases e
    · cases e
/-- what is stored of a value -/
def cq_sv1 (w tc : Nat) (v : Value) : Value := match w, v with
  | 1, .int x => bif Nat.beq tc 1 then .int x.toInt8.toInt32 else .int (x &&& 1)
  | _, v => v
theorem cq_va_ok {w tc : Nat} {a : cq_A} {q : cq_A × cq_S} {v : Value} (e : cq_va w S tc a = some q) (H : ∀ ρ', cq_ag S.n ρ' ρ → cq_Md m h0 ρ' S h ∧ cq_g ρ' a v) : cq_Mk m h0 ρ S h q (cq_sv1 w tc v) ∧ ((w = 0 ∧ tc = 0 ∧ ∃ x, v = .int x) ∨ (w = 1 ∧ (tc = 1 ∨ tc = 2) ∧ ∃ x, v = .int x) ∨ (w = 2 ∧ tc = 3 ∧ ∃ x, v = .long x) ∨ (2 < w ∧ ∃ k x, tc = k + 4 ∧ am_isA (k + 4) = true ∧ v = .ref x ∧ cq_kOk h x (0, k, 0))) := by
  have H1 : ∀ ρ', cq_ag S.n ρ' ρ → cq_Md m h0 ρ' S h := fun ρ' a => (H ρ' a).1
  unfold cq_va at e
  split at e
  · rw [cond_eq_ite] at e
    split at e
    · rename_i hb
      have hb := (Bool.and_eq_true _ _ ▸ hb)
      have e1 := am_beq hb.1
      rw [← Option.some.inj e]
      have g := (H ρ cq_ag.rf).2
      rw [cq_tag hb.2] at g
      obtain ⟨x, ex, -⟩ := g
      exact ⟨cq_Mk.of H, Or.inl ⟨rfl, e1, x, ex⟩⟩
    · cases e
  · rw [cond_eq_ite] at e
    split at e
    · rename_i hb
      have hb := (Bool.and_eq_true _ _ ▸ hb)
      have e1 := am_beq hb.2
      subst e1
      have K : ∀ ρ', cq_ag S.n ρ' ρ → cq_g ρ' (1, a.2.1, a.2.2) v := fun ρ' z => by
        have g := (H ρ' z).2
        rw [cq_tag hb.1] at g
        exact g
      obtain ⟨x, ex, hx⟩ := cq_int K
      subst ex
      refine ⟨?_, Or.inr (Or.inl ⟨rfl, Or.inl rfl, x, rfl⟩)⟩
      show cq_Mk m h0 ρ S h q (.int x.toInt8.toInt32)
      have e8 : x.toInt8.toInt32.toInt = x.toInt.bmod (2 ^ 8) := by rw [Int8.toInt_toInt32, Int32.toInt_toInt8]
      rw [cond_eq_ite] at e
      split at e
      · rename_i hi
        rw [← Option.some.inj e]
        refine cq_Mk.of fun ρ' z => ⟨H1 ρ' z, ?_⟩
        rw [cq_tag hb.1]
        refine ⟨_, rfl, ?_⟩
        obtain ⟨b1, b2⟩ := cq_in_ok (H1 ρ' z).P hi
        rw [e8, hx ρ' z]
        exact Int.bmod_eq_of_le (by omega) (by omega)
      · rw [← Option.some.inj e]
        have l1 := x.toInt8.le_toInt
        have l2 := x.toInt8.toInt_lt
        refine cq_fi_ok H1 ?_ ?_
        · rw [Int8.toInt_toInt32]; omega
        · rw [Int8.toInt_toInt32]; omega
    · rw [cond_eq_ite] at e
      split at e
      · rename_i hb
        have hb := (Bool.and_eq_true _ _ ▸ hb)
        have e1 := am_beq hb.2
        subst e1
        have K : ∀ ρ', cq_ag S.n ρ' ρ → cq_g ρ' (1, a.2.1, a.2.2) v := fun ρ' z => by
          have g := (H ρ' z).2
          rw [cq_tag hb.1] at g
          exact g
        obtain ⟨x, ex, hx⟩ := cq_int K
        subst ex
        refine ⟨?_, Or.inr (Or.inl ⟨rfl, Or.inr rfl, x, rfl⟩)⟩
        show cq_Mk m h0 ρ S h q (.int (x &&& 1))
        have b : 0 ≤ (x &&& 1).toInt ∧ (x &&& 1).toInt ≤ 1 := by
          have e1 : (1 : Int32).toInt = 1 := rfl
          have := cq_and_nn (x := 1) (y := x) (by rw [e1]; omega)
          rw [cq_and_cm, e1] at this
          exact this
        rw [cond_eq_ite] at e
        split at e
        · rename_i hi
          rw [← Option.some.inj e]
          refine cq_Mk.of fun ρ' z => ⟨H1 ρ' z, ?_⟩
          rw [cq_tag hb.1]
          refine ⟨_, rfl, ?_⟩
          obtain ⟨b1, b2⟩ := cq_in_ok (H1 ρ' z).P hi
          rw [← hx ρ' z] at b1 b2 ⊢
          rcases (show x.toInt = 0 ∨ x.toInt = 1 by omega) with y | y
          · have : x = 0 := Int32.toInt_inj.1 y
            rw [this]; rfl
          · have : x = 1 := Int32.toInt_inj.1 y
            rw [this]; rfl
        · rw [← Option.some.inj e]
          exact cq_fi_ok H1 b.1 b.2
      · cases e
  · rw [cond_eq_ite] at e
    split at e
    · rename_i hb
      have hb := (Bool.and_eq_true _ _ ▸ hb)
      have e1 := am_beq hb.1
      rw [← Option.some.inj e]
      have g := (H ρ cq_ag.rf).2
      rw [cq_tag hb.2] at g
      obtain ⟨x, ex, -⟩ := g
      exact ⟨cq_Mk.of H, Or.inr (Or.inr (Or.inl ⟨rfl, e1, x, ex⟩))⟩
    · cases e
  · rename_i n0 n1 n2
    rw [cond_eq_ite] at e
    split at e
    · rename_i h6
      split at e
      · rename_i k z hs
        rw [cond_eq_ite] at e
        split at e
        · rename_i hb
          have hb := (Bool.and_eq_true _ _ ▸ hb)
          have e1 := am_beq hb.1
          rw [← Option.some.inj e]
          have hw : 2 < w := by
            rcases w with _ | _ | _ | w
            · exact absurd rfl n0
            · exact absurd rfl n1
            · exact absurd rfl n2
            · omega
          have D := H1 ρ cq_ag.rf
          obtain ⟨p1, p2, -⟩ := cq_sk_ok D hs
          have g := (H ρ cq_ag.rf).2
          rw [cq_tag h6] at g
          rcases g with ⟨g1, -⟩ | ⟨-, g2⟩
          · omega
          · have esv : cq_sv1 w tc v = v := by
              rw [g2]
              unfold cq_sv1
              split
              · rename_i y; cases y
              · rfl
            rw [esv]
            exact ⟨cq_Mk.of H, Or.inr (Or.inr (Or.inr ⟨hw, k, _, e1, hb.2, g2, p2⟩))⟩
        · cases e
      · cases e
    · cases e
end CSE
