/-! THE CHECKER, 9: what is known of a place -/
def cq_kl (s : Nat) : List (Nat × cq_Kd) → Option cq_Kd
  | [] => none
  | q :: r => bif Nat.beq q.1 s then some q.2 else cq_kl s r
theorem cq_kl_ok {s : Nat} {k : cq_Kd} : ∀ {K : List (Nat × cq_Kd)}, cq_kl s K = some k → (s, k) ∈ K
  | [], h => by cases h
  | q :: r, h => by
    unfold cq_kl at h
    cases hb : Nat.beq q.1 s with
    | true =>
      rw [hb] at h
      rw [← am_beq hb, ← Option.some.inj h]
      exact List.mem_cons_self
    | false =>
      rw [hb] at h
      exact List.mem_cons_of_mem _ (cq_kl_ok h)
/-- a symbol's cell is there, and its kind -/
def cq_sk (S : cq_S) (s : Nat) : Option cq_Kd := match cq_nl s S.N with
  | some true => cq_kl s S.K
  | _ => none
section CQL
variable {m : cq_W} {h0 : am_H} {ρ : Nat → Int} {S : cq_S} {h : am_H}
theorem cq_sk_ok {s : Nat} {k : cq_Kd} (D : cq_Md m h0 ρ S h) (q : cq_sk S s = some k) : 0 ≤ ρ s ∧ cq_kOk h (ρ s).toNat k ∧ (s, k) ∈ S.K := by
  unfold cq_sk at q
  split at q
  · rename_i hn
    have h1 := (D.N _ (cq_nl_ok hn)).1 rfl
    have h2 := cq_kl_ok q
    exact ⟨h1, D.K _ h2 h1, h2⟩
  · cases q
end CQL
def cq_ceq (a b : cq_C) : Bool := (a.1 == b.1) && Nat.beq a.2 b.2
theorem cq_ceq_ok {a b : cq_C} (h : cq_ceq a b = true) : a = b := by
  have q := (Bool.and_eq_true _ _ ▸ h)
  obtain ⟨a1, a2⟩ := a
  obtain ⟨b1, b2⟩ := b
  have e1 : a1 = b1 := eq_of_beq q.1
  have e2 := am_beq q.2
  dsimp only at e1 e2
  rw [e1, e2]
def cq_tl (c : cq_C) (j : cq_F) : List (cq_C × cq_F × cq_A) → Option cq_A
  | [] => none
  | q :: r => bif cq_ceq q.1 c && cq_fe q.2.1 j then some q.2.2 else cq_tl c j r
theorem cq_tl_ok {c : cq_C} {j : cq_F} {a : cq_A} : ∀ {T : List (cq_C × cq_F × cq_A)}, cq_tl c j T = some a → (c, j, a) ∈ T
  | [], h => by cases h
  | q :: r, h => by
    unfold cq_tl at h
    cases hb : cq_ceq q.1 c && cq_fe q.2.1 j with
    | true =>
      rw [hb] at h
      have h1 := (Bool.and_eq_true _ _ ▸ hb)
      rw [← cq_ceq_ok h1.1, ← cq_fe_ok h1.2, ← Option.some.inj h]
      exact List.mem_cons_self
    | false =>
      rw [hb] at h
      exact List.mem_cons_of_mem _ (cq_tl_ok h)
/-- a new symbol for a cell: its kind, whether it is there -/
def cq_S.fk (S : cq_S) (k : cq_Kd) (b : Bool) : cq_S := cq_mk (S.n + 1) S.P (bif b then (S.n, true) :: S.N else S.N) ((S.n, k) :: S.K) S.W S.T S.L S.M S.U S.ac S.al
def cq_S.aT (S : cq_S) (q : cq_C × cq_F × cq_A) : cq_S := S.sT (q :: S.T)
section CQN
variable {m : cq_W} {h0 : am_H} {ρ : Nat → Int} {S : cq_S} {h : am_H}
theorem cq_fk_ok {k : cq_Kd} {b : Bool} {v : Value} (H : ∀ ρ', cq_ag S.n ρ' ρ → cq_Md m h0 ρ' S h) (hv : (b = false ∧ v = .null) ∨ ∃ a, v = .ref a ∧ cq_kOk h a k) : cq_Mk m h0 ρ S h (cq_rs S.n, S.fk k b) v := by
  have key : ∀ w : Int, (b = true → 0 ≤ w) → (0 ≤ w → cq_kOk h w.toNat k) → ((w < 0 ∧ v = .null) ∨ (0 ≤ w ∧ v = .ref w.toNat)) → cq_Mk m h0 ρ S h (cq_rs S.n, S.fk k b) v := fun w h1 h2 h3 => by
    refine ⟨Nat.le_succ _, cq_up ρ S.n w, cq_up_g, fun ρ' a => ?_⟩
    have e := cq_up_s a
    have D := H ρ' (cq_up_a a)
    refine ⟨⟨D.1, ?_, ?_, ?_, D.2.2.2.2⟩, ?_⟩
    · intro x hx
      cases b with
      | true =>
        rcases List.mem_cons.1 hx with z | z
        · subst z
          exact ⟨fun _ => by rw [e]; exact h1 rfl, fun z => by cases z⟩
        · exact D.N x z
      | false => exact D.N x hx
    · intro x hx
      rcases List.mem_cons.1 hx with z | z
      · subst z
        dsimp only
        rw [e]
        exact h2
      · exact D.K x z
    · intro s hs
      refine ⟨Nat.lt_succ_of_lt (D.W s hs).1, (D.W s hs).2.1, fun x hx hlt => ?_⟩
      rcases List.mem_cons.1 hx with z | z
      · subst z
        have := (D.W s hs).1
        dsimp only at hlt
        omega
      · exact (D.W s hs).2.2 x z hlt
    · show (ρ' S.n < 0 ∧ v = .null) ∨ (0 ≤ ρ' S.n ∧ v = .ref (ρ' S.n).toNat)
      rw [e]
      exact h3
  rcases hv with ⟨hb, hv⟩ | ⟨a, hv, hk⟩
  · refine key (-1) (fun q => by rw [hb] at q; cases q) (fun q => by omega) (Or.inl ⟨by omega, hv⟩)
  · refine key a (fun _ => Int.natCast_nonneg a) (fun _ => by rw [Int.toNat_natCast]; exact hk) (Or.inr ⟨Int.natCast_nonneg a, by rw [Int.toNat_natCast]; exact hv⟩)
/-- a value that was read is kept as known -/
theorem cq_Mk.aT {q : cq_A × cq_S} {c : cq_C} {j : cq_F} {v : Value} (k : cq_Mk m h0 ρ S h q v) (hv : ∀ ρ', cq_ag S.n ρ' ρ → h.2.2.2 (cq_ce ρ' c) (cq_e ρ' j).toNat = v) : cq_Mk m h0 ρ S h (q.1, q.2.aT (c, j, q.1)) v := by
  obtain ⟨hn, ρ1, a1, k⟩ := k
  refine ⟨hn, ρ1, a1, fun ρ' a => ?_⟩
  obtain ⟨D, g⟩ := k ρ' a
  refine ⟨D.sT fun x hx => ?_, g⟩
  rcases List.mem_cons.1 hx with z | z
  · subst z
    dsimp only
    rw [hv ρ' ((a.lt hn).tr a1)]
    exact g
  · exact D.T x z
end CQN
