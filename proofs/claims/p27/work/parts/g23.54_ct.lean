/-! THE CHECKER, 24: contracts -/
def cq_sm (n : Nat) (f : cq_F) : Bool := f.2.all fun t => Nat.blt t.1 n
def cq_sma (n : Nat) (a : cq_A) : Bool := cq_sm n a.2.1 && (!Nat.beq a.1 6 || Nat.blt a.2.2 n)
def cq_smc (n : Nat) (c : cq_C) : Bool := !c.1 || Nat.blt c.2 n
/-- a number's place among what is asked of heaps -/
def cq_tg (f : cq_F) : Bool := match f.2 with
  | [] => cq_p (f.1 - 1000000000000) && cq_okT (f.1 - 1000000000000).toNat
  | _ => false
theorem cq_tg_ok {f : cq_F} (q : cq_tg f = true) : ∃ k : Nat, f = ((1000000000000 : Int) + (k : Int), []) ∧ cq_okT k = true := by
  unfold cq_tg at q
  obtain ⟨a, l⟩ := f
  cases l with
  | cons t r => cases q
  | nil =>
    have q := (Bool.and_eq_true _ _ ▸ q)
    have h1 := cq_p_le q.1
    dsimp only at h1
    refine ⟨(a - 1000000000000).toNat, ?_, q.2⟩
    congr 1
    omega
/-- a plain store: no symbol beyond its own, nothing new, no lengths, no ands, nothing under making -/
def cq_wf (S : cq_S) : Bool := S.P.1.all (fun b => Nat.blt b.1 S.n) && S.P.2.all (cq_sm S.n) && S.N.all (fun e => Nat.blt e.1 S.n) && S.K.all (fun e => Nat.blt e.1 S.n) && S.T.all (fun e => cq_smc S.n e.1 && cq_sm S.n e.2.1 && cq_sma S.n e.2.2) && S.W.isEmpty && S.L.isEmpty && S.M.all (fun e => cq_sm S.n e.1 && cq_tg e.2.1 && cq_sm S.n e.2.2) && S.U.isNone
section CVA
variable {m : cq_W} {h0 : am_H} {ρ ρ' : Nat → Int} {S : cq_S} {h : am_H} {n : Nat}
theorem cq_sm_ok : ∀ {l : List (Nat × Int)}, (l.all fun t => Nat.blt t.1 n) = true → cq_ag n ρ' ρ → cq_eT ρ' l = cq_eT ρ l
  | [], _, _ => rfl
  | t :: r, q, a => by
    have q := (Bool.and_eq_true _ _ ▸ (show ((Nat.blt t.1 n) && r.all fun t => Nat.blt t.1 n) = true from q))
    have ht : t.1 < n := Nat.le_of_ble_eq_true q.1
    simp only [cq_eT]
    rw [cq_sm_ok q.2 a, a t.1 ht]
theorem cq_sm_e {f : cq_F} (q : cq_sm n f = true) (a : cq_ag n ρ' ρ) : cq_e ρ' f = cq_e ρ f := by
  unfold cq_e
  rw [cq_sm_ok q a]
theorem cq_smc_e {c : cq_C} (q : cq_smc n c = true) (a : cq_ag n ρ' ρ) : cq_ce ρ' c = cq_ce ρ c := by
  unfold cq_ce
  cases c1 : c.1 with
  | true =>
    unfold cq_smc at q
    rw [c1] at q
    have : c.2 < n := Nat.le_of_ble_eq_true q
    rw [a c.2 this]
  | false => rfl
theorem cq_sma_g {b : cq_A} {v : Value} (q : cq_sma n b = true) (a : cq_ag n ρ' ρ) (g : cq_g ρ b v) : cq_g ρ' b v := by
  have q := (Bool.and_eq_true _ _ ▸ q)
  have e := cq_sm_e q.1 a
  obtain ⟨t, f, k⟩ := b
  dsimp only at e
  rcases t with _ | _ | _ | _ | _ | _ | _ | t
  · trivial
  · obtain ⟨x, ex, hx⟩ := g
    exact ⟨x, ex, by rw [e]; exact hx⟩
  · obtain ⟨x, ex, hx⟩ := g
    exact ⟨x, ex, by rw [e]; exact hx⟩
  · obtain ⟨x, ex, hx⟩ := g
    exact ⟨x, ex, by rw [e]; exact hx⟩
  · exact g
  · exact g
  · have hk : k < n := by
      rcases Bool.or_eq_true _ _ ▸ q.2 with z | z
      · cases z
      · exact Nat.le_of_ble_eq_true z
    have ek := a k hk
    show (ρ' k < 0 ∧ v = .null) ∨ (0 ≤ ρ' k ∧ v = .ref (ρ' k).toNat)
    rw [ek]
    exact g
  · exact g.elim
theorem cq_smas_g : ∀ {as : List cq_A} {vs : List Value}, as.all (cq_sma n) = true → cq_ag n ρ' ρ → cq_gs ρ as vs → cq_gs ρ' as vs
  | [], [], _, _, _ => trivial
  | [], _ :: _, _, _, g => g.elim
  | _ :: _, [], _, _, g => g.elim
  | b :: bs, v :: vs, q, a, g => by
    have q := (Bool.and_eq_true _ _ ▸ (show ((cq_sma n b) && bs.all (cq_sma n)) = true from q))
    exact ⟨cq_sma_g q.1 a g.1, cq_smas_g q.2 a g.2⟩
/-- a plain store speaks of its own symbols alone -/
theorem cq_wf_ag (q : cq_wf S = true) (a : cq_ag S.n ρ' ρ) (D : cq_Md m h0 ρ S h) : cq_Md m h0 ρ' S h := by
  have q1 := (Bool.and_eq_true _ _ ▸ q)
  have q2 := (Bool.and_eq_true _ _ ▸ q1.1)
  have q3 := (Bool.and_eq_true _ _ ▸ q2.1)
  have q4 := (Bool.and_eq_true _ _ ▸ q3.1)
  have q5 := (Bool.and_eq_true _ _ ▸ q4.1)
  have q6 := (Bool.and_eq_true _ _ ▸ q5.1)
  have q7 := (Bool.and_eq_true _ _ ▸ q6.1)
  have q8 := (Bool.and_eq_true _ _ ▸ q7.1)
  have eW : S.W = [] := List.isEmpty_iff.1 q4.2
  have eL : S.L = [] := List.isEmpty_iff.1 q3.2
  have eU : S.U = none := Option.isNone_iff_eq_none.1 q1.2
  refine ⟨⟨fun b hb => ?_, fun g hg => ?_⟩, fun e he => ?_, fun e he hp => ?_, ?_, fun e he => ?_, ?_, ?_, ?_, D.F, D.A, ?_⟩
  · have : b.1 < S.n := Nat.le_of_ble_eq_true (List.all_eq_true.1 q8.1 b hb)
    rw [a b.1 this]
    exact D.P.1 b hb
  · rw [cq_sm_e (List.all_eq_true.1 q8.2 g hg) a]
    exact D.P.2 g hg
  · have : e.1 < S.n := Nat.le_of_ble_eq_true (List.all_eq_true.1 q7.2 e he)
    rw [a e.1 this]
    exact D.N e he
  · have : e.1 < S.n := Nat.le_of_ble_eq_true (List.all_eq_true.1 q6.2 e he)
    rw [a e.1 this] at hp ⊢
    exact D.K e he hp
  · rw [eW]
    exact fun s hs => by cases hs
  · have z := List.all_eq_true.1 q5.2 e he
    have z1 := (Bool.and_eq_true _ _ ▸ z)
    have z2 := (Bool.and_eq_true _ _ ▸ z1.1)
    rw [cq_smc_e z2.1 a, cq_sm_e z2.2 a]
    exact cq_sma_g z1.2 a (D.T e he)
  · rw [eL]
    exact fun s hs => by cases hs
  · intro e he
    have z := List.all_eq_true.1 q2.2 e he
    have z1 := (Bool.and_eq_true _ _ ▸ z)
    have z2 := (Bool.and_eq_true _ _ ▸ z1.1)
    obtain ⟨k0, ek0, -⟩ := cq_tg_ok z2.2
    have M := D.M e he
    unfold cq_mOk at M ⊢
    have e3 : cq_e ρ' e.2.1 = cq_e ρ e.2.1 := by rw [ek0]; rfl
    rw [cq_sm_e z2.1 a, cq_sm_e z1.2 a, e3]
    exact M
  · have I := D.I
    rw [eU] at I ⊢
    exact I
  · rw [eU]
    exact fun s hs => by cases hs
end CVA
/-- a contract: depth, arguments, store before, what may be written, exits (throws, answer, store after) -/
abbrev cq_Ct : Type := Nat × List cq_A × cq_S × cq_W × List (Bool × List cq_A × cq_S)
def cq_CT (y : Nat) (c : cq_Ct) : Prop := ∀ d h ρ as, c.1 ≤ d → cq_Md c.2.2.2.1 h ρ c.2.2.1 h → cq_gs ρ c.2.1 as → ∃ r h', am_ev d y 0 (am_ent as (am_in y).2.2.1) [] h (r, h') ∧ ∃ x ∈ c.2.2.2.2, ∃ ρ', cq_ag c.2.2.1.n ρ' ρ ∧ cq_Md c.2.2.2.1 h ρ' x.2.2 h' ∧ ((x.1 = false ∧ am_isT r = none ∧ cq_gs ρ' x.2.1 r.toList) ∨ (x.1 = true ∧ r = some (.retAddr 80)))
def cq_wfC (c : cq_Ct) : Bool := cq_wf c.2.2.1 && c.2.2.2.2.all (fun x => cq_wf x.2.2 && x.2.1.all (cq_sma x.2.2.n) && Nat.ble c.2.2.1.n x.2.2.n) && c.2.2.2.2.all (fun x => x.2.2.M.isEmpty) && c.2.2.2.1.all (fun w => w.1 || Nat.blt w.2.1 130)
/-- a symbol's stand-in -/
def cq_sx (i : Nat) : List (Nat × cq_A) → Option cq_A
  | [] => none
  | q :: r => bif Nat.beq q.1 i then some q.2 else cq_sx i r
def cq_vi (ρ : Nat → Int) (a : cq_A) : Int := match a with
  | (1, f, _) => cq_e ρ f
  | (2, f, _) => cq_e ρ f
  | (5, _, k) => (k : Int)
  | (6, _, s) => ρ s
  | _ => -1
/-- the callee's valuation -/
def cq_rc1 (σ : List (Nat × cq_A)) (n0 b : Nat) (ρ : Nat → Int) (s : Nat) : Int := if s < n0 then (match cq_sx s σ with
  | some a => cq_vi ρ a
  | none => 0) else ρ (b + (s - n0))
def cq_sfT (σ : List (Nat × cq_A)) (n0 b : Nat) : List (Nat × Int) → cq_F → Option cq_F
  | [], g => some g
  | t :: r, g => bif Nat.blt t.1 n0 then (match cq_sx t.1 σ with
      | some a => bif Nat.beq a.1 1 || Nat.beq a.1 2 then cq_sfT σ n0 b r (cq_add g (cq_sc t.2 a.2.1)) else none
      | none => none)
    else cq_sfT σ n0 b r (cq_add g (0, [(b + (t.1 - n0), t.2)]))
def cq_sf (σ : List (Nat × cq_A)) (n0 b : Nat) (f : cq_F) : Option cq_F := cq_sfT σ n0 b f.2 (cq_c f.1)
def cq_sa (σ : List (Nat × cq_A)) (n0 b : Nat) (a : cq_A) : Option cq_A := match a with
  | (1, f, _) => (match cq_sf σ n0 b f with
    | some g => some (cq_i g)
    | none => none)
  | (2, f, _) => (match cq_sf σ n0 b f with
    | some g => some (cq_l g)
    | none => none)
  | (4, _, _) => some cq_nu
  | (5, _, k) => some (cq_rc k)
  | (6, _, s) => bif Nat.blt s n0 then (match cq_sx s σ with
      | some a => bif cq_tR a.1 then some a else none
      | none => none)
    else some (cq_rs (b + (s - n0)))
  | _ => none
section CVB
variable {ρ : Nat → Int} {σ : List (Nat × cq_A)} {n0 b : Nat}
theorem cq_sfT_ok : ∀ {l : List (Nat × Int)} {g f : cq_F}, cq_sfT σ n0 b l g = some f → cq_e ρ f = cq_e ρ g + cq_eT (cq_rc1 σ n0 b ρ) l
  | [], g, f, q => by
    have := Option.some.inj q
    subst this
    simp [cq_eT]
  | t :: r, g, f, q => by
    unfold cq_sfT at q
    simp only [cq_eT]
    cases hb : Nat.blt t.1 n0 with
    | true =>
      rw [hb] at q
      have hlt : t.1 < n0 := Nat.le_of_ble_eq_true hb
      simp only [cond_true] at q
      cases hx : cq_sx t.1 σ with
      | none => rw [hx] at q; cases q
      | some a =>
        rw [hx] at q
        dsimp only at q
        rw [cond_eq_ite] at q
        split at q
        · rename_i ht
          rw [cq_sfT_ok q, cq_add_e, cq_sc_e]
          have ev : cq_rc1 σ n0 b ρ t.1 = cq_e ρ a.2.1 := by
            unfold cq_rc1
            rw [if_pos hlt, hx]
            rcases Bool.or_eq_true _ _ ▸ ht with z | z
            · rw [cq_tag z]
              rfl
            · rw [cq_tag z]
              rfl
          rw [ev]
          omega
        · cases q
    | false =>
      rw [hb] at q
      have hlt : ¬ t.1 < n0 := fun z => by
        rw [show Nat.blt t.1 n0 = true from Nat.ble_eq_true_of_le z] at hb
        cases hb
      simp only [cond_false] at q
      rw [cq_sfT_ok q, cq_add_e]
      have ev : cq_rc1 σ n0 b ρ t.1 = ρ (b + (t.1 - n0)) := by
        unfold cq_rc1
        rw [if_neg hlt]
      have e2 : cq_e ρ ((0, [(b + (t.1 - n0), t.2)]) : cq_F) = t.2 * ρ (b + (t.1 - n0)) := by
        simp [cq_e, cq_eT]
      rw [ev, e2]
      omega
theorem cq_sf_ok {f g : cq_F} (q : cq_sf σ n0 b f = some g) : cq_e ρ g = cq_e (cq_rc1 σ n0 b ρ) f := by
  rw [cq_sfT_ok q, cq_c_e]
  rfl
/-- the reference that a stand-in is -/
theorem cq_vi_g {a : cq_A} (ht : cq_tR a.1 = true) {v : Value} : cq_g ρ a v ↔ ((cq_vi ρ a < 0 ∧ v = .null) ∨ (0 ≤ cq_vi ρ a ∧ v = .ref (cq_vi ρ a).toNat)) := by
  obtain ⟨t, f, k⟩ := a
  have h1 := (Bool.and_eq_true _ _ ▸ ht)
  have a1 := Nat.le_of_ble_eq_true h1.1
  have a2 := Nat.le_of_ble_eq_true h1.2
  dsimp only at a1 a2
  rcases (show t = 4 ∨ t = 5 ∨ t = 6 by omega) with q | q | q
  · subst q
    show v = .null ↔ (((-1 : Int) < 0 ∧ v = .null) ∨ (0 ≤ (-1 : Int) ∧ v = .ref (-1 : Int).toNat))
    constructor
    · exact fun z => Or.inl ⟨by omega, z⟩
    · rintro (⟨-, z⟩ | ⟨z, -⟩)
      · exact z
      · omega
  · subst q
    show v = .ref k ↔ (((k : Int) < 0 ∧ v = .null) ∨ (0 ≤ (k : Int) ∧ v = .ref (k : Int).toNat))
    rw [Int.toNat_natCast]
    constructor
    · exact fun z => Or.inr ⟨Int.natCast_nonneg k, z⟩
    · rintro (⟨z, -⟩ | ⟨-, z⟩)
      · have := Int.natCast_nonneg k
        omega
      · exact z
  · subst q
    exact Iff.rfl
theorem cq_sa_ok {a a' : cq_A} {v : Value} (q : cq_sa σ n0 b a = some a') : cq_g (cq_rc1 σ n0 b ρ) a v ↔ cq_g ρ a' v := by
  unfold cq_sa at q
  split at q
  · rename_i f k
    split at q
    · rename_i g hg
      rw [← Option.some.inj q]
      show (∃ x : Int32, v = .int x ∧ x.toInt = cq_e (cq_rc1 σ n0 b ρ) f) ↔ (∃ x : Int32, v = .int x ∧ x.toInt = cq_e ρ g)
      rw [cq_sf_ok hg]
    · cases q
  · rename_i f k
    split at q
    · rename_i g hg
      rw [← Option.some.inj q]
      show (∃ x : Int64, v = .long x ∧ x.toInt = cq_e (cq_rc1 σ n0 b ρ) f) ↔ (∃ x : Int64, v = .long x ∧ x.toInt = cq_e ρ g)
      rw [cq_sf_ok hg]
    · cases q
  · rw [← Option.some.inj q]
    exact Iff.rfl
  · rw [← Option.some.inj q]
    exact Iff.rfl
  · rename_i f s
    cases hb : Nat.blt s n0 with
    | true =>
      rw [hb] at q
      have hlt : s < n0 := Nat.le_of_ble_eq_true hb
      simp only [cond_true] at q
      cases hx : cq_sx s σ with
      | none => rw [hx] at q; cases q
      | some c =>
        rw [hx] at q
        dsimp only at q
        rw [cond_eq_ite] at q
        split at q
        · rename_i ht
          rw [← Option.some.inj q, cq_vi_g ht]
          have ev : cq_rc1 σ n0 b ρ s = cq_vi ρ c := by
            unfold cq_rc1
            rw [if_pos hlt, hx]
          show ((cq_rc1 σ n0 b ρ s < 0 ∧ v = .null) ∨ (0 ≤ cq_rc1 σ n0 b ρ s ∧ v = .ref (cq_rc1 σ n0 b ρ s).toNat)) ↔ _
          rw [ev]
        · cases q
    | false =>
      rw [hb] at q
      have hlt : ¬ s < n0 := fun z => by
        rw [show Nat.blt s n0 = true from Nat.ble_eq_true_of_le z] at hb
        cases hb
      simp only [cond_false] at q
      rw [← Option.some.inj q]
      have ev : cq_rc1 σ n0 b ρ s = ρ (b + (s - n0)) := by
        unfold cq_rc1
        rw [if_neg hlt]
      show ((cq_rc1 σ n0 b ρ s < 0 ∧ v = .null) ∨ (0 ≤ cq_rc1 σ n0 b ρ s ∧ v = .ref (cq_rc1 σ n0 b ρ s).toNat)) ↔ ((ρ (b + (s - n0)) < 0 ∧ v = .null) ∨ (0 ≤ ρ (b + (s - n0)) ∧ v = .ref (ρ (b + (s - n0))).toNat))
      rw [ev]
  · cases q
end CVB
