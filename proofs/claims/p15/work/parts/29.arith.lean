/-! THE CHECKER, 5: arithmetic -/
section CQA
variable {m : cq_W} {h0 : am_H} {ρ : Nat → Int} {S : cq_S} {h : am_H}
theorem cq_and_nn {x y : Int32} (hx : 0 ≤ x.toInt) : 0 ≤ (x &&& y).toInt ∧ (x &&& y).toInt ≤ x.toInt := by
  have e0 : ∀ z : Int32, z.toInt = z.toBitVec.toInt := fun _ => rfl
  have ex : x.toBitVec.msb = false := by
    rw [BitVec.msb_eq_toInt]
    have := e0 x
    exact decide_eq_false (by omega)
  have ea : (x &&& y).toBitVec = x.toBitVec &&& y.toBitVec := rfl
  have em : (x.toBitVec &&& y.toBitVec).msb = false := by rw [BitVec.msb_and, ex, Bool.false_and]
  have e1 : (x &&& y).toInt = ((x.toBitVec &&& y.toBitVec).toNat : Int) := by
    rw [e0, ea]
    exact BitVec.toInt_eq_toNat_of_msb em
  have e2 : x.toInt = (x.toBitVec.toNat : Int) := by
    rw [e0]
    exact BitVec.toInt_eq_toNat_of_msb ex
  rw [e1, e2, BitVec.toNat_and]
  have := Nat.and_le_left (n := x.toBitVec.toNat) (m := y.toBitVec.toNat)
  omega
theorem cq_and_cm (x y : Int32) : x &&& y = y &&& x := by
  apply Int32.toBitVec.inj
  show x.toBitVec &&& y.toBitVec = y.toBitVec &&& x.toBitVec
  exact BitVec.and_comm _ _
/-- a product: one side is known -/
def cq_mu (f g : cq_F) : Option cq_F := bif cq_k g then some (cq_sc g.1 f) else bif cq_k f then some (cq_sc f.1 g) else none
theorem cq_mu_ok {f g p : cq_F} (e : cq_mu f g = some p) (ρ : Nat → Int) : cq_e ρ p = cq_e ρ f * cq_e ρ g := by
  unfold cq_mu at e
  cases h1 : cq_k g with
  | true =>
    rw [h1] at e
    rw [← Option.some.inj e, cq_sc_e, cq_k_e h1, Int.mul_comm]
  | false =>
    rw [h1] at e
    cases h2 : cq_k f with
    | true =>
      rw [h2] at e
      rw [← Option.some.inj e, cq_sc_e, cq_k_e h2]
    | false => rw [h2] at e; cases e
/-- the greatest that a form can be -/
def cq_hi (B : cq_B) (f : cq_F) : Option Int := match cq_lo B (cq_neg f) with
  | some w => some (- w)
  | none => none
theorem cq_hi_ok {ρ : Nat → Int} {B : cq_B} (hB : cq_bOk ρ B) {f : cq_F} {u : Int} (h : cq_hi B f = some u) : cq_e ρ f ≤ u := by
  unfold cq_hi at h
  cases hl : cq_lo B (cq_neg f) with
  | none => rw [hl] at h; cases h
  | some w =>
    rw [hl] at h
    have := cq_lo_ok hB hl
    rw [cq_neg_e] at this
    have := Option.some.inj h
    omega
def cq_feq : List (Nat × Int) → List (Nat × Int) → Bool
  | [], [] => true
  | a :: r, b :: t => Nat.beq a.1 b.1 && cq_ieq a.2 b.2 && cq_feq r t
  | _, _ => false
theorem cq_feq_ok : ∀ {a b : List (Nat × Int)}, cq_feq a b = true → a = b
  | [], [], _ => rfl
  | [], _ :: _, h => by cases h
  | _ :: _, [], h => by cases h
  | (a1, a2) :: r, (b1, b2) :: t, h => by
    unfold cq_feq at h
    have h1 := (Bool.and_eq_true _ _ ▸ h)
    have h2 := (Bool.and_eq_true _ _ ▸ h1.1)
    have e1 := am_beq h2.1
    have e2 := cq_z_eq h2.2
    have e3 := cq_feq_ok h1.2
    dsimp only at e1 e2
    rw [e1, e3, show a2 = b2 by omega]
def cq_fe (f g : cq_F) : Bool := cq_ieq f.1 g.1 && cq_feq f.2 g.2
theorem cq_fe_ok {f g : cq_F} (h : cq_fe f g = true) : f = g := by
  have h1 := (Bool.and_eq_true _ _ ▸ h)
  have e1 := cq_z_eq h1.1
  have e2 := cq_feq_ok h1.2
  obtain ⟨a, b⟩ := f
  obtain ⟨c, d⟩ := g
  dsimp only at e1 e2
  rw [e2, show a = c by omega]
def cq_fm (f g : cq_F) : List (cq_F × cq_F × cq_F) → Option cq_F
  | [] => none
  | q :: r => bif cq_fe q.1 f && cq_fe q.2.1 g then some q.2.2 else cq_fm f g r
theorem cq_fm_ok {f g r : cq_F} : ∀ {M : List (cq_F × cq_F × cq_F)}, cq_fm f g M = some r → (f, g, r) ∈ M
  | [], h => by cases h
  | q :: M, h => by
    unfold cq_fm at h
    cases hb : cq_fe q.1 f && cq_fe q.2.1 g with
    | true =>
      rw [hb] at h
      have h1 := (Bool.and_eq_true _ _ ▸ hb)
      have e1 := cq_fe_ok h1.1
      have e2 := cq_fe_ok h1.2
      have e3 := Option.some.inj h
      rw [← e1, ← e2, ← e3]
      exact List.mem_cons_self
    | false =>
      rw [hb] at h
      exact List.mem_cons_of_mem _ (cq_fm_ok h)
def cq_S.aM (S : cq_S) (q : cq_F × cq_F × cq_F) : cq_S := cq_mk S.n S.P S.N S.K S.W S.T S.L (q :: S.M) S.U S.ac S.al
/-- an and -/
def cq_an (S : cq_S) (f g : cq_F) : cq_A × cq_S := match cq_fm f g S.M with
  | some r => (cq_i r, S)
  | none => (match (bif cq_nn S.P.1 f then cq_hi S.P.1 f else none), (bif cq_nn S.P.1 g then cq_hi S.P.1 g else none) with
    | some u, some w => (cq_i (cq_s S.n), (S.fb 0 (bif cq_p (w - u) then u else w)).aM (f, g, cq_s S.n))
    | some u, none => (cq_i (cq_s S.n), (S.fb 0 u).aM (f, g, cq_s S.n))
    | none, some w => (cq_i (cq_s S.n), (S.fb 0 w).aM (f, g, cq_s S.n))
    | none, none => (cq_i (cq_s S.n), (S.fb (-2147483648) 2147483647).aM (f, g, cq_s S.n)))
theorem cq_an_mk {f g : cq_F} {x y : Int32} {l u : Int} (H : ∀ ρ', cq_ag S.n ρ' ρ → cq_Md m h0 ρ' S h ∧ x.toInt = cq_e ρ' f ∧ y.toInt = cq_e ρ' g) (h1 : l ≤ (x &&& y).toInt) (h2 : (x &&& y).toInt ≤ u) : cq_Mk m h0 ρ S h (cq_i (cq_s S.n), (S.fb l u).aM (f, g, cq_s S.n)) (.int (x &&& y)) := by
  refine ⟨Nat.le_succ _, cq_up ρ S.n (x &&& y).toInt, cq_up_g, fun ρ' a => ?_⟩
  obtain ⟨D, e⟩ := cq_fb_ok (fun ρ' a => (H ρ' a).1) h1 h2 ρ' a
  obtain ⟨-, ex, ey⟩ := H ρ' (cq_up_a a)
  refine ⟨⟨D.1, D.2.1, D.2.2.1, D.2.2.2.1, D.2.2.2.2.1, D.2.2.2.2.2.1, ?_, D.2.2.2.2.2.2.2⟩, _, rfl, by rw [cq_s_e, e]⟩
  intro q hq
  rcases List.mem_cons.1 hq with r | r
  · subst r
    refine ⟨fun x' y' e1 e2 => ?_, fun k ek => ?_⟩
    · dsimp only at e1 e2 ⊢
      rw [← ex] at e1
      rw [← ey] at e2
      rw [Int32.toInt_inj.1 e1, Int32.toInt_inj.1 e2, cq_s_e, e]
    · exfalso
      dsimp only at ek
      rw [ek] at ey
      have b2 := y.toInt_lt
      have e3 : cq_e ρ' (((1000000000000 : Int) + (k : Int), []) : cq_F) = 1000000000000 + (k : Int) := by simp [cq_e, cq_eT]
      rw [e3] at ey
      omega
  · exact D.M q r
theorem cq_an_ok {f g : cq_F} {x y : Int32} (H : ∀ ρ', cq_ag S.n ρ' ρ → cq_Md m h0 ρ' S h ∧ x.toInt = cq_e ρ' f ∧ y.toInt = cq_e ρ' g) : cq_Mk m h0 ρ S h (cq_an S f g) (.int (x &&& y)) := by
  unfold cq_an
  cases hm : cq_fm f g S.M with
  | some r =>
    refine cq_Mk.of fun ρ' a => ?_
    obtain ⟨D, ex, ey⟩ := H ρ' a
    exact ⟨D, _, rfl, (D.M _ (cq_fm_ok hm)).1 x y ex ey⟩
  | none =>
    dsimp only
    obtain ⟨D, ex, ey⟩ := H ρ cq_ag.rf
    have k1 : ∀ u, (bif cq_nn S.P.1 f then cq_hi S.P.1 f else none) = some u → 0 ≤ (x &&& y).toInt ∧ (x &&& y).toInt ≤ u := fun u e => by
      cases hn : cq_nn S.P.1 f with
      | false => rw [hn] at e; cases e
      | true =>
        rw [hn] at e
        have := cq_nn_ok D.P.1 hn
        have := cq_hi_ok D.P.1 e
        have := cq_and_nn (x := x) (y := y) (by omega)
        omega
    have k2 : ∀ u, (bif cq_nn S.P.1 g then cq_hi S.P.1 g else none) = some u → 0 ≤ (x &&& y).toInt ∧ (x &&& y).toInt ≤ u := fun u e => by
      cases hn : cq_nn S.P.1 g with
      | false => rw [hn] at e; cases e
      | true =>
        rw [hn] at e
        have := cq_nn_ok D.P.1 hn
        have := cq_hi_ok D.P.1 e
        have := cq_and_nn (x := y) (y := x) (by omega)
        rw [cq_and_cm] at this
        omega
    cases e1 : (bif cq_nn S.P.1 f then cq_hi S.P.1 f else none) with
    | some u =>
      have b1 := k1 u e1
      cases e2 : (bif cq_nn S.P.1 g then cq_hi S.P.1 g else none) with
      | some w =>
        have b2 := k2 w e2
        refine cq_an_mk H b1.1 ?_
        cases cq_p (w - u) with
        | true => exact b1.2
        | false => exact b2.2
      | none => exact cq_an_mk H b1.1 b1.2
    | none =>
      cases e2 : (bif cq_nn S.P.1 g then cq_hi S.P.1 g else none) with
      | some w =>
        have b2 := k2 w e2
        exact cq_an_mk H b2.1 b2.2
      | none => exact cq_an_mk H (x &&& y).le_toInt (by have := (x &&& y).toInt_lt; omega)
theorem cq_sh1 : ∀ k : Nat, k < 31 → ((1 : Int32) <<< ((Int32.ofNat k) &&& 31)).toInt = 2 ^ k := by decide +kernel
/-- a shift of 1 -/
def cq_sl (S : cq_S) (f g : cq_F) : cq_A × cq_S := bif cq_k f && cq_ieq f.1 1 && cq_nn S.P.1 g then (match cq_hi S.P.1 g with
    | some u => bif cq_p (30 - u) then cq_fi S 1 (2 ^ u.toNat) else cq_any S
    | none => cq_any S) else cq_any S
theorem cq_sl_ok {f g : cq_F} {x y : Int32} (H : ∀ ρ', cq_ag S.n ρ' ρ → cq_Md m h0 ρ' S h ∧ x.toInt = cq_e ρ' f ∧ y.toInt = cq_e ρ' g) : cq_Mk m h0 ρ S h (cq_sl S f g) (.int (x <<< (y &&& 31))) := by
  have H1 : ∀ ρ', cq_ag S.n ρ' ρ → cq_Md m h0 ρ' S h := fun ρ' a => (H ρ' a).1
  unfold cq_sl
  cases hb : cq_k f && cq_ieq f.1 1 && cq_nn S.P.1 g with
  | false => exact cq_any_ok H1
  | true =>
    have q1 := (Bool.and_eq_true _ _ ▸ hb)
    have q2 := (Bool.and_eq_true _ _ ▸ q1.1)
    obtain ⟨D, ex, ey⟩ := H ρ cq_ag.rf
    rw [cq_k_e q2.1] at ex
    have e1 := cq_z_eq q2.2
    have g0 := cq_nn_ok D.P.1 q1.2
    simp only [cond_true]
    cases hu : cq_hi S.P.1 g with
    | none => exact cq_any_ok H1
    | some u =>
      dsimp only
      cases hp : cq_p (30 - u) with
      | false => exact cq_any_ok H1
      | true =>
        have hu1 := cq_p_le hp
        have hu2 := cq_hi_ok D.P.1 hu
        have x1 : x = 1 := Int32.toInt_inj.1 (by rw [ex]; show f.1 = 1; omega)
        have y1 : y = Int32.ofNat y.toInt.toNat := Int32.toInt_inj.1 (by rw [Int32.toInt_ofNat_of_lt (by omega)]; omega)
        have hy : y.toInt.toNat < 31 := by omega
        have e : (x <<< (y &&& 31)).toInt = 2 ^ y.toInt.toNat := by
          have k := cq_sh1 _ hy
          rw [← y1] at k
          rw [x1]
          exact k
        have e2 : (2 : Int) ^ y.toInt.toNat ≤ 2 ^ u.toNat := by
          have := Nat.pow_le_pow_right (n := 2) (by decide) (show y.toInt.toNat ≤ u.toNat by omega)
          exact_mod_cast this
        have e3 : (1 : Int) ≤ 2 ^ y.toInt.toNat := by
          have := Nat.one_le_two_pow (n := y.toInt.toNat)
          exact_mod_cast this
        exact cq_fi_ok H1 (by rw [e]; exact e3) (by rw [e]; exact e2)
end CQA
