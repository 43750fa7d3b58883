/-! THE CHECKER, 25: a call by its contract -/
/-- places that the contract speaks of are read ahead -/
def cq_pl : List (cq_C × cq_F × cq_A) → cq_S → Option cq_S
  | [], S => some S
  | q :: r, S => bif (cq_tl q.1 q.2.1 S.T).isSome then cq_pl r S else (match cq_cel S (cq_rc q.1.2) with
    | some (c, (0, ci, z)) => bif !q.1.1 && cq_k q.2.1 && cq_p q.2.1.1 && Nat.blt q.2.1.1.toNat (am_N ci) && !c.1 && Nat.beq c.2 q.1.2 then (match cq_rdp S c (0, ci, z) (cq_c (q.2.1.1.toNat : Int)) with
      | some (_, S1) => cq_pl r S1
      | none => none) else none
    | _ => none)
/-- does a value fit a contract's -/
def cq_aq (a b : cq_A) : Bool := Nat.beq a.1 b.1 && cq_fe a.2.1 b.2.1 && Nat.beq a.2.2 b.2.2
def cq_mv (P : cq_P) (σ : List (Nat × cq_A)) (n0 : Nat) (sp a : cq_A) : Bool := match cq_sa σ n0 0 sp with
  | some b => cq_aq b a || (Nat.beq b.1 a.1 && (Nat.beq b.1 1 || Nat.beq b.1 2) && cq_en P (cq_sub b.2.1 a.2.1) && cq_en P (cq_sub a.2.1 b.2.1))
  | none => false
def cq_mvs (P : cq_P) (σ : List (Nat × cq_A)) (n0 : Nat) : List cq_A → List cq_A → Bool
  | [], [] => true
  | s :: ss, a :: as => cq_mv P σ n0 s a && cq_mvs P σ n0 ss as
  | _, _ => false
/-- do a contract's facts hold -/
def cq_vP (S : cq_S) (σ : List (Nat × cq_A)) (n0 : Nat) (C : cq_S) : Bool := C.P.1.all (fun b => match cq_sf σ n0 0 (cq_s b.1) with
    | some f => cq_inE S.P f b.2.1 b.2.2
    | none => false) && C.P.2.all (fun g => match cq_sf σ n0 0 g with
    | some f => cq_en S.P f
    | none => false)
def cq_vN (S : cq_S) (σ : List (Nat × cq_A)) (q : Nat × Bool) : Bool := match cq_sx q.1 σ with
  | some (4, _, _) => !q.2
  | some (5, _, _) => q.2
  | some (6, _, s) => (match cq_nl s S.N with
    | some b => b == q.2
    | none => false)
  | _ => false
def cq_vK (S : cq_S) (σ : List (Nat × cq_A)) (q : Nat × cq_Kd) : Bool := match cq_sx q.1 σ with
  | some (4, _, _) => true
  | some (5, _, k) => Nat.ble 2 q.2.1 && Nat.ble 7 k && Nat.blt k 23
  | some (6, _, s) => (match cq_kl s S.K with
    | some k => Nat.beq k.1 q.2.1 && Nat.beq k.2.1 q.2.2.1 && (Nat.beq q.2.2.2 0 || Nat.beq k.2.2 q.2.2.2)
    | none => false)
  | _ => false
def cq_vT (S : cq_S) (σ : List (Nat × cq_A)) (n0 : Nat) (q : cq_C × cq_F × cq_A) : Bool := !q.1.1 && cq_k q.2.1 && (match cq_tl q.1 q.2.1 S.T with
  | some a => cq_mv S.P σ n0 q.2.2 a
  | none => false)
/-- does what a contract asks of heaps stand in the store -/
def cq_vM (S : cq_S) (σ : List (Nat × cq_A)) (n0 : Nat) (e : cq_F × cq_F × cq_F) : Bool := match cq_sf σ n0 0 e.1, cq_sf σ n0 0 e.2.2 with
  | some f, some r => (match cq_fm f e.2.1 S.M with
    | some g => cq_en S.P (cq_sub g r) && cq_en S.P (cq_sub r g)
    | none => false)
  | _, _ => false
/-- what is asked of heaps stays the same where nothing but m is written -/
def cq_UT (m : cq_W) (h0 : am_H) : Prop := ∀ h, cq_Fr m h0 h → cq_Inv none h → h.1 = h0.1 → ∀ k x, cq_okT k = true → cq_U h k x = cq_U h0 k x
section CVC
variable {m : cq_W} {h0 : am_H} {ρ : Nat → Int} {S : cq_S} {h : am_H} {σ : List (Nat × cq_A)} {n0 : Nat}
theorem cq_pl_ok : ∀ {l : List (cq_C × cq_F × cq_A)} {ρ : Nat → Int} {S S' : cq_S}, cq_pl l S = some S' → (∀ ρ', cq_ag S.n ρ' ρ → cq_Md m h0 ρ' S h) → S.n ≤ S'.n ∧ ∃ ρ1, cq_ag S.n ρ1 ρ ∧ ∀ ρ', cq_ag S'.n ρ' ρ1 → cq_Md m h0 ρ' S' h
  | [], ρ, S, S', q, H => by
    have := Option.some.inj q
    subst this
    exact ⟨Nat.le_refl _, ρ, cq_ag.rf, H⟩
  | x :: r, ρ, S, S', q, H => by
    unfold cq_pl at q
    rw [cond_eq_ite] at q
    split at q
    · exact cq_pl_ok q H
    · split at q
      · rename_i c ci z hcel
        rw [cond_eq_ite] at q
        split at q
        · rename_i hb
          have b1 := (Bool.and_eq_true _ _ ▸ hb)
          have b2 := (Bool.and_eq_true _ _ ▸ b1.1)
          have b3 := (Bool.and_eq_true _ _ ▸ b2.1)
          split at q
          · rename_i a S1 hr
            have D := H ρ cq_ag.rf
            obtain ⟨-, hl⟩ := cq_cel_ok (v := .ref x.1.2) hcel D rfl
            have c1 := cq_nb b2.2
            have hu : ∀ ρ', cq_ag S.n ρ' ρ → cq_ce ρ' c = c.2 := fun ρ' _ => by unfold cq_ce; rw [c1]; rfl
            rw [hu ρ cq_ag.rf] at hl
            have hlt : x.2.1.1.toNat < (h.2.2.1 c.2).2.2 := by
              rw [hl.2]
              exact Nat.le_of_ble_eq_true b3.2
            obtain ⟨hn, ρ1, a1, k⟩ := cq_rdp_ok (m := m) (h0 := h0) (w := x.2.1.1.toNat) (cc := c.2) hcel hr H hu (fun ρ' _ => cq_c_e ρ' _) hlt
            obtain ⟨hn2, ρ2, a2, k2⟩ := cq_pl_ok q fun ρ' a => (k ρ' a).1
            exact ⟨Nat.le_trans hn hn2, ρ2, (a2.lt hn).tr a1, k2⟩
          · cases q
        · cases q
      · cases q
theorem cq_aq_ok {a b : cq_A} (q : cq_aq a b = true) : a = b := by
  have q1 := (Bool.and_eq_true _ _ ▸ q)
  have q2 := (Bool.and_eq_true _ _ ▸ q1.1)
  obtain ⟨t, f, k⟩ := a
  obtain ⟨t', f', k'⟩ := b
  have e1 := am_beq q2.1
  have e2 := cq_fe_ok q2.2
  have e3 := am_beq q1.2
  dsimp only at e1 e2 e3
  rw [e1, e2, e3]
theorem cq_mv_ok {sp a : cq_A} {v : Value} (q : cq_mv S.P σ n0 sp a = true) (hP : cq_pOk ρ S.P) (g : cq_g ρ a v) : cq_g (cq_rc1 σ n0 0 ρ) sp v := by
  unfold cq_mv at q
  split at q
  · rename_i b hb
    rw [cq_sa_ok hb]
    rcases Bool.or_eq_true _ _ ▸ q with z | z
    · rw [cq_aq_ok z]
      exact g
    · have z1 := (Bool.and_eq_true _ _ ▸ z)
      have z2 := (Bool.and_eq_true _ _ ▸ z1.1)
      have z3 := (Bool.and_eq_true _ _ ▸ z2.1)
      have c1 := cq_en_ok hP z2.2
      have c2 := cq_en_ok hP z1.2
      rw [cq_sub_e] at c1 c2
      have e1 := am_beq z3.1
      rcases Bool.or_eq_true _ _ ▸ z3.2 with y | y
      · rw [cq_tag y]
        rw [am_beq y] at e1
        rw [cq_tag (show Nat.beq a.1 1 = true by rw [← e1]; rfl)] at g
        obtain ⟨x, ex, hx⟩ := g
        exact ⟨x, ex, by rw [hx]; omega⟩
      · rw [cq_tag y]
        rw [am_beq y] at e1
        rw [cq_tag (show Nat.beq a.1 2 = true by rw [← e1]; rfl)] at g
        obtain ⟨x, ex, hx⟩ := g
        exact ⟨x, ex, by rw [hx]; omega⟩
  · cases q
theorem cq_mvs_ok : ∀ {ss as : List cq_A} {vs : List Value}, cq_mvs S.P σ n0 ss as = true → cq_pOk ρ S.P → cq_gs ρ as vs → cq_gs (cq_rc1 σ n0 0 ρ) ss vs
  | [], [], [], _, _, _ => trivial
  | [], [], _ :: _, _, _, g => g.elim
  | [], _ :: _, _, q, _, _ => by cases q
  | _ :: _, [], _, q, _, _ => by cases q
  | _ :: _, _ :: _, [], _, _, g => g.elim
  | s :: ss, a :: as, v :: vs, q, hP, g => by
    have q := (Bool.and_eq_true _ _ ▸ (show (cq_mv S.P σ n0 s a && cq_mvs S.P σ n0 ss as) = true from q))
    exact ⟨cq_mv_ok q.1 hP g.1, cq_mvs_ok q.2 hP g.2⟩
theorem cq_rc1_x {i : Nat} {a : cq_A} {b : Nat} (hi : i < n0) (hx : cq_sx i σ = some a) : cq_rc1 σ n0 b ρ i = cq_vi ρ a := by
  unfold cq_rc1
  rw [if_pos hi, hx]
/-- the contract's store before holds at the callee's valuation -/
theorem cq_pre_ok {C : cq_S} {mc : cq_W} (wf : cq_wf C = true) (hn : C.n = n0) (D : cq_Md m h0 ρ S h) (hU : S.U = none) (vP : cq_vP S σ n0 C = true) (vN : C.N.all (cq_vN S σ) = true) (vK : C.K.all (cq_vK S σ) = true) (vT : C.T.all (cq_vT S σ n0) = true) (vM : C.M.all (cq_vM S σ n0) = true) (hM : C.M = [] ∨ ∀ k x, cq_okT k = true → cq_U h k x = cq_U h0 k x) : cq_Md mc h (cq_rc1 σ n0 0 ρ) C h := by
  have q1 := (Bool.and_eq_true _ _ ▸ wf)
  have q2 := (Bool.and_eq_true _ _ ▸ q1.1)
  have q3 := (Bool.and_eq_true _ _ ▸ q2.1)
  have q4 := (Bool.and_eq_true _ _ ▸ q3.1)
  have q5 := (Bool.and_eq_true _ _ ▸ q4.1)
  have q6 := (Bool.and_eq_true _ _ ▸ q5.1)
  have q7 := (Bool.and_eq_true _ _ ▸ q6.1)
  have eW : C.W = [] := List.isEmpty_iff.1 q4.2
  have eL : C.L = [] := List.isEmpty_iff.1 q3.2
  have eU : C.U = none := Option.isNone_iff_eq_none.1 q1.2
  have p := (Bool.and_eq_true _ _ ▸ vP)
  refine ⟨⟨fun b hb => ?_, fun g hg => ?_⟩, fun e he => ?_, fun e he hp => ?_, ?_, fun e he => ?_, ?_, ?_, ?_, ⟨Nat.le_refl _, fun _ _ => rfl, fun _ _ _ _ => rfl⟩, ⟨Nat.le_add_right _ _, Nat.le_add_right _ _⟩, ?_⟩
  · have z := List.all_eq_true.1 p.1 b hb
    split at z
    · rename_i f hf
      have := cq_inE_ok D.P z
      rw [cq_sf_ok hf, cq_s_e] at this
      exact this
    · cases z
  · have z := List.all_eq_true.1 p.2 g hg
    split at z
    · rename_i f hf
      have := cq_en_ok D.P z
      rw [cq_sf_ok hf] at this
      exact this
    · cases z
  · have hi : e.1 < n0 := by rw [← hn]; exact Nat.le_of_ble_eq_true (List.all_eq_true.1 q7.2 e he)
    have z := List.all_eq_true.1 vN e he
    unfold cq_vN at z
    split at z
    · rename_i f k hx
      rw [cq_rc1_x hi hx]
      have := cq_nb z
      exact ⟨fun y => (by rw [this] at y; cases y), fun _ => (by show (-1 : Int) < 0; omega)⟩
    · rename_i f k hx
      rw [cq_rc1_x hi hx]
      exact ⟨fun _ => Int.natCast_nonneg k, fun y => by rw [z] at y; cases y⟩
    · rename_i f s hx
      rw [cq_rc1_x hi hx]
      split at z
      · rename_i b hb
        have eb : b = e.2 := eq_of_beq z
        have kk := D.N _ (cq_nl_ok hb)
        dsimp only at kk
        rw [eb] at kk
        exact kk
      · cases z
    · cases z
  · have hi : e.1 < n0 := by rw [← hn]; exact Nat.le_of_ble_eq_true (List.all_eq_true.1 q6.2 e he)
    have z := List.all_eq_true.1 vK e he
    unfold cq_vK at z
    split at z
    · rename_i f k hx
      rw [cq_rc1_x hi hx] at hp
      exact absurd hp (by show ¬ (0 : Int) ≤ -1; omega)
    · rename_i f k hx
      rw [cq_rc1_x hi hx]
      show cq_kOk h (k : Int).toNat e.2
      rw [Int.toNat_natCast]
      have z1 := (Bool.and_eq_true _ _ ▸ z)
      have z2 := (Bool.and_eq_true _ _ ▸ z1.1)
      obtain ⟨e1, t, x, y⟩ := e
      have h2 := Nat.le_of_ble_eq_true z2.1
      dsimp only at h2 ⊢
      rcases t with _ | _ | t
      · omega
      · omega
      · exact ⟨Nat.le_of_ble_eq_true z2.2, Nat.le_of_ble_eq_true z1.2⟩
    · rename_i f s hx
      rw [cq_rc1_x hi hx] at hp ⊢
      have hs : 0 ≤ ρ s := hp
      show cq_kOk h (ρ s).toNat e.2
      split at z
      · rename_i k hk
        have kk := D.K _ (cq_kl_ok hk) hs
        have z1 := (Bool.and_eq_true _ _ ▸ z)
        have z2 := (Bool.and_eq_true _ _ ▸ z1.1)
        have f1 := am_beq z2.1
        have f2 := am_beq z2.2
        obtain ⟨e1, t, x, y⟩ := e
        obtain ⟨t', x', y'⟩ := k
        dsimp only at f1 f2 z1 kk ⊢
        subst f1
        subst f2
        rcases t' with _ | _ | t'
        · exact kk
        · obtain ⟨g1, g2, g3, g4, g5⟩ := kk
          refine ⟨g1, g2, g3, g4, ?_⟩
          rcases Bool.or_eq_true _ _ ▸ z1.2 with w | w
          · exact Or.inl (am_beq w)
          · rw [← am_beq w]; exact g5
        · exact kk
      · cases z
    · cases z
  · rw [eW]
    exact fun s hs => by cases hs
  · have z := List.all_eq_true.1 vT e he
    have z1 := (Bool.and_eq_true _ _ ▸ z)
    have z2 := (Bool.and_eq_true _ _ ▸ z1.1)
    have c1 := cq_nb z2.1
    have y := z1.2
    split at y
    · rename_i a ha
      have g := D.T _ (cq_tl_ok ha)
      dsimp only at g
      have ec : ∀ r : Nat → Int, cq_ce r e.1 = e.1.2 := fun r => by unfold cq_ce; rw [c1]; rfl
      rw [ec] at g ⊢
      rw [cq_k_e z2.2] at g ⊢
      exact cq_mv_ok y D.P g
    · cases y
  · rw [eL]
    exact fun s hs => by cases hs
  · intro e he
    rcases hM with hM | hM
    · rw [hM] at he; cases he
    have z := List.all_eq_true.1 q2.2 e he
    have z1 := (Bool.and_eq_true _ _ ▸ z)
    have z2 := (Bool.and_eq_true _ _ ▸ z1.1)
    obtain ⟨k0, ek0, hk0⟩ := cq_tg_ok z2.2
    have v := List.all_eq_true.1 vM e he
    unfold cq_vM at v
    split at v
    · rename_i f r hf hr
      split at v
      · rename_i g hg
        have v := (Bool.and_eq_true _ _ ▸ v)
        have c1 := cq_en_ok D.P v.1
        have c2 := cq_en_ok D.P v.2
        rw [cq_sub_e] at c1 c2
        refine ⟨fun x y _ ey => ?_, fun k ek => ?_⟩
        · exfalso
          rw [ek0] at ey
          have e3 : cq_e (cq_rc1 σ n0 0 ρ) (((1000000000000 : Int) + (k0 : Int), []) : cq_F) = 1000000000000 + (k0 : Int) := by simp [cq_e, cq_eT]
          rw [e3] at ey
          have := y.toInt_lt
          omega
        · have ekk : k = k0 := by
            rw [ek0] at ek
            have := (Prod.mk.inj ek).1
            omega
          subst ekk
          have M := (D.M _ (cq_fm_ok hg)).2 k ek0
          dsimp only at M
          rw [← cq_sf_ok hr, ← cq_sf_ok hf, hM k _ hk0, ← M]
          omega
      · cases v
    · cases v
  · have I := D.I
    rw [hU] at I
    rw [eU]
    exact I
  · rw [eU]
    exact fun s hs => by cases hs
end CVC
