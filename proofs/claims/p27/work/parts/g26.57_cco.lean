/-! THE CHECKER, 27: a call by its contract, all of it -/
def cq_bd1 (sp a : cq_A) (σ : List (Nat × cq_A)) : List (Nat × cq_A) := match sp with
  | (1, (_, [(s, _)]), _) => (match cq_sx s σ with
    | none => (s, a) :: σ
    | some _ => σ)
  | (2, (_, [(s, _)]), _) => (match cq_sx s σ with
    | none => (s, a) :: σ
    | some _ => σ)
  | (6, _, s) => (match cq_sx s σ with
    | none => (s, a) :: σ
    | some _ => σ)
  | _ => σ
def cq_bds : List cq_A → List cq_A → List (Nat × cq_A) → List (Nat × cq_A)
  | s :: ss, a :: as, σ => cq_bds ss as (cq_bd1 s a σ)
  | _, _, σ => σ
def cq_bdT (S : cq_S) : List (cq_C × cq_F × cq_A) → List (Nat × cq_A) → List (Nat × cq_A)
  | [], σ => σ
  | q :: r, σ => (match cq_tl q.1 q.2.1 S.T with
    | some a => cq_bdT S r (cq_bd1 q.2.2 a σ)
    | none => cq_bdT S r σ)
def cq_sas (σ : List (Nat × cq_A)) (n0 b : Nat) : List cq_A → Option (List cq_A)
  | [] => some []
  | a :: r => (match cq_sa σ n0 b a, cq_sas σ n0 b r with
    | some a', some r' => some (a' :: r')
    | _, _ => none)
theorem cq_sas_ok {ρ : Nat → Int} {σ : List (Nat × cq_A)} {n0 b : Nat} : ∀ {as bs : List cq_A} {vs : List Value}, cq_sas σ n0 b as = some bs → cq_gs (cq_rc1 σ n0 b ρ) as vs → cq_gs ρ bs vs
  | [], bs, vs, q, g => by
    rw [← Option.some.inj q]
    rw [cq_gs_nil g]
    trivial
  | a :: r, bs, vs, q, g => by
    unfold cq_sas at q
    split at q
    · rename_i a' r' ha hr
      rw [← Option.some.inj q]
      obtain ⟨v, rs, e, g1, g2⟩ := cq_gs_cons g
      subst e
      exact ⟨(cq_sa_ok ha).1 g1, cq_sas_ok hr g2⟩
    · cases q
/-- what a contract asks of heaps gets its symbols -/
def cq_bM (n0 : Nat) : List (cq_F × cq_F × cq_F) → cq_S → List (Nat × cq_A) → cq_S × List (Nat × cq_A)
  | [], S, σ => (S, σ)
  | e :: r, S, σ => (match cq_sf σ n0 0 e.1 with
    | none => cq_bM n0 r S σ
    | some f => (match cq_fm f e.2.1 S.M with
      | some g => cq_bM n0 r S (cq_bd1 (cq_i e.2.2) (cq_i g) σ)
      | none => bif cq_sm S.n f then cq_bM n0 r ((S.fb (-2147483648) 2147483647).aM (f, e.2.1, cq_s S.n)) (cq_bd1 (cq_i e.2.2) (cq_i (cq_s S.n)) σ) else cq_bM n0 r S σ))
theorem cq_bM_ok {m : cq_W} {h0 h : am_H} {n0 : Nat} : ∀ {l : List (cq_F × cq_F × cq_F)} {ρ : Nat → Int} {S : cq_S} {σ : List (Nat × cq_A)}, (∀ e ∈ l, cq_tg e.2.1 = true) → (∀ ρ', cq_ag S.n ρ' ρ → cq_Md m h0 ρ' S h) → S.n ≤ (cq_bM n0 l S σ).1.n ∧ (cq_bM n0 l S σ).1.U = S.U ∧ (cq_bM n0 l S σ).1.ac = S.ac ∧ ∃ ρ1, cq_ag S.n ρ1 ρ ∧ ∀ ρ', cq_ag (cq_bM n0 l S σ).1.n ρ' ρ1 → cq_Md m h0 ρ' (cq_bM n0 l S σ).1 h
  | [], ρ, S, σ, _, H => ⟨Nat.le_refl _, rfl, rfl, ρ, cq_ag.rf, H⟩
  | e :: r, ρ, S, σ, ht, H => by
    have htr : ∀ e ∈ r, cq_tg e.2.1 = true := fun x hx => ht x (List.mem_cons_of_mem _ hx)
    unfold cq_bM
    split
    · exact cq_bM_ok htr H
    · rename_i f hf
      split
      · exact cq_bM_ok htr H
      · cases hs : cq_sm S.n f with
        | false => exact cq_bM_ok htr H
        | true =>
          simp only [cond_true]
          obtain ⟨k0, ek0, hk0⟩ := cq_tg_ok (ht e List.mem_cons_self)
          obtain ⟨u1, u2⟩ := cq_U_rng h0 k0 (cq_e ρ f)
          have H2 : ∀ ρ', cq_ag ((S.fb (-2147483648) 2147483647).aM (f, e.2.1, cq_s S.n)).n ρ' (cq_up ρ S.n (cq_U h0 k0 (cq_e ρ f))) → cq_Md m h0 ρ' ((S.fb (-2147483648) 2147483647).aM (f, e.2.1, cq_s S.n)) h := fun ρ' a => by
            obtain ⟨D, ev⟩ := cq_fb_ok H u1 u2 ρ' a
            refine ⟨D.1, D.2.1, D.2.2.1, D.2.2.2.1, D.2.2.2.2.1, D.2.2.2.2.2.1, ?_, D.2.2.2.2.2.2.2⟩
            intro q hq
            rcases List.mem_cons.1 hq with z | z
            · subst z
              refine ⟨fun x y _ ey => ?_, fun k ek => ?_⟩
              · exfalso
                dsimp only at ey
                rw [ek0] at ey
                have e3 : cq_e ρ' (((1000000000000 : Int) + (k0 : Int), []) : cq_F) = 1000000000000 + (k0 : Int) := by simp [cq_e, cq_eT]
                rw [e3] at ey
                have := y.toInt_lt
                omega
              · dsimp only at ek ⊢
                have ekk : k = k0 := by
                  rw [ek0] at ek
                  have := (Prod.mk.inj ek).1
                  omega
                subst ekk
                rw [cq_s_e, ev, cq_sm_e hs (cq_up_a a)]
            · exact D.M q z
          obtain ⟨g1, g2, g3, ρ1, g4, g5⟩ := cq_bM_ok (σ := cq_bd1 (cq_i e.2.2) (cq_i (cq_s S.n)) σ) htr H2
          exact ⟨Nat.le_trans (Nat.le_succ _) g1, g2, g3, ρ1, (g4.lt (Nat.le_succ _)).tr cq_up_g, g5⟩
def cq_xS (mc : cq_W) (n0 : Nat) (S1 X : cq_S) (P : cq_P) (t : List (cq_C × cq_F × cq_A)) : cq_S := cq_mk (S1.n + (X.n - n0)) P (cq_shK n0 S1.n X.N ++ S1.N) (cq_shK n0 S1.n X.K ++ S1.K) S1.W (t ++ S1.T.filter (cq_tk mc S1)) (S1.L.filter fun q => cq_ol S1 q.1) S1.M none (S1.ac + X.ac) (S1.al + X.al)
def cq_xo (ck : Bool → List cq_A → cq_S → Bool) (mc : cq_W) (σ : List (Nat × cq_A)) (n0 z : Nat) (S1 : cq_S) (y pc : Nat) (ls rest : List cq_A) (fr : List cq_Fa) (db : Nat) (x : Bool × List cq_A × cq_S) : Option (List cq_Z) := match cq_shT σ n0 S1.n x.2.2.T with
  | none => none
  | some t => (match cq_shG σ n0 S1.n x.2.2.P.2 (cq_shB n0 S1.n x.2.2.P.1 ++ S1.P.1, S1.P.2) with
    | none => none
    | some none => some []
    | some (some P) => bif x.1 then (bif Nat.beq (am_in z).2.2.2 0 && Nat.blt 0 y then cq_tw ck (cq_xS mc n0 S1 x.2.2 P t) fr y pc ls db else none) else (match cq_sas σ n0 S1.n x.2.1 with
      | some r => some [(y, pc + 3, ls, r ++ rest, fr, db, cq_xS mc n0 S1 x.2.2 P t)]
      | none => none))
def cq_cat (f : Bool × List cq_A × cq_S → Option (List cq_Z)) : List (Bool × List cq_A × cq_S) → Option (List cq_Z)
  | [] => some []
  | x :: r => (match f x, cq_cat f r with
    | some a, some b => some (a ++ b)
    | _, _ => none)
def cq_c2 (ck : Bool → List cq_A → cq_S → Bool) (c : cq_Ct) (z : Nat) (σ : List (Nat × cq_A)) (S1 : cq_S) (as : List cq_A) (y pc : Nat) (ls rest : List cq_A) (fr : List cq_Fa) (db : Nat) : Option (List cq_Z) :=
  bif cq_mvs S1.P σ c.2.2.1.n c.2.1 as && cq_vP S1 σ c.2.2.1.n c.2.2.1 && c.2.2.1.N.all (cq_vN S1 σ) && c.2.2.1.K.all (cq_vK S1 σ) && c.2.2.1.T.all (cq_vT S1 σ c.2.2.1.n) && c.2.2.1.M.all (cq_vM S1 σ c.2.2.1.n) && (c.2.2.1.M.isEmpty || Nat.beq S1.ac 0) && σ.all (fun q => cq_sma S1.n q.2) then cq_cat (cq_xo ck c.2.2.2.1 σ c.2.2.1.n z S1 y pc ls rest fr db) c.2.2.2.2 else none
def cq_cc (m : cq_W) (ck : Bool → List cq_A → cq_S → Bool) (c : cq_Ct) (z : Nat) (Z : cq_Z) : Option (List cq_Z) := match Z with
  | (y, pc, ls, st, fr, db + 1, S) => bif Nat.blt 0 z && Nat.blt z 264 && !Nat.beq z 10 && !Nat.beq z 57 && Nat.ble (am_in z).2.1 st.length && cq_c8 (st.drop (am_in z).2.1) && cq_rcv z S (st.take (am_in z).2.1).reverse && cq_no0 (st.take (am_in z).2.1) && Nat.ble (cq_wid (st.take (am_in z).2.1).reverse).length (am_in z).2.2.1 && S.U.isNone && Nat.ble c.1 db && cq_sub1 c.2.2.2.1 m then (match cq_pl c.2.2.1.T S with
      | some S0 => cq_c2 ck c z (cq_bM c.2.2.1.n c.2.2.1.M S0 (cq_bdT S0 c.2.2.1.T (cq_bds c.2.1 (st.take (am_in z).2.1).reverse []))).2 (cq_bM c.2.2.1.n c.2.2.1.M S0 (cq_bdT S0 c.2.2.1.T (cq_bds c.2.1 (st.take (am_in z).2.1).reverse []))).1 (st.take (am_in z).2.1).reverse y pc ls (st.drop (am_in z).2.1) fr (db + 1)
      | none => none) else none
  | _ => none
theorem cq_rdp_U {S : cq_S} {c : cq_C} {k : cq_Kd} {j : cq_F} {q : cq_A × cq_S} (e : cq_rdp S c k j = some q) (hU : S.U = none) : q.2.U = none := by
  have fctU : ∀ {S1 S2 : cq_S} {g : cq_F}, cq_fct S1 g = some S2 → S2.U = S1.U := fun {S1 S2 g} hf => by
    unfold cq_fct at hf
    split at hf
    · rw [← Option.some.inj hf]; rfl
    · cases hf
  have cnU : ∀ {S1 : cq_S} {c i : Nat} {f : cq_F}, cq_cn S c i = some (f, S1) → S1.U = S.U := fun {S1 c i f} hf => by
    unfold cq_cn at hf
    split at hf
    · cases Option.some.inj hf; rfl
    · cases hf
    · split at hf
      · cases Option.some.inj hf; rfl
      · cases hf
  have vtU : ∀ {t : cq_T} {j : cq_F} {q : cq_A × cq_S}, cq_vt S t j = some q → q.2.U = S.U := fun {t j q} hv => by
    unfold cq_vt at hv
    split at hv
    · rw [← Option.some.inj hv]; rfl
    · rw [← Option.some.inj hv]; rfl
    · rw [← Option.some.inj hv]
    · rw [← Option.some.inj hv]; rfl
    · rw [← Option.some.inj hv]; rfl
    · rw [← Option.some.inj hv]; rfl
    · split at hv
      · rename_i f S1 h1
        split at hv
        · rename_i S2 h2
          rw [← Option.some.inj hv]
          have z1 := fctU h2
          have z2 := cnU h1
          exact Eq.trans z1 z2
        · cases hv
      · cases hv
    · split at hv
      · rename_i f S1 h1
        rw [cond_eq_ite] at hv
        split at hv
        · split at hv
          · rename_i S2 h2
            rw [← Option.some.inj hv]
            have z1 := fctU h2
            have z2 := cnU h1
            exact Eq.trans z1 z2
          · cases hv
        · rw [← Option.some.inj hv]
          have z1 := cnU h1
          exact z1
      · cases hv
    · split at hv
      · rename_i S2 h2
        rw [← Option.some.inj hv]
        have z1 := fctU h2
        exact z1
      · cases hv
    · split at hv
      · rename_i f S1 h1
        rw [cond_eq_ite] at hv
        split at hv
        · rw [← Option.some.inj hv]
          have z1 := cnU h1
          exact z1
        · rw [← Option.some.inj hv]
          have z1 := cnU h1
          exact z1
      · cases hv
    · cases hv
  unfold cq_rdp at e
  split at e
  · rw [← Option.some.inj e]; exact hU
  · rw [cond_eq_ite] at e
    split at e
    · cases e
    · rw [cond_eq_ite] at e
      split at e
      · rw [cond_eq_ite] at e
        split at e
        · rw [← Option.some.inj e]; exact hU
        · rw [← Option.some.inj e]; exact hU
      · rw [cond_eq_ite] at e
        split at e
        · cases e
        · split at e
          · rename_i q2 hq
            rw [← Option.some.inj e]
            exact (vtU hq).trans hU
          · cases e
theorem cq_pl_U : ∀ {l : List (cq_C × cq_F × cq_A)} {S S' : cq_S}, cq_pl l S = some S' → S.U = none → S'.U = none
  | [], S, S', q, hU => by rw [← Option.some.inj q]; exact hU
  | x :: r, S, S', q, hU => by
    unfold cq_pl at q
    rw [cond_eq_ite] at q
    split at q
    · exact cq_pl_U q hU
    · split at q
      · rw [cond_eq_ite] at q
        split at q
        · split at q
          · rename_i a S1 hr
            exact cq_pl_U q (cq_rdp_U hr hU)
          · cases q
        · cases q
      · cases q
section CWC
variable {m mc : cq_W} {h0 h h' : am_H} {ρ ρ0 : Nat → Int} {n0 : Nat} {S : cq_S} {Fin : Option Value × am_H → Prop} {ck : Bool → List cq_A → cq_S → Bool} {out : List cq_Z} {ls st : List Value} {fs : List cq_Fm} {d : Nat} {σ : List (Nat × cq_A)}
theorem cq_cat_mem {f : Bool × List cq_A × cq_S → Option (List cq_Z)} : ∀ {l : List (Bool × List cq_A × cq_S)} {out : List cq_Z}, cq_cat f l = some out → ∀ x ∈ l, ∃ o, f x = some o ∧ ∀ Z ∈ o, Z ∈ out
  | [], _, _, x, hx => by cases hx
  | y :: r, out, q, x, hx => by
    unfold cq_cat at q
    split at q
    · rename_i a b ha hb
      rw [← Option.some.inj q]
      rcases List.mem_cons.1 hx with z | z
      · subst z
        exact ⟨a, ha, fun Z hZ => List.mem_append_left _ hZ⟩
      · obtain ⟨o, h1, h2⟩ := cq_cat_mem hb x z
        exact ⟨o, h1, fun Z hZ => List.mem_append_right _ (h2 Z hZ)⟩
    · cases q
theorem cq_vi_ag {n : Nat} {a : cq_A} {ρ' : Nat → Int} (q : cq_sma n a = true) (g : cq_ag n ρ' ρ) : cq_vi ρ' a = cq_vi ρ a := by
  have q := (Bool.and_eq_true _ _ ▸ q)
  have e := cq_sm_e q.1 g
  obtain ⟨t, f, k⟩ := a
  dsimp only at e
  rcases t with _ | _ | _ | _ | _ | _ | _ | t
  · rfl
  · exact e
  · exact e
  · rfl
  · rfl
  · rfl
  · have hk : k < n := by
      rcases Bool.or_eq_true _ _ ▸ q.2 with z | z
      · cases z
      · exact Nat.le_of_ble_eq_true z
    exact g k hk
  · rfl
theorem cq_sx_mem {i : Nat} {a : cq_A} : ∀ {σ : List (Nat × cq_A)}, cq_sx i σ = some a → ∃ q ∈ σ, q.2 = a
  | [], h => by cases h
  | q :: r, h => by
    unfold cq_sx at h
    cases hb : Nat.beq q.1 i with
    | true =>
      rw [hb] at h
      exact ⟨q, List.mem_cons_self, Option.some.inj h⟩
    | false =>
      rw [hb] at h
      obtain ⟨x, h1, h2⟩ := cq_sx_mem h
      exact ⟨x, List.mem_cons_of_mem _ h1, h2⟩
theorem cq_shB_ok {b : Nat} {B : cq_B} (hB : cq_bOk (cq_rc1 σ n0 b ρ) B) : cq_bOk ρ (cq_shB n0 b B) := fun x hx => by
  obtain ⟨q, hq, e⟩ := List.mem_map.1 hx
  obtain ⟨h1, h2⟩ := List.mem_filter.1 hq
  subst e
  have := hB q h1
  have le := Nat.le_of_ble_eq_true h2
  have ev : cq_rc1 σ n0 b ρ q.1 = ρ (b + (q.1 - n0)) := by
    unfold cq_rc1
    rw [if_neg (by omega)]
  rw [ev] at this
  exact this
/-- the caller's store behind an exit -/
theorem cq_xS_ok {S1 X : cq_S} {P : cq_P} {t : List (cq_C × cq_F × cq_A)} (D : cq_Md m h0 ρ S1 h) (hU : S1.U = none) (wfX : cq_wf X = true) (hs : ∀ w ∈ mc, w ∈ m) (wm : mc.all (fun w => w.1 || Nat.blt w.2.1 130) = true) (X1 : cq_Md mc h (cq_rc1 σ n0 S1.n ρ) X h') (ht : cq_shT σ n0 S1.n X.T = some t) (hP : cq_pOk ρ P) : cq_Md m h0 ρ (cq_xS mc n0 S1 X P t) h' := by
  have G := X1.F
  have rv : ∀ s, n0 ≤ s → cq_rc1 σ n0 S1.n ρ s = ρ (S1.n + (s - n0)) := fun s hs => by
    unfold cq_rc1
    rw [if_neg (by omega)]
  have q1 := (Bool.and_eq_true _ _ ▸ wfX)
  have eU : X.U = none := Option.isNone_iff_eq_none.1 q1.2
  refine ⟨hP, fun e he => ?_, fun e he hp => ?_, fun s hs' => ?_, fun e he => ?_, fun e he => ?_, D.M, ?_, cq_Fr_tr D.F G hs, ?_, fun q hq => by cases hq⟩
  · rcases List.mem_append.1 he with z | z
    · obtain ⟨q, hq, ee⟩ := List.mem_map.1 z
      obtain ⟨h1, h2⟩ := List.mem_filter.1 hq
      subst ee
      have := X1.N q h1
      rw [rv q.1 (Nat.le_of_ble_eq_true h2)] at this
      exact this
    · exact D.N e z
  · rcases List.mem_append.1 he with z | z
    · obtain ⟨q, hq, ee⟩ := List.mem_map.1 z
      obtain ⟨h1, h2⟩ := List.mem_filter.1 hq
      subst ee
      have ev := rv q.1 (Nat.le_of_ble_eq_true h2)
      have := X1.K q h1 (by rw [ev]; exact hp)
      rw [ev] at this
      exact this
    · exact cq_kOk_tr G (D.K e z hp)
  · obtain ⟨w1, w2, w3⟩ := D.W s hs'
    refine ⟨Nat.lt_of_lt_of_le w1 (Nat.le_add_right _ _), w2, fun e he hlt => ?_⟩
    rcases List.mem_append.1 he with z | z
    · obtain ⟨q, hq, ee⟩ := List.mem_map.1 z
      subst ee
      dsimp only at hlt
      omega
    · exact w3 e z hlt
  · rcases List.mem_append.1 he with z | z
    · exact cq_shT_ok ht X1.T e z
    · obtain ⟨h1, h2⟩ := List.mem_filter.1 z
      rw [cq_tk_ok D G wm h2]
      exact D.T e h1
  · obtain ⟨h1, h2⟩ := List.mem_filter.1 he
    rw [cq_len_tr G (cq_ol_ok D h2)]
    exact D.L e h1
  · have I := X1.I
    rw [eU] at I
    exact I
  · have a1 := D.A
    have a2 := X1.A
    exact ⟨by show h'.1 ≤ h0.1 + (S1.ac + X.ac); omega, by show h'.2.1 ≤ h0.2.1 + (S1.al + X.al); omega⟩
theorem cq_cc_ok {e : am_E} {Z : cq_Z} {c : cq_Ct} (HE : cq_HE m h0 ρ0 n0 ck Fin) (a0 : cq_ag n0 ρ ρ0) (hn0 : n0 ≤ Z.2.2.2.2.2.2.n) (wf : cq_wfC c = true) (CT : cq_CT e.2.2.2.1 c) (UT : c.2.2.1.M = [] ∨ cq_UT m h0) (hc : am_at Z.1 Z.2.1 e) (hi : am_isC e.1) (q : cq_cc m ck c e.2.2.2.1 Z = some out) (H : cq_Rz m h0 ρ Z ls st h fs) (hd : Z.2.2.2.2.2.1 ≤ d) (K : cq_Kn m h0 ρ Z.2.2.2.2.2.2.n Fin out) : cq_Go Fin d Z.1 Z.2.1 ls st h fs := by
  obtain ⟨y, pc, als, ast, fr, db, S⟩ := Z
  unfold cq_cc at q
  split at q
  · rename_i y0 pc0 ls0 st0 fr0 db0 S0 heq
    cases heq
    rw [cond_eq_ite] at q
    split at q
    · rename_i hb
      have t1 := (Bool.and_eq_true _ _ ▸ hb)
      have t2 := (Bool.and_eq_true _ _ ▸ t1.1)
      have t3 := (Bool.and_eq_true _ _ ▸ t2.1)
      have b1 := (Bool.and_eq_true _ _ ▸ t3.1)
      have b2 := (Bool.and_eq_true _ _ ▸ b1.1)
      have b3 := (Bool.and_eq_true _ _ ▸ b2.1)
      have b4 := (Bool.and_eq_true _ _ ▸ b3.1)
      have b5 := (Bool.and_eq_true _ _ ▸ b4.1)
      have b6 := (Bool.and_eq_true _ _ ▸ b5.1)
      have b7 := (Bool.and_eq_true _ _ ▸ b6.1)
      have b8 := (Bool.and_eq_true _ _ ▸ b7.1)
      split at q
      · rename_i S00 hpl
        cases d with
        | zero => exact absurd hd (Nat.not_succ_le_zero _)
        | succ d =>
          have hd1 : db0 ≤ d := Nat.le_of_succ_le_succ hd
          dsimp only at hn0 K
          have w1 := (Bool.and_eq_true _ _ ▸ wf)
          have w0 := (Bool.and_eq_true _ _ ▸ w1.1)
          have w2 := (Bool.and_eq_true _ _ ▸ w0.1)
          have wM : ∀ e ∈ c.2.2.1.M, cq_tg e.2.1 = true := fun e he => by
            have x1 := (Bool.and_eq_true _ _ ▸ w2.1)
            have x2 := (Bool.and_eq_true _ _ ▸ x1.1)
            have z := List.all_eq_true.1 x2.2 e he
            have z1 := (Bool.and_eq_true _ _ ▸ z)
            exact (Bool.and_eq_true _ _ ▸ z1.1).2
          obtain ⟨hn00, ρ00, a00, k00⟩ := cq_pl_ok hpl fun ρ' a => (H ρ' a).1
          obtain ⟨bM1, bM2, bM3, ρ01, a01, k01⟩ := cq_bM_ok (n0 := c.2.2.1.n) (σ := cq_bdT S00 c.2.2.1.T (cq_bds c.2.1 (ast.take (am_in e.2.2.2.1).2.1).reverse [])) wM k00
          generalize hσ : cq_bM c.2.2.1.n c.2.2.1.M S00 (cq_bdT S00 c.2.2.1.T (cq_bds c.2.1 (ast.take (am_in e.2.2.2.1).2.1).reverse [])) = bM at q bM1 bM2 bM3 k01
          obtain ⟨S1, σ⟩ := bM
          dsimp only at q bM1 bM2 bM3 k01
          unfold cq_c2 at q
          rw [cond_eq_ite] at q
          split at q
          · rename_i hv
            have v1 := (Bool.and_eq_true _ _ ▸ hv)
            have v2 := (Bool.and_eq_true _ _ ▸ v1.1)
            have v3 := (Bool.and_eq_true _ _ ▸ v2.1)
            have v4 := (Bool.and_eq_true _ _ ▸ v3.1)
            have v5 := (Bool.and_eq_true _ _ ▸ v4.1)
            have v6 := (Bool.and_eq_true _ _ ▸ v5.1)
            have v7 := (Bool.and_eq_true _ _ ▸ v6.1)
            have hn : S.n ≤ S1.n := Nat.le_trans hn00 bM1
            have a1 : cq_ag S.n ρ01 ρ := (a01.lt hn00).tr a00
            have k1 := k01
            have D1 := k1 ρ01 cq_ag.rf
            generalize ρ01 = ρ1 at a1 k1 D1
            have gst := (H ρ1 a1).2.2.1
            have gt := cq_gs_take (am_in e.2.2.2.1).2.1 gst
            have hlen := Nat.le_of_ble_eq_true b5.2
            have elen : ast.length = st.length := cq_gs_len gst
            have hU : S.U = none := Option.isNone_iff_eq_none.1 t3.2
            have g10 : e.2.2.2.1 ≠ 10 := fun z => by
              have := b7.2
              rw [z] at this
              cases this
            have g57 : e.2.2.2.1 ≠ 57 := fun z => by
              have := b6.2
              rw [z] at this
              cases this
            have hU1 : S1.U = none := bM2.trans (cq_pl_U hpl hU)
            have hMM : c.2.2.1.M = [] ∨ ∀ k x, cq_okT k = true → cq_U h k x = cq_U h0 k x := by
              rcases UT with z | UT
              · exact Or.inl z
              · rcases Bool.or_eq_true _ _ ▸ v2.2 with z | z
                · exact Or.inl (List.isEmpty_iff.1 z)
                · have I := D1.I
                  rw [hU1] at I
                  have A := D1.A.1
                  rw [am_beq z] at A
                  have F := D1.F.nx
                  exact Or.inr fun k x hk => UT h D1.F I (by omega) k x hk
            have pre := cq_pre_ok (mc := c.2.2.2.1) w2.1 rfl D1 hU1 v7.2 v6.2 v5.2 v4.2 v3.2 hMM
            have gas := cq_mvs_ok v7.1 D1.P (cq_gs_rev gt.1)
            obtain ⟨r, h', ev, x, hx, ρc, ac, Mx, hr⟩ := CT d h (cq_rc1 σ c.2.2.1.n 0 ρ1) (st.take (am_in e.2.2.2.1).2.1).reverse (Nat.le_trans (Nat.le_of_ble_eq_true t2.2) hd1) pre gas
            obtain ⟨o, ho, hout⟩ := cq_cat_mem q x hx
            have wx := List.all_eq_true.1 w2.2 x hx
            have wx1 := (Bool.and_eq_true _ _ ▸ wx)
            have wx2 := (Bool.and_eq_true _ _ ▸ wx1.1)
            have nle := Nat.le_of_ble_eq_true wx1.2
            unfold cq_xo at ho
            split at ho
            · cases ho
            · rename_i t hT
              let ρ2 : Nat → Int := fun s => if s < S1.n then ρ1 s else ρc (c.2.2.1.n + (s - S1.n))
              have a2 : cq_ag S1.n ρ2 ρ1 := fun s hs => if_pos hs
              have key : ∀ ρ', cq_ag (S1.n + (x.2.2.n - c.2.2.1.n)) ρ' ρ2 → cq_ag x.2.2.n (cq_rc1 σ c.2.2.1.n S1.n ρ') ρc := fun ρ' a s hs => by
                by_cases hlt : s < c.2.2.1.n
                · rw [ac s hlt]
                  unfold cq_rc1
                  rw [if_pos hlt, if_pos hlt]
                  cases hxx : cq_sx s σ with
                  | none => rfl
                  | some aa =>
                    dsimp only
                    obtain ⟨qq, hqq, eqq⟩ := cq_sx_mem hxx
                    have sm := List.all_eq_true.1 v1.2 qq hqq
                    rw [eqq] at sm
                    exact cq_vi_ag sm ((a.lt (Nat.le_add_right _ _)).tr a2)
                · unfold cq_rc1
                  rw [if_neg hlt, a _ (by omega)]
                  show (if S1.n + (s - c.2.2.1.n) < S1.n then _ else ρc (c.2.2.1.n + (S1.n + (s - c.2.2.1.n) - S1.n))) = _
                  rw [if_neg (by omega)]
                  congr 1
                  omega
              have MX : ∀ ρ', cq_ag (S1.n + (x.2.2.n - c.2.2.1.n)) ρ' ρ2 → cq_Md c.2.2.2.1 h (cq_rc1 σ c.2.2.1.n S1.n ρ') x.2.2 h' := fun ρ' a => cq_wf_ag wx2.1 (key ρ' a) Mx
              have MD : ∀ ρ', cq_ag (S1.n + (x.2.2.n - c.2.2.1.n)) ρ' ρ2 → cq_Md m h0 ρ' S1 h := fun ρ' a => k1 ρ' ((a.lt (Nat.le_add_right _ _)).tr a2)
              have MG : ∀ ρ', cq_ag (S1.n + (x.2.2.n - c.2.2.1.n)) ρ' ρ2 → ∀ oo, cq_shG σ c.2.2.1.n S1.n x.2.2.P.2 (cq_shB c.2.2.1.n S1.n x.2.2.P.1 ++ S1.P.1, S1.P.2) = some oo → ∃ P', oo = some P' ∧ cq_pOk ρ' P' := fun ρ' a oo hoo => by
                refine cq_shG_ok hoo ⟨fun b hb => ?_, (MD ρ' a).P.2⟩ (MX ρ' a).P.2
                rcases List.mem_append.1 hb with z | z
                · exact cq_shB_ok (MX ρ' a).P.1 b z
                · exact (MD ρ' a).P.1 b z
              have aS : cq_ag S.n ρ2 ρ := (a2.lt hn).tr a1
              have nS : ∀ {P : cq_P} {tt : List (cq_C × cq_F × cq_A)}, S.n ≤ (cq_xS c.2.2.2.1 c.2.2.1.n S1 x.2.2 P tt).n := Nat.le_trans hn (Nat.le_add_right _ _)
              split at ho
              · cases ho
              · rename_i hG
                obtain ⟨P', e1, -⟩ := MG ρ2 cq_ag.rf _ hG
                cases e1
              · rename_i P hG
                have MS : ∀ ρ', cq_ag (S1.n + (x.2.2.n - c.2.2.1.n)) ρ' ρ2 → cq_Md m h0 ρ' (cq_xS c.2.2.2.1 c.2.2.1.n S1 x.2.2 P t) h' := fun ρ' a => by
                  obtain ⟨P', e1, hP'⟩ := MG ρ' a _ hG
                  have e1 := Option.some.inj e1
                  subst e1
                  exact cq_xS_ok (MD ρ' a) hU1 wx2.1 (cq_sub1_ok t1.2) w1.2 (MX ρ' a) hT hP'
                have nz : 0 < e.2.2.2.1 ∧ e.2.2.2.1 < 264 ∧ e.2.2.2.1 ≠ 10 ∧ e.2.2.2.1 ≠ 57 := ⟨Nat.le_of_ble_eq_true b8.1, Nat.le_of_ble_eq_true b8.2, g10, g57⟩
                have hst : st = (st.take (am_in e.2.2.2.1).2.1).reverse.reverse ++ st.drop (am_in e.2.2.2.1).2.1 := by rw [List.reverse_reverse, List.take_append_drop]
                have hl2 : (st.take (am_in e.2.2.2.1).2.1).reverse.length = (am_in e.2.2.2.1).2.1 := by
                  rw [List.length_reverse, List.length_take]
                  omega
                have hcs := cq_c8_ok gt.2 b4.2
                have hrc := cq_rcv_ok b3.2 (H ρ1 a1).1 (cq_gs_rev gt.1)
                have hwd : (am_wid (st.take (am_in e.2.2.2.1).2.1).reverse).length ≤ (am_in e.2.2.2.1).2.2.1 := by
                  rw [← (cq_gs_ent (mx := 0) (cq_no0_rev b2.2) (cq_gs_rev gt.1)).2]
                  exact Nat.le_of_ble_eq_true b1.2
                rcases hr with ⟨x0, hT0, gr⟩ | ⟨x0, er⟩
                · rw [x0] at ho
                  simp only [cond_false] at ho
                  split at ho
                  · rename_i rr hrr
                    have ho := Option.some.inj ho
                    subst ho
                    obtain ⟨xx, g1, g2⟩ := K.one (hout _ List.mem_cons_self) (ls := ls) (st := r.toList ++ st.drop (am_in e.2.2.2.1).2.1) (h := h') (fs := fs) (d := d + 1) aS nS (fun ρ' a => by
                      have a3 : cq_ag S.n ρ' ρ := (a.lt nS).tr aS
                      have gt' := cq_gs_take (am_in e.2.2.2.1).2.1 (H ρ' a3).2.2.1
                      exact ⟨MS ρ' a, (H ρ' a3).2.1, cq_gs_app (cq_sas_ok hrr (cq_smas_g wx2.2 (key ρ' a) gr)) gt'.2, (H ρ' a3).2.2.2⟩) hd
                    exact ⟨xx, am_ev.call hc hi nz hst hl2 hcs hrc hwd ev hT0 g1, g2⟩
                  · cases ho
                · rw [x0] at ho
                  simp only [cond_true] at ho
                  rw [cond_eq_ite] at ho
                  split at ho
                  · rename_i hk
                    have hk := (Bool.and_eq_true _ _ ▸ hk)
                    subst er
                    have T := cq_tw_ok (S := cq_xS c.2.2.2.1 c.2.2.1.n S1 x.2.2 P t) (h := h') HE ((aS.lt hn0).tr a0) (Nat.le_trans hn0 nS) fr y pc als (db0 + 1) ls fs (d + 1) ho (fun ρ' a => by
                      have a3 : cq_ag S.n ρ' ρ := (a.lt nS).tr aS
                      exact ⟨MS ρ' a, (H ρ' a3).2.1, (H ρ' a3).2.2.2⟩) hd (fun Z' hZ' ρ3 ls3 st3 h3 fs3 d3 a3 n3 R3 d4 => K Z' (hout Z' hZ') ρ3 ls3 st3 h3 fs3 d3 ((a3.lt nS).tr aS) (Nat.le_trans nS n3) R3 d4)
                    have MS2 := MS ρ2 cq_ag.rf
                    have hO : am_isO h' 79 12 = true := by
                      have ef := MS2.I.fx 79 (by decide) (by decide)
                      unfold am_isO
                      rw [ef, show Nat.blt 79 h'.1 = true from Nat.ble_eq_true_of_le (by have := MS2.I.lo; omega)]
                      decide +kernel
                    have k0 := am_beq hk.1
                    have y0 : 0 < y := Nat.le_of_ble_eq_true hk.2
                    unfold cq_Th at T
                    cases hh : am_ctc (am_hh y) pc with
                    | some hp =>
                      rw [hh] at T
                      obtain ⟨xx, g1, g2⟩ := T
                      exact ⟨xx, am_ev.callC hc hi nz hst hl2 hcs hrc hwd ev k0 y0 hO hh g1, g2⟩
                    | none =>
                      rw [hh] at T
                      exact ⟨_, am_ev.callT hc hi nz hst hl2 hcs hrc hwd ev k0 y0 hO hh, T⟩
                  · cases ho
          · cases q
      · cases q
    · cases q
  · cases q
end CWC
