/-! THE CHECKER, 29: loops are sound -/
/-- what holds at a loop's head -/
def cq_Lc (m : cq_W) (h0 : am_H) (R : cq_Rc) (ρ : Nat → Int) (h : am_H) (ls st : List Value) : Prop := match R with
  | (_, n, _, ls0, st0, S0, arr, ext, lp) => cq_bOk ρ (cq_hB n lp.1) ∧ (∀ g ∈ lp.2.2.2.1, 0 ≤ cq_e (cq_rc1 (cq_cod 0 (cq_hv n lp.1) arr ext) 10000 0 ρ) g) ∧ (∀ e ∈ S0.T, cq_g ρ e.2.2 (h.2.2.2 (cq_ce ρ e.1) (cq_e ρ e.2.1).toNat)) ∧ (∀ e ∈ S0.L, cq_e ρ e.2 = cq_len h (cq_ce ρ e.1)) ∧ (∀ e ∈ S0.K, 0 ≤ ρ e.1 → cq_kOk h (ρ e.1).toNat e.2) ∧ cq_Inv none h ∧ cq_Fr m h0 h ∧ (h.1 ≤ h0.1 + S0.ac ∧ h.2.1 ≤ h0.2.1 + S0.al) ∧ cq_gs ρ ls0 ls ∧ cq_gs ρ st0 st
/-- the valuation at the head: the variables have their values of now -/
def cq_r2 (n : Nat) (cur : List cq_A) (ρ : Nat → Int) (s : Nat) : Int := if s < n then ρ s else (match cur[s - n]? with
  | some a => cq_vi ρ a
  | none => 0)
section CXA
variable {m : cq_W} {h0 : am_H} {ρ ρ' : Nat → Int} {S : cq_S} {h : am_H} {n : Nat} {cur : List cq_A}
theorem cq_r2_ag : cq_ag n (cq_r2 n cur ρ) ρ := fun s hs => if_pos hs
theorem cq_lq1_ok {a b : cq_A} {v : Value} (q : cq_lq1 n cur a b = true) (g : cq_g ρ b v) : cq_g (cq_r2 n cur ρ) a v := by
  unfold cq_lq1 at q
  rcases Bool.or_eq_true _ _ ▸ q with z | z
  · rw [cq_tag z]
    trivial
  · rw [cond_eq_ite] at z
    split at z
    · rename_i hs
      have e := cq_aq_ok z
      subst e
      exact cq_sma_g hs cq_r2_ag g
    · split at z
      · rename_i s k hl
        have z1 := (Bool.and_eq_true _ _ ▸ z)
        have z2 := (Bool.and_eq_true _ _ ▸ z1.1)
        have hns := Nat.le_of_ble_eq_true z2.1
        have ea := cq_aq_ok z2.2
        have y := z1.2
        split at y
        · rename_i c hc
          have y1 := (Bool.and_eq_true _ _ ▸ y)
          have y2 := (Bool.and_eq_true _ _ ▸ y1.1)
          have ec := cq_aq_ok y2.1
          subst ec
          have et := am_beq y2.2
          have ev : cq_r2 n cur ρ s = cq_vi ρ c := by
            unfold cq_r2
            rw [if_neg (by omega), hc]
          rw [ea]
          rcases Bool.or_eq_true _ _ ▸ y1.2 with w | w
          · have a1 := am_beq w
            rw [a1]
            rw [a1] at et
            rw [cq_tag (show Nat.beq c.1 1 = true by rw [et]; rfl)] at g ev
            obtain ⟨x, ex, hx⟩ := g
            refine ⟨x, ex, ?_⟩
            rw [cq_s_e, ev]
            exact hx
          · have a1 := am_beq w
            rw [a1]
            rw [a1] at et
            rw [cq_tag (show Nat.beq c.1 2 = true by rw [et]; rfl)] at g ev
            obtain ⟨x, ex, hx⟩ := g
            refine ⟨x, ex, ?_⟩
            rw [cq_s_e, ev]
            exact hx
        · cases y
      · cases z
theorem cq_lq_ok : ∀ {as bs : List cq_A} {vs : List Value}, cq_lq n cur as bs = true → cq_gs ρ bs vs → cq_gs (cq_r2 n cur ρ) as vs
  | [], [], [], _, _ => trivial
  | [], [], _ :: _, _, g => g.elim
  | [], _ :: _, _, q, _ => by cases q
  | _ :: _, [], _, q, _ => by cases q
  | _ :: _, _ :: _, [], _, g => g.elim
  | a :: as, b :: bs, v :: vs, q, g => by
    have q := (Bool.and_eq_true _ _ ▸ (show (cq_lq1 n cur a b && cq_lq n cur as bs) = true from q))
    exact ⟨cq_lq1_ok q.1 g.1, cq_lq_ok q.2 g.2⟩
def cq_vx (ρ : Nat → Int) (s : Nat) (σ : List (Nat × cq_A)) : Int := match cq_sx s σ with
  | some a => cq_vi ρ a
  | none => 0
theorem cq_vx_cons {s : Nat} {q : Nat × cq_A} {σ : List (Nat × cq_A)} : cq_vx ρ s (q :: σ) = bif Nat.beq q.1 s then cq_vi ρ q.2 else cq_vx ρ s σ := by
  unfold cq_vx
  show (match (bif Nat.beq q.1 s then some q.2 else cq_sx s σ) with
    | some a => cq_vi ρ a
    | none => 0) = _
  cases Nat.beq q.1 s <;> rfl
/-- two lists of values, pairwise alike -/
def cq_pw (ρ ρ' : Nat → Int) : List cq_A → List cq_A → Prop
  | [], [] => True
  | a :: as, b :: bs => cq_vi ρ a = cq_vi ρ' b ∧ cq_pw ρ ρ' as bs
  | _, _ => False
theorem cq_codE_pw {s : Nat} : ∀ (ex : List cq_A) (k : Nat), (∀ b ∈ ex, cq_vi ρ b = cq_vi ρ' b) → cq_vx ρ s (cq_codE k ex) = cq_vx ρ' s (cq_codE k ex)
  | [], _, _ => rfl
  | x :: ex, k, he => by
    show cq_vx ρ s ((2 * k, x) :: cq_codE (k + 1) ex) = cq_vx ρ' s ((2 * k, x) :: cq_codE (k + 1) ex)
    rw [cq_vx_cons, cq_vx_cons, he x List.mem_cons_self, cq_codE_pw ex (k + 1) fun b h => he b (List.mem_cons_of_mem _ h)]
theorem cq_cod_pw {s : Nat} : ∀ (as as' bs ex : List cq_A) (k : Nat), cq_pw ρ ρ' as as' → (∀ b ∈ bs, cq_vi ρ b = cq_vi ρ' b) → (∀ b ∈ ex, cq_vi ρ b = cq_vi ρ' b) → cq_vx ρ s (cq_cod k as bs ex) = cq_vx ρ' s (cq_cod k as' bs ex)
  | [], [], bs, ex, k, _, _, he => cq_codE_pw ex k he
  | [], _ :: _, _, _, _, p, _, _ => p.elim
  | _ :: _, [], _, _, _, p, _, _ => p.elim
  | a :: as, a' :: as', [], ex, k, p, hb, he => cq_codE_pw ex k he
  | a :: as, a' :: as', b :: bs, ex, k, p, hb, he => by
    show cq_vx ρ s ((2 * k, a) :: (2 * k + 1, b) :: cq_cod (k + 1) as bs ex) = cq_vx ρ' s ((2 * k, a') :: (2 * k + 1, b) :: cq_cod (k + 1) as' bs ex)
    rw [cq_vx_cons, cq_vx_cons, cq_vx_cons, cq_vx_cons, p.1, hb b List.mem_cons_self, cq_cod_pw as as' bs ex (k + 1) p.2 (fun b h => hb b (List.mem_cons_of_mem _ h)) he]
theorem cq_rc1_vx {σ : List (Nat × cq_A)} {s : Nat} (hs : s < 10000) : cq_rc1 σ 10000 0 ρ s = cq_vx ρ s σ := by
  unfold cq_rc1 cq_vx
  rw [if_pos hs]
  cases cq_sx s σ <;> rfl
theorem cq_hv_pw : ∀ (vs : List cq_Vr) (cur : List cq_A) (k : Nat) (r2 : Nat → Int), vs.length = cur.length → (∀ i a, cur[i]? = some a → r2 (k + i) = cq_vi ρ a) → cq_pw r2 ρ (cq_hv k vs) cur
  | [], [], _, _, _, _ => trivial
  | [], _ :: _, _, _, h, _ => by cases h
  | _ :: _, [], _, _, h, _ => by cases h
  | v :: vs, c :: cs, k, r2, h, H => by
    unfold cq_hv
    refine ⟨?_, cq_hv_pw vs cs (k + 1) r2 (by simpa using h) fun i a e => ?_⟩
    · have := H 0 c rfl
      rw [Nat.add_zero] at this
      cases Nat.beq v.1 2 with
      | true => show cq_e r2 (cq_s k) = _; rw [cq_s_e]; exact this
      | false => show cq_e r2 (cq_s k) = _; rw [cq_s_e]; exact this
    · have := H (i + 1) a (by rw [List.getElem?_cons_succ]; exact e)
      rw [show k + 1 + i = k + (i + 1) by omega]
      exact this
theorem cq_bv_len {P : cq_P} : ∀ {vs : List cq_Vr} {as : List cq_A}, cq_bv P vs as = true → vs.length = as.length
  | [], [], _ => rfl
  | [], _ :: _, q => by cases q
  | _ :: _, [], q => by cases q
  | v :: vs, a :: as, q => by
    have q := (Bool.and_eq_true _ _ ▸ (show ((Nat.beq v.1 2 && Nat.beq a.1 2 || Nat.beq a.1 1 && !Nat.beq v.1 2 && cq_inE P a.2.1 v.2.2.2.1 v.2.2.2.2) && cq_bv P vs as) = true from q))
    rw [List.length_cons, List.length_cons, cq_bv_len q.2]
theorem cq_bv_ok {P : cq_P} (hP : cq_pOk ρ P) : ∀ (vs : List cq_Vr) (cur : List cq_A) (k : Nat) (r2 : Nat → Int), cq_bv P vs cur = true → (∀ i a, cur[i]? = some a → r2 (k + i) = cq_vi ρ a) → cq_bOk r2 (cq_hB k vs)
  | [], _, _, _, _, _ => fun b hb => by cases hb
  | _ :: _, [], _, _, q, _ => by cases q
  | v :: vs, c :: cs, k, r2, q, H => by
    have q := (Bool.and_eq_true _ _ ▸ (show ((Nat.beq v.1 2 && Nat.beq c.1 2 || Nat.beq c.1 1 && !Nat.beq v.1 2 && cq_inE P c.2.1 v.2.2.2.1 v.2.2.2.2) && cq_bv P vs cs) = true from q))
    have ih := cq_bv_ok hP vs cs (k + 1) r2 q.2 fun i a e => by
      have := H (i + 1) a (by rw [List.getElem?_cons_succ]; exact e)
      rw [show k + 1 + i = k + (i + 1) by omega]
      exact this
    unfold cq_hB
    cases h2 : Nat.beq v.1 2 with
    | true => exact ih
    | false =>
      rcases Bool.or_eq_true _ _ ▸ q.1 with z | z
      · rw [h2] at z; cases z
      · have z1 := (Bool.and_eq_true _ _ ▸ z)
        have z2 := (Bool.and_eq_true _ _ ▸ z1.1)
        have b := cq_inE_ok hP z1.2
        have e0 := H 0 c rfl
        rw [Nat.add_zero, cq_tag z2.1] at e0
        have e0 : r2 k = cq_e ρ c.2.1 := e0
        exact ih.cons (by rw [e0]; exact b.1) (by rw [e0]; exact b.2)
/-- a state that meets a record, at the head's valuation -/
theorem cq_cks_ok {R : cq_Rc} {als ast : List cq_A} {ls st : List Value} (wf : cq_wfR R = true) (q : cq_cks R als ast S cur = true) (D : cq_Md m h0 ρ S h) (hU : S.U = none) (g1 : cq_gs ρ als ls) (g2 : cq_gs ρ ast st) : cq_Lc m h0 R (cq_r2 R.2.1 cur ρ) h ls st := by
  obtain ⟨pc, n, db, ls0, st0, S0, arr, ext, lp⟩ := R
  have q1 := (Bool.and_eq_true _ _ ▸ q)
  have q2 := (Bool.and_eq_true _ _ ▸ q1.1)
  have q3 := (Bool.and_eq_true _ _ ▸ q2.1)
  have q4 := (Bool.and_eq_true _ _ ▸ q3.1)
  have q5 := (Bool.and_eq_true _ _ ▸ q4.1)
  have q6 := (Bool.and_eq_true _ _ ▸ q5.1)
  have q7 := (Bool.and_eq_true _ _ ▸ q6.1)
  have q8 := (Bool.and_eq_true _ _ ▸ q7.1)
  have q9 := (Bool.and_eq_true _ _ ▸ q8.1)
  have q10 := (Bool.and_eq_true _ _ ▸ q9.1)
  have w1 := (Bool.and_eq_true _ _ ▸ wf)
  have w2 := (Bool.and_eq_true _ _ ▸ w1.1)
  have w3 := (Bool.and_eq_true _ _ ▸ w2.1)
  have hr : ∀ i a, cur[i]? = some a → cq_r2 n cur ρ (n + i) = cq_vi ρ a := fun i a e => by
    unfold cq_r2
    rw [if_neg (by omega), Nat.add_sub_cancel_left, e]
  have I := D.I
  rw [hU] at I
  refine ⟨cq_bv_ok D.P lp.1 cur n _ q10.1 hr, fun g hg => ?_, fun e he => ?_, fun e he => ?_, fun e he hp => ?_, I, D.F, ?_, cq_lq_ok q7.2 g1, cq_lq_ok q6.2 g2⟩
  · have z := List.all_eq_true.1 q10.2 g hg
    split at z
    · rename_i f hf
      have k := cq_en_ok D.P z
      rw [cq_sf_ok hf] at k
      have sm := List.all_eq_true.1 w3.2 g hg
      have ag : cq_ag 10000 (cq_rc1 (cq_cod 0 (cq_hv n lp.1) arr ext) 10000 0 (cq_r2 n cur ρ)) (cq_rc1 (cq_cod 0 cur arr ext) 10000 0 ρ) := fun s hs => by
        rw [cq_rc1_vx hs, cq_rc1_vx hs]
        exact cq_cod_pw _ _ _ _ 0 (cq_hv_pw lp.1 cur n _ (cq_bv_len q10.1) hr) (fun b hb => cq_vi_ag (List.all_eq_true.1 q9.2 b hb) cq_r2_ag) (fun b hb => cq_vi_ag (List.all_eq_true.1 q8.2 b hb) cq_r2_ag)
      rw [cq_sm_e sm ag]
      exact k
    · cases z
  · have z := List.all_eq_true.1 q5.2 e he
    have z1 := (Bool.and_eq_true _ _ ▸ z)
    have z2 := (Bool.and_eq_true _ _ ▸ z1.1)
    have y := z1.2
    split at y
    · rename_i b hb
      have g := D.T _ (cq_tl_ok hb)
      dsimp only at g
      rw [cq_smc_e z2.1 cq_r2_ag, cq_sm_e z2.2 cq_r2_ag]
      exact cq_lq1_ok y g
    · cases y
  · have z := List.all_eq_true.1 q4.2 e he
    have z1 := (Bool.and_eq_true _ _ ▸ z)
    have z2 := (Bool.and_eq_true _ _ ▸ z1.1)
    have y := z1.2
    split at y
    · rename_i f hf
      have k := D.L _ (cq_ll_ok hf)
      dsimp only at k
      rw [cq_smc_e z2.1 cq_r2_ag, cq_sm_e z2.2 cq_r2_ag, cq_fe_ok y]
      exact k
    · cases y
  · have z := List.all_eq_true.1 q3.2 e he
    have z1 := (Bool.and_eq_true _ _ ▸ z)
    have hl : e.1 < n := Nat.le_of_ble_eq_true z1.1
    have er : cq_r2 n cur ρ e.1 = ρ e.1 := cq_r2_ag e.1 hl
    have y := z1.2
    split at y
    · rename_i k hk
      have y1 := (Bool.and_eq_true _ _ ▸ y)
      have y2 := (Bool.and_eq_true _ _ ▸ y1.1)
      show cq_kOk h (cq_r2 n cur ρ e.1).toNat e.2
      have hp : 0 ≤ cq_r2 n cur ρ e.1 := hp
      rw [er] at hp ⊢
      have kk := D.K _ (cq_kl_ok hk) hp
      have ek : k = e.2 := Prod.ext (am_beq y2.1) (Prod.ext (am_beq y2.2) (am_beq y1.2))
      rw [← ek]
      exact kk
    · cases y
  · have a1 := D.A
    have b1 := Nat.le_of_ble_eq_true q1.2
    have b2 := Nat.le_of_ble_eq_true q2.2
    exact ⟨by omega, by omega⟩
end CXA
