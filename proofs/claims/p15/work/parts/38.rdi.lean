/-! THE CHECKER, 12: the steps that read the heap -/
def cq_ll (c : cq_C) : List (cq_C × cq_F) → Option cq_F
  | [] => none
  | q :: r => bif cq_ceq q.1 c then some q.2 else cq_ll c r
theorem cq_ll_ok {c : cq_C} {f : cq_F} : ∀ {L : List (cq_C × cq_F)}, cq_ll c L = some f → (c, f) ∈ L
  | [], h => by cases h
  | q :: r, h => by
    unfold cq_ll at h
    cases hb : cq_ceq q.1 c with
    | true =>
      rw [hb] at h
      rw [← cq_ceq_ok hb, ← Option.some.inj h]
      exact List.mem_cons_self
    | false =>
      rw [hb] at h
      exact List.mem_cons_of_mem _ (cq_ll_ok h)
def cq_S.aL (S : cq_S) (q : cq_C × cq_F) : cq_S := cq_mk S.n S.P S.N S.K S.W S.T (q :: S.L) S.M S.U S.ac S.al
/-- the length of an array or a text -/
def cq_lnp (S : cq_S) (c : cq_C) (k : cq_Kd) : cq_F × cq_S := match k with
  | (_, _, ln + 1) => (cq_c ln, S)
  | _ => (match cq_ll c S.L with
    | some f => (f, S)
    | none => (cq_s S.n, (S.fb 0 100000).aL (c, cq_s S.n)))
section CRA
variable {m : cq_W} {h0 : am_H} {ρ : Nat → Int} {S : cq_S} {h : am_H} {als ast : List cq_A} {ls st : List Value} {out : List cq_O} {e : am_E} {pc pc' : Nat}
theorem cq_cel_eq {S1 : cq_S} (h1 : S1.N = S.N) (h2 : S1.K = S.K) (a : cq_A) : cq_cel S1 a = cq_cel S a := by
  unfold cq_cel cq_sk
  rw [h1, h2]
theorem cq_lnp_eq (c : cq_C) (k : cq_Kd) : (cq_lnp S c k).2.N = S.N ∧ (cq_lnp S c k).2.K = S.K ∧ (cq_lnp S c k).2.U = S.U ∧ (cq_lnp S c k).2.W = S.W := by
  unfold cq_lnp
  split
  · exact ⟨rfl, rfl, rfl, rfl⟩
  · split
    · exact ⟨rfl, rfl, rfl, rfl⟩
    · exact ⟨rfl, rfl, rfl, rfl⟩
theorem cq_lnp_ok {c : cq_C} {k : cq_Kd} {cc : Nat} (H : ∀ ρ', cq_ag S.n ρ' ρ → cq_Md m h0 ρ' S h) (hc : ∀ ρ', cq_ag S.n ρ' ρ → cq_ce ρ' c = cc) (hb : cq_len h cc ≤ 100000) (hk : ∀ ln, k.2.2 = ln + 1 → cq_len h cc = ln) : cq_Mk m h0 ρ S h (cq_i (cq_lnp S c k).1, (cq_lnp S c k).2) (.int (Int32.ofNat (cq_len h cc))) := by
  have e1 : (Int32.ofNat (cq_len h cc)).toInt = (cq_len h cc : Int) := Int32.toInt_ofNat_of_lt (by omega)
  unfold cq_lnp
  split
  · rename_i x y ln
    refine cq_Mk.of fun ρ' a => ⟨H ρ' a, _, rfl, ?_⟩
    rw [e1, cq_c_e, hk ln rfl]
  · split
    · rename_i f hf
      refine cq_Mk.of fun ρ' a => ⟨H ρ' a, _, rfl, ?_⟩
      have := (H ρ' a).L _ (cq_ll_ok hf)
      dsimp only at this
      rw [e1, this, hc ρ' a]
    · refine ⟨Nat.le_succ _, cq_up ρ S.n (cq_len h cc), cq_up_g, fun ρ' a => ?_⟩
      obtain ⟨D, ew⟩ := cq_fb_ok (l := 0) (u := 100000) H (by omega) (by omega) ρ' a
      refine ⟨⟨D.1, D.2.1, D.2.2.1, D.2.2.2.1, D.2.2.2.2.1, ?_, D.2.2.2.2.2.2⟩, _, rfl, by rw [cq_s_e, ew, e1]⟩
      intro x hx
      rcases List.mem_cons.1 hx with z | z
      · subst z
        dsimp only
        rw [cq_s_e, ew, hc ρ' (cq_up_a a)]
      · exact D.L x z
end CRA
def cq_gf (ci j pc' : Nat) (ls st : List cq_A) (S : cq_S) : Option (List cq_O) := match st with
  | a :: r => (match cq_cel S a with
    | some (c, (0, ci', z)) => bif Nat.beq ci' ci && Nat.blt j (am_N ci) then (match cq_rdp S c (0, ci', z) (cq_c j) with
      | some q => some [(pc', ls, q.1 :: r, q.2)]
      | none => none) else none
    | _ => none)
  | _ => none
def cq_ald (ok : Nat → Bool) (pc' : Nat) (ls st : List cq_A) (S : cq_S) : Option (List cq_O) := match st with
  | (1, i, _) :: a :: r => (match cq_cel S a with
    | some (c, (1, tc, ln)) => bif ok tc then (match cq_lnp S c (1, tc, ln) with
      | (f, S1) => bif cq_en S1.P i && cq_en S1.P (cq_ac (cq_sub f i) (-1)) then (match cq_rdp S1 c (1, tc, ln) i with
        | some q => some [(pc', ls, q.1 :: r, q.2)]
        | none => none) else none) else none
    | _ => none)
  | _ => none
def cq_aln (pc' : Nat) (ls st : List cq_A) (S : cq_S) : Option (List cq_O) := match st with
  | a :: r => (match cq_cel S a with
    | some (c, (1, tc, ln)) => (match cq_lnp S c (1, tc, ln) with
      | (f, S1) => some [(pc', ls, cq_i f :: r, S1)])
    | _ => none)
  | _ => none
section CRB
variable {m : cq_W} {h0 : am_H} {ρ : Nat → Int} {S : cq_S} {h : am_H} {als ast : List cq_A} {ls st : List Value} {out : List cq_O} {e : am_E} {pc pc' : Nat}
/-- a reference's cell, the same at every valuation -/
theorem cq_cel_u {a : cq_A} {c : cq_C} {k : cq_Kd} {v : Value} (hcel : cq_cel S a = some (c, k)) (H : ∀ ρ', cq_ag S.n ρ' ρ → cq_Md m h0 ρ' S h ∧ cq_g ρ' a v) : v = .ref (cq_ce ρ c) ∧ cq_lv h (cq_ce ρ c) k ∧ ∀ ρ', cq_ag S.n ρ' ρ → cq_ce ρ' c = cq_ce ρ c := by
  obtain ⟨D, g⟩ := H ρ cq_ag.rf
  obtain ⟨e1, e2⟩ := cq_cel_ok hcel D g
  refine ⟨e1, e2, fun ρ' a => ?_⟩
  obtain ⟨D', g'⟩ := H ρ' a
  obtain ⟨e3, -⟩ := cq_cel_ok hcel D' g'
  rw [e1] at e3
  injection e3 with e3
  exact e3.symm
theorem cq_isO_of {a ci : Nat} (q : cq_lv h a (0, ci, 0)) : am_isO h a ci = true := by
  obtain ⟨q1, q2⟩ := q
  unfold am_isO
  rw [q2, show Nat.blt a h.1 = true from Nat.ble_eq_true_of_le q1]
  simp only [Nat.beq_refl, Bool.and_self]
theorem cq_gf_ok {x : Nat} (he : e.1 = .getfield x) (H : cq_Rb m h0 ρ S als ast ls st h) (q : cq_gf e.2.2.2.1 e.2.2.2.2.1 (pc + 3) als ast S = some out) : cq_Res m h0 ρ S.n out (am_st e pc ls st h) := by
  unfold cq_gf at q
  split at q
  · rename_i a r
    split at q
    · rename_i c ci' z hcel
      rw [cond_eq_ite] at q
      split at q
      · rename_i hb
        have hb := (Bool.and_eq_true _ _ ▸ hb)
        have e1 := am_beq hb.1
        have e2 : e.2.2.2.2.1 < am_N e.2.2.2.1 := Nat.le_of_ble_eq_true hb.2
        split at q
        · rename_i w hw
          rw [← Option.some.inj q]
          obtain ⟨v, rs, es, K, H2⟩ := cq_pop1 H
          subst es
          obtain ⟨ev, hl, hu⟩ := cq_cel_u hcel fun ρ' a => ⟨(H ρ' a).1, K ρ' a⟩
          subst ev
          rw [e1] at hl hw
          have hO : am_isO h (cq_ce ρ c) e.2.2.2.1 = true := cq_isO_of hl
          simp only [am_st, he, hO, cond_true]
          have hlt : e.2.2.2.2.1 < (h.2.2.1 (cq_ce ρ c)).2.2 := by rw [hl.2]; exact e2
          have k := cq_rdp_ok (m := m) (h0 := h0) (w := e.2.2.2.2.1) (cc := cq_ce ρ c) (e1 ▸ hcel) hw (fun ρ' a => (H ρ' a).1) hu (fun ρ' a => cq_c_e ρ' _) hlt
          exact k.res fun ρ' a => (H2 ρ' a).2
        · cases q
      · cases q
    · cases q
  · cases q
theorem cq_len_ar {a : Nat} {k : cq_Kd} {c : cq_C} {b : cq_A} (hcel : cq_cel S b = some (c, (1, k.2))) (D : cq_Md m h0 ρ S h) (ha : a = cq_ce ρ c) : cq_len h a = (h.2.2.1 a).2.2 ∧ (h.2.2.1 a).2.2 ≤ 100000 := by
  have key : ¬ (7 ≤ a ∧ a < 23) ∧ (h.2.2.1 a).2.2 ≤ 100000 := by
    rcases cq_cel_c hcel with ⟨c1, hs1⟩ | ⟨c1, b1, b2, hf⟩ | ⟨c1, k1⟩ | ⟨c1, b1, b2, k1⟩ | ⟨c1, k1⟩
    · obtain ⟨p1, p2, -⟩ := cq_sk_ok D hs1
      have ec : cq_ce ρ c = (ρ c.2).toNat := by unfold cq_ce; rw [c1]; rfl
      rw [ec] at ha
      obtain ⟨q1, q2, q3, q4⟩ := p2
      rw [← ha] at q1 q2 q3
      refine ⟨by omega, ?_⟩
      rcases D.I.dy a q1 q2 with ⟨k, z⟩ | z
      · rw [z] at q3; cases q3
      · exact z.2
    · have ec : cq_ce ρ c = c.2 := by unfold cq_ce; rw [c1]; rfl
      rw [ec] at ha
      subst ha
      refine ⟨by omega, ?_⟩
      rw [D.I.fx c.2 b1 b2]
      have : ∀ c, c < 130 → 40 ≤ c → (cq_fix c).2.2 ≤ 100000 := by decide +kernel
      exact this c.2 b2 b1
    · subst c1
      have ec : cq_ce ρ (false, 0) = 0 := rfl
      rw [ec] at ha
      subst ha
      exact ⟨by omega, D.I.sc.2.2.1⟩
    · have ec : cq_ce ρ c = c.2 := by unfold cq_ce; rw [c1]; rfl
      rw [ec] at ha
      subst ha
      refine ⟨by omega, ?_⟩
      rw [(D.I.sv c.2 b1 b2).1]
      decide
    · cases k1
  refine ⟨?_, key.2⟩
  unfold cq_len
  have : (Nat.ble 7 a && Nat.blt a 23) = false := by
    cases hh : (Nat.ble 7 a && Nat.blt a 23) with
    | false => rfl
    | true =>
      have hh := (Bool.and_eq_true _ _ ▸ hh)
      have h1 := Nat.le_of_ble_eq_true hh.1
      have h2 : a < 23 := Nat.le_of_ble_eq_true hh.2
      exact absurd ⟨h1, h2⟩ key.1
  rw [this]
  rfl
/-- an element is read -/
theorem cq_ald_ok {ok : Nat → Bool} (H : cq_Rb m h0 ρ S als ast ls st h) (q : cq_ald ok pc' als ast S = some out) : ∃ (i : Int32) (a : Nat) (rs : List Value), st = .int i :: .ref a :: rs ∧ cq_Res m h0 ρ S.n out (match am_rd h a i ok with
    | some v => some (pc', ls, v :: rs, h)
    | none => none) := by
  unfold cq_ald at q
  split at q
  · rename_i f k a r
    split at q
    · rename_i c tc ln hcel
      rw [cond_eq_ite] at q
      split at q
      · rename_i hok
        split at q
        rename_i n S1 hL
        rw [cond_eq_ite] at q
        split at q
        · rename_i hb
          have hb := (Bool.and_eq_true _ _ ▸ hb)
          split at q
          · rename_i w hw
            rw [← Option.some.inj q]
            obtain ⟨v, rs, es, K1, H1⟩ := cq_pop1 H
            subst es
            obtain ⟨i, ei, hi⟩ := cq_int K1
            subst ei
            obtain ⟨v, rs, es, K2, H2⟩ := cq_pop1 H1
            subst es
            obtain ⟨ev, hl, hu⟩ := cq_cel_u hcel fun ρ' a => ⟨(H ρ' a).1, K2 ρ' a⟩
            subst ev
            refine ⟨i, cq_ce ρ c, rs, rfl, ?_⟩
            obtain ⟨l1, l2⟩ := cq_len_ar (k := (1, tc, ln)) hcel (H ρ cq_ag.rf).1 rfl
            have eq4 := cq_lnp_eq (S := S) c (1, tc, ln)
            have kk := cq_lnp_ok (m := m) (h0 := h0) (ρ := ρ) (S := S) (h := h) (c := c) (k := (1, tc, ln)) (cc := cq_ce ρ c) (fun ρ' a => (H ρ' a).1) hu (by rw [l1]; exact l2) (fun x hx => by
              have hx : ln = x + 1 := hx
              rcases hl.2.2.2 with z | z
              · omega
              · rw [l1]; omega)
            rw [hL] at kk eq4
            dsimp only at kk eq4
            obtain ⟨hn, ρ1, a1, k1⟩ := kk
            obtain ⟨D1, x, ex, hx⟩ := k1 ρ1 cq_ag.rf
            cases ex
            have en : (Int32.ofNat (cq_len h (cq_ce ρ c))).toInt = ((h.2.2.1 (cq_ce ρ c)).2.2 : Int) := by rw [l1]; exact Int32.toInt_ofNat_of_lt (by omega)
            have b1 := cq_en_ok D1.P hb.1
            have b2 := cq_en_ok D1.P hb.2
            rw [cq_ac_e, cq_sub_e, ← hx, en] at b2
            have hi1 : i.toInt = cq_e ρ1 f := hi ρ1 a1
            have i0 : ¬ i < 0 := fun z => by
              have := Int32.lt_iff_toInt_lt.1 z
              rw [cq_i0] at this
              omega
            have ei : i.toInt = (i.toNatClampNeg : Int) := (Int32.cast_toNatClampNeg i (by rw [Int32.le_iff_toInt_le, cq_i0]; omega)).symm
            have hlt : i.toNatClampNeg < (h.2.2.1 (cq_ce ρ c)).2.2 := by omega
            have erd : am_rd h (cq_ce ρ c) i ok = some (h.2.2.2 (cq_ce ρ c) i.toNatClampNeg) := by
              unfold am_rd
              have t1 : Nat.blt (cq_ce ρ c) h.1 = true := Nat.ble_eq_true_of_le hl.1
              have t2 : (Nat.beq (h.2.2.1 (cq_ce ρ c)).1 1 || Nat.beq (h.2.2.1 (cq_ce ρ c)).1 2) = true := by
                rcases hl.2.1 with z | z
                · rw [z]; rfl
                · rw [z]; rfl
              rw [t1, t2, hl.2.2.1, hok]
              simp only [Bool.and_self, cond_true]
              rw [if_neg (fun z => by rcases z with z | z; exact i0 z; omega)]
            rw [erd]
            dsimp only
            have k3 := cq_rdp_ok (m := m) (h0 := h0) (S := S1) (ρ := ρ1) (w := i.toNatClampNeg) (cc := cq_ce ρ c) (a := a) (by rw [cq_cel_eq eq4.1 eq4.2.1]; exact hcel) hw (fun ρ' a => (k1 ρ' a).1) (fun ρ' a => hu ρ' ((a.lt hn).tr a1)) (fun ρ' a => by rw [← hi ρ' ((a.lt hn).tr a1)]; exact ei) hlt
            obtain ⟨hn2, ρ2, a2, k4⟩ := k3
            have k5 : cq_Mk m h0 ρ S h w (h.2.2.2 (cq_ce ρ c) i.toNatClampNeg) := ⟨Nat.le_trans hn hn2, ρ2, (a2.lt hn).tr a1, k4⟩
            exact k5.res fun ρ' a => (H2 ρ' a).2
          · cases q
        · cases q
      · cases q
    · cases q
  · cases q
theorem cq_aln_ok (he : e.1 = .arraylength) (H : cq_Rb m h0 ρ S als ast ls st h) (q : cq_aln (pc + 1) als ast S = some out) : cq_Res m h0 ρ S.n out (am_st e pc ls st h) := by
  unfold cq_aln at q
  split at q
  · rename_i a r
    split at q
    · rename_i c tc ln hcel
      split at q
      rename_i n S1 hL
      rw [← Option.some.inj q]
      obtain ⟨v, rs, es, K2, H2⟩ := cq_pop1 H
      subst es
      obtain ⟨ev, hl, hu⟩ := cq_cel_u hcel fun ρ' a => ⟨(H ρ' a).1, K2 ρ' a⟩
      subst ev
      obtain ⟨l1, l2⟩ := cq_len_ar (k := (1, tc, ln)) hcel (H ρ cq_ag.rf).1 rfl
      have kk := cq_lnp_ok (m := m) (h0 := h0) (ρ := ρ) (S := S) (h := h) (c := c) (k := (1, tc, ln)) (cc := cq_ce ρ c) (fun ρ' a => (H ρ' a).1) hu (by rw [l1]; exact l2) (fun x hx => by
        have hx : ln = x + 1 := hx
        rcases hl.2.2.2 with z | z
        · omega
        · rw [l1]; omega)
      rw [hL, l1] at kk
      have eln : am_len h (cq_ce ρ c) = some (h.2.2.1 (cq_ce ρ c)).2.2 := by
        unfold am_len
        have t1 : Nat.blt (cq_ce ρ c) h.1 = true := Nat.ble_eq_true_of_le hl.1
        have t2 : (Nat.beq (h.2.2.1 (cq_ce ρ c)).1 1 || Nat.beq (h.2.2.1 (cq_ce ρ c)).1 2) = true := by
          rcases hl.2.1 with z | z
          · rw [z]; rfl
          · rw [z]; rfl
        rw [t1, t2]
        rfl
      simp only [am_st, he, eln]
      exact kk.res fun ρ' a => (H2 ρ' a).2
    · cases q
  · cases q
end CRB
