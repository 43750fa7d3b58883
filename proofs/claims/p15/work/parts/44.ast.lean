section CSF
variable {m : cq_W} {h0 : am_H} {ρ : Nat → Int} {S : cq_S} {h : am_H} {als ast : List cq_A} {ls st : List Value} {out : List cq_O} {e : am_E} {pc pc' : Nat}
/-- an element is written -/
theorem cq_ast_ok {w : Nat} (H : cq_Rb m h0 ρ S als ast ls st h) (q : cq_ast m w pc' als ast S = some out) : ∃ (v : Value) (i : Int32) (a tc : Nat) (rs : List Value), st = v :: .int i :: .ref a :: rs ∧ a < h.1 ∧ (h.2.2.1 a).1 = 1 ∧ (h.2.2.1 a).2.1 = tc ∧ ¬ i < 0 ∧ i.toNatClampNeg < (h.2.2.1 a).2.2 ∧ ((w = 0 ∧ tc = 0 ∧ ∃ x, v = .int x) ∨ (w = 1 ∧ (tc = 1 ∨ tc = 2) ∧ ∃ x, v = .int x) ∨ (w = 2 ∧ tc = 3 ∧ ∃ x, v = .long x) ∨ (2 < w ∧ ∃ k x, tc = k + 4 ∧ am_isA (k + 4) = true ∧ v = .ref x ∧ cq_kOk h x (0, k, 0))) ∧ cq_Res m h0 ρ S.n out (some (pc', ls, rs, am_put h a i.toNatClampNeg (cq_sv1 w tc v))) := by
  unfold cq_ast at q
  split at q
  · rename_i a f k b r
    split at q
    · rename_i c tc ln hcel
      rw [cond_eq_ite] at q
      split at q
      · rename_i h40
        split at q
        · rename_i a' S0 hva
          split at q
          rename_i n S1 hL
          rw [cond_eq_ite] at q
          split at q
          · rename_i hb
            have hb := (Bool.and_eq_true _ _ ▸ hb)
            split at q
            · rename_i S2 hw
              rw [← Option.some.inj q]
              obtain ⟨v, rs, es, K0, H0⟩ := cq_pop1 H
              subst es
              obtain ⟨v1, rs, es, K1, H1⟩ := cq_pop1 H0
              subst es
              obtain ⟨i, ei, hi⟩ := cq_int K1
              subst ei
              obtain ⟨v2, rs, es, K2, H2⟩ := cq_pop1 H1
              subst es
              obtain ⟨ev, hl, hu⟩ := cq_cel_u hcel fun ρ' a => ⟨(H ρ' a).1, K2 ρ' a⟩
              subst ev
              obtain ⟨l1, l2⟩ := cq_len_ar (k := (1, tc, ln)) hcel (H ρ cq_ag.rf).1 rfl
              obtain ⟨⟨hn0, ρ0, a0, k0⟩, hcase⟩ := cq_va_ok (m := m) (h0 := h0) (ρ := ρ) (h := h) (v := v) hva fun ρ' a => ⟨(H ρ' a).1, K0 ρ' a⟩
              have eqv := cq_va_eq hva
              dsimp only at hn0 k0 eqv
              have eq4 := cq_lnp_eq (S := S0) c (1, tc, ln)
              have kk := cq_lnp_ok (m := m) (h0 := h0) (ρ := ρ0) (S := S0) (h := h) (c := c) (k := (1, tc, ln)) (cc := cq_ce ρ c) (fun ρ' a => (k0 ρ' a).1) (fun ρ' a => hu ρ' ((a.lt hn0).tr a0)) (by rw [l1]; exact l2) (fun x hx => by
                have hx : ln = x + 1 := hx
                rcases hl.2.2.2 with z | z
                · omega
                · rw [l1]; omega)
              rw [hL] at kk eq4
              dsimp only at kk eq4
              obtain ⟨hn, ρ1, a1, k1⟩ := kk
              obtain ⟨D1, x, ex, hx⟩ := k1 ρ1 cq_ag.rf
              cases ex
              have en : (Int32.ofNat (cq_len h (cq_ce ρ c))).toInt = ((h.2.2.1 (cq_ce ρ c)).2.2 : Int) := by rw [l1]; exact Int32.toInt_ofNat_of_lt (by omega)
              have b1 := cq_en_ok D1.P hb.1
              have b2 := cq_en_ok D1.P hb.2
              rw [cq_ac_e, cq_sub_e, ← hx, en] at b2
              have a01 : cq_ag S.n ρ1 ρ := (a1.lt hn0).tr a0
              have hi1 : i.toInt = cq_e ρ1 f := hi ρ1 a01
              have i0 : ¬ i < 0 := fun z => by
                have := Int32.lt_iff_toInt_lt.1 z
                rw [cq_i0] at this
                omega
              have ei : i.toInt = (i.toNatClampNeg : Int) := (Int32.cast_toNatClampNeg i (by rw [Int32.le_iff_toInt_le, cq_i0]; omega)).symm
              have hlt : i.toNatClampNeg < (h.2.2.1 (cq_ce ρ c)).2.2 := by omega
              have sh1 : (h.2.2.1 (cq_ce ρ c)).1 = 1 := by
                rcases cq_cel_c hcel with ⟨c1, hs⟩ | ⟨c1, r1, r2, hf⟩ | ⟨c1, kz⟩ | ⟨c1, r1, r2, kz⟩ | ⟨c1, kz⟩
                · obtain ⟨p1, p2, -⟩ := cq_sk_ok (H ρ cq_ag.rf).1 hs
                  have ec : cq_ce ρ c = (ρ c.2).toNat := by unfold cq_ce; rw [c1]; rfl
                  rw [ec]
                  exact p2.2.2.1
                · have ec : cq_ce ρ c = c.2 := by unfold cq_ce; rw [c1]; rfl
                  rw [ec, (H ρ cq_ag.rf).1.I.fx c.2 r1 r2]
                  rcases hf with ⟨-, z⟩ | ⟨z, -⟩
                  · cases z
                  · exact z
                · rw [c1] at h40; cases h40
                · rw [c1] at h40
                  have := Nat.le_of_ble_eq_true h40
                  omega
                · cases kz
              refine ⟨v, i, cq_ce ρ c, tc, rs, rfl, hl.1, sh1, hl.2.2.1, i0, hlt, hcase, ?_⟩
              have en2 : S2.n = S1.n := cq_wrp_n hw
              refine ⟨_, rfl, _, List.mem_cons_self, rfl, by rw [en2]; exact Nat.le_trans hn0 hn, ρ1, a01, fun ρ' a' => ?_⟩
              have a2 : cq_ag S1.n ρ' ρ1 := en2 ▸ a'
              have a3 : cq_ag S0.n ρ' ρ0 := (a2.lt hn).tr a1
              have a4 : cq_ag S.n ρ' ρ := (a3.lt hn0).tr a0
              obtain ⟨D2, -⟩ := k1 ρ' a2
              have g2 := (k0 ρ' a3).2
              have hcel1 : cq_cel S1 b = some (c, (1, tc, ln)) := by rw [cq_cel_eq (eq4.1.trans eqv.1) (eq4.2.1.trans eqv.2)]; exact hcel
              have ew : cq_e ρ' f = (i.toNatClampNeg : Int) := by rw [← hi ρ' a4]; exact ei
              have kf := cq_wrp_ok hcel1 hw D2 g2 (by rw [ew]; exact Int.natCast_nonneg _) (by rw [ew, Int.toNat_natCast, hu ρ' a4]; exact hlt)
              rw [ew, Int.toNat_natCast, hu ρ' a4] at kf
              exact ⟨kf, (H2 ρ' a4).2⟩
            · cases q
          · cases q
        · cases q
      · cases q
    · cases q
  · cases q
theorem cq_ias_ok (he : e.1 = .iastore) (H : cq_Rb m h0 ρ S als ast ls st h) (q : cq_ast m 0 (pc + 1) als ast S = some out) : cq_Res m h0 ρ S.n out (am_st e pc ls st h) := by
  obtain ⟨v, i, a, tc, rs, es, h1, h2, h3, h4, h5, hc, R⟩ := cq_ast_ok H q
  rcases hc with ⟨-, et, x, ex⟩ | ⟨z, -⟩ | ⟨z, -⟩ | ⟨z, -⟩
  · subst ex
    subst es
    subst et
    simp only [am_st, he, cq_wr_ev h1 h2 h3 h4 h5]
    exact R
  · cases z
  · cases z
  · omega
theorem cq_las_ok (he : e.1 = .lastore) (H : cq_Rb m h0 ρ S als ast ls st h) (q : cq_ast m 2 (pc + 1) als ast S = some out) : cq_Res m h0 ρ S.n out (am_st e pc ls st h) := by
  obtain ⟨v, i, a, tc, rs, es, h1, h2, h3, h4, h5, hc, R⟩ := cq_ast_ok H q
  rcases hc with ⟨z, -⟩ | ⟨z, -⟩ | ⟨-, et, x, ex⟩ | ⟨z, -⟩
  · cases z
  · cases z
  · subst ex
    subst es
    subst et
    simp only [am_st, he, cq_wr_ev h1 h2 h3 h4 h5]
    exact R
  · omega
theorem cq_bas_ok (he : e.1 = .bastore) (H : cq_Rb m h0 ρ S als ast ls st h) (q : cq_ast m 1 (pc + 1) als ast S = some out) : cq_Res m h0 ρ S.n out (am_st e pc ls st h) := by
  obtain ⟨v, i, a, tc, rs, es, h1, h2, h3, h4, h5, hc, R⟩ := cq_ast_ok H q
  rcases hc with ⟨z, -⟩ | ⟨-, et, x, ex⟩ | ⟨z, -⟩ | ⟨z, -⟩
  · cases z
  · subst ex
    subst es
    rcases et with et | et
    · subst et
      simp only [am_st, he, h3, Nat.beq_refl, cond_true, cq_wr_ev h1 h2 h3 h4 h5]
      exact R
    · subst et
      simp only [am_st, he, h3, show Nat.beq 2 1 = false from rfl, cond_false, cq_wr_ev h1 h2 h3 h4 h5]
      exact R
  · cases z
  · omega
theorem cq_aas_ok (he : e.1 = .aastore) (H : cq_Rb m h0 ρ S als ast ls st h) (q : cq_ast m 3 (pc + 1) als ast S = some out) : cq_Res m h0 ρ S.n out (am_st e pc ls st h) := by
  obtain ⟨v, i, a, tc, rs, es, h1, h2, h3, h4, h5, hc, R⟩ := cq_ast_ok H q
  rcases hc with ⟨z, -⟩ | ⟨z, -⟩ | ⟨z, -⟩ | ⟨-, k, x, et, hA, ex, hk⟩
  · cases z
  · cases z
  · cases z
  · subst ex
    subst es
    subst et
    have eO : am_isO h x (h.2.2.1 x).2.1 = true := by
      have := hk.2.2
      rw [this]
      exact cq_isO_of (ci := k) ⟨hk.2.1, this⟩
    have e21 : (h.2.2.1 x).2.1 = k := by rw [hk.2.2]
    simp only [am_st, he]
    rw [eO]
    simp only [e21, hA, Bool.and_self, cond_true, cq_wr_ev h1 h2 h3 h4 h5]
    exact R
end CSF
