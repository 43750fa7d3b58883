section CUD
variable {m : cq_W} {h0 : am_H} {ρ ρ0 : Nat → Int} {n0 : Nat} {h : am_H} {Fin : Option Value × am_H → Prop} {ck : Bool → List cq_A → cq_S → Bool} {out : List cq_Z} {ls st : List Value} {fs : List cq_Fm} {d : Nat} {e : am_E}
theorem cq_Kn.one {Z : cq_Z} {n : Nat} (K : cq_Kn m h0 ρ n Fin out) (hz : Z ∈ out) {ρ1 : Nat → Int} {ls st : List Value} {h : am_H} {fs : List cq_Fm} {d : Nat} (a : cq_ag n ρ1 ρ) (hn : n ≤ Z.2.2.2.2.2.2.n) (R : cq_Rz m h0 ρ1 Z ls st h fs) (hd : Z.2.2.2.2.2.1 ≤ d) : cq_Go Fin d Z.1 Z.2.1 ls st h fs := K Z hz ρ1 ls st h fs d a hn R hd
/-- a step's outcomes, as runs -/
theorem cq_Res.go {y : Nat} {fr : List cq_Fa} {db : Nat} {S : cq_S} {os : List cq_O} {r : Nat × List Value × List Value × am_H} (R : cq_Res m h0 ρ S.n os (some r)) (hf : ∀ ρ', cq_ag S.n ρ' ρ → cq_fg ρ' fr fs) (hd : db ≤ d) (K : cq_Kn m h0 ρ S.n Fin (os.map (cq_lf y fr db))) : cq_Go Fin d y r.1 r.2.1 r.2.2.1 r.2.2.2 fs := by
  obtain ⟨r', er, o, ho, e1, hn, ρ1, a1, k⟩ := R
  have er := Option.some.inj er
  subst er
  have g := K.one (Z := cq_lf y fr db o) (List.mem_map.2 ⟨o, ho, rfl⟩) (ρ1 := ρ1) (ls := r.2.1) (st := r.2.2.1) (h := r.2.2.2) (fs := fs) (d := d) a1 hn (fun ρ' a => ⟨(k ρ' a).1, (k ρ' a).2.1, (k ρ' a).2.2, hf ρ' ((a.lt hn).tr a1)⟩) hd
  unfold cq_lf at g
  dsimp only at g
  rw [e1] at g
  exact g
theorem cq_slen : ∀ i, i < 16 → am_slen i ≤ 100 := by decide +kernel
theorem cq_sch : ∀ i, i < 16 → ∀ j, j < am_slen i → am_sch i j ≤ 127 := by decide +kernel
theorem cq_sp_ok {Z : cq_Z} (hc : am_at Z.1 Z.2.1 e) (hi : am_isC e.1) (q : cq_sp m e Z = some out) (H : cq_Rz m h0 ρ Z ls st h fs) (hd : Z.2.2.2.2.2.1 ≤ d) (K : cq_Kn m h0 ρ Z.2.2.2.2.2.2.n Fin out) : cq_Go Fin d Z.1 Z.2.1 ls st h fs := by
  obtain ⟨y, pc, als, ast, fr, db, S⟩ := Z
  unfold cq_sp at q
  split at q
  · rename_i y0 pc0 ls0 st0 fr0 db0 S0 heq
    cases heq
    cases d with
    | zero => exact absurd hd (Nat.not_succ_le_zero _)
    | succ d =>
      have hd1 : db0 ≤ d := Nat.le_of_succ_le_succ hd
      have HR : cq_Rb m h0 ρ S als ast ls st h := fun ρ' a => ⟨(H ρ' a).1, (H ρ' a).2.1, (H ρ' a).2.2.1⟩
      have hf : ∀ ρ', cq_ag S.n ρ' ρ → cq_fg ρ' fr fs := fun ρ' a => (H ρ' a).2.2.2
      rw [cond_eq_ite] at q
      split at q
      · rename_i hz
        have hz := am_beq hz
        split at q
        · rename_i a r
          rw [cond_eq_ite] at q
          split at q
          · rename_i hb
            have hb := (Bool.and_eq_true _ _ ▸ hb)
            rw [← Option.some.inj q] at K
            obtain ⟨v, rs, es, K1, H1⟩ := cq_pop1 HR
            subst es
            cases hcl : cq_cel S a with
            | none => rw [hcl] at hb; cases hb.1
            | some x =>
              obtain ⟨c, k⟩ := x
              obtain ⟨ev, -⟩ := cq_cel_ok hcl (H ρ cq_ag.rf).1 (K1 ρ cq_ag.rf)
              subst ev
              obtain ⟨x, g1, g2⟩ := K.one List.mem_cons_self (ls := ls) (st := rs) (h := h) (fs := fs) (d := d + 1) cq_ag.rf (Nat.le_refl _) (fun ρ' a => ⟨(H ρ' a).1, (H ρ' a).2.1, (H1 ρ' a).2.2, hf ρ' a⟩) hd
              exact ⟨x, am_ev.obj hc hi hz (cq_c8_ok (H1 ρ cq_ag.rf).2.2 hb.2) g1, g2⟩
          · cases q
        · cases q
      · rw [cond_eq_ite] at q
        split at q
        · rename_i hz
          have hz := am_beq hz
          split at q
          · rename_i os hos
            rw [← Option.some.inj q] at K
            obtain ⟨n, dp, sp, a, b, rs, h2, es, hcs, hcp, R⟩ := cq_acp_ok HR hos
            subst es
            obtain ⟨x, g1, g2⟩ := R.go hf hd K
            exact ⟨x, am_ev.copy hc hi hz hcs hcp g1, g2⟩
          · cases q
        · rw [cond_eq_ite] at q
          split at q
          · rename_i hb
            have hb := (Bool.and_eq_true _ _ ▸ hb)
            have eb := am_beq hb.2
            split at q
            · rename_i g k1 f k2 r
              rw [cond_eq_ite] at q
              split at q
              · rename_i h8
                split at q
                · rename_i w hw
                  rw [← Option.some.inj q] at K
                  obtain ⟨v, rs, es, K1, H1⟩ := cq_pop1 HR
                  subst es
                  obtain ⟨yv, ey, hy⟩ := cq_int K1
                  subst ey
                  obtain ⟨v, rs, es, K2, H2⟩ := cq_pop1 H1
                  subst es
                  obtain ⟨xv, ex, hx⟩ := cq_int K2
                  subst ex
                  have hcs := cq_c8_ok (H2 ρ cq_ag.rf).2.2 h8
                  have HM : ∀ ρ', cq_ag S.n ρ' ρ → cq_Md m h0 ρ' S h ∧ xv.toInt = cq_e ρ' f ∧ yv.toInt = cq_e ρ' g := fun ρ' a => ⟨(H ρ' a).1, hx ρ' a, hy ρ' a⟩
                  have fin : ∀ z : Int32, cq_Mk m h0 ρ S h w (.int z) → cq_Go Fin (d + 1) y (pc + 3) ls (.int z :: rs) h fs := fun z k => by
                    obtain ⟨hn, ρ1, a1, k⟩ := k
                    exact K.one List.mem_cons_self a1 hn (fun ρ' a => ⟨(k ρ' a).1, (H ρ' ((a.lt hn).tr a1)).2.1, ⟨(k ρ' a).2, (H2 ρ' ((a.lt hn).tr a1)).2.2⟩, hf ρ' ((a.lt hn).tr a1)⟩) hd
                  rcases Bool.or_eq_true _ _ ▸ hb.1 with z10 | z57
                  · rw [z10] at hw
                    obtain ⟨x, g1, g2⟩ := fin _ (cq_mx_ok hw HM (Or.inl ⟨rfl, rfl⟩))
                    exact ⟨x, am_ev.max hc hi (am_beq z10) eb hcs g1, g2⟩
                  · have n10 : Nat.beq e.2.2.2.1 10 = false := by rw [am_beq z57]; rfl
                    rw [n10] at hw
                    obtain ⟨x, g1, g2⟩ := fin _ (cq_mx_ok hw HM (Or.inr ⟨rfl, rfl⟩))
                    exact ⟨x, am_ev.min hc hi (am_beq z57) eb hcs g1, g2⟩
                · cases q
              · cases q
            · cases q
          · rw [cond_eq_ite] at q
            split at q
            · rename_i hz
              have hz := am_beq hz
              split at q
              · rename_i a r
                split at q
                · rename_i c k1 k2 hcl
                  rw [cond_eq_ite] at q
                  split at q
                  · rename_i hb
                    have b1 := (Bool.and_eq_true _ _ ▸ hb)
                    have b2 := (Bool.and_eq_true _ _ ▸ b1.1)
                    rw [← Option.some.inj q] at K
                    obtain ⟨v, rs, es, K1, H1⟩ := cq_pop1 HR
                    subst es
                    obtain ⟨ev, hl, hu⟩ := cq_cel_u hcl fun ρ' a => ⟨(H ρ' a).1, K1 ρ' a⟩
                    subst ev
                    have l7 : 7 ≤ cq_ce ρ c ∧ cq_ce ρ c < 23 := hl
                    obtain ⟨i, ei⟩ : ∃ i, cq_ce ρ c = 7 + i := ⟨cq_ce ρ c - 7, by omega⟩
                    have i16 : i < 16 := by omega
                    have elen : cq_len h (cq_ce ρ c) = am_slen i := by
                      unfold cq_len
                      rw [show Nat.ble 7 (cq_ce ρ c) = true from Nat.ble_eq_true_of_le l7.1, show Nat.blt (cq_ce ρ c) 23 = true from Nat.ble_eq_true_of_le l7.2, ei]
                      show am_slen (7 + i - 7) = _
                      rw [Nat.add_sub_cancel_left]
                    obtain ⟨hn, ρ1, a1, k⟩ := cq_lnp_ok (m := m) (h0 := h0) (ρ := ρ) (S := S) (h := h) (c := c) (k := (2, 0, 0)) (cc := cq_ce ρ c) (fun ρ' a => (H ρ' a).1) hu (by rw [elen]; have := cq_slen i i16; omega) (fun x hx => by cases hx)
                    rw [elen] at k
                    obtain ⟨x, g1, g2⟩ := K.one List.mem_cons_self (ls := ls) (st := .int (Int32.ofNat (am_slen i)) :: rs) (h := h) (fs := fs) (d := d + 1) a1 hn (fun ρ' a => ⟨(k ρ' a).1, (H ρ' ((a.lt hn).tr a1)).2.1, ⟨(k ρ' a).2, (H1 ρ' ((a.lt hn).tr a1)).2.2⟩, hf ρ' ((a.lt hn).tr a1)⟩) hd
                    rw [ei]
                    exact ⟨x, am_ev.len hc hi hz i16 (cq_c8_ok (H1 ρ cq_ag.rf).2.2 b2.1) (Nat.le_trans (Nat.le_of_ble_eq_true b2.2) hd1) b1.2 g1, g2⟩
                  · cases q
                · cases q
              · cases q
            · rw [cond_eq_ite] at q
              split at q
              · rename_i hz
                have hz := am_beq hz
                split at q
                · rename_i f0 k0 a r
                  split at q
                  · rename_i c k1 k2 hcl
                    split at q
                    rename_i f S1 hL
                    rw [cond_eq_ite] at q
                    split at q
                    · rename_i hb
                      have b1 := (Bool.and_eq_true _ _ ▸ hb)
                      have b2 := (Bool.and_eq_true _ _ ▸ b1.1)
                      have b3 := (Bool.and_eq_true _ _ ▸ b2.1)
                      have b4 := (Bool.and_eq_true _ _ ▸ b3.1)
                      rw [← Option.some.inj q] at K
                      obtain ⟨v, rs, es, K0, H0⟩ := cq_pop1 HR
                      subst es
                      obtain ⟨jv, ej, hj⟩ := cq_int K0
                      subst ej
                      obtain ⟨v, rs, es, K1, H1⟩ := cq_pop1 H0
                      subst es
                      obtain ⟨ev, hl, hu⟩ := cq_cel_u hcl fun ρ' a => ⟨(H ρ' a).1, K1 ρ' a⟩
                      subst ev
                      have l7 : 7 ≤ cq_ce ρ c ∧ cq_ce ρ c < 23 := hl
                      obtain ⟨i, ei⟩ : ∃ i, cq_ce ρ c = 7 + i := ⟨cq_ce ρ c - 7, by omega⟩
                      have i16 : i < 16 := by omega
                      have elen : cq_len h (cq_ce ρ c) = am_slen i := by
                        unfold cq_len
                        rw [show Nat.ble 7 (cq_ce ρ c) = true from Nat.ble_eq_true_of_le l7.1, show Nat.blt (cq_ce ρ c) 23 = true from Nat.ble_eq_true_of_le l7.2, ei]
                        show am_slen (7 + i - 7) = _
                        rw [Nat.add_sub_cancel_left]
                      have kk := cq_lnp_ok (m := m) (h0 := h0) (ρ := ρ) (S := S) (h := h) (c := c) (k := (2, 0, 0)) (cc := cq_ce ρ c) (fun ρ' a => (H ρ' a).1) hu (by rw [elen]; have := cq_slen i i16; omega) (fun x hx => by cases hx)
                      rw [elen, hL] at kk
                      obtain ⟨hn, ρ1, a1, k⟩ := kk
                      dsimp only at hn k
                      obtain ⟨D1, x1, ex1, hx1⟩ := k ρ1 cq_ag.rf
                      cases ex1
                      have sl := cq_slen i i16
                      have esl : (Int32.ofNat (am_slen i)).toInt = (am_slen i : Int) := Int32.toInt_ofNat_of_lt (by omega)
                      have c1 := cq_en_ok D1.P b2.2
                      have c2 := cq_en_ok D1.P b1.2
                      rw [cq_ac_e, cq_sub_e, ← hx1, esl] at c2
                      rw [← hj ρ1 a1] at c1 c2
                      have j0 : 0 ≤ jv := by rw [Int32.le_iff_toInt_le, cq_i0]; exact c1
                      have ejn : jv.toInt = (jv.toNatClampNeg : Int) := (Int32.cast_toNatClampNeg jv j0).symm
                      have jl : jv.toNatClampNeg < am_slen i := by omega
                      have sc := cq_sch i i16 _ jl
                      have esc : (Int32.ofNat (am_sch i jv.toNatClampNeg)).toInt = (am_sch i jv.toNatClampNeg : Int) := Int32.toInt_ofNat_of_lt (by omega)
                      obtain ⟨hn2, ρ2, a2, k2⟩ := cq_fi_ok (m := m) (h0 := h0) (ρ := ρ1) (S := S1) (h := h) (l := 0) (u := 127) (x := Int32.ofNat (am_sch i jv.toNatClampNeg)) (fun ρ' a => (k ρ' a).1) (by rw [esc]; omega) (by rw [esc]; omega)
                      have a12 : cq_ag S.n ρ2 ρ := (a2.lt hn).tr a1
                      obtain ⟨x, g1, g2⟩ := K.one List.mem_cons_self (ls := ls) (st := .int (Int32.ofNat (am_sch i jv.toNatClampNeg)) :: rs) (h := h) (fs := fs) (d := d + 1) a12 (Nat.le_trans hn hn2) (fun ρ' a => by
                        have a3 : cq_ag S.n ρ' ρ := (a.lt (Nat.le_trans hn hn2)).tr a12
                        exact ⟨(k2 ρ' a).1, (H ρ' a3).2.1, ⟨(k2 ρ' a).2, (H1 ρ' a3).2.2⟩, hf ρ' a3⟩) hd
                      rw [ei]
                      exact ⟨x, am_ev.chr hc hi hz i16 (cq_c8_ok (H1 ρ cq_ag.rf).2.2 b4.1) (Nat.le_trans (Nat.le_of_ble_eq_true b4.2) hd1) b3.2 j0 jl g1, g2⟩
                    · cases q
                  · cases q
                · cases q
              · cases q
  · cases q
end CUD
