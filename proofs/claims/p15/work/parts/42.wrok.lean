section CSD
variable {m : cq_W} {h0 : am_H} {ρ : Nat → Int} {S : cq_S} {h : am_H} {als ast : List cq_A} {ls st : List Value} {out : List cq_O} {e : am_E} {pc pc' : Nat}
theorem cq_cel_str {a : cq_A} {c : cq_C} {k : cq_Kd} (q : cq_cel S a = some (c, k)) (c1 : c.1 = false) (k1 : k = (2, 0, 0)) (h40 : 40 ≤ c.2) : False := by
  unfold cq_cel at q
  split at q
  · rename_i x k'
    rw [cond_eq_ite] at q
    split at q
    · rw [cond_eq_ite] at q
      split at q
      · cases Option.some.inj q; cases k1
      · cases Option.some.inj q; cases k1
    · rw [cond_eq_ite] at q
      split at q
      · cases Option.some.inj q; cases k1
      · rw [cond_eq_ite] at q
        split at q
        · cases Option.some.inj q; cases k1
        · rw [cond_eq_ite] at q
          split at q
          · rename_i h23
            have h23 : k' < 23 := Nat.le_of_ble_eq_true h23
            cases Option.some.inj q
            dsimp only at h40
            omega
          · cases q
  · rename_i x s
    split at q
    · cases Option.some.inj q; cases c1
    · cases q
  · cases q
theorem cq_dis_n : (cq_dis S).n = S.n := by
  unfold cq_dis
  split
  · rename_i s ci hu
    cases cq_dOk S s ci with
    | true => rfl
    | false => rfl
  · rfl
theorem cq_wrp_n {c : cq_C} {k : cq_Kd} {j : cq_F} {a : cq_A} {S' : cq_S} (q : cq_wrp m S c k j a = some S') : S'.n = S.n := by
  unfold cq_wrp at q
  rw [cond_eq_ite] at q
  split at q
  · rw [← Option.some.inj q, cq_dis_n]
    rfl
  · rw [cond_eq_ite] at q
    split at q
    · rw [← Option.some.inj q]
      rfl
    · cases q
/-- a write into a place that is there -/
theorem cq_wrp_ok {b a : cq_A} {c : cq_C} {k : cq_Kd} {j : cq_F} {v : Value} {S' : cq_S} (hcel : cq_cel S b = some (c, k)) (q : cq_wrp m S c k j a = some S') (D : cq_Md m h0 ρ S h) (g : cq_g ρ a v) (hj : 0 ≤ cq_e ρ j) (hlt : (cq_e ρ j).toNat < (h.2.2.1 (cq_ce ρ c)).2.2) : cq_Md m h0 ρ S' (am_put h (cq_ce ρ c) (cq_e ρ j).toNat v) := by
  unfold cq_wrp at q
  rw [cond_eq_ite] at q
  split at q
  · rename_i hu
    rw [← Option.some.inj q]
    unfold cq_isU at hu
    split at hu
    · rename_i x hx
      have hu := (Bool.and_eq_true _ _ ▸ hu)
      have e1 := am_beq hu.2
      have ec : cq_ce ρ c = (ρ x.1).toNat := by unfold cq_ce; rw [hu.1, e1]; rfl
      obtain ⟨u1, u2⟩ := D.U x hx
      have hl : cq_ce ρ c < h.1 := by
        rcases cq_cel_c hcel with ⟨-, hs⟩ | ⟨z, -⟩ | ⟨z, -⟩ | ⟨z, -⟩ | ⟨z, -⟩
        · obtain ⟨p1, p2, -⟩ := cq_sk_ok D hs
          rw [ec, e1]
          obtain ⟨t, y, w⟩ := k
          rcases t with _ | _ | t
          · exact p2.2.1
          · exact p2.2.1
          · have := p2.2
            have := D.I.lo
            omega
        · rw [hu.1] at z; cases z
        · rw [z] at hu; cases hu.1
        · rw [hu.1] at z; cases z
        · rw [hu.1] at z; cases z
      refine cq_dis_ok (cq_Md_put D hj g ?_ ?_)
      · refine cq_Inv_put D.I (by omega) hl ?_ (fun z => by omega) (fun z => by omega) (fun z => by omega) (fun z => by omega) (by omega)
        intro z
        rw [hx] at z
        exact absurd (by rw [ec]; rfl) z
      · exact cq_Fr_put D.F (fun z => by omega)
    · cases hu
  · rename_i hu
    rw [cond_eq_ite] at q
    split at q
    · rename_i hb
      rw [← Option.some.inj q]
      have b1 := (Bool.and_eq_true _ _ ▸ hb)
      have b2 := (Bool.and_eq_true _ _ ▸ b1.1)
      have b3 := (Bool.and_eq_true _ _ ▸ b2.1)
      have hg := b3.2
      have hn := b2.2
      have ht := cq_ck_ok b1.2 D g hj
      rcases cq_cel_c hcel with ⟨c1, hs⟩ | ⟨c1, r1, r2, hf⟩ | ⟨c1, k1⟩ | ⟨c1, r1, r2, k1⟩ | ⟨c1, k1⟩
      · obtain ⟨p1, p2, -⟩ := cq_sk_ok D hs
        have ec : cq_ce ρ c = (ρ c.2).toNat := by unfold cq_ce; rw [c1]; rfl
        unfold cq_gd at hg
        rw [c1] at hg
        simp only [cond_true] at hg
        have hg2 := (Bool.and_eq_true _ _ ▸ hg)
        have hg := hg2.1
        have h130 := cq_k130 p2 hg
        have hl : cq_ce ρ c < h.1 := by
          rw [ec]
          obtain ⟨t, y, w⟩ := k
          rcases t with _ | _ | t
          · exact p2.2.1
          · exact p2.2.1
          · cases hg
        refine cq_Md_put D hj g ?_ (cq_Fr_put D.F fun z => cq_mw_ok hcel D hg b3.1 hj z (fun _ => hs))
        refine cq_Inv_put D.I (by omega) hl (fun nx => ?_) (fun z => by omega) (fun z => by omega) (fun z => by omega) (fun z => by omega) (by omega)
        have bl : Nat.blt (cq_ce ρ c) 130 = false := by
          cases hh : Nat.blt (cq_ce ρ c) 130 with
          | false => rfl
          | true => have : cq_ce ρ c < 130 := Nat.le_of_ble_eq_true hh; omega
        have et : cq_tyOf (cq_ce ρ c) (h.2.2.1 (cq_ce ρ c)) (cq_e ρ j).toNat = cq_pt c k j := by
          unfold cq_tyOf cq_pt
          rw [bl, c1]
          simp only [cond_false, cond_true]
          obtain ⟨t, y, w⟩ := k
          rcases t with _ | _ | t
          · rw [ec, p2.2.2]
            have hk : cq_k j = true := by
              rcases Bool.or_eq_true _ _ ▸ hg2.2 with z | z
              · cases z
              · exact z
            rw [cq_k_e hk]
          · rw [ec, p2.2.2.1, p2.2.2.2.1]
            rfl
          · cases hg
        rw [et]
        exact ht
      · have ec : cq_ce ρ c = c.2 := by unfold cq_ce; rw [c1]; rfl
        have ef := D.I.fx c.2 r1 r2
        unfold cq_gd at hg
        rw [c1] at hg
        simp only [cond_false] at hg
        have g0 := (Bool.and_eq_true _ _ ▸ hg)
        have g1 := (Bool.and_eq_true _ _ ▸ g0.1)
        have g2 := (Bool.and_eq_true _ _ ▸ g1.1)
        have g3 := (Bool.and_eq_true _ _ ▸ g2.1)
        have g4 := (Bool.and_eq_true _ _ ▸ g3.1)
        have hk1 : Nat.ble k.1 1 = true := by
          rcases hf with ⟨-, z⟩ | ⟨-, z⟩
          · rw [z]; rfl
          · rw [z]; rfl
        have hl : cq_ce ρ c < h.1 := by rw [ec]; exact Nat.lt_of_lt_of_le r2 D.I.lo
        refine cq_Md_put D hj g ?_ (cq_Fr_put D.F fun z => cq_mw_ok hcel D hk1 b3.1 hj z (fun z => by rw [c1] at z; cases z))
        have ej : cq_k j = true → (cq_e ρ j).toNat = j.1.toNat := fun z => by rw [cq_k_e z]
        refine cq_Inv_put D.I (by omega) hl (fun nx => ?_) (fun z1 z2 => ?_) (fun z1 z2 => ?_) (fun z => ?_) (fun z => ?_) (fun z => by
          rw [ec] at z
          have := cq_nb g0.2
          rw [z] at this
          cases this)
        · have bl : Nat.blt c.2 130 = true := Nat.ble_eq_true_of_le r2
          have et : cq_tyOf (cq_ce ρ c) (h.2.2.1 (cq_ce ρ c)) (cq_e ρ j).toNat = cq_pt c k j := by
            unfold cq_tyOf cq_pt
            rw [ec, bl, c1]
            simp only [cond_false, cond_true]
            rcases hf with ⟨f0, z⟩ | ⟨f1, z⟩
            · subst z
              have hk : cq_k j = true := by
                rcases Bool.or_eq_true _ _ ▸ g4.2 with z | z
                · cases z
                · exact z
              rw [ej hk]
              unfold cq_ty cq_isA
              rw [f0]
              rfl
            · subst z
              have isA : cq_isA c.2 = true := by unfold cq_isA; rw [f1]; rfl
              show cq_ty c.2 (cq_e ρ j).toNat = bif cq_k j then cq_ty c.2 j.1.toNat else cq_ar c.2
              cases hk : cq_k j with
              | true => rw [ej hk]; rfl
              | false =>
                have : (Nat.beq c.2 81 || Nat.beq c.2 83) = false := by
                  rcases Bool.or_eq_true _ _ ▸ g3.2 with z | z
                  · exact cq_nb z
                  · rw [hk] at z; cases z
                unfold cq_ty
                rw [isA, this]
                rfl
          rw [et]
          exact ht
        · rw [ec] at z1
          unfold cq_cnk at hn
          rw [c1, z1] at hn
          have kj : cq_k j = true := by
            rcases Bool.or_eq_true _ _ ▸ g4.2 with z | z
            · exfalso
              rcases hf with ⟨-, y⟩ | ⟨y, -⟩
              · rw [y] at z; cases z
              · rw [z1] at y
                have : (cq_fix 40).1 = 0 := by decide +kernel
                omega
            · exact z
          have e13 : cq_ieq j.1 13 = true := by
            have := cq_k_e kj ρ
            have : j.1 = 13 := by omega
            rw [this]
            rfl
          rw [kj, e13] at hn
          exact cq_cn1_ok hn D g
        · rw [ec] at z1
          unfold cq_cnk at hn
          rw [c1, z1] at hn
          have kj : cq_k j = true := by
            rcases Bool.or_eq_true _ _ ▸ g4.2 with z | z
            · exfalso
              rcases hf with ⟨-, y⟩ | ⟨y, -⟩
              · rw [y] at z; cases z
              · rw [z1] at y
                have : (cq_fix 48).1 = 0 := by decide +kernel
                omega
            · exact z
          have e13 : cq_ieq j.1 1 = true := by
            have := cq_k_e kj ρ
            have : j.1 = 1 := by omega
            rw [this]
            rfl
          rw [kj, e13] at hn
          exact cq_cn1_ok hn D g
        · rw [ec] at z
          rcases Bool.or_eq_true _ _ ▸ g2.2 with y | y
          · rw [z] at y; cases y
          · have := cq_en_ok D.P y
            rw [cq_ac_e] at this
            omega
        · rw [ec] at z
          rcases Bool.or_eq_true _ _ ▸ g1.2 with y | y
          · rw [z] at y; cases y
          · have := cq_en_ok D.P y
            rw [cq_ac_e] at this
            omega
      · exfalso
        unfold cq_gd at hg
        rw [c1] at hg
        cases hg
      · exfalso
        unfold cq_gd at hg
        rw [c1] at hg
        simp only [cond_false] at hg
        have g0 := (Bool.and_eq_true _ _ ▸ hg)
        have g1 := (Bool.and_eq_true _ _ ▸ g0.1)
        have g2 := (Bool.and_eq_true _ _ ▸ g1.1)
        have g3 := (Bool.and_eq_true _ _ ▸ g2.1)
        have g4 := (Bool.and_eq_true _ _ ▸ g3.1)
        have := Nat.le_of_ble_eq_true g4.1
        omega
      · exfalso
        unfold cq_ck at b1
        have b5 := b1.2
        unfold cq_gd at hg
        rw [c1] at hg
        simp only [cond_false] at hg
        have g0 := (Bool.and_eq_true _ _ ▸ hg)
        have g1 := (Bool.and_eq_true _ _ ▸ g0.1)
        have g2 := (Bool.and_eq_true _ _ ▸ g1.1)
        have g3 := (Bool.and_eq_true _ _ ▸ g2.1)
        have g4 := (Bool.and_eq_true _ _ ▸ g3.1)
        have h40 := Nat.le_of_ble_eq_true g4.1
        exact cq_cel_str hcel c1 k1 h40
    · cases q
end CSD
