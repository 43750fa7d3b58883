/-! THE CHECKER, 15: a write, and what must be looked at -/
def cq_mw (m : cq_W) (c : cq_C) (k : cq_Kd) (j : cq_F) : Bool := m.any fun w => bif c.1 then w.1 && Nat.beq w.2.1 k.1 && Nat.beq w.2.2.1 k.2.1 && (Nat.beq w.2.2.2 0 || (cq_k j && Nat.beq w.2.2.2 (j.1.toNat + 1))) else !w.1 && Nat.beq w.2.1 c.2 && (Nat.beq w.2.2.1 0 || (cq_k j && Nat.beq w.2.2.1 (j.1.toNat + 1)))
/-- a count's new value: the old one, or one more, if the element is there -/
def cq_cn1 (S : cq_S) (c i ar : Nat) (a : cq_A) : Bool := Nat.beq a.1 1 && (match cq_cT S c i with
  | some g => cq_k (cq_sub a.2.1 g) && (cq_z (cq_sub a.2.1 g).1 || (cq_ieq (cq_sub a.2.1 g).1 1 && (match cq_tl (false, ar) g S.T with
    | some (6, _, s) => (cq_sk S s).isSome
    | _ => false)))
  | none => false)
def cq_cnk (S : cq_S) (c : cq_C) (j : cq_F) (a : cq_A) : Bool := bif c.1 then true else bif Nat.beq c.2 40 && cq_k j && cq_ieq j.1 13 then cq_cn1 S 40 13 74 a else bif Nat.beq c.2 48 && cq_k j && cq_ieq j.1 1 then cq_cn1 S 48 1 49 a else true
def cq_gd (S : cq_S) (c : cq_C) (k : cq_Kd) (j : cq_F) : Bool := bif c.1 then Nat.ble k.1 1 && (Nat.beq k.1 1 || cq_k j) else Nat.ble 40 c.2 && (Nat.beq k.1 1 || cq_k j) && (!(Nat.beq c.2 81 || Nat.beq c.2 83) || cq_k j) && (!Nat.beq c.2 93 || cq_en S.P (cq_ac j (-120))) && (!Nat.beq c.2 96 || cq_en S.P (cq_ac j (-3600))) && !Nat.beq c.2 92
def cq_S.sU (S : cq_S) (U : Option (Nat × Nat)) : cq_S := cq_mk S.n S.P S.N S.K S.W S.T S.L S.M U S.ac S.al
/-- is the object under making made -/
def cq_dOk (S : cq_S) (s ci : Nat) : Bool := (match cq_sk S s with
      | some (0, ci', _) => Nat.beq ci' ci
      | _ => false) && (List.range (am_N ci)).all (fun j => match cq_tl (true, s) (cq_c j) S.T with
      | some a => cq_ck S (cq_cl ci j) (cq_c j) a
      | none => false)
def cq_dis (S : cq_S) : cq_S := match S.U with
  | some (s, ci) => bif cq_dOk S s ci then S.sU none else S
  | none => S
def cq_wrp (m : cq_W) (S : cq_S) (c : cq_C) (k : cq_Kd) (j : cq_F) (a : cq_A) : Option cq_S :=
  bif cq_isU S c then some (cq_dis (S.sT ((c, j, a) :: S.T.filter (cq_kp S c j))))
  else bif cq_mw m c k j && cq_gd S c k j && cq_cnk S c j a && cq_ck S (cq_pt c k j) j a then some (S.sT ((c, j, a) :: S.T.filter (cq_kp S c j)))
  else none
section CSC
variable {m : cq_W} {h0 : am_H} {ρ : Nat → Int} {S : cq_S} {h : am_H}
theorem cq_dis_ok (D : cq_Md m h0 ρ S h) : cq_Md m h0 ρ (cq_dis S) h := by
  unfold cq_dis
  split
  · rename_i s ci hu
    cases hb : cq_dOk S s ci with
    | false => exact D
    | true =>
      have hb := (Bool.and_eq_true _ _ ▸ hb)
      have hk := hb.1
      split at hk
      · rename_i ci' z hs
        have e := am_beq hk
        subst e
        obtain ⟨p1, p2, p3⟩ := cq_sk_ok D hs
        refine ⟨D.1, D.2.1, D.2.2.1, D.2.2.2.1, D.2.2.2.2.1, D.2.2.2.2.2.1, D.2.2.2.2.2.2.1, ?_, D.2.2.2.2.2.2.2.2.1, D.2.2.2.2.2.2.2.2.2.1, fun q hq => by cases hq⟩
        have I := D.I
        refine ⟨I.lo, I.fx, I.sv, I.sc, I.dy, ?_, I.sx⟩
        intro c b1 b2 _ j hj
        by_cases e : c = (ρ s).toNat
        · subst e
          obtain ⟨k1, k2, k3⟩ := p2
          rw [k3] at hj
          have ha := List.all_eq_true.1 hb.2 j (List.mem_range.2 hj)
          split at ha
          · rename_i a hT
            have g := D.T _ (cq_tl_ok hT)
            dsimp only at g
            have ej : cq_e ρ (cq_c (j : Int)) = j := cq_c_e ρ j
            have z := cq_ck_ok ha D g (by rw [ej]; exact Int.natCast_nonneg j)
            rw [ej, Int.toNat_natCast] at z
            have et2 : cq_tyOf (ρ s).toNat (h.2.2.1 (ρ s).toNat) j = cq_cl ci' j := by
              unfold cq_tyOf
              have : Nat.blt (ρ s).toNat 130 = false := by
                cases hh : Nat.blt (ρ s).toNat 130 with
                | false => rfl
                | true => have : (ρ s).toNat < 130 := Nat.le_of_ble_eq_true hh; omega
              rw [this, k3]
              rfl
            rw [et2]
            exact z
          · cases ha
        · refine I.ty c b1 b2 ?_ j hj
          rw [hu]
          intro z
          exact e (Option.some.inj z)
      · cases hk
  · exact D
theorem cq_cn1_ok {c i ar : Nat} {a : cq_A} {v : Value} {lim : Nat} (q : cq_cn1 S c i ar a = true) (D : cq_Md m h0 ρ S h) (g : cq_g ρ a v) : ∃ x : Int32, v = .int x ∧ cq_n h c i ≤ x.toInt ∧ ∀ i' : Nat, i' < x.toInt → i' < lim → cq_n h c i ≤ i' → h.2.2.2 ar i' ≠ .null := by
  have q := (Bool.and_eq_true _ _ ▸ q)
  rw [cq_tag q.1] at g
  obtain ⟨x, ex, hx⟩ := g
  have q2 := q.2
  split at q2
  · rename_i f hf
    obtain ⟨n1, -⟩ := cq_cT_ok hf D
    have q2 := (Bool.and_eq_true _ _ ▸ q2)
    have e := cq_k_e q2.1 ρ
    rw [cq_sub_e] at e
    refine ⟨x, ex, ?_⟩
    rcases Bool.or_eq_true _ _ ▸ q2.2 with z | z
    · have := cq_z_eq z
      refine ⟨by rw [n1, hx]; omega, fun i' l1 _ l2 => ?_⟩
      rw [n1] at l2
      rw [hx] at l1
      omega
    · have z := (Bool.and_eq_true _ _ ▸ z)
      have e1 := cq_z_eq z.1
      refine ⟨by rw [n1, hx]; omega, fun i' l1 _ l2 => ?_⟩
      rw [n1] at l2
      rw [hx] at l1
      have ei : cq_e ρ f = (i' : Int) := by omega
      have q3 := z.2
      split at q3
      · rename_i y s hT
        have g2 := D.T _ (cq_tl_ok hT)
        dsimp only at g2
        rw [ei, Int.toNat_natCast] at g2
        cases hs : cq_sk S s with
        | none => rw [hs] at q3; cases q3
        | some kd =>
          obtain ⟨p1, -, -⟩ := cq_sk_ok D hs
          have g2 : (ρ s < 0 ∧ h.2.2.2 ar i' = .null) ∨ (0 ≤ ρ s ∧ h.2.2.2 ar i' = .ref (ρ s).toNat) := g2
          rcases g2 with ⟨g3, -⟩ | ⟨-, g3⟩
          · omega
          · rw [g3]; exact fun z => by cases z
      · cases q3
  · cases q2
theorem cq_Fr_put {c j : Nat} {v : Value} (F : cq_Fr m h0 h) (hw : c < h0.1 → cq_inW m c (h0.2.2.1 c) j = true) : cq_Fr m h0 (am_put h c j v) := by
  refine ⟨F.nx, F.sh, fun a ha b hb => ?_⟩
  rw [cq_put_ne]
  · exact F.vl a ha b hb
  · by_cases e : a = c ∧ b = j
    · obtain ⟨e1, e2⟩ := e
      subst e1
      subst e2
      rw [hw ha] at hb
      cases hb
    · omega
/-- the parts of a store that a write leaves -/
theorem cq_Md_put {c : cq_C} {j : cq_F} {a : cq_A} {v : Value} (D : cq_Md m h0 ρ S h) (hj : 0 ≤ cq_e ρ j) (g : cq_g ρ a v) (hI : cq_Inv (S.U.map fun q => (ρ q.1).toNat) (am_put h (cq_ce ρ c) (cq_e ρ j).toNat v)) (hF : cq_Fr m h0 (am_put h (cq_ce ρ c) (cq_e ρ j).toNat v)) : cq_Md m h0 ρ (S.sT ((c, j, a) :: S.T.filter (cq_kp S c j))) (am_put h (cq_ce ρ c) (cq_e ρ j).toNat v) := by
  refine ⟨D.1, D.2.1, fun x hx hp => cq_kOk_put.2 (D.K x hx hp), D.2.2.2.1, cq_kp_ok D hj g, D.2.2.2.2.2.1, D.2.2.2.2.2.2.1, hI, hF, D.2.2.2.2.2.2.2.2.2⟩
theorem cq_mw_ok {b : cq_A} {c : cq_C} {k : cq_Kd} {j : cq_F} (hcel : cq_cel S b = some (c, k)) (D : cq_Md m h0 ρ S h) (hk : Nat.ble k.1 1 = true) (q : cq_mw m c k j = true) (hj : 0 ≤ cq_e ρ j) (hlt : cq_ce ρ c < h0.1) (hc : c.1 = true → cq_sk S c.2 = some k) : cq_inW m (cq_ce ρ c) (h0.2.2.1 (cq_ce ρ c)) (cq_e ρ j).toNat = true := by
  obtain ⟨w, hw, q⟩ := List.any_eq_true.1 q
  refine List.any_eq_true.2 ⟨w, hw, ?_⟩
  have ej : cq_k j = true → j.1.toNat = (cq_e ρ j).toNat := fun z => by rw [cq_k_e z]
  cases c1 : c.1 with
  | true =>
    rw [c1] at q
    simp only [cond_true] at q
    have q1 := (Bool.and_eq_true _ _ ▸ q)
    have q2 := (Bool.and_eq_true _ _ ▸ q1.1)
    have q3 := (Bool.and_eq_true _ _ ▸ q2.1)
    obtain ⟨p1, p2, -⟩ := cq_sk_ok D (hc c1)
    have ec : cq_ce ρ c = (ρ c.2).toNat := by unfold cq_ce; rw [c1]; rfl
    rw [ec] at hlt ⊢
    have es := D.F.sh _ hlt
    have h130 := cq_k130 p2 hk
    have sh : (h.2.2.1 (ρ c.2).toNat).1 = k.1 ∧ (h.2.2.1 (ρ c.2).toNat).2.1 = k.2.1 := by
      obtain ⟨t, x, y⟩ := k
      rcases t with _ | _ | t
      · rw [p2.2.2]; exact ⟨rfl, rfl⟩
      · exact ⟨p2.2.2.1, p2.2.2.2.1⟩
      · cases hk
    rw [q3.1]
    simp only [cond_true]
    rw [← es, sh.1, sh.2, q3.2, q2.2, show Nat.ble 130 (ρ c.2).toNat = true from Nat.ble_eq_true_of_le h130]
    simp only [Bool.true_and]
    rcases Bool.or_eq_true _ _ ▸ q1.2 with z | z
    · rw [z]; rfl
    · have z := (Bool.and_eq_true _ _ ▸ z)
      rw [ej z.1] at z
      rw [z.2, Bool.or_true]
  | false =>
    rw [c1] at q
    simp only [cond_false] at q
    have q1 := (Bool.and_eq_true _ _ ▸ q)
    have q2 := (Bool.and_eq_true _ _ ▸ q1.1)
    have ec : cq_ce ρ c = c.2 := by unfold cq_ce; rw [c1]; rfl
    rw [ec]
    have w1 := cq_nb q2.1
    rw [w1]
    simp only [cond_false]
    rw [q2.2]
    simp only [Bool.true_and]
    rcases Bool.or_eq_true _ _ ▸ q1.2 with z | z
    · rw [z]; rfl
    · have z := (Bool.and_eq_true _ _ ▸ z)
      rw [ej z.1] at z
      rw [z.2, Bool.or_true]
end CSC
