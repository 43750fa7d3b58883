/-! THE CHECKER, 21: a row is copied -/
def cq_iA (t : cq_T) : Bool := Nat.beq t.1 1 && cq_ieq t.2.1 (-2147483648) && cq_ieq t.2.2.1 2147483647
def cq_sA (ka n : Nat) : Bool := (Nat.ble 1 ka && Nat.blt ka 7 && Nat.ble n 7) || (Nat.ble 40 ka && Nat.blt ka 130 && Nat.beq (cq_fix ka).1 1 && Nat.beq (cq_fix ka).2.1 0 && Nat.ble n (cq_fix ka).2.2 && cq_iA (cq_ar ka) && !(Nat.beq ka 81 || Nat.beq ka 83))
def cq_sB (kb n : Nat) : Bool := Nat.ble 40 kb && Nat.blt kb 130 && Nat.beq (cq_fix kb).1 1 && Nat.beq (cq_fix kb).2.1 0 && Nat.ble n (cq_fix kb).2.2 && cq_iA (cq_ar kb) && !(Nat.beq kb 81 || Nat.beq kb 83 || Nat.beq kb 93 || Nat.beq kb 92)
def cq_acp (m : cq_W) (pc' : Nat) (ls st : List cq_A) (S : cq_S) : Option (List cq_O) := match st with
  | (1, n, _) :: (1, dp, _) :: (5, _, kb) :: (1, sp, _) :: (5, _, ka) :: r => bif cq_c8 r && cq_k n && cq_k dp && cq_k sp && cq_p n.1 && cq_p dp.1 && cq_p sp.1 && cq_sA ka (sp.1.toNat + n.1.toNat) && cq_sB kb (dp.1.toNat + n.1.toNat) && m.any (fun w => !w.1 && Nat.beq w.2.1 kb && Nat.beq w.2.2.1 0) then some [(pc', ls, r, S.sT (S.T.filter fun q => cq_cdf S (false, kb) q.1))] else none
  | _ => none
section CTD
variable {m : cq_W} {h0 : am_H} {ρ : Nat → Int} {S : cq_S} {h : am_H} {als ast : List cq_A} {ls st : List Value} {out : List cq_O} {e : am_E} {pc pc' : Nat}
theorem cq_iA_ok {t : cq_T} (q : cq_iA t = true) {h : am_H} {j : Nat} {v : Value} : cq_ht h j t v ↔ ∃ x : Int32, v = .int x := by
  have q1 := (Bool.and_eq_true _ _ ▸ q)
  have q2 := (Bool.and_eq_true _ _ ▸ q1.1)
  obtain ⟨t1, l, u, r⟩ := t
  have e1 := am_beq q2.1
  have e2 := cq_z_eq q2.2
  have e3 := cq_z_eq q1.2
  dsimp only at e1 e2 e3
  subst e1
  constructor
  · rintro ⟨x, ex, -, -⟩
    exact ⟨x, ex⟩
  · rintro ⟨x, ex⟩
    have b1 := x.le_toInt
    have b2 := x.toInt_lt
    exact ⟨x, ex, by omega, by omega⟩
theorem cq_Inv_row {x : Option Nat} (I : cq_Inv x h) {b : Nat} {dd : Nat → Value} (h1 : 40 ≤ b) (h2 : b < 130) (hf : (cq_fix b).1 = 1) (hA : cq_iA (cq_ar b) = true) (hn : b ≠ 81 ∧ b ≠ 83 ∧ b ≠ 93 ∧ b ≠ 96) (hn2 : b ≠ 92) (hd : ∀ j, j < (cq_fix b).2.2 → ∃ y : Int32, dd j = .int y) : cq_Inv x (h.1, h.2.1, h.2.2.1, am_row h.2.2.2 b dd) := by
  have vv : ∀ c j, c ≠ b → am_row h.2.2.2 b dd c j = h.2.2.2 c j := fun c j z => by
    show (if c = b then dd j else h.2.2.2 c j) = _
    rw [if_neg z]
  have nb : ∀ c, (cq_fix c).1 = 0 → c ≠ b := fun c z w => by
    subst w
    omega
  have n40 : (40 : Nat) ≠ b := nb 40 (by decide +kernel)
  have n48 : (48 : Nat) ≠ b := nb 48 (by decide +kernel)
  have nn : ∀ c j, c ≠ b → cq_n (h.1, h.2.1, h.2.2.1, am_row h.2.2.2 b dd) c j = cq_n h c j := fun c j z => by
    unfold cq_n
    dsimp only
    rw [vv c j z]
  have kk : ∀ a k, cq_kOk h a k → cq_kOk (h.1, h.2.1, h.2.2.1, am_row h.2.2.2 b dd) a k := fun a k q => by
    obtain ⟨t, y, z⟩ := k
    rcases t with _ | _ | t <;> exact q
  have G : cq_gr h (h.1, h.2.1, h.2.2.1, am_row h.2.2.2 b dd) := ⟨kk, by rw [nn 40 13 n40]; exact Int.le_refl _⟩
  refine ⟨I.lo, I.fx, fun c b1 b2 => ⟨(I.sv c b1 b2).1, fun j hj => ?_⟩, ⟨I.sc.1, I.sc.2.1, I.sc.2.2.1, fun j hj => ?_⟩, I.dy, fun c b1 b2 nx j hj => ?_, fun t htt => ?_⟩
  · show am_row h.2.2.2 b dd c j = _
    rw [vv c j (by omega)]
    exact (I.sv c b1 b2).2 j hj
  · show ∃ v : Int32, am_row h.2.2.2 b dd 0 j = .int v
    rw [vv 0 j (by omega)]
    exact I.sc.2.2.2 j hj
  · show cq_ht _ j (cq_tyOf c (h.2.2.1 c) j) (am_row h.2.2.2 b dd c j)
    replace hj : j < (h.2.2.1 c).2.2 := hj
    replace b2 : c < h.1 := b2
    by_cases ec : c = b
    · subst ec
      have er : am_row h.2.2.2 c dd c j = dd j := if_pos rfl
      rw [er]
      have bl : Nat.blt c 130 = true := Nat.ble_eq_true_of_le h2
      have et : cq_tyOf c (h.2.2.1 c) j = cq_ar c := by
        unfold cq_tyOf cq_ty cq_isA
        rw [bl, hf]
        have e1 : Nat.beq c 81 = false := by
          cases hh : Nat.beq c 81 with
          | false => rfl
          | true => exact absurd (am_beq hh) hn.1
        have e2 : Nat.beq c 83 = false := by
          cases hh : Nat.beq c 83 with
          | false => rfl
          | true => exact absurd (am_beq hh) hn.2.1
        rw [e1, e2]
        rfl
      rw [et]
      rw [I.fx c b1 h2] at hj
      exact (cq_iA_ok hA).2 (hd j hj)
    · rw [vv c j ec]
      refine cq_ht_gr G (fun t11 ev hle => ?_) (I.ty c b1 b2 nx j hj)
      have h11 := cq_tyOf11 I b1 b2 hj
      rcases cq_pre11_c h11 t11 with ⟨z1, z2⟩ | ⟨z1, z2⟩
      · rw [z1, z2] at hle ⊢
        rw [nn 40 13 n40]
        exact hle
      · rw [z1, z2] at hle ⊢
        rw [nn 48 1 n48]
        exact hle
  · rw [nn 93 t (fun z => hn.2.2.1 z.symm), nn 92 (t / 3) (fun z => hn2 z.symm)]
    show (_ → am_row h.2.2.2 b dd 96 (30 * t) = _) ∧ _
    rw [vv 96 _ (fun z => hn.2.2.2 z.symm)]
    exact I.sx t htt
theorem cq_acp_ok (H : cq_Rb m h0 ρ S als ast ls st h) (q : cq_acp m pc' als ast S = some out) : ∃ (n dp sp : Int32) (a b : Nat) (rs : List Value) (h2 : am_H), st = .int n :: .int dp :: .ref b :: .int sp :: .ref a :: rs ∧ am_cs rs ≤ 8 ∧ am_cp h a sp b dp n = some h2 ∧ cq_Res m h0 ρ S.n out (some (pc', ls, rs, h2)) := by
  unfold cq_acp at q
  split at q
  · rename_i n k1 dp k2 f3 kb sp k4 f5 ka r
    rw [cond_eq_ite] at q
    split at q
    · rename_i hb
      rw [← Option.some.inj q]
      have b1 := (Bool.and_eq_true _ _ ▸ hb)
      have b2 := (Bool.and_eq_true _ _ ▸ b1.1)
      have b3 := (Bool.and_eq_true _ _ ▸ b2.1)
      have b4 := (Bool.and_eq_true _ _ ▸ b3.1)
      have b5 := (Bool.and_eq_true _ _ ▸ b4.1)
      have b6 := (Bool.and_eq_true _ _ ▸ b5.1)
      have b7 := (Bool.and_eq_true _ _ ▸ b6.1)
      have b8 := (Bool.and_eq_true _ _ ▸ b7.1)
      have b9 := (Bool.and_eq_true _ _ ▸ b8.1)
      obtain ⟨v, rs, es, K1, H1⟩ := cq_pop1 H
      subst es
      obtain ⟨xn, ex, hn⟩ := cq_int K1
      subst ex
      obtain ⟨v, rs, es, K2, H2⟩ := cq_pop1 H1
      subst es
      obtain ⟨xd, ex, hd⟩ := cq_int K2
      subst ex
      obtain ⟨v, rs, es, K3, H3⟩ := cq_pop1 H2
      subst es
      have e3 : v = .ref kb := K3 ρ cq_ag.rf
      subst e3
      obtain ⟨v, rs, es, K4, H4⟩ := cq_pop1 H3
      subst es
      obtain ⟨xs, ex, hs⟩ := cq_int K4
      subst ex
      obtain ⟨v, rs, es, K5, H5⟩ := cq_pop1 H4
      subst es
      have e5 : v = .ref ka := K5 ρ cq_ag.rf
      subst e5
      have D := (H ρ cq_ag.rf).1
      have I := D.I
      have lo := I.lo
      have vn := hn ρ cq_ag.rf
      rw [cq_k_e b9.2] at vn
      have vd := hd ρ cq_ag.rf
      rw [cq_k_e b8.2] at vd
      have vs := hs ρ cq_ag.rf
      rw [cq_k_e b7.2] at vs
      have p1 := cq_p_le b6.2
      have p2 := cq_p_le b5.2
      have p3 := cq_p_le b4.2
      have cast : ∀ x : Int32, 0 ≤ x.toInt → ¬ x < 0 ∧ x.toInt = (x.toNatClampNeg : Int) := fun x hx => by
        refine ⟨fun z => ?_, (Int32.cast_toNatClampNeg x (by rw [Int32.le_iff_toInt_le, cq_i0]; omega)).symm⟩
        have := Int32.lt_iff_toInt_lt.1 z
        rw [cq_i0] at this
        omega
      obtain ⟨n1, n2⟩ := cast xn (by omega)
      obtain ⟨d1, d2⟩ := cast xd (by omega)
      obtain ⟨s1, s2⟩ := cast xs (by omega)
      -- the target
      have t0 := b2.2
      have t1 := (Bool.and_eq_true _ _ ▸ t0)
      have t2 := (Bool.and_eq_true _ _ ▸ t1.1)
      have t3 := (Bool.and_eq_true _ _ ▸ t2.1)
      have t4 := (Bool.and_eq_true _ _ ▸ t3.1)
      have t5 := (Bool.and_eq_true _ _ ▸ t4.1)
      have t6 := (Bool.and_eq_true _ _ ▸ t5.1)
      have kb1 := Nat.le_of_ble_eq_true t6.1
      have kb2 : kb < 130 := Nat.le_of_ble_eq_true t6.2
      have kf1 := am_beq t5.2
      have kf2 := am_beq t4.2
      have klen := Nat.le_of_ble_eq_true t3.2
      have kne := cq_nb t1.2
      have fB := I.fx kb kb1 kb2
      -- the source
      have src : (Nat.beq (h.2.2.1 ka).1 1 || Nat.beq (h.2.2.1 ka).1 2) = true ∧ ka < h.1 ∧ (h.2.2.1 ka).2.1 = 0 ∧ sp.1.toNat + n.1.toNat ≤ (h.2.2.1 ka).2.2 ∧ ∀ j, j < (h.2.2.1 ka).2.2 → ∃ y : Int32, h.2.2.2 ka j = .int y := by
        have hA := b3.2
        rcases Bool.or_eq_true _ _ ▸ hA with z | z
        · have z1 := (Bool.and_eq_true _ _ ▸ z)
          have z2 := (Bool.and_eq_true _ _ ▸ z1.1)
          have a1 := Nat.le_of_ble_eq_true z2.1
          have a2 : ka < 7 := Nat.le_of_ble_eq_true z2.2
          obtain ⟨q1, q2⟩ := I.sv ka a1 a2
          rw [q1]
          exact ⟨rfl, by omega, rfl, Nat.le_of_ble_eq_true z1.2, fun j hj => ⟨_, q2 j hj⟩⟩
        · have z1 := (Bool.and_eq_true _ _ ▸ z)
          have z2 := (Bool.and_eq_true _ _ ▸ z1.1)
          have z3 := (Bool.and_eq_true _ _ ▸ z2.1)
          have z4 := (Bool.and_eq_true _ _ ▸ z3.1)
          have z5 := (Bool.and_eq_true _ _ ▸ z4.1)
          have z6 := (Bool.and_eq_true _ _ ▸ z5.1)
          have a1 := Nat.le_of_ble_eq_true z6.1
          have a2 : ka < 130 := Nat.le_of_ble_eq_true z6.2
          have ef := I.fx ka a1 a2
          have f1 := am_beq z5.2
          refine ⟨by rw [ef, f1]; rfl, by omega, by rw [ef]; exact am_beq z4.2, by rw [ef]; exact Nat.le_of_ble_eq_true z3.2, fun j hj => ?_⟩
          have ht := I.ty ka a1 (by omega) (cq_nU D a2) j hj
          have bl : Nat.blt ka 130 = true := Nat.ble_eq_true_of_le a2
          have isA : cq_isA ka = true := by unfold cq_isA; rw [f1]; rfl
          have et : cq_tyOf ka (h.2.2.1 ka) j = cq_ty ka j := by
            unfold cq_tyOf
            rw [bl]
            rfl
          rw [et] at ht
          exact (cq_iA_ok z2.2).1 (cq_ar_ok isA ht)
      obtain ⟨c1, c2, c3, c4, c5⟩ := src
      let dd : Nat → Value := fun j => if xd.toNatClampNeg ≤ j ∧ j < xd.toNatClampNeg + xn.toNatClampNeg then h.2.2.2 ka (xs.toNatClampNeg + (j - xd.toNatClampNeg)) else h.2.2.2 kb j
      have ecp : am_cp h ka xs kb xd xn = some (h.1, h.2.1, h.2.2.1, am_row h.2.2.2 kb dd) := by
        unfold am_cp
        rw [show Nat.blt ka h.1 = true from Nat.ble_eq_true_of_le c2, c1, c3, show Nat.blt kb h.1 = true from Nat.ble_eq_true_of_le (by omega), fB, kf1, kf2]
        simp only [Nat.beq_refl, Bool.and_self, cond_true]
        rw [if_neg (fun z => by rcases z with z | z | z | z | z; exact s1 z; exact d1 z; exact n1 z; omega; omega)]
        have eall : ((List.range xn.toNatClampNeg).all fun i => am_isI (h.2.2.2 ka (xs.toNatClampNeg + i))) = true := by
          rw [List.all_eq_true]
          intro i hi
          have hi := List.mem_range.1 hi
          obtain ⟨y, ey⟩ := c5 (xs.toNatClampNeg + i) (by omega)
          rw [ey]
          rfl
        rw [eall]
        rfl
      have hne : kb ≠ 81 ∧ kb ≠ 83 ∧ kb ≠ 93 ∧ kb ≠ 96 := by
        refine ⟨fun z => ?_, fun z => ?_, fun z => ?_, fun z => ?_⟩
        · rw [z] at kne; cases kne
        · rw [z] at kne; cases kne
        · rw [z] at kne; cases kne
        · rw [z] at kf2
          have : (cq_fix 96).2.1 = 2 := by decide +kernel
          omega
      have hn2 : kb ≠ 92 := fun z => by rw [z] at kne; cases kne
      have fB2 : (h.2.2.1 kb).2.2 = (cq_fix kb).2.2 := by rw [fB]
      have hB5 : ∀ j, j < (cq_fix kb).2.2 → ∃ y : Int32, h.2.2.2 kb j = .int y := fun j hj => by
        have ht := I.ty kb kb1 (by omega) (cq_nU D kb2) j (by rw [fB2]; exact hj)
        have bl : Nat.blt kb 130 = true := Nat.ble_eq_true_of_le kb2
        have isA : cq_isA kb = true := by unfold cq_isA; rw [kf1]; rfl
        have et : cq_tyOf kb (h.2.2.1 kb) j = cq_ty kb j := by
          unfold cq_tyOf
          rw [bl]
          rfl
        rw [et] at ht
        exact (cq_iA_ok t2.2).1 (cq_ar_ok isA ht)
      have hdd : ∀ j, j < (cq_fix kb).2.2 → ∃ y : Int32, dd j = .int y := fun j hj => by
        show ∃ y : Int32, (if xd.toNatClampNeg ≤ j ∧ j < xd.toNatClampNeg + xn.toNatClampNeg then h.2.2.2 ka (xs.toNatClampNeg + (j - xd.toNatClampNeg)) else h.2.2.2 kb j) = .int y
        by_cases c : xd.toNatClampNeg ≤ j ∧ j < xd.toNatClampNeg + xn.toNatClampNeg
        · rw [if_pos c]
          exact c5 _ (by omega)
        · rw [if_neg c]
          exact hB5 j hj
      refine ⟨xn, xd, xs, ka, kb, rs, _, rfl, cq_c8_ok (H5 ρ cq_ag.rf).2.2 b9.1, ecp, cq_keep rfl fun ρ' a' => ⟨?_, (H5 ρ' a').2⟩⟩
      have D' := (H ρ' a').1
      refine ⟨D'.1, D'.2.1, fun x hx hp => ?_, D'.2.2.2.1, fun x hx => ?_, D'.2.2.2.2.2.1, D'.M, cq_Inv_row D'.I kb1 kb2 kf1 t2.2 hne hn2 hdd, ?_, D'.A, D'.U⟩
      · have := D'.K x hx hp
        obtain ⟨x1, t, y, z⟩ := x
        rcases t with _ | _ | t <;> exact this
      · obtain ⟨z1, z2⟩ := List.mem_filter.1 hx
        have := cq_cdf_ok D' z2
        have ev : am_row h.2.2.2 kb dd (cq_ce ρ' x.1) (cq_e ρ' x.2.1).toNat = h.2.2.2 (cq_ce ρ' x.1) (cq_e ρ' x.2.1).toNat := if_neg this
        show cq_g ρ' x.2.2 (am_row h.2.2.2 kb dd (cq_ce ρ' x.1) (cq_e ρ' x.2.1).toNat)
        rw [ev]
        exact D'.T x z1
      · have F := D'.F
        refine ⟨F.nx, F.sh, fun c hc j hj => ?_⟩
        by_cases ec : c = kb
        · exfalso
          obtain ⟨w, hw, qw⟩ := List.any_eq_true.1 b1.2
          have q1 := (Bool.and_eq_true _ _ ▸ qw)
          have q2 := (Bool.and_eq_true _ _ ▸ q1.1)
          have : cq_inW m c (h0.2.2.1 c) j = true := List.any_eq_true.2 ⟨w, hw, by
            rw [cq_nb q2.1, ec, q2.2, q1.2]
            rfl⟩
          rw [this] at hj
          cases hj
        · show am_row h.2.2.2 kb dd c j = _
          have ev : am_row h.2.2.2 kb dd c j = h.2.2.2 c j := if_neg ec
          rw [ev]
          exact F.vl c hc j hj
    · cases q
  · cases q
end CTD
