section
section CQV
variable {m : cq_W} {h0 : am_H} {ρ : Nat → Int} {S : cq_S} {als ast : List cq_A} {ls st : List Value} {h : am_H} {out : List cq_O} {e : am_E} {pc pc' : Nat}
theorem cq_pu_ok (H : cq_Rb m h0 ρ S als ast ls st h) (q : cq_pu e pc als ast S = some out) : cq_Res m h0 ρ S.n out (am_st e pc ls st h) := by
  unfold cq_pu at q
  split at q
  · -- aconst_null
    rename_i he
    rw [← Option.some.inj q]
    simp only [am_st, he]
    exact cq_push H fun ρ' a => rfl
  · rename_i n he
    simp only [cond_eq_ite] at q
    split at q
    · rename_i hk
      have hk := cq_k1_ok hk
      rw [← Option.some.inj q]
      simp only [am_st, he]
      exact cq_push H fun ρ' a => ⟨_, rfl, by rw [cq_c_e]; exact Int32.toInt_ofInt_of_le (by omega) (by omega)⟩
    · cases q
  · rename_i n he
    simp only [cond_eq_ite] at q
    split at q
    · rename_i hk
      have hk := cq_k1_ok hk
      rw [← Option.some.inj q]
      simp only [am_st, he]
      exact cq_push H fun ρ' a => ⟨_, rfl, by rw [cq_c_e, Int8.toInt_toInt32]; exact Int8.toInt_ofInt_of_le (by omega) (by omega)⟩
    · cases q
  · rename_i n he
    simp only [cond_eq_ite] at q
    split at q
    · rename_i hk
      have hk := cq_k1_ok hk
      rw [← Option.some.inj q]
      simp only [am_st, he]
      exact cq_push H fun ρ' a => ⟨_, rfl, by rw [cq_c_e, Int16.toInt_toInt32]; exact Int16.toInt_ofInt_of_le (by omega) (by omega)⟩
    · cases q
  · rename_i n he
    simp only [cond_eq_ite] at q
    split at q
    · rename_i hk
      have hk : (n : Nat) < 100 := Nat.le_of_ble_eq_true hk
      rw [← Option.some.inj q]
      simp only [am_st, he]
      exact cq_push H fun ρ' a => ⟨_, rfl, by rw [cq_c_e]; exact Int64.toInt_ofNat_of_lt (by omega)⟩
    · cases q
  · rename_i n he
    simp only [cond_eq_ite] at q
    split at q
    · rename_i hk
      rw [← Option.some.inj q]
      simp only [am_st, he, cond_eq_ite, if_pos hk]
      exact cq_push H fun ρ' a => ⟨_, rfl, by rw [cq_c_e]; exact Int32.toInt_ofNat'⟩
    · cases q
  · rename_i n he
    simp only [cond_eq_ite] at q
    split at q
    · rename_i hk
      rw [← Option.some.inj q]
      simp only [am_st, he, cond_eq_ite, if_pos hk]
      exact cq_push H fun ρ' a => ⟨_, rfl, by rw [cq_c_e]; exact Int32.toInt_ofNat'⟩
    · cases q
  · rename_i n he
    rw [← Option.some.inj q]
    simp only [am_st, he]
    exact cq_push H fun ρ' a => ⟨_, rfl, by rw [cq_c_e]; exact Int64.toInt_ofNat'⟩
  · rename_i n he
    rw [← Option.some.inj q]
    simp only [am_st, he]
    exact cq_push H fun ρ' a => rfl
  · rename_i i he
    obtain ⟨a, v, -, hv, ht, K, R⟩ := cq_ld_ok H q
    obtain ⟨x, ex⟩ := cq_tI_ok ht (K ρ cq_ag.rf)
    subst ex
    simp only [am_st, he, hv]
    exact R
  · rename_i i he
    obtain ⟨a, v, -, hv, ht, K, R⟩ := cq_ld_ok H q
    obtain ⟨x, ex⟩ := cq_tI_ok ht (K ρ cq_ag.rf)
    subst ex
    simp only [am_st, he, hv]
    exact R
  · rename_i i he
    obtain ⟨a, v, -, hv, ht, K, R⟩ := cq_ld_ok H q
    obtain ⟨x, ex⟩ := cq_tL_ok ht (K ρ cq_ag.rf)
    subst ex
    simp only [am_st, he, hv]
    exact R
  · rename_i i he
    obtain ⟨a, v, -, hv, ht, K, R⟩ := cq_ld_ok H q
    obtain ⟨x, ex⟩ := cq_tL_ok ht (K ρ cq_ag.rf)
    subst ex
    simp only [am_st, he, hv]
    exact R
  · rename_i i he
    obtain ⟨a, v, -, hv, ht, K, R⟩ := cq_ld_ok H q
    rcases cq_tR_ok ht (K ρ cq_ag.rf) with ex | ⟨x, ex⟩
    · subst ex
      simp only [am_st, he, hv]
      exact R
    · subst ex
      simp only [am_st, he, hv]
      exact R
  · rename_i i he
    obtain ⟨a, v, -, hv, ht, K, R⟩ := cq_ld_ok H q
    rcases cq_tR_ok ht (K ρ cq_ag.rf) with ex | ⟨x, ex⟩
    · subst ex
      simp only [am_st, he, hv]
      exact R
    · subst ex
      simp only [am_st, he, hv]
      exact R
  · rename_i i he
    obtain ⟨a, v, rs, es, ht, hl, K, R⟩ := cq_sto_ok H q
    have hl : Nat.blt i ls.length = true := Nat.ble_eq_true_of_le hl
    obtain ⟨x, ex⟩ := cq_tI_ok ht (K ρ cq_ag.rf)
    subst ex
    subst es
    simp only [am_st, he, hl, cond_true]
    exact R
  · rename_i i he
    obtain ⟨a, v, rs, es, ht, hl, K, R⟩ := cq_sto_ok H q
    have hl : Nat.blt i.val ls.length = true := Nat.ble_eq_true_of_le hl
    obtain ⟨x, ex⟩ := cq_tI_ok ht (K ρ cq_ag.rf)
    subst ex
    subst es
    simp only [am_st, he, hl, cond_true]
    exact R
  · rename_i i he
    obtain ⟨a, v, rs, es, ht, hl, K, R⟩ := cq_sto_ok H q
    have hl : Nat.blt i ls.length = true := Nat.ble_eq_true_of_le hl
    subst es
    rcases cq_tR_ok ht (K ρ cq_ag.rf) with ex | ⟨x, ex⟩
    · subst ex
      simp only [am_st, he, hl, cond_true]
      exact R
    · subst ex
      simp only [am_st, he, hl, cond_true]
      exact R
  · rename_i i he
    obtain ⟨a, v, rs, es, ht, hl, K, R⟩ := cq_sto_ok H q
    have hl : Nat.blt i.val ls.length = true := Nat.ble_eq_true_of_le hl
    subst es
    rcases cq_tR_ok ht (K ρ cq_ag.rf) with ex | ⟨x, ex⟩
    · subst ex
      simp only [am_st, he, hl, cond_true]
      exact R
    · subst ex
      simp only [am_st, he, hl, cond_true]
      exact R
  · rename_i i he
    obtain ⟨x, rs, es, hl, R⟩ := cq_stl_ok H q
    have hl : Nat.blt (i + 1) ls.length = true := Nat.ble_eq_true_of_le hl
    subst es
    simp only [am_st, he, hl, cond_true]
    exact R
  · rename_i i he
    obtain ⟨x, rs, es, hl, R⟩ := cq_stl_ok H q
    have hl : Nat.blt (i.val + 1) ls.length = true := Nat.ble_eq_true_of_le hl
    subst es
    simp only [am_st, he, hl, cond_true]
    exact R
  · rename_i i n he
    exact cq_inc_ok he H q
  · rename_i he
    refine cq_b2_ok (op := fun x y => x + y) (C := fun _ _ => True) (fun x y r _ => by simp only [am_st, he]) (fun f g w x y hw K => ⟨trivial, ?_⟩) H q
    rw [← Option.some.inj hw]
    exact cq_ai_ok fun ρ' a => ⟨(K ρ' a).1, by rw [Int32.toInt_add, cq_add_e, (K ρ' a).2.1, (K ρ' a).2.2]⟩
  · rename_i he
    refine cq_b2_ok (op := fun x y => x - y) (C := fun _ _ => True) (fun x y r _ => by simp only [am_st, he]) (fun f g w x y hw K => ⟨trivial, ?_⟩) H q
    rw [← Option.some.inj hw]
    exact cq_ai_ok fun ρ' a => ⟨(K ρ' a).1, by rw [Int32.toInt_sub, cq_sub_e, (K ρ' a).2.1, (K ρ' a).2.2]⟩
  · rename_i he
    refine cq_b2_ok (op := fun x y => x * y) (C := fun _ _ => True) (fun x y r _ => by simp only [am_st, he]) (fun f g w x y hw K => ⟨trivial, ?_⟩) H q
    split at hw
    · rename_i p hp
      rw [← Option.some.inj hw]
      exact cq_ai_ok fun ρ' a => ⟨(K ρ' a).1, by rw [Int32.toInt_mul, cq_mu_ok hp, (K ρ' a).2.1, (K ρ' a).2.2]⟩
    · rw [← Option.some.inj hw]
      exact cq_any_ok fun ρ' a => (K ρ' a).1
  · rename_i he
    refine cq_b2_ok (op := fun x y => x &&& y) (C := fun _ _ => True) (fun x y r _ => by simp only [am_st, he]) (fun f g w x y hw K => ⟨trivial, ?_⟩) H q
    rw [← Option.some.inj hw]
    exact cq_an_ok K
  · rename_i he
    refine cq_b2_ok (op := fun x y => x <<< (y &&& 31)) (C := fun _ _ => True) (fun x y r _ => by simp only [am_st, he]) (fun f g w x y hw K => ⟨trivial, ?_⟩) H q
    rw [← Option.some.inj hw]
    exact cq_sl_ok K
  · rename_i he
    refine cq_b2_ok (op := fun x y => x ||| y) (C := fun _ _ => True) (fun x y r _ => by simp only [am_st, he]) (fun f g w x y hw K => ⟨trivial, ?_⟩) H q
    rw [← Option.some.inj hw]
    exact cq_any_ok fun ρ' a => (K ρ' a).1
  · rename_i he
    refine cq_b2_ok (op := fun x y => x ^^^ y) (C := fun _ _ => True) (fun x y r _ => by simp only [am_st, he]) (fun f g w x y hw K => ⟨trivial, ?_⟩) H q
    rw [← Option.some.inj hw]
    exact cq_any_ok fun ρ' a => (K ρ' a).1
  · rename_i he
    refine cq_b2_ok (op := fun x y => x >>> (y &&& 31)) (C := fun _ _ => True) (fun x y r _ => by simp only [am_st, he]) (fun f g w x y hw K => ⟨trivial, ?_⟩) H q
    rw [← Option.some.inj hw]
    exact cq_any_ok fun ρ' a => (K ρ' a).1
  · rename_i he
    refine cq_b2_ok (op := fun x y => (x.toUInt32 >>> (y.toUInt32 &&& Int32.toUInt32 31)).toInt32) (C := fun _ _ => True) (fun x y r _ => by simp only [am_st, he]) (fun f g w x y hw K => ⟨trivial, ?_⟩) H q
    rw [← Option.some.inj hw]
    exact cq_any_ok fun ρ' a => (K ρ' a).1
  · rename_i he
    refine cq_b2_ok (op := fun x y => x / y) (C := fun _ y => y ≠ 0) (fun x y r hy => by simp only [am_st, he, if_neg hy]) (fun f g w x y hw K => ?_) H q
    simp only [cond_eq_ite] at hw
    split at hw
    · rename_i hz
      rw [← Option.some.inj hw]
      exact ⟨fun z => cq_nz_ok hz (y := y.toInt) (fun ρ' a => ⟨(K ρ' a).1, (K ρ' a).2.2⟩) (by rw [z]; rfl), cq_any_ok fun ρ' a => (K ρ' a).1⟩
    · cases hw
  · rename_i he
    refine cq_b2_ok (op := fun x y => x - x / y * y) (C := fun _ y => y ≠ 0) (fun x y r hy => by simp only [am_st, he, if_neg hy]) (fun f g w x y hw K => ?_) H q
    simp only [cond_eq_ite] at hw
    split at hw
    · rename_i hz
      rw [← Option.some.inj hw]
      exact ⟨fun z => cq_nz_ok hz (y := y.toInt) (fun ρ' a => ⟨(K ρ' a).1, (K ρ' a).2.2⟩) (by rw [z]; rfl), cq_any_ok fun ρ' a => (K ρ' a).1⟩
    · cases hw
  · rename_i he
    refine cq_l2_ok (op := fun x y => .long (x + y)) (C := fun _ _ => True) (fun x y r _ => by simp only [am_st, he]) (fun f g w x y hw K => ⟨trivial, ?_⟩) H q
    rw [← Option.some.inj hw]
    exact cq_al_ok fun ρ' a => ⟨(K ρ' a).1, by rw [Int64.toInt_add, cq_add_e, (K ρ' a).2.1, (K ρ' a).2.2]⟩
  · rename_i he
    refine cq_l2_ok (op := fun x y => .long (x - y)) (C := fun _ _ => True) (fun x y r _ => by simp only [am_st, he]) (fun f g w x y hw K => ⟨trivial, ?_⟩) H q
    rw [← Option.some.inj hw]
    exact cq_al_ok fun ρ' a => ⟨(K ρ' a).1, by rw [Int64.toInt_sub, cq_sub_e, (K ρ' a).2.1, (K ρ' a).2.2]⟩
  · rename_i he
    refine cq_l2_ok (op := fun x y => .long (x * y)) (C := fun _ _ => True) (fun x y r _ => by simp only [am_st, he]) (fun f g w x y hw K => ⟨trivial, ?_⟩) H q
    rw [← Option.some.inj hw]
    exact cq_anl_ok fun ρ' a => (K ρ' a).1
  · rename_i he
    refine cq_l2_ok (op := fun x y => .long (x ||| y)) (C := fun _ _ => True) (fun x y r _ => by simp only [am_st, he]) (fun f g w x y hw K => ⟨trivial, ?_⟩) H q
    rw [← Option.some.inj hw]
    exact cq_anl_ok fun ρ' a => (K ρ' a).1
  · rename_i he
    refine cq_l2_ok (op := fun x y => .long (x / y)) (C := fun _ y => y ≠ 0) (fun x y r hy => by simp only [am_st, he, if_neg hy]) (fun f g w x y hw K => ?_) H q
    simp only [cond_eq_ite] at hw
    split at hw
    · rename_i hz
      rw [← Option.some.inj hw]
      exact ⟨fun z => cq_nz_ok hz (y := y.toInt) (fun ρ' a => ⟨(K ρ' a).1, (K ρ' a).2.2⟩) (by rw [z]; rfl), cq_anl_ok fun ρ' a => (K ρ' a).1⟩
    · cases hw
  · rename_i he
    refine cq_l2_ok (op := fun x y => .long (x - x / y * y)) (C := fun _ y => y ≠ 0) (fun x y r hy => by simp only [am_st, he, if_neg hy]) (fun f g w x y hw K => ?_) H q
    simp only [cond_eq_ite] at hw
    split at hw
    · rename_i hz
      rw [← Option.some.inj hw]
      exact ⟨fun z => cq_nz_ok hz (y := y.toInt) (fun ρ' a => ⟨(K ρ' a).1, (K ρ' a).2.2⟩) (by rw [z]; rfl), cq_anl_ok fun ρ' a => (K ρ' a).1⟩
    · cases hw
  · rename_i he
    refine cq_l2_ok (op := fun x y => .int (lg_cmp x y)) (C := fun _ _ => True) (fun x y r _ => by simp only [am_st, he]) (fun f g w x y hw K => ⟨trivial, ?_⟩) H q
    rw [← Option.some.inj hw]
    refine cq_Mk.of fun ρ' a => ⟨(K ρ' a).1, lg_cmp x y, rfl, ?_⟩
    have := cq_cmp_s x y
    rw [cq_sub_e, ← (K ρ' a).2.1, ← (K ρ' a).2.2]
    exact this
  · rename_i he
    split at q
    · rename_i f1 k1 f2 k2 r
      rw [← Option.some.inj q]
      obtain ⟨v, rs, e1, K1, H1⟩ := cq_pop1 H
      subst e1
      obtain ⟨y, e2, hy⟩ := cq_int K1
      subst e2
      obtain ⟨v, rs, e1, K2, H2⟩ := cq_pop1 H1
      subst e1
      obtain ⟨x, e2, hx⟩ := cq_lng K2
      subst e2
      simp only [am_st, he]
      exact (cq_anl_ok fun ρ' a => (H ρ' a).1).res fun ρ' a => (H2 ρ' a).2
    · cases q
  · rename_i he
    unfold cq_u1 at q
    split at q
    · rename_i a f k r
      simp only [cond_eq_ite] at q
      split at q
      · rename_i ht
        have ht := am_beq ht
        subst ht
        rw [← Option.some.inj q]
        obtain ⟨v, rs, e1, K1, H1⟩ := cq_pop1 H
        subst e1
        obtain ⟨y, e2, hy⟩ := cq_int K1
        subst e2
        simp only [am_st, he]
        exact cq_u1_ok (F := fun f => (cq_l f, S)) H (cq_Mk.of fun ρ' a => ⟨(H ρ' a).1, _, rfl, by rw [Int32.toInt_toInt64]; exact hy ρ' a⟩)
      · cases q
    · cases q
  · rename_i he
    unfold cq_u1 at q
    split at q
    · rename_i a f k r
      simp only [cond_eq_ite] at q
      split at q
      · rename_i ht
        have ht := am_beq ht
        subst ht
        rw [← Option.some.inj q]
        obtain ⟨v, rs, e1, K1, H1⟩ := cq_pop1 H
        subst e1
        obtain ⟨y, e2, hy⟩ := cq_lng K1
        subst e2
        simp only [am_st, he]
        exact cq_u1_ok (F := fun f => cq_ai S f) H (cq_ai_ok fun ρ' a => ⟨(H ρ' a).1, by rw [Int64.toInt_toInt32, hy ρ' a]⟩)
      · cases q
    · cases q
  · rename_i he
    unfold cq_u1 at q
    split at q
    · rename_i a f k r
      rw [cond_eq_ite] at q
      split at q
      · rename_i ht
        have ht := am_beq ht
        subst ht
        rw [← Option.some.inj q]
        obtain ⟨v, rs, e1, K1, H1⟩ := cq_pop1 H
        subst e1
        obtain ⟨y, e2, hy⟩ := cq_int K1
        subst e2
        simp only [am_st, he]
        refine cq_u1_ok (F := fun f => bif cq_in S.P f (-128) 127 then (cq_i f, S) else cq_fi S (-128) 127) H ?_
        have e8 : y.toInt8.toInt32.toInt = y.toInt.bmod (2 ^ 8) := by rw [Int8.toInt_toInt32, Int32.toInt_toInt8]
        cases hi : cq_in S.P f (-128) 127 with
        | true =>
          refine cq_Mk.of fun ρ' a => ⟨(H ρ' a).1, _, rfl, ?_⟩
          obtain ⟨b1, b2⟩ := cq_in_ok (H ρ' a).1.P hi
          rw [e8, hy ρ' a]
          exact Int.bmod_eq_of_le (by omega) (by omega)
        | false =>
          have l1 := y.toInt8.le_toInt
          have l2 := y.toInt8.toInt_lt
          rw [Int8.toInt_toInt32] at e8
          refine cq_fi_ok (fun ρ' a => (H ρ' a).1) ?_ ?_
          · rw [Int8.toInt_toInt32]; omega
          · rw [Int8.toInt_toInt32]; omega
      · cases q
    · cases q
  · rename_i he
    split at q
    · rename_i a r
      simp only [cond_eq_ite] at q
      split at q
      · rename_i ht
        rw [← Option.some.inj q]
        obtain ⟨v, rs, e1, K1, H1⟩ := cq_pop1 H
        subst e1
        have c1 := cq_cat1' (K1 ρ cq_ag.rf) ht
        simp only [am_st, he, c1, Nat.beq_refl, cond_true]
        exact cq_keep rfl fun ρ' a => ⟨(H ρ' a).1, (H ρ' a).2.1, K1 ρ' a, (H ρ' a).2.2⟩
      · cases q
    · cases q
  · rename_i he
    split at q
    · rename_i a b r
      simp only [cond_eq_ite] at q
      split at q
      · rename_i ht
        have ht := (Bool.and_eq_true _ _ ▸ ht)
        rw [← Option.some.inj q]
        obtain ⟨v, rs, e1, K1, H1⟩ := cq_pop1 H
        subst e1
        obtain ⟨w, rs, e1, K2, H2⟩ := cq_pop1 H1
        subst e1
        have c1 := cq_cat1' (K1 ρ cq_ag.rf) ht.1
        have c2 := cq_cat1' (K2 ρ cq_ag.rf) ht.2
        simp only [am_st, he, c1, c2, Nat.beq_refl, Bool.and_self, cond_true]
        exact cq_keep rfl fun ρ' a => ⟨(H ρ' a).1, (H ρ' a).2.1, K1 ρ' a, K2 ρ' a, (H ρ' a).2.2⟩
      · cases q
    · cases q
  · rename_i he
    split at q
    · rename_i a r
      simp only [cond_eq_ite] at q
      split at q
      · rename_i ht
        rw [← Option.some.inj q]
        obtain ⟨v, rs, e1, K1, H1⟩ := cq_pop1 H
        subst e1
        have c1 := cq_cat1' (K1 ρ cq_ag.rf) ht
        simp only [am_st, he, c1, Nat.beq_refl, cond_true]
        exact cq_keep rfl H1
      · cases q
    · cases q
  · rename_i he
    rw [← Option.some.inj q]
    simp only [am_st, he]
    exact cq_keep rfl H
  · rename_i c o he
    exact cq_j1_ok he H q
  · rename_i c o he
    exact cq_j2_ok he H q
  · rename_i o he
    obtain ⟨v, rs, e1, k⟩ := cq_j3_ok H q
    subst e1
    rcases k with ⟨e2, R⟩ | ⟨⟨a, e2⟩, R⟩
    · subst e2
      simp only [am_st, he]
      exact R
    · subst e2
      simp only [am_st, he]
      exact R
  · rename_i o he
    obtain ⟨v, rs, e1, k⟩ := cq_j3_ok H q
    subst e1
    rcases k with ⟨e2, R⟩ | ⟨⟨a, e2⟩, R⟩
    · subst e2
      simp only [am_st, he]
      exact R
    · subst e2
      simp only [am_st, he]
      exact R
  · rename_i d lo hi offs he
    exact cq_sw_ok he H q
  · cases q
end CQV
end
section
/-! THE CHECKER, 9: what is known of a place -/
def cq_kl (s : Nat) : List (Nat × cq_Kd) → Option cq_Kd
  | [] => none
  | q :: r => bif Nat.beq q.1 s then some q.2 else cq_kl s r
theorem cq_kl_ok {s : Nat} {k : cq_Kd} : ∀ {K : List (Nat × cq_Kd)}, cq_kl s K = some k → (s, k) ∈ K
  | [], h => by cases h
  | q :: r, h => by
    unfold cq_kl at h
    cases hb : Nat.beq q.1 s with
    | true =>
      rw [hb] at h
      rw [← am_beq hb, ← Option.some.inj h]
      exact List.mem_cons_self
    | false =>
      rw [hb] at h
      exact List.mem_cons_of_mem _ (cq_kl_ok h)
/-- a symbol's cell is there, and its kind -/
def cq_sk (S : cq_S) (s : Nat) : Option cq_Kd := match cq_nl s S.N with
  | some true => cq_kl s S.K
  | _ => none
section CQL
variable {m : cq_W} {h0 : am_H} {ρ : Nat → Int} {S : cq_S} {h : am_H}
theorem cq_sk_ok {s : Nat} {k : cq_Kd} (D : cq_Md m h0 ρ S h) (q : cq_sk S s = some k) : 0 ≤ ρ s ∧ cq_kOk h (ρ s).toNat k ∧ (s, k) ∈ S.K := by
  unfold cq_sk at q
  split at q
  · rename_i hn
    have h1 := (D.N _ (cq_nl_ok hn)).1 rfl
    have h2 := cq_kl_ok q
    exact ⟨h1, D.K _ h2 h1, h2⟩
  · cases q
end CQL
def cq_ceq (a b : cq_C) : Bool := (a.1 == b.1) && Nat.beq a.2 b.2
theorem cq_ceq_ok {a b : cq_C} (h : cq_ceq a b = true) : a = b := by
  have q := (Bool.and_eq_true _ _ ▸ h)
  obtain ⟨a1, a2⟩ := a
  obtain ⟨b1, b2⟩ := b
  have e1 : a1 = b1 := eq_of_beq q.1
  have e2 := am_beq q.2
  dsimp only at e1 e2
  rw [e1, e2]
def cq_tl (c : cq_C) (j : cq_F) : List (cq_C × cq_F × cq_A) → Option cq_A
  | [] => none
  | q :: r => bif cq_ceq q.1 c && cq_fe q.2.1 j then some q.2.2 else cq_tl c j r
theorem cq_tl_ok {c : cq_C} {j : cq_F} {a : cq_A} : ∀ {T : List (cq_C × cq_F × cq_A)}, cq_tl c j T = some a → (c, j, a) ∈ T
  | [], h => by cases h
  | q :: r, h => by
    unfold cq_tl at h
    cases hb : cq_ceq q.1 c && cq_fe q.2.1 j with
    | true =>
      rw [hb] at h
      have h1 := (Bool.and_eq_true _ _ ▸ hb)
      rw [← cq_ceq_ok h1.1, ← cq_fe_ok h1.2, ← Option.some.inj h]
      exact List.mem_cons_self
    | false =>
      rw [hb] at h
      exact List.mem_cons_of_mem _ (cq_tl_ok h)
/-- a new symbol for a cell: its kind, whether it is there -/
def cq_S.fk (S : cq_S) (k : cq_Kd) (b : Bool) : cq_S := cq_mk (S.n + 1) S.P (bif b then (S.n, true) :: S.N else S.N) ((S.n, k) :: S.K) S.W S.T S.L S.M S.U S.ac S.al
def cq_S.aT (S : cq_S) (q : cq_C × cq_F × cq_A) : cq_S := S.sT (q :: S.T)
section CQN
variable {m : cq_W} {h0 : am_H} {ρ : Nat → Int} {S : cq_S} {h : am_H}
theorem cq_fk_ok {k : cq_Kd} {b : Bool} {v : Value} (H : ∀ ρ', cq_ag S.n ρ' ρ → cq_Md m h0 ρ' S h) (hv : (b = false ∧ v = .null) ∨ ∃ a, v = .ref a ∧ cq_kOk h a k) : cq_Mk m h0 ρ S h (cq_rs S.n, S.fk k b) v := by
  have key : ∀ w : Int, (b = true → 0 ≤ w) → (0 ≤ w → cq_kOk h w.toNat k) → ((w < 0 ∧ v = .null) ∨ (0 ≤ w ∧ v = .ref w.toNat)) → cq_Mk m h0 ρ S h (cq_rs S.n, S.fk k b) v := fun w h1 h2 h3 => by
    refine ⟨Nat.le_succ _, cq_up ρ S.n w, cq_up_g, fun ρ' a => ?_⟩
    have e := cq_up_s a
    have D := H ρ' (cq_up_a a)
    refine ⟨⟨D.1, ?_, ?_, ?_, D.2.2.2.2⟩, ?_⟩
    · intro x hx
      cases b with
      | true =>
        rcases List.mem_cons.1 hx with z | z
        · subst z
          exact ⟨fun _ => by rw [e]; exact h1 rfl, fun z => by cases z⟩
        · exact D.N x z
      | false => exact D.N x hx
    · intro x hx
      rcases List.mem_cons.1 hx with z | z
      · subst z
        dsimp only
        rw [e]
        exact h2
      · exact D.K x z
    · intro s hs
      refine ⟨Nat.lt_succ_of_lt (D.W s hs).1, (D.W s hs).2.1, fun x hx hlt => ?_⟩
      rcases List.mem_cons.1 hx with z | z
      · subst z
        have := (D.W s hs).1
        dsimp only at hlt
        omega
      · exact (D.W s hs).2.2 x z hlt
    · show (ρ' S.n < 0 ∧ v = .null) ∨ (0 ≤ ρ' S.n ∧ v = .ref (ρ' S.n).toNat)
      rw [e]
      exact h3
  rcases hv with ⟨hb, hv⟩ | ⟨a, hv, hk⟩
  · refine key (-1) (fun q => by rw [hb] at q; cases q) (fun q => by omega) (Or.inl ⟨by omega, hv⟩)
  · refine key a (fun _ => Int.natCast_nonneg a) (fun _ => by rw [Int.toNat_natCast]; exact hk) (Or.inr ⟨Int.natCast_nonneg a, by rw [Int.toNat_natCast]; exact hv⟩)
/-- a value that was read is kept as known -/
theorem cq_Mk.aT {q : cq_A × cq_S} {c : cq_C} {j : cq_F} {v : Value} (k : cq_Mk m h0 ρ S h q v) (hv : ∀ ρ', cq_ag S.n ρ' ρ → h.2.2.2 (cq_ce ρ' c) (cq_e ρ' j).toNat = v) : cq_Mk m h0 ρ S h (q.1, q.2.aT (c, j, q.1)) v := by
  obtain ⟨hn, ρ1, a1, k⟩ := k
  refine ⟨hn, ρ1, a1, fun ρ' a => ?_⟩
  obtain ⟨D, g⟩ := k ρ' a
  refine ⟨D.sT fun x hx => ?_, g⟩
  rcases List.mem_cons.1 hx with z | z
  · subst z
    dsimp only
    rw [hv ρ' ((a.lt hn).tr a1)]
    exact g
  · exact D.T x z
end CQN
end
section
/-! THE CHECKER, 10: reading a place -/
/-- the count that stands at a place -/
def cq_cn (S : cq_S) (c i : Nat) : Option (cq_F × cq_S) := match cq_tl (false, c) (cq_c i) S.T with
  | some (1, f, _) => some (f, S)
  | some _ => none
  | none => (match cq_cl (cq_fix c).2.1 i with
    | (1, l, u, _) => some (cq_s S.n, (S.fb l u).aT ((false, c), cq_c i, cq_i (cq_s S.n)))
    | _ => none)
/-- a fact that is known to hold -/
def cq_fct (S : cq_S) (g : cq_F) : Option cq_S := match cq_asm S.P g with
  | some P => some (S.sP P)
  | none => none
/-- a value of a type at a place -/
def cq_vt (S : cq_S) (t : cq_T) (j : cq_F) : Option (cq_A × cq_S) := match t with
  | (1, l, u, _) => some (cq_fi S l u)
  | (2, _) => some (cq_anl S)
  | (3, _, _, k, _) => some (cq_rc k, S)
  | (4, _, _, k, _) => some (cq_rs S.n, S.fk (0, k, 0) true)
  | (5, _, _, k, _) => some (cq_rs S.n, S.fk (0, k, 0) false)
  | (6, _, _, tc, ln, _) => some (cq_rs S.n, S.fk (1, tc, ln) true)
  | (8, l, u, k, _) => (match cq_cn S 40 13 with
    | some (f, S1) => (match cq_fct (S1.fb l u) (cq_sub (cq_sc k f) (cq_s S1.n)) with
      | some S2 => some (cq_i (cq_s S1.n), S2)
      | none => none)
    | none => none)
  | (9, l, u, _) => (match cq_cn S 40 13 with
    | some (f, S1) => bif cq_en S1.P (cq_ac f (-1)) then (match cq_fct (S1.fb l u) (cq_sub (cq_ac f (-1)) (cq_s S1.n)) with
      | some S2 => some (cq_i (cq_s S1.n), S2)
      | none => none) else some (cq_fi S1 l u)
    | none => none)
  | (10, l, u, _) => (match cq_fct (S.fb l u) (cq_sub (cq_sub (cq_c u) j) (cq_s S.n)) with
    | some S2 => some (cq_i (cq_s S.n), S2)
    | none => none)
  | (11, _, _, k, c, i) => (match cq_cn S c i with
    | some (f, S1) => bif cq_en S1.P (cq_ac (cq_sub f j) (-1)) then some (cq_rs S1.n, S1.fk (0, k, 0) true) else some (cq_rs S1.n, S1.fk (0, k, 0) false)
    | none => none)
  | _ => none
section CQX
variable {m : cq_W} {h0 : am_H} {ρ : Nat → Int} {S : cq_S} {h : am_H}
/-- first one thing is made, then, with what it has left, another -/
theorem cq_Mk.seq {a : cq_A} {S1 : cq_S} {q : cq_A × cq_S} {v w : Value} (k : cq_Mk m h0 ρ S h (a, S1) v) (n : ∀ ρ1, cq_ag S.n ρ1 ρ → (∀ ρ', cq_ag S1.n ρ' ρ1 → cq_Md m h0 ρ' S1 h ∧ cq_g ρ' a v) → cq_Mk m h0 ρ1 S1 h q w) : cq_Mk m h0 ρ S h q w := by
  obtain ⟨hn, ρ1, a1, k⟩ := k
  obtain ⟨hn2, ρ2, a2, k2⟩ := n ρ1 a1 k
  exact ⟨Nat.le_trans hn hn2, ρ2, (a2.lt hn).tr a1, k2⟩
theorem cq_cn_ty : cq_tyOf 40 (cq_fix 40) 13 = cq_cl (cq_fix 40).2.1 13 ∧ cq_tyOf 48 (cq_fix 48) 1 = cq_cl (cq_fix 48).2.1 1 ∧ 13 < (cq_fix 40).2.2 ∧ 1 < (cq_fix 48).2.2 := by decide +kernel
def cq_cok (c i : Nat) : Bool := (Nat.beq c 40 && Nat.beq i 13) || (Nat.beq c 48 && Nat.beq i 1)
theorem cq_cn_pl {c i : Nat} (hc : cq_cok c i = true) (I : cq_Inv (S.U.map fun q => (ρ q.1).toNat) h) (hU : ∀ q, S.U = some q → 130 ≤ ρ q.1) : cq_ht h i (cq_cl (cq_fix c).2.1 i) (h.2.2.2 c i) := by
  have nU : c < 130 → some c ≠ S.U.map (fun q => (ρ q.1).toNat) := fun hc e => by
    cases hu : S.U with
    | none => rw [hu] at e; cases e
    | some q =>
      have := hU q hu
      rw [hu] at e
      have e : c = (ρ q.1).toNat := Option.some.inj e
      omega
  obtain ⟨t1, t2, l1, l2⟩ := cq_cn_ty
  rcases Bool.or_eq_true _ _ ▸ hc with z | z
  · have z := (Bool.and_eq_true _ _ ▸ z)
    have e1 := am_beq z.1
    have e2 := am_beq z.2
    subst e1
    subst e2
    have k := I.ty 40 (by omega) (by have := I.lo; omega) (nU (by omega)) 13 (by rw [I.fx 40 (by omega) (by omega)]; exact l1)
    rw [I.fx 40 (by omega) (by omega), t1] at k
    exact k
  · have z := (Bool.and_eq_true _ _ ▸ z)
    have e1 := am_beq z.1
    have e2 := am_beq z.2
    subst e1
    subst e2
    have k := I.ty 48 (by omega) (by have := I.lo; omega) (nU (by omega)) 1 (by rw [I.fx 48 (by omega) (by omega)]; exact l2)
    rw [I.fx 48 (by omega) (by omega), t2] at k
    exact k
theorem cq_cn_ok {c i : Nat} {f : cq_F} {S1 : cq_S} (hc : cq_cok c i = true) (q : cq_cn S c i = some (f, S1)) (H : ∀ ρ', cq_ag S.n ρ' ρ → cq_Md m h0 ρ' S h) : ∃ x : Int32, h.2.2.2 c i = .int x ∧ S1.U = S.U ∧ S1.W = S.W ∧ cq_Mk m h0 ρ S h (cq_i f, S1) (.int x) := by
  unfold cq_cn at q
  have e0 : ∀ ρ', cq_e ρ' (cq_c (i : Int)) = (i : Int) := fun ρ' => cq_c_e ρ' i
  split at q
  · rename_i f' k ht
    have q := Option.some.inj q
    have e1 : f' = f := congrArg (·.1) q
    have e2 : S = S1 := congrArg (·.2) q
    subst e1
    subst e2
    have key : ∀ ρ', cq_ag S.n ρ' ρ → cq_g ρ' (1, f', k) (h.2.2.2 c i) := fun ρ' a => by
      have z := (H ρ' a).T _ (cq_tl_ok ht)
      dsimp only at z
      rw [e0 ρ', Int.toNat_natCast] at z
      exact z
    obtain ⟨x, ex, -⟩ := key ρ cq_ag.rf
    refine ⟨x, ex, rfl, rfl, cq_Mk.of fun ρ' a => ⟨H ρ' a, ?_⟩⟩
    have z := key ρ' a
    rw [ex] at z
    exact z
  · cases q
  · split at q
    · rename_i l u r he
      have q := Option.some.inj q
      have e1 : cq_s S.n = f := congrArg (·.1) q
      have e2 : (S.fb l u).aT ((false, c), cq_c i, cq_i (cq_s S.n)) = S1 := congrArg (·.2) q
      subst e1
      subst e2
      have z := cq_cn_pl hc (H ρ cq_ag.rf).I (fun q hq => ((H ρ cq_ag.rf).U q hq).1)
      rw [he] at z
      obtain ⟨x, ex, b1, b2⟩ := z
      refine ⟨x, ex, rfl, rfl, ?_⟩
      have k := cq_fi_ok (m := m) (h0 := h0) (ρ := ρ) (S := S) (h := h) H b1 b2
      exact k.aT (c := (false, c)) (j := cq_c i) fun ρ' a => by rw [e0 ρ', Int.toNat_natCast]; exact ex
    · cases q
theorem cq_fct_ok {g : cq_F} {a : cq_A} {v : Value} {S1 S2 : cq_S} (q : cq_fct S1 g = some S2) (k : cq_Mk m h0 ρ S h (a, S1) v) (hg : ∀ ρ1, cq_ag S.n ρ1 ρ → cq_Md m h0 ρ1 S1 h → cq_g ρ1 a v → 0 ≤ cq_e ρ1 g) : cq_Mk m h0 ρ S h (a, S2) v := by
  unfold cq_fct at q
  split at q
  · rename_i P hP
    rw [← Option.some.inj q]
    obtain ⟨hn, ρ1, a1, k⟩ := k
    refine ⟨hn, ρ1, a1, fun ρ' a => ?_⟩
    obtain ⟨D, g1⟩ := k ρ' a
    obtain ⟨P', e, hP'⟩ := cq_asm_ok D.P (hg ρ' ((a.lt hn).tr a1) D g1)
    rw [hP] at e
    rw [← Option.some.inj e] at hP'
    exact ⟨D.sP hP', g1⟩
  · cases q
/-- a value of a type is made -/
theorem cq_vt_ok {t : cq_T} {j : cq_F} {v : Value} {q : cq_A × cq_S} (e : cq_vt S t j = some q) (H : ∀ ρ', cq_ag S.n ρ' ρ → cq_Md m h0 ρ' S h) (hj : ∀ ρ', cq_ag S.n ρ' ρ → cq_e ρ' j = cq_e ρ j ∧ 0 ≤ cq_e ρ' j) (ht : cq_ht h (cq_e ρ j).toNat t v) (hc : t.1 = 11 → cq_cok t.2.2.2.2.1 t.2.2.2.2.2 = true) : q.2.U = S.U ∧ q.2.W = S.W ∧ cq_Mk m h0 ρ S h q v := by
  unfold cq_vt at e
  split at e
  · rename_i l u r
    obtain ⟨x, ex, b1, b2⟩ := ht
    subst ex
    rw [← Option.some.inj e]
    exact ⟨rfl, rfl, cq_fi_ok H b1 b2⟩
  · obtain ⟨x, ex⟩ := ht
    subst ex
    rw [← Option.some.inj e]
    exact ⟨rfl, rfl, cq_anl_ok H⟩
  · rw [← Option.some.inj e]
    exact ⟨rfl, rfl, cq_Mk.of fun ρ' a => ⟨H ρ' a, ht⟩⟩
  · rw [← Option.some.inj e]
    exact ⟨rfl, rfl, cq_fk_ok H (Or.inr ht)⟩
  · rw [← Option.some.inj e]
    refine ⟨rfl, rfl, cq_fk_ok H ?_⟩
    rcases ht with z | z
    · exact Or.inl ⟨rfl, z⟩
    · exact Or.inr z
  · rw [← Option.some.inj e]
    exact ⟨rfl, rfl, cq_fk_ok H (Or.inr ht)⟩
  · rename_i l u k r
    obtain ⟨x, ex, b1, b2, b3⟩ := ht
    subst ex
    split at e
    · rename_i f S1 hcn
      obtain ⟨y, ey, u1, w1, kk⟩ := cq_cn_ok (m := m) (h0 := h0) (ρ := ρ) (h := h) (c := 40) (i := 13) rfl hcn H
      split at e
      · rename_i S2 hf
        rw [← Option.some.inj e]
        have e40 : cq_n h 40 13 = y.toInt := by unfold cq_n; rw [ey]
        have eS : S2.U = S1.U ∧ S2.W = S1.W := by
          unfold cq_fct at hf
          split at hf
          · rw [← Option.some.inj hf]; exact ⟨rfl, rfl⟩
          · cases hf
        refine ⟨eS.1.trans u1, eS.2.trans w1, kk.seq fun ρ1 a1 k1 => ?_⟩
        refine cq_fct_ok hf (cq_fi_ok (fun ρ' a => (k1 ρ' a).1) b1 b2) fun ρ2 a2 D g => ?_
        obtain ⟨y', ey', hy⟩ := (k1 ρ2 a2).2
        cases ey'
        obtain ⟨x', ex', hx⟩ := g
        cases ex'
        rw [cq_sub_e, cq_sc_e, ← hy, ← hx]
        rw [e40] at b3
        omega
      · cases e
    · cases e
  · rename_i l u r
    obtain ⟨x, ex, b1, b2, b3⟩ := ht
    subst ex
    split at e
    · rename_i f S1 hcn
      obtain ⟨y, ey, u1, w1, kk⟩ := cq_cn_ok (m := m) (h0 := h0) (ρ := ρ) (h := h) (c := 40) (i := 13) rfl hcn H
      have e40 : cq_n h 40 13 = y.toInt := by unfold cq_n; rw [ey]
      rw [cond_eq_ite] at e
      split at e
      · rename_i hen
        split at e
        · rename_i S2 hf
          rw [← Option.some.inj e]
          have eS : S2.U = S1.U ∧ S2.W = S1.W := by
            unfold cq_fct at hf
            split at hf
            · rw [← Option.some.inj hf]; exact ⟨rfl, rfl⟩
            · cases hf
          refine ⟨eS.1.trans u1, eS.2.trans w1, kk.seq fun ρ1 a1 k1 => ?_⟩
          refine cq_fct_ok hf (cq_fi_ok (fun ρ' a => (k1 ρ' a).1) b1 b2) fun ρ2 a2 D g => ?_
          obtain ⟨D1, y', ey', hy⟩ := k1 ρ2 a2
          cases ey'
          obtain ⟨x', ex', hx⟩ := g
          cases ex'
          have := cq_en_ok D1.P hen
          rw [cq_ac_e] at this
          rw [cq_sub_e, cq_ac_e, ← hy, ← hx]
          rw [e40] at b3
          omega
        · cases e
      · rw [← Option.some.inj e]
        exact ⟨u1, w1, kk.seq fun ρ1 a1 k1 => cq_fi_ok (fun ρ' a => (k1 ρ' a).1) b1 b2⟩
    · cases e
  · rename_i l u r
    obtain ⟨x, ex, b1, b2⟩ := ht
    subst ex
    split at e
    · rename_i S2 hf
      rw [← Option.some.inj e]
      have eS : S2.U = S.U ∧ S2.W = S.W := by
        unfold cq_fct at hf
        split at hf
        · rw [← Option.some.inj hf]; exact ⟨rfl, rfl⟩
        · cases hf
      have hj0 := (hj ρ cq_ag.rf).2
      refine ⟨eS.1, eS.2, cq_fct_ok hf (cq_fi_ok H b1 (by omega)) fun ρ2 a2 D g => ?_⟩
      obtain ⟨x', ex', hx⟩ := g
      cases ex'
      have := (hj ρ2 a2).1
      rw [cq_sub_e, cq_sub_e, cq_c_e, ← hx]
      omega
    · cases e
  · rename_i k c i
    split at e
    · rename_i f S1 hcn
      obtain ⟨y, ey, u1, w1, kk⟩ := cq_cn_ok (m := m) (h0 := h0) (ρ := ρ) (h := h) (hc rfl) hcn H
      have ec : cq_n h c i = y.toInt := by unfold cq_n; rw [ey]
      rw [cond_eq_ite] at e
      split at e
      · rename_i hen
        rw [← Option.some.inj e]
        refine ⟨u1, w1, kk.seq fun ρ1 a1 k1 => cq_fk_ok (fun ρ' a => (k1 ρ' a).1) ?_⟩
        rcases ht with ⟨-, z⟩ | z
        · obtain ⟨D1, y', ey', hy⟩ := k1 ρ1 cq_ag.rf
          cases ey'
          have := cq_en_ok D1.P hen
          rw [cq_ac_e, cq_sub_e] at this
          have := hj ρ1 a1
          rw [ec] at z
          omega
        · exact Or.inr z
      · rw [← Option.some.inj e]
        refine ⟨u1, w1, kk.seq fun ρ1 a1 k1 => cq_fk_ok (fun ρ' a => (k1 ρ' a).1) ?_⟩
        rcases ht with ⟨z, -⟩ | z
        · exact Or.inl ⟨rfl, z⟩
        · exact Or.inr z
    · cases e
  · cases e
end CQX
end
section
/-! THE CHECKER, 11: fields, elements and lengths are read -/
/-- the cell and the kind of what a reference is known to be -/
def cq_cel (S : cq_S) (a : cq_A) : Option (cq_C × cq_Kd) := match a with
  | (5, _, k) => bif Nat.ble 40 k && Nat.blt k 130 then (bif Nat.beq (cq_fix k).1 0 then some ((false, k), (0, (cq_fix k).2.1, 0)) else some ((false, k), (1, (cq_fix k).2.1, (cq_fix k).2.2 + 1)))
    else bif Nat.beq k 0 then some ((false, 0), (1, 0, 0)) else bif Nat.blt k 7 then some ((false, k), (1, 0, 8)) else bif Nat.blt k 23 then some ((false, k), (2, 0, 0)) else none
  | (6, _, s) => (match cq_sk S s with
    | some kd => some ((true, s), kd)
    | none => none)
  | _ => none
def cq_lv (h : am_H) (a : Nat) (k : cq_Kd) : Prop := match k with
  | (0, ci, _) => a < h.1 ∧ h.2.2.1 a = (0, ci, am_N ci)
  | (1, tc, ln) => a < h.1 ∧ ((h.2.2.1 a).1 = 1 ∨ (h.2.2.1 a).1 = 2) ∧ (h.2.2.1 a).2.1 = tc ∧ (ln = 0 ∨ (h.2.2.1 a).2.2 + 1 = ln)
  | _ => 7 ≤ a ∧ a < 23
theorem cq_fix_ok : ∀ k, k < 130 → 40 ≤ k → ((cq_fix k).1 = 0 ∧ (cq_fix k).2.2 = am_N (cq_fix k).2.1) ∨ (cq_fix k).1 = 1 := by decide +kernel
section CQY
variable {m : cq_W} {h0 : am_H} {ρ : Nat → Int} {S : cq_S} {h : am_H}
theorem cq_kOk_lv {a : Nat} {k : cq_Kd} (q : cq_kOk h a k) : cq_lv h a k := by
  obtain ⟨t, x, y⟩ := k
  rcases t with _ | _ | t
  · exact ⟨q.2.1, q.2.2⟩
  · exact ⟨q.2.1, Or.inl q.2.2.1, q.2.2.2⟩
  · exact q
theorem cq_cel_ok {a : cq_A} {c : cq_C} {k : cq_Kd} {v : Value} (q : cq_cel S a = some (c, k)) (D : cq_Md m h0 ρ S h) (g : cq_g ρ a v) : v = .ref (cq_ce ρ c) ∧ cq_lv h (cq_ce ρ c) k := by
  unfold cq_cel at q
  split at q
  · rename_i x k'
    have ev : v = .ref k' := g
    rw [cond_eq_ite] at q
    split at q
    · rename_i hb
      have hb := (Bool.and_eq_true _ _ ▸ hb)
      have b1 := Nat.le_of_ble_eq_true hb.1
      have b2 : k' < 130 := Nat.le_of_ble_eq_true hb.2
      have ef := D.I.fx k' b1 b2
      have lt : k' < h.1 := Nat.lt_of_lt_of_le b2 D.I.lo
      have hf := cq_fix_ok k' b2 b1
      rw [cond_eq_ite] at q
      split at q
      · rename_i hz
        have hz := am_beq hz
        have q := Option.some.inj q
        cases q
        refine ⟨ev, lt, ?_⟩
        rcases hf with hf | hf
        · show h.2.2.1 k' = _
          rw [ef]
          exact Prod.ext hz (Prod.ext rfl hf.2)
        · rw [hz] at hf; cases hf
      · rename_i hz
        have q := Option.some.inj q
        cases q
        have hw : (cq_fix k').1 = 1 := by
          rcases hf with hf | hf
          · rw [hf.1] at hz; exact absurd rfl hz
          · exact hf
        refine ⟨ev, lt, Or.inl ?_, ?_, Or.inr ?_⟩
        · show (h.2.2.1 k').1 = 1; rw [ef]; exact hw
        · show (h.2.2.1 k').2.1 = _; rw [ef]
        · show (h.2.2.1 k').2.2 + 1 = _; rw [ef]
    · rw [cond_eq_ite] at q
      split at q
      · rename_i hz
        have e0 := am_beq hz
        subst e0
        have q := Option.some.inj q
        cases q
        obtain ⟨s1, s2, -⟩ := D.I.sc
        exact ⟨ev, Nat.lt_of_lt_of_le (show 0 < 130 by decide) D.I.lo, Or.inr s1, s2, Or.inl rfl⟩
      · rename_i hz
        rw [cond_eq_ite] at q
        split at q
        · rename_i h7
          have h7 : k' < 7 := Nat.le_of_ble_eq_true h7
          have q := Option.some.inj q
          cases q
          have hk : 1 ≤ k' := by
            rcases Nat.eq_zero_or_pos k' with z | z
            · subst z; exact absurd rfl hz
            · exact z
          have e := (D.I.sv k' hk h7).1
          refine ⟨ev, Nat.lt_of_lt_of_le (show k' < 130 by omega) D.I.lo, Or.inr ?_, ?_, Or.inr ?_⟩
          · show (h.2.2.1 k').1 = 2; rw [e]
          · show (h.2.2.1 k').2.1 = 0; rw [e]
          · show (h.2.2.1 k').2.2 + 1 = 8; rw [e]
        · rename_i h7
          rw [cond_eq_ite] at q
          split at q
          · rename_i h23
            have h23 : k' < 23 := Nat.le_of_ble_eq_true h23
            have q := Option.some.inj q
            cases q
            have : ¬ k' < 7 := fun z => h7 (Nat.ble_eq_true_of_le z)
            exact ⟨ev, by show 7 ≤ k'; omega, h23⟩
          · cases q
  · rename_i x s
    split at q
    · rename_i kd hk
      have q := Option.some.inj q
      cases q
      obtain ⟨p1, p2, -⟩ := cq_sk_ok D hk
      rcases g with ⟨z, -⟩ | ⟨-, z⟩
      · omega
      · exact ⟨z, cq_kOk_lv p2⟩
    · cases q
  · cases q
end CQY
/-- the type of a place -/
def cq_pt (c : cq_C) (k : cq_Kd) (j : cq_F) : cq_T := bif c.1 then (bif Nat.beq k.1 0 then cq_cl k.2.1 j.1.toNat else cq_at k.2.1) else bif Nat.beq k.1 0 then cq_ob c.2 j.1.toNat else bif cq_k j then cq_ty c.2 j.1.toNat else cq_ar c.2
def cq_isU (S : cq_S) (c : cq_C) : Bool := match S.U with
  | some q => c.1 && Nat.beq q.1 c.2
  | none => false
/-- reading a place -/
def cq_rdp (S : cq_S) (c : cq_C) (k : cq_Kd) (j : cq_F) : Option (cq_A × cq_S) := match cq_tl c j S.T with
  | some a => some (a, S)
  | none => bif (S.U.isSome && c.1) || Nat.ble 2 k.1 then none
    else bif !c.1 && Nat.blt c.2 7 then (bif Nat.blt 0 c.2 && cq_k j && cq_p j.1 && Nat.blt j.1.toNat 7 then some (cq_i (cq_c (cq_sv c.2 j.1.toNat)), S) else some (cq_any S))
    else bif Nat.beq k.1 0 && !cq_k j then none
    else (match cq_vt S (cq_pt c k j) j with
      | some q => some (q.1, q.2.aT (c, j, q.1))
      | none => none)
theorem cq_sv_ok : ∀ c, c < 7 → ∀ j, j < 7 → -2147483648 ≤ cq_sv c j ∧ cq_sv c j ≤ 2147483647 := by decide +kernel
/-- the types of the fixed arrays: what holds of every place -/
theorem cq_ar_ok {c j : Nat} (h2 : cq_isA c = true) {h : am_H} {i : Nat} {v : Value} (q : cq_ht h i (cq_ty c j) v) : cq_ht h i (cq_ar c) v := by
  unfold cq_ty at q
  rw [h2] at q
  simp only [cond_true] at q
  rw [cond_eq_ite] at q
  split at q
  · rename_i hb
    have hb := (Bool.and_eq_true _ _ ▸ hb)
    obtain ⟨x, e, b1, b2⟩ := q
    have e81 : cq_ar 81 = (1, -2147483648, 2147483647, 0, 0, 0) := by decide +kernel
    have e83 : cq_ar 83 = (1, -2147483648, 2147483647, 0, 0, 0) := by decide +kernel
    rcases Bool.or_eq_true _ _ ▸ hb.1 with z | z
    · rw [am_beq z, e81]
      exact ⟨x, e, by have := x.le_toInt; omega, by omega⟩
    · rw [am_beq z, e83]
      exact ⟨x, e, by have := x.le_toInt; omega, by omega⟩
  · exact q
def cq_pre11 (t : cq_T) : Bool := bif Nat.beq t.1 11 then cq_cok t.2.2.2.2.1 t.2.2.2.2.2 else true
theorem cq_p11a : ∀ c, c < 130 → cq_pre11 (cq_ar c) = true := by decide +kernel
theorem cq_p11o : ∀ k, k < 14 → ∀ j, j < 100 → cq_pre11 (cq_cl k j) = true := by decide +kernel
end
section
section CQZ
variable {m : cq_W} {h0 : am_H} {ρ : Nat → Int} {S : cq_S} {h : am_H} {als ast : List cq_A} {ls st : List Value} {out : List cq_O} {e : am_E} {pc pc' : Nat}
theorem cq_cel_c {a : cq_A} {c : cq_C} {k : cq_Kd} (q : cq_cel S a = some (c, k)) : (c.1 = true ∧ cq_sk S c.2 = some k) ∨ (c.1 = false ∧ 40 ≤ c.2 ∧ c.2 < 130 ∧ (((cq_fix c.2).1 = 0 ∧ k = (0, (cq_fix c.2).2.1, 0)) ∨ ((cq_fix c.2).1 = 1 ∧ k = (1, (cq_fix c.2).2.1, (cq_fix c.2).2.2 + 1)))) ∨ (c = (false, 0) ∧ k = (1, 0, 0)) ∨ (c.1 = false ∧ 1 ≤ c.2 ∧ c.2 < 7 ∧ k = (1, 0, 8)) ∨ (c.1 = false ∧ k = (2, 0, 0)) := by
  unfold cq_cel at q
  split at q
  · rename_i x k'
    rw [cond_eq_ite] at q
    split at q
    · rename_i hb
      have hb := (Bool.and_eq_true _ _ ▸ hb)
      have b1 := Nat.le_of_ble_eq_true hb.1
      have b2 : k' < 130 := Nat.le_of_ble_eq_true hb.2
      have hf := cq_fix_ok k' b2 b1
      rw [cond_eq_ite] at q
      split at q
      · rename_i hz
        have hz := am_beq hz
        cases Option.some.inj q
        exact Or.inr (Or.inl ⟨rfl, b1, b2, Or.inl ⟨hz, rfl⟩⟩)
      · rename_i hz
        cases Option.some.inj q
        have hw : (cq_fix k').1 = 1 := by
          rcases hf with hf | hf
          · rw [hf.1] at hz; exact absurd rfl hz
          · exact hf
        exact Or.inr (Or.inl ⟨rfl, b1, b2, Or.inr ⟨hw, rfl⟩⟩)
    · rw [cond_eq_ite] at q
      split at q
      · cases Option.some.inj q
        exact Or.inr (Or.inr (Or.inl ⟨rfl, rfl⟩))
      · rename_i hz
        rw [cond_eq_ite] at q
        split at q
        · rename_i h7
          have h7 : k' < 7 := Nat.le_of_ble_eq_true h7
          cases Option.some.inj q
          have hk : 1 ≤ k' := by
            rcases Nat.eq_zero_or_pos k' with z | z
            · subst z; exact absurd rfl hz
            · exact z
          exact Or.inr (Or.inr (Or.inr (Or.inl ⟨rfl, hk, h7, rfl⟩)))
        · rw [cond_eq_ite] at q
          split at q
          · cases Option.some.inj q
            exact Or.inr (Or.inr (Or.inr (Or.inr ⟨rfl, rfl⟩)))
          · cases q
  · rename_i x s
    split at q
    · rename_i kd hk
      cases Option.some.inj q
      exact Or.inl ⟨rfl, hk⟩
    · cases q
  · cases q
theorem cq_nU (D : cq_Md m h0 ρ S h) {c : Nat} (hc : c < 130) : some c ≠ S.U.map (fun q => (ρ q.1).toNat) := fun e => by
  cases hu : S.U with
  | none => rw [hu] at e; cases e
  | some q =>
    have := D.U q hu
    rw [hu] at e
    have e : c = (ρ q.1).toNat := Option.some.inj e
    omega
/-- the value at a place has the place's type -/
theorem cq_pt_ok {a : cq_A} {c : cq_C} {k : cq_Kd} {j : cq_F} {w : Nat} (hcel : cq_cel S a = some (c, k)) (D : cq_Md m h0 ρ S h) (hU : c.1 = true → S.U = none) (hk : Nat.ble 2 k.1 = false) (hs : (!c.1 && Nat.blt c.2 7) = false) (hk0 : (Nat.beq k.1 0 && !cq_k j) = false) (hj : cq_e ρ j = (w : Int)) (hlt : w < (h.2.2.1 (cq_ce ρ c)).2.2) : cq_ht h w (cq_pt c k j) (h.2.2.2 (cq_ce ρ c) w) ∧ cq_pre11 (cq_pt c k j) = true := by
  have ej : cq_k j = true → j.1.toNat = w := fun z => by
    rw [cq_k_e z] at hj
    omega
  rcases cq_cel_c hcel with ⟨c1, hs1⟩ | ⟨c1, b1, b2, hf⟩ | ⟨c1, k1⟩ | ⟨c1, b1, b2, k1⟩ | ⟨c1, k1⟩
  · obtain ⟨p1, p2, -⟩ := cq_sk_ok D hs1
    have ec : cq_ce ρ c = (ρ c.2).toNat := by unfold cq_ce; rw [c1]; rfl
    rw [ec] at hlt ⊢
    have nu : some (ρ c.2).toNat ≠ S.U.map (fun q => (ρ q.1).toNat) := by rw [hU c1]; exact fun z => by cases z
    obtain ⟨t, x, y⟩ := k
    rcases t with _ | _ | t
    · obtain ⟨q1, q2, q3⟩ := p2
      have kj : cq_k j = true := by
        cases hh : cq_k j with
        | true => rfl
        | false => rw [hh] at hk0; cases hk0
      have z := D.I.ty _ (by omega) q2 nu w hlt
      have et : cq_pt c (0, x, y) j = cq_cl x w := by
        unfold cq_pt
        rw [c1, ej kj]
        rfl
      have et2 : cq_tyOf (ρ c.2).toNat (h.2.2.1 (ρ c.2).toNat) w = cq_cl x w := by
        unfold cq_tyOf
        have : Nat.blt (ρ c.2).toNat 130 = false := by
          cases hh : Nat.blt (ρ c.2).toNat 130 with
          | false => rfl
          | true => have : (ρ c.2).toNat < 130 := Nat.le_of_ble_eq_true hh; omega
        rw [this, q3]
        rfl
      rw [et2] at z
      rw [et]
      refine ⟨z, ?_⟩
      rw [q3] at hlt
      by_cases hx : x < 14
      · by_cases hw : w < 100
        · exact cq_p11o x hx w hw
        · exfalso
          have : ∀ x, x < 14 → am_N x ≤ 100 := by decide +kernel
          have := this x hx
          dsimp only at hlt
          omega
      · exfalso
        have e0 : am_N x = 0 := by
          unfold am_N
          have : vwCl[x]? = none := List.getElem?_eq_none_iff.2 (by show 14 ≤ x; omega)
          rw [this]
        dsimp only at hlt
        rw [e0] at hlt
        omega
    · obtain ⟨q1, q2, q3, q4, q5⟩ := p2
      have z := D.I.ty _ (by omega) q2 nu w hlt
      have et : cq_pt c (0 + 1, x, y) j = cq_at x := by
        unfold cq_pt
        rw [c1]
        rfl
      have et2 : cq_tyOf (ρ c.2).toNat (h.2.2.1 (ρ c.2).toNat) w = cq_at x := by
        unfold cq_tyOf
        have : Nat.blt (ρ c.2).toNat 130 = false := by
          cases hh : Nat.blt (ρ c.2).toNat 130 with
          | false => rfl
          | true => have : (ρ c.2).toNat < 130 := Nat.le_of_ble_eq_true hh; omega
        rw [this, q3, q4]
        rfl
      rw [et2] at z
      rw [et]
      refine ⟨z, ?_⟩
      unfold cq_at
      cases Nat.beq x 0 with
      | true => rfl
      | false =>
        cases Nat.beq x 3 with
        | true => rfl
        | false =>
          cases Nat.beq x 7 with
          | true => rfl
          | false => rfl
    · cases hk
  · have ec : cq_ce ρ c = c.2 := by unfold cq_ce; rw [c1]; rfl
    rw [ec] at hlt ⊢
    have ef := D.I.fx c.2 b1 b2
    have z := D.I.ty c.2 b1 (Nat.lt_of_lt_of_le b2 D.I.lo) (cq_nU D b2) w hlt
    have et2 : cq_tyOf c.2 (h.2.2.1 c.2) w = cq_ty c.2 w := by
      unfold cq_tyOf
      have : Nat.blt c.2 130 = true := Nat.ble_eq_true_of_le b2
      rw [this]
      rfl
    rw [et2] at z
    rcases hf with ⟨f0, k0⟩ | ⟨f1, k1⟩
    · subst k0
      have kj : cq_k j = true := by
        cases hh : cq_k j with
        | true => rfl
        | false => rw [hh] at hk0; cases hk0
      have et : cq_pt c (0, (cq_fix c.2).2.1, 0) j = cq_ob c.2 w := by
        unfold cq_pt
        rw [c1, ej kj]
        rfl
      have et3 : cq_ty c.2 w = cq_ob c.2 w := by
        unfold cq_ty cq_isA
        rw [f0]
        rfl
      rw [et3] at z
      rw [et]
      refine ⟨z, ?_⟩
      rw [ef] at hlt
      have hall : ∀ c, c < 130 → 40 ≤ c → (cq_fix c).1 = 0 → ∀ w, w < (cq_fix c).2.2 → cq_pre11 (cq_ob c w) = true := by decide +kernel
      exact hall c.2 b2 b1 f0 w hlt
    · subst k1
      have isA : cq_isA c.2 = true := by unfold cq_isA; rw [f1]; rfl
      have z2 := cq_ar_ok isA z
      have et : cq_pt c (1, (cq_fix c.2).2.1, (cq_fix c.2).2.2 + 1) j = bif cq_k j then cq_ty c.2 j.1.toNat else cq_ar c.2 := by
        unfold cq_pt
        rw [c1]
        rfl
      rw [et]
      cases hh : cq_k j with
      | true =>
        rw [ej hh]
        refine ⟨z, ?_⟩
        show cq_pre11 (cq_ty c.2 w) = true
        unfold cq_ty
        rw [isA]
        cases ((Nat.beq c.2 81 || Nat.beq c.2 83) && Nat.beq w 1) with
        | true => rfl
        | false => exact cq_p11a c.2 b2
      | false => exact ⟨z2, cq_p11a c.2 b2⟩
  · subst c1; cases hs
  · rw [c1] at hs
    have : Nat.blt c.2 7 = true := Nat.ble_eq_true_of_le b2
    rw [this] at hs
    cases hs
  · rw [k1] at hk; cases hk
theorem cq_rdp_ok {a : cq_A} {c : cq_C} {k : cq_Kd} {j : cq_F} {q : cq_A × cq_S} {w cc : Nat} (hcel : cq_cel S a = some (c, k)) (q1 : cq_rdp S c k j = some q) (H : ∀ ρ', cq_ag S.n ρ' ρ → cq_Md m h0 ρ' S h) (hc : ∀ ρ', cq_ag S.n ρ' ρ → cq_ce ρ' c = cc) (hj : ∀ ρ', cq_ag S.n ρ' ρ → cq_e ρ' j = (w : Int)) (hlt : w < (h.2.2.1 cc).2.2) : cq_Mk m h0 ρ S h q (h.2.2.2 cc w) := by
  unfold cq_rdp at q1
  split at q1
  · rename_i x hx
    rw [← Option.some.inj q1]
    refine cq_Mk.of fun ρ' a => ⟨H ρ' a, ?_⟩
    have z := (H ρ' a).T _ (cq_tl_ok hx)
    dsimp only at z
    rw [hc ρ' a, hj ρ' a, Int.toNat_natCast] at z
    exact z
  · rw [cond_eq_ite] at q1
    split at q1
    · cases q1
    · rename_i hu
      have hU : c.1 = true → S.U = none := fun z => by
        cases hh : S.U with
        | none => rfl
        | some y => rw [hh, z] at hu; exact absurd rfl hu
      have hk : Nat.ble 2 k.1 = false := by
        cases hh : Nat.ble 2 k.1 with
        | false => rfl
        | true => rw [hh, Bool.or_true] at hu; exact absurd rfl hu
      rw [cond_eq_ite] at q1
      split at q1
      · rename_i hs
        have hs := (Bool.and_eq_true _ _ ▸ hs)
        have c1 : c.1 = false := by
          cases hh : c.1 with
          | false => rfl
          | true => rw [hh] at hs; cases hs.1
        have c2 : c.2 < 7 := Nat.le_of_ble_eq_true hs.2
        have ec : c.2 = cc := by
          have := hc ρ cq_ag.rf
          unfold cq_ce at this
          rw [c1] at this
          exact this
        have D := H ρ cq_ag.rf
        have hint : ∃ x : Int32, h.2.2.2 cc w = .int x := by
          rcases Nat.eq_zero_or_pos cc with z | z
          · subst z
            obtain ⟨-, -, -, k4⟩ := D.I.sc
            exact k4 w hlt
          · obtain ⟨k1, k2⟩ := D.I.sv cc z (by omega)
            rw [k1] at hlt
            exact ⟨_, k2 w hlt⟩
        obtain ⟨x, ex⟩ := hint
        rw [cond_eq_ite] at q1
        split at q1
        · rename_i hb
          have hb1 := (Bool.and_eq_true _ _ ▸ hb)
          have hb2 := (Bool.and_eq_true _ _ ▸ hb1.1)
          have hb3 := (Bool.and_eq_true _ _ ▸ hb2.1)
          have h7 : j.1.toNat < 7 := Nat.le_of_ble_eq_true hb1.2
          have hpos : 0 < c.2 := Nat.le_of_ble_eq_true hb3.1
          have ej : j.1.toNat = w := by
            have := hj ρ cq_ag.rf
            rw [cq_k_e hb3.2] at this
            omega
          rw [← Option.some.inj q1]
          refine cq_Mk.of fun ρ' a => ⟨H ρ' a, ?_⟩
          have k2 := (D.I.sv cc (by omega) (by omega)).2 w (by omega)
          rw [k2]
          have b := cq_sv_ok cc (by omega) w (by omega)
          refine ⟨_, rfl, ?_⟩
          rw [cq_c_e, ej, ec]
          exact Int32.toInt_ofInt_of_le (by omega) (by omega)
        · rw [← Option.some.inj q1, ex]
          exact cq_any_ok H
      · rename_i hs
        have hs : (!c.1 && Nat.blt c.2 7) = false := by
          cases hh : (!c.1 && Nat.blt c.2 7) with
          | false => rfl
          | true => exact absurd hh hs
        rw [cond_eq_ite] at q1
        split at q1
        · cases q1
        · rename_i hk0
          have hk0 : (Nat.beq k.1 0 && !cq_k j) = false := by
            cases hh : (Nat.beq k.1 0 && !cq_k j) with
            | false => rfl
            | true => exact absurd hh hk0
          split at q1
          · rename_i q2 hq
            rw [← Option.some.inj q1]
            have D := H ρ cq_ag.rf
            have ecc := hc ρ cq_ag.rf
            obtain ⟨ht, h11⟩ := cq_pt_ok hcel D hU hk hs hk0 (hj ρ cq_ag.rf) (by rw [ecc]; exact hlt)
            rw [ecc] at ht
            obtain ⟨-, -, kk⟩ := cq_vt_ok (m := m) (h0 := h0) (ρ := ρ) (h := h) (v := h.2.2.2 cc w) hq H (fun ρ' a => by rw [hj ρ' a, hj ρ cq_ag.rf]; exact ⟨rfl, Int.natCast_nonneg w⟩) (by rw [hj ρ cq_ag.rf, Int.toNat_natCast]; exact ht) (fun z => by
              unfold cq_pre11 at h11
              rw [z] at h11
              exact h11)
            exact kk.aT fun ρ' a => by rw [hc ρ' a, hj ρ' a, Int.toNat_natCast]
          · cases q1
end CQZ
end
section
/-! THE CHECKER, 12: the steps that read the heap -/
def cq_ll (c : cq_C) : List (cq_C × cq_F) → Option cq_F
  | [] => none
  | q :: r => bif cq_ceq q.1 c then some q.2 else cq_ll c r
theorem cq_ll_ok {c : cq_C} {f : cq_F} : ∀ {L : List (cq_C × cq_F)}, cq_ll c L = some f → (c, f) ∈ L
  | [], h => by cases h
  | q :: r, h => by
    unfold cq_ll at h
    cases hb : cq_ceq q.1 c with
    | true =>
      rw [hb] at h
      rw [← cq_ceq_ok hb, ← Option.some.inj h]
      exact List.mem_cons_self
    | false =>
      rw [hb] at h
      exact List.mem_cons_of_mem _ (cq_ll_ok h)
def cq_S.aL (S : cq_S) (q : cq_C × cq_F) : cq_S := cq_mk S.n S.P S.N S.K S.W S.T (q :: S.L) S.M S.U S.ac S.al
/-- the length of an array or a text -/
def cq_lnp (S : cq_S) (c : cq_C) (k : cq_Kd) : cq_F × cq_S := match k with
  | (_, _, ln + 1) => (cq_c ln, S)
  | _ => (match cq_ll c S.L with
    | some f => (f, S)
    | none => (cq_s S.n, (S.fb 0 100000).aL (c, cq_s S.n)))
section CRA
variable {m : cq_W} {h0 : am_H} {ρ : Nat → Int} {S : cq_S} {h : am_H} {als ast : List cq_A} {ls st : List Value} {out : List cq_O} {e : am_E} {pc pc' : Nat}
theorem cq_cel_eq {S1 : cq_S} (h1 : S1.N = S.N) (h2 : S1.K = S.K) (a : cq_A) : cq_cel S1 a = cq_cel S a := by
  unfold cq_cel cq_sk
  rw [h1, h2]
theorem cq_lnp_eq (c : cq_C) (k : cq_Kd) : (cq_lnp S c k).2.N = S.N ∧ (cq_lnp S c k).2.K = S.K ∧ (cq_lnp S c k).2.U = S.U ∧ (cq_lnp S c k).2.W = S.W := by
  unfold cq_lnp
  split
  · exact ⟨rfl, rfl, rfl, rfl⟩
  · split
    · exact ⟨rfl, rfl, rfl, rfl⟩
    · exact ⟨rfl, rfl, rfl, rfl⟩
theorem cq_lnp_ok {c : cq_C} {k : cq_Kd} {cc : Nat} (H : ∀ ρ', cq_ag S.n ρ' ρ → cq_Md m h0 ρ' S h) (hc : ∀ ρ', cq_ag S.n ρ' ρ → cq_ce ρ' c = cc) (hb : cq_len h cc ≤ 100000) (hk : ∀ ln, k.2.2 = ln + 1 → cq_len h cc = ln) : cq_Mk m h0 ρ S h (cq_i (cq_lnp S c k).1, (cq_lnp S c k).2) (.int (Int32.ofNat (cq_len h cc))) := by
  have e1 : (Int32.ofNat (cq_len h cc)).toInt = (cq_len h cc : Int) := Int32.toInt_ofNat_of_lt (by omega)
  unfold cq_lnp
  split
  · rename_i x y ln
    refine cq_Mk.of fun ρ' a => ⟨H ρ' a, _, rfl, ?_⟩
    rw [e1, cq_c_e, hk ln rfl]
  · split
    · rename_i f hf
      refine cq_Mk.of fun ρ' a => ⟨H ρ' a, _, rfl, ?_⟩
      have := (H ρ' a).L _ (cq_ll_ok hf)
      dsimp only at this
      rw [e1, this, hc ρ' a]
    · refine ⟨Nat.le_succ _, cq_up ρ S.n (cq_len h cc), cq_up_g, fun ρ' a => ?_⟩
      obtain ⟨D, ew⟩ := cq_fb_ok (l := 0) (u := 100000) H (by omega) (by omega) ρ' a
      refine ⟨⟨D.1, D.2.1, D.2.2.1, D.2.2.2.1, D.2.2.2.2.1, ?_, D.2.2.2.2.2.2⟩, _, rfl, by rw [cq_s_e, ew, e1]⟩
      intro x hx
      rcases List.mem_cons.1 hx with z | z
      · subst z
        dsimp only
        rw [cq_s_e, ew, hc ρ' (cq_up_a a)]
      · exact D.L x z
end CRA
def cq_gf (ci j pc' : Nat) (ls st : List cq_A) (S : cq_S) : Option (List cq_O) := match st with
  | a :: r => (match cq_cel S a with
    | some (c, (0, ci', z)) => bif Nat.beq ci' ci && Nat.blt j (am_N ci) then (match cq_rdp S c (0, ci', z) (cq_c j) with
      | some q => some [(pc', ls, q.1 :: r, q.2)]
      | none => none) else none
    | _ => none)
  | _ => none
def cq_ald (ok : Nat → Bool) (pc' : Nat) (ls st : List cq_A) (S : cq_S) : Option (List cq_O) := match st with
  | (1, i, _) :: a :: r => (match cq_cel S a with
    | some (c, (1, tc, ln)) => bif ok tc then (match cq_lnp S c (1, tc, ln) with
      | (f, S1) => bif cq_en S1.P i && cq_en S1.P (cq_ac (cq_sub f i) (-1)) then (match cq_rdp S1 c (1, tc, ln) i with
        | some q => some [(pc', ls, q.1 :: r, q.2)]
        | none => none) else none) else none
    | _ => none)
  | _ => none
def cq_aln (pc' : Nat) (ls st : List cq_A) (S : cq_S) : Option (List cq_O) := match st with
  | a :: r => (match cq_cel S a with
    | some (c, (1, tc, ln)) => (match cq_lnp S c (1, tc, ln) with
      | (f, S1) => some [(pc', ls, cq_i f :: r, S1)])
    | _ => none)
  | _ => none
section CRB
variable {m : cq_W} {h0 : am_H} {ρ : Nat → Int} {S : cq_S} {h : am_H} {als ast : List cq_A} {ls st : List Value} {out : List cq_O} {e : am_E} {pc pc' : Nat}
/-- a reference's cell, the same at every valuation -/
theorem cq_cel_u {a : cq_A} {c : cq_C} {k : cq_Kd} {v : Value} (hcel : cq_cel S a = some (c, k)) (H : ∀ ρ', cq_ag S.n ρ' ρ → cq_Md m h0 ρ' S h ∧ cq_g ρ' a v) : v = .ref (cq_ce ρ c) ∧ cq_lv h (cq_ce ρ c) k ∧ ∀ ρ', cq_ag S.n ρ' ρ → cq_ce ρ' c = cq_ce ρ c := by
  obtain ⟨D, g⟩ := H ρ cq_ag.rf
  obtain ⟨e1, e2⟩ := cq_cel_ok hcel D g
  refine ⟨e1, e2, fun ρ' a => ?_⟩
  obtain ⟨D', g'⟩ := H ρ' a
  obtain ⟨e3, -⟩ := cq_cel_ok hcel D' g'
  rw [e1] at e3
  injection e3 with e3
  exact e3.symm
theorem cq_isO_of {a ci : Nat} (q : cq_lv h a (0, ci, 0)) : am_isO h a ci = true := by
  obtain ⟨q1, q2⟩ := q
  unfold am_isO
  rw [q2, show Nat.blt a h.1 = true from Nat.ble_eq_true_of_le q1]
  simp only [Nat.beq_refl, Bool.and_self]
theorem cq_gf_ok {x : Nat} (he : e.1 = .getfield x) (H : cq_Rb m h0 ρ S als ast ls st h) (q : cq_gf e.2.2.2.1 e.2.2.2.2.1 (pc + 3) als ast S = some out) : cq_Res m h0 ρ S.n out (am_st e pc ls st h) := by
  unfold cq_gf at q
  split at q
  · rename_i a r
    split at q
    · rename_i c ci' z hcel
      rw [cond_eq_ite] at q
      split at q
      · rename_i hb
        have hb := (Bool.and_eq_true _ _ ▸ hb)
        have e1 := am_beq hb.1
        have e2 : e.2.2.2.2.1 < am_N e.2.2.2.1 := Nat.le_of_ble_eq_true hb.2
        split at q
        · rename_i w hw
          rw [← Option.some.inj q]
          obtain ⟨v, rs, es, K, H2⟩ := cq_pop1 H
          subst es
          obtain ⟨ev, hl, hu⟩ := cq_cel_u hcel fun ρ' a => ⟨(H ρ' a).1, K ρ' a⟩
          subst ev
          rw [e1] at hl hw
          have hO : am_isO h (cq_ce ρ c) e.2.2.2.1 = true := cq_isO_of hl
          simp only [am_st, he, hO, cond_true]
          have hlt : e.2.2.2.2.1 < (h.2.2.1 (cq_ce ρ c)).2.2 := by rw [hl.2]; exact e2
          have k := cq_rdp_ok (m := m) (h0 := h0) (w := e.2.2.2.2.1) (cc := cq_ce ρ c) (e1 ▸ hcel) hw (fun ρ' a => (H ρ' a).1) hu (fun ρ' a => cq_c_e ρ' _) hlt
          exact k.res fun ρ' a => (H2 ρ' a).2
        · cases q
      · cases q
    · cases q
  · cases q
theorem cq_len_ar {a : Nat} {k : cq_Kd} {c : cq_C} {b : cq_A} (hcel : cq_cel S b = some (c, (1, k.2))) (D : cq_Md m h0 ρ S h) (ha : a = cq_ce ρ c) : cq_len h a = (h.2.2.1 a).2.2 ∧ (h.2.2.1 a).2.2 ≤ 100000 := by
  have key : ¬ (7 ≤ a ∧ a < 23) ∧ (h.2.2.1 a).2.2 ≤ 100000 := by
    rcases cq_cel_c hcel with ⟨c1, hs1⟩ | ⟨c1, b1, b2, hf⟩ | ⟨c1, k1⟩ | ⟨c1, b1, b2, k1⟩ | ⟨c1, k1⟩
    · obtain ⟨p1, p2, -⟩ := cq_sk_ok D hs1
      have ec : cq_ce ρ c = (ρ c.2).toNat := by unfold cq_ce; rw [c1]; rfl
      rw [ec] at ha
      obtain ⟨q1, q2, q3, q4⟩ := p2
      rw [← ha] at q1 q2 q3
      refine ⟨by omega, ?_⟩
      rcases D.I.dy a q1 q2 with ⟨k, z⟩ | z
      · rw [z] at q3; cases q3
      · exact z.2
    · have ec : cq_ce ρ c = c.2 := by unfold cq_ce; rw [c1]; rfl
      rw [ec] at ha
      subst ha
      refine ⟨by omega, ?_⟩
      rw [D.I.fx c.2 b1 b2]
      have : ∀ c, c < 130 → 40 ≤ c → (cq_fix c).2.2 ≤ 100000 := by decide +kernel
      exact this c.2 b2 b1
    · subst c1
      have ec : cq_ce ρ (false, 0) = 0 := rfl
      rw [ec] at ha
      subst ha
      exact ⟨by omega, D.I.sc.2.2.1⟩
    · have ec : cq_ce ρ c = c.2 := by unfold cq_ce; rw [c1]; rfl
      rw [ec] at ha
      subst ha
      refine ⟨by omega, ?_⟩
      rw [(D.I.sv c.2 b1 b2).1]
      decide
    · cases k1
  refine ⟨?_, key.2⟩
  unfold cq_len
  have : (Nat.ble 7 a && Nat.blt a 23) = false := by
    cases hh : (Nat.ble 7 a && Nat.blt a 23) with
    | false => rfl
    | true =>
      have hh := (Bool.and_eq_true _ _ ▸ hh)
      have h1 := Nat.le_of_ble_eq_true hh.1
      have h2 : a < 23 := Nat.le_of_ble_eq_true hh.2
      exact absurd ⟨h1, h2⟩ key.1
  rw [this]
  rfl
/-- an element is read -/
theorem cq_ald_ok {ok : Nat → Bool} (H : cq_Rb m h0 ρ S als ast ls st h) (q : cq_ald ok pc' als ast S = some out) : ∃ (i : Int32) (a : Nat) (rs : List Value), st = .int i :: .ref a :: rs ∧ cq_Res m h0 ρ S.n out (match am_rd h a i ok with
    | some v => some (pc', ls, v :: rs, h)
    | none => none) := by
  unfold cq_ald at q
  split at q
  · rename_i f k a r
    split at q
    · rename_i c tc ln hcel
      rw [cond_eq_ite] at q
      split at q
      · rename_i hok
        split at q
        rename_i n S1 hL
        rw [cond_eq_ite] at q
        split at q
        · rename_i hb
          have hb := (Bool.and_eq_true _ _ ▸ hb)
          split at q
          · rename_i w hw
            rw [← Option.some.inj q]
            obtain ⟨v, rs, es, K1, H1⟩ := cq_pop1 H
            subst es
            obtain ⟨i, ei, hi⟩ := cq_int K1
            subst ei
            obtain ⟨v, rs, es, K2, H2⟩ := cq_pop1 H1
            subst es
            obtain ⟨ev, hl, hu⟩ := cq_cel_u hcel fun ρ' a => ⟨(H ρ' a).1, K2 ρ' a⟩
            subst ev
            refine ⟨i, cq_ce ρ c, rs, rfl, ?_⟩
            obtain ⟨l1, l2⟩ := cq_len_ar (k := (1, tc, ln)) hcel (H ρ cq_ag.rf).1 rfl
            have eq4 := cq_lnp_eq (S := S) c (1, tc, ln)
            have kk := cq_lnp_ok (m := m) (h0 := h0) (ρ := ρ) (S := S) (h := h) (c := c) (k := (1, tc, ln)) (cc := cq_ce ρ c) (fun ρ' a => (H ρ' a).1) hu (by rw [l1]; exact l2) (fun x hx => by
              have hx : ln = x + 1 := hx
              rcases hl.2.2.2 with z | z
              · omega
              · rw [l1]; omega)
            rw [hL] at kk eq4
            dsimp only at kk eq4
            obtain ⟨hn, ρ1, a1, k1⟩ := kk
            obtain ⟨D1, x, ex, hx⟩ := k1 ρ1 cq_ag.rf
            cases ex
            have en : (Int32.ofNat (cq_len h (cq_ce ρ c))).toInt = ((h.2.2.1 (cq_ce ρ c)).2.2 : Int) := by rw [l1]; exact Int32.toInt_ofNat_of_lt (by omega)
            have b1 := cq_en_ok D1.P hb.1
            have b2 := cq_en_ok D1.P hb.2
            rw [cq_ac_e, cq_sub_e, ← hx, en] at b2
            have hi1 : i.toInt = cq_e ρ1 f := hi ρ1 a1
            have i0 : ¬ i < 0 := fun z => by
              have := Int32.lt_iff_toInt_lt.1 z
              rw [cq_i0] at this
              omega
            have ei : i.toInt = (i.toNatClampNeg : Int) := (Int32.cast_toNatClampNeg i (by rw [Int32.le_iff_toInt_le, cq_i0]; omega)).symm
            have hlt : i.toNatClampNeg < (h.2.2.1 (cq_ce ρ c)).2.2 := by omega
            have erd : am_rd h (cq_ce ρ c) i ok = some (h.2.2.2 (cq_ce ρ c) i.toNatClampNeg) := by
              unfold am_rd
              have t1 : Nat.blt (cq_ce ρ c) h.1 = true := Nat.ble_eq_true_of_le hl.1
              have t2 : (Nat.beq (h.2.2.1 (cq_ce ρ c)).1 1 || Nat.beq (h.2.2.1 (cq_ce ρ c)).1 2) = true := by
                rcases hl.2.1 with z | z
                · rw [z]; rfl
                · rw [z]; rfl
              rw [t1, t2, hl.2.2.1, hok]
              simp only [Bool.and_self, cond_true]
              rw [if_neg (fun z => by rcases z with z | z; exact i0 z; omega)]
            rw [erd]
            dsimp only
            have k3 := cq_rdp_ok (m := m) (h0 := h0) (S := S1) (ρ := ρ1) (w := i.toNatClampNeg) (cc := cq_ce ρ c) (a := a) (by rw [cq_cel_eq eq4.1 eq4.2.1]; exact hcel) hw (fun ρ' a => (k1 ρ' a).1) (fun ρ' a => hu ρ' ((a.lt hn).tr a1)) (fun ρ' a => by rw [← hi ρ' ((a.lt hn).tr a1)]; exact ei) hlt
            obtain ⟨hn2, ρ2, a2, k4⟩ := k3
            have k5 : cq_Mk m h0 ρ S h w (h.2.2.2 (cq_ce ρ c) i.toNatClampNeg) := ⟨Nat.le_trans hn hn2, ρ2, (a2.lt hn).tr a1, k4⟩
            exact k5.res fun ρ' a => (H2 ρ' a).2
          · cases q
        · cases q
      · cases q
    · cases q
  · cases q
theorem cq_aln_ok (he : e.1 = .arraylength) (H : cq_Rb m h0 ρ S als ast ls st h) (q : cq_aln (pc + 1) als ast S = some out) : cq_Res m h0 ρ S.n out (am_st e pc ls st h) := by
  unfold cq_aln at q
  split at q
  · rename_i a r
    split at q
    · rename_i c tc ln hcel
      split at q
      rename_i n S1 hL
      rw [← Option.some.inj q]
      obtain ⟨v, rs, es, K2, H2⟩ := cq_pop1 H
      subst es
      obtain ⟨ev, hl, hu⟩ := cq_cel_u hcel fun ρ' a => ⟨(H ρ' a).1, K2 ρ' a⟩
      subst ev
      obtain ⟨l1, l2⟩ := cq_len_ar (k := (1, tc, ln)) hcel (H ρ cq_ag.rf).1 rfl
      have kk := cq_lnp_ok (m := m) (h0 := h0) (ρ := ρ) (S := S) (h := h) (c := c) (k := (1, tc, ln)) (cc := cq_ce ρ c) (fun ρ' a => (H ρ' a).1) hu (by rw [l1]; exact l2) (fun x hx => by
        have hx : ln = x + 1 := hx
        rcases hl.2.2.2 with z | z
        · omega
        · rw [l1]; omega)
      rw [hL, l1] at kk
      have eln : am_len h (cq_ce ρ c) = some (h.2.2.1 (cq_ce ρ c)).2.2 := by
        unfold am_len
        have t1 : Nat.blt (cq_ce ρ c) h.1 = true := Nat.ble_eq_true_of_le hl.1
        have t2 : (Nat.beq (h.2.2.1 (cq_ce ρ c)).1 1 || Nat.beq (h.2.2.1 (cq_ce ρ c)).1 2) = true := by
          rcases hl.2.1 with z | z
          · rw [z]; rfl
          · rw [z]; rfl
        rw [t1, t2]
        rfl
      simp only [am_st, he, eln]
      exact kk.res fun ρ' a => (H2 ρ' a).2
    · cases q
  · cases q
end CRB
end
section
/-! THE CHECKER, 13: a place is written: what stays -/
theorem cq_put_v (h : am_H) (c j : Nat) (v : Value) (a b : Nat) : (am_put h c j v).2.2.2 a b = if a = c then (if b = j then v else h.2.2.2 a b) else h.2.2.2 a b := rfl
theorem cq_put_ne {h : am_H} {c j : Nat} {v : Value} {a b : Nat} (q : a ≠ c ∨ b ≠ j) : (am_put h c j v).2.2.2 a b = h.2.2.2 a b := by
  rw [cq_put_v]
  by_cases e : a = c
  · rw [if_pos e]
    rcases q with q | q
    · exact absurd e q
    · rw [if_neg q]
  · rw [if_neg e]
theorem cq_put_eq {h : am_H} {c j : Nat} {v : Value} : (am_put h c j v).2.2.2 c j = v := by
  rw [cq_put_v, if_pos rfl, if_pos rfl]
theorem cq_n_ne {h : am_H} {c j : Nat} {v : Value} {a b : Nat} (q : a ≠ c ∨ b ≠ j) : cq_n (am_put h c j v) a b = cq_n h a b := by
  unfold cq_n
  rw [cq_put_ne q]
theorem cq_kOk_put {h : am_H} {c j : Nat} {v : Value} {a : Nat} {k : cq_Kd} : cq_kOk (am_put h c j v) a k ↔ cq_kOk h a k := by
  obtain ⟨t, x, y⟩ := k
  rcases t with _ | _ | t <;> exact Iff.rfl
/-- the counts grow -/
def cq_gr (h h' : am_H) : Prop := (∀ a k, cq_kOk h a k → cq_kOk h' a k) ∧ cq_n h 40 13 ≤ cq_n h' 40 13
theorem cq_ht_gr {h h' : am_H} {j : Nat} {t : cq_T} {v : Value} (G : cq_gr h h') (hp : t.1 = 11 → v = .null → cq_n h t.2.2.2.2.1 t.2.2.2.2.2 ≤ j → cq_n h' t.2.2.2.2.1 t.2.2.2.2.2 ≤ j) (q : cq_ht h j t v) : cq_ht h' j t v := by
  obtain ⟨n, l, u, a, b, c⟩ := t
  rcases n with _ | _ | _ | _ | _ | _ | _ | _ | _ | _ | _ | _ | n
  · exact q
  · exact q
  · exact q
  · exact q
  · obtain ⟨x, e, k⟩ := q
    exact ⟨x, e, G.1 _ _ k⟩
  · rcases q with q | ⟨x, e, k⟩
    · exact Or.inl q
    · exact Or.inr ⟨x, e, G.1 _ _ k⟩
  · obtain ⟨x, e, k⟩ := q
    exact ⟨x, e, G.1 _ _ k⟩
  · exact q
  · obtain ⟨x, e, b1, b2, b3⟩ := q
    refine ⟨x, e, b1, b2, Int.le_trans b3 ?_⟩
    exact Int.mul_le_mul_of_nonneg_left G.2 (Int.natCast_nonneg a)
  · obtain ⟨x, e, b1, b2, b3⟩ := q
    refine ⟨x, e, b1, b2, ?_⟩
    have := G.2
    omega
  · exact q
  · rcases q with ⟨q1, q2⟩ | ⟨x, e, k⟩
    · exact Or.inl ⟨q1, hp rfl q1 q2⟩
    · exact Or.inr ⟨x, e, G.1 _ _ k⟩
  · exact q.elim
theorem cq_obp : ∀ c, c < 130 → 40 ≤ c → (cq_fix c).1 = 0 → ∀ w, w < (cq_fix c).2.2 → cq_pre11 (cq_ob c w) = true := by decide +kernel
/-- the types with a count speak of the two counts alone -/
theorem cq_tyOf11 {x : Option Nat} {h : am_H} (I : cq_Inv x h) {c j : Nat} (h40 : 40 ≤ c) (hlt : c < h.1) (hj : j < (h.2.2.1 c).2.2) : cq_pre11 (cq_tyOf c (h.2.2.1 c) j) = true := by
  unfold cq_tyOf
  cases hb : Nat.blt c 130 with
  | true =>
    have b2 : c < 130 := Nat.le_of_ble_eq_true hb
    simp only [cond_true]
    unfold cq_ty
    cases hA : cq_isA c with
    | true =>
      simp only [cond_true]
      cases ((Nat.beq c 81 || Nat.beq c 83) && Nat.beq j 1) with
      | true => rfl
      | false => exact cq_p11a c b2
    | false =>
      simp only [cond_false]
      rw [I.fx c h40 b2] at hj
      rcases cq_fix_ok c b2 h40 with z | z
      · exact cq_obp c b2 h40 z.1 j hj
      · unfold cq_isA at hA
        rw [z] at hA
        cases hA
  | false =>
    simp only [cond_false]
    have b2 : 130 ≤ c := by
      rcases Nat.lt_or_ge c 130 with z | z
      · rw [show Nat.blt c 130 = true from Nat.ble_eq_true_of_le z] at hb; cases hb
      · exact z
    rcases I.dy c b2 hlt with ⟨k, z⟩ | z
    · rw [z] at hj ⊢
      simp only [Nat.beq_refl, cond_true]
      dsimp only at hj
      by_cases hx : k < 14
      · by_cases hw : j < 100
        · exact cq_p11o k hx j hw
        · exfalso
          have : ∀ x, x < 14 → am_N x ≤ 100 := by decide +kernel
          have := this k hx
          omega
      · exfalso
        have e0 : am_N k = 0 := by
          unfold am_N
          have : vwCl[k]? = none := List.getElem?_eq_none_iff.2 (by show 14 ≤ k; omega)
          rw [this]
        rw [e0] at hj
        omega
    · rw [z.1]
      show cq_pre11 (cq_at (h.2.2.1 c).2.1) = true
      unfold cq_at
      cases Nat.beq (h.2.2.1 c).2.1 0 with
      | true => rfl
      | false =>
        cases Nat.beq (h.2.2.1 c).2.1 3 with
        | true => rfl
        | false =>
          cases Nat.beq (h.2.2.1 c).2.1 7 with
          | true => rfl
          | false => rfl
theorem cq_pre11_c {t : cq_T} (q : cq_pre11 t = true) (e : t.1 = 11) : (t.2.2.2.2.1 = 40 ∧ t.2.2.2.2.2 = 13) ∨ (t.2.2.2.2.1 = 48 ∧ t.2.2.2.2.2 = 1) := by
  unfold cq_pre11 at q
  rw [e] at q
  have q : cq_cok t.2.2.2.2.1 t.2.2.2.2.2 = true := q
  rcases Bool.or_eq_true _ _ ▸ q with z | z
  · have z := (Bool.and_eq_true _ _ ▸ z)
    exact Or.inl ⟨am_beq z.1, am_beq z.2⟩
  · have z := (Bool.and_eq_true _ _ ▸ z)
    exact Or.inr ⟨am_beq z.1, am_beq z.2⟩
theorem cq_ar40 : ∀ c, c < 130 → 40 ≤ c → (cq_ar c).1 = 11 → (cq_ar c).2.2.2.2.1 = 40 → c = 74 ∧ (cq_fix c).2.2 = 14 := by decide +kernel
theorem cq_ar48 : ∀ c, c < 130 → 40 ≤ c → (cq_ar c).1 = 11 → (cq_ar c).2.2.2.2.1 = 48 → c = 49 ∧ (cq_fix c).2.2 = 80 := by decide +kernel
/-- a write of a value of the place's type keeps everything: the general case, and what must be looked at -/
theorem cq_Inv_put {x : Option Nat} {h : am_H} (I : cq_Inv x h) {c j : Nat} {v : Value} (h40 : 40 ≤ c) (hlt : c < h.1)
    (ht : some c ≠ x → cq_ht h j (cq_tyOf c (h.2.2.1 c) j) v)
    (hcc : c = 40 → j = 13 → ∃ a : Int32, v = .int a ∧ cq_n h 40 13 ≤ a.toInt ∧ ∀ i : Nat, i < a.toInt → i < 14 → cq_n h 40 13 ≤ i → h.2.2.2 74 i ≠ .null)
    (hlc : c = 48 → j = 1 → ∃ a : Int32, v = .int a ∧ cq_n h 48 1 ≤ a.toInt ∧ ∀ i : Nat, i < a.toInt → i < 80 → cq_n h 48 1 ≤ i → h.2.2.2 49 i ≠ .null)
    (hli : c = 93 → 120 ≤ j) (hst : c = 96 → 3600 ≤ j) (hed : c ≠ 92) : cq_Inv x (am_put h c j v) := by
  have gn : cq_n h 40 13 ≤ cq_n (am_put h c j v) 40 13 := by
    by_cases e : c = 40 ∧ j = 13
    · obtain ⟨e1, e2⟩ := e
      obtain ⟨a, ea, k, -⟩ := hcc e1 e2
      subst e1
      subst e2
      have : cq_n (am_put h 40 13 v) 40 13 = a.toInt := by unfold cq_n; rw [cq_put_eq, ea]
      omega
    · rw [cq_n_ne (by omega)]
      exact Int.le_refl _
  have gn2 : cq_n h 48 1 ≤ cq_n (am_put h c j v) 48 1 := by
    by_cases e : c = 48 ∧ j = 1
    · obtain ⟨e1, e2⟩ := e
      obtain ⟨a, ea, k, -⟩ := hlc e1 e2
      subst e1
      subst e2
      have : cq_n (am_put h 48 1 v) 48 1 = a.toInt := by unfold cq_n; rw [cq_put_eq, ea]
      omega
    · rw [cq_n_ne (by omega)]
      exact Int.le_refl _
  have G : cq_gr h (am_put h c j v) := ⟨fun a k q => cq_kOk_put.2 q, gn⟩
  refine ⟨I.lo, I.fx, ?_, ?_, I.dy, ?_, ?_⟩
  · intro c' b1 b2
    obtain ⟨k1, k2⟩ := I.sv c' b1 b2
    refine ⟨k1, fun j' hj' => ?_⟩
    rw [cq_put_ne (Or.inl (by omega))]
    exact k2 j' hj'
  · obtain ⟨k1, k2, k3, k4⟩ := I.sc
    refine ⟨k1, k2, k3, fun j' hj' => ?_⟩
    rw [cq_put_ne (Or.inl (by omega))]
    exact k4 j' hj'
  · intro c' b1 b2 nx j' hj'
    replace b2 : c' < h.1 := b2
    replace hj' : j' < (h.2.2.1 c').2.2 := hj'
    have h11 := cq_tyOf11 I b1 b2 hj'
    show cq_ht (am_put h c j v) j' (cq_tyOf c' (h.2.2.1 c') j') _
    by_cases e : c' = c ∧ j' = j
    · obtain ⟨e1, e2⟩ := e
      subst e1
      subst e2
      rw [cq_put_eq]
      refine cq_ht_gr G (fun t11 ev hle => ?_) (ht nx)
      rcases cq_pre11_c h11 t11 with ⟨z1, z2⟩ | ⟨z1, z2⟩
      · rw [z1, z2] at hle ⊢
        rw [cq_n_ne (by
          rcases Nat.decEq c' 40 with z | z
          · exact Or.inl (fun y => z y.symm)
          · exfalso
            subst z
            rw [I.fx 40 (by omega) (by omega)] at t11 hj'
            have : ∀ w, w < (cq_fix 40).2.2 → (cq_tyOf 40 (cq_fix 40) w).1 ≠ 11 := by decide +kernel
            exact this j' hj' t11)]
        exact hle
      · rw [z1, z2] at hle ⊢
        rw [cq_n_ne (by
          rcases Nat.decEq c' 48 with z | z
          · exact Or.inl (fun y => z y.symm)
          · exfalso
            subst z
            rw [I.fx 48 (by omega) (by omega)] at t11 hj'
            have : ∀ w, w < (cq_fix 48).2.2 → (cq_tyOf 48 (cq_fix 48) w).1 ≠ 11 := by decide +kernel
            exact this j' hj' t11)]
        exact hle
    · have ev := cq_put_ne (h := h) (v := v) (show c' ≠ c ∨ j' ≠ j by omega)
      rw [ev]
      refine cq_ht_gr G (fun t11 en hle => ?_) (I.ty c' b1 b2 nx j' hj')
      have hpl : ∀ cn, (cq_tyOf c' (h.2.2.1 c') j').2.2.2.2.1 = cn → (cq_tyOf c' (h.2.2.1 c') j').1 = 11 → (cn = 40 → c' = 74 ∧ j' < 14) ∧ (cn = 48 → c' = 49 ∧ j' < 80) := fun cn ecn t11 => by
        have hlo : c' < 130 := by
          rcases Nat.lt_or_ge c' 130 with z | z
          · exact z
          · exfalso
            have hb : Nat.blt c' 130 = false := by
              cases hh : Nat.blt c' 130 with
              | false => rfl
              | true => have : c' < 130 := Nat.le_of_ble_eq_true hh; omega
            unfold cq_tyOf at t11
            rw [hb] at t11
            simp only [cond_false] at t11
            rcases I.dy c' z b2 with ⟨k, zz⟩ | zz
            · rw [zz] at t11 hj'
              simp only [Nat.beq_refl, cond_true] at t11
              dsimp only at hj'
              by_cases hx : k < 14
              · have hN : ∀ x, x < 14 → am_N x ≤ 100 := by decide +kernel
                have hn := hN k hx
                have : ∀ k, k < 14 → ∀ j, j < 100 → (cq_cl k j).1 ≠ 11 := by decide +kernel
                exact this k hx j' (by omega) t11
              · have e0 : am_N k = 0 := by
                  unfold am_N
                  have : vwCl[k]? = none := List.getElem?_eq_none_iff.2 (by show 14 ≤ k; omega)
                  rw [this]
                rw [e0] at hj'
                omega
            · rw [zz.1] at t11
              have t11 : (cq_at (h.2.2.1 c').2.1).1 = 11 := t11
              unfold cq_at at t11
              cases h1 : Nat.beq (h.2.2.1 c').2.1 0 with
              | true => rw [h1] at t11; cases t11
              | false =>
                cases h2 : Nat.beq (h.2.2.1 c').2.1 3 with
                | true => rw [h1, h2] at t11; cases t11
                | false =>
                  cases h3 : Nat.beq (h.2.2.1 c').2.1 7 with
                  | true => rw [h1, h2, h3] at t11; cases t11
                  | false => rw [h1, h2, h3] at t11; cases t11
        have hb : Nat.blt c' 130 = true := Nat.ble_eq_true_of_le hlo
        unfold cq_tyOf at t11 ecn
        rw [hb] at t11 ecn
        simp only [cond_true] at t11 ecn
        rw [I.fx c' b1 hlo] at hj'
        unfold cq_ty at t11 ecn
        cases hA : cq_isA c' with
        | true =>
          rw [hA] at t11 ecn
          simp only [cond_true] at t11 ecn
          cases hs : ((Nat.beq c' 81 || Nat.beq c' 83) && Nat.beq j' 1) with
          | true => rw [hs] at t11; cases t11
          | false =>
            rw [hs] at t11 ecn
            simp only [cond_false] at t11 ecn
            have p1 := cq_ar40 c' hlo b1 t11
            have p2 := cq_ar48 c' hlo b1 t11
            refine ⟨fun z => ?_, fun z => ?_⟩
            · obtain ⟨y1, y2⟩ := p1 (ecn.trans z)
              exact ⟨y1, by omega⟩
            · obtain ⟨y1, y2⟩ := p2 (ecn.trans z)
              exact ⟨y1, by omega⟩
        | false =>
          rw [hA] at t11
          simp only [cond_false] at t11
          exfalso
          have : ∀ c, c < 130 → 40 ≤ c → cq_isA c = false → ∀ w, w < (cq_fix c).2.2 → (cq_ob c w).1 ≠ 11 := by decide +kernel
          exact this c' hlo b1 hA j' hj' t11
      rcases cq_pre11_c h11 t11 with ⟨z1, z2⟩ | ⟨z1, z2⟩
      · obtain ⟨y1, y2⟩ := (hpl _ rfl t11).1 z1
        rw [z1, z2] at hle ⊢
        by_cases e2 : c = 40 ∧ j = 13
        · obtain ⟨e3, e4⟩ := e2
          obtain ⟨a, ea, k1, k2⟩ := hcc e3 e4
          subst e3
          subst e4
          have ecn : cq_n (am_put h 40 13 v) 40 13 = a.toInt := by unfold cq_n; rw [cq_put_eq, ea]
          rw [ecn]
          rcases (show a.toInt ≤ (j' : Int) ∨ (j' : Int) < a.toInt by omega) with w | w
          · exact w
          · subst y1
            exact absurd en (k2 j' w y2 hle)
        · rw [cq_n_ne (by omega)]
          exact hle
      · obtain ⟨y1, y2⟩ := (hpl _ rfl t11).2 z1
        rw [z1, z2] at hle ⊢
        by_cases e2 : c = 48 ∧ j = 1
        · obtain ⟨e3, e4⟩ := e2
          obtain ⟨a, ea, k1, k2⟩ := hlc e3 e4
          subst e3
          subst e4
          have ecn : cq_n (am_put h 48 1 v) 48 1 = a.toInt := by unfold cq_n; rw [cq_put_eq, ea]
          rw [ecn]
          rcases (show a.toInt ≤ (j' : Int) ∨ (j' : Int) < a.toInt by omega) with w | w
          · exact w
          · subst y1
            exact absurd en (k2 j' w y2 hle)
        · rw [cq_n_ne (by omega)]
          exact hle
  · intro t htt
    have e1 : cq_n (am_put h c j v) 93 t = cq_n h 93 t := cq_n_ne (by omega)
    have e2 : cq_n (am_put h c j v) 92 (t / 3) = cq_n h 92 (t / 3) := cq_n_ne (by omega)
    rw [e1, e2]
    rw [cq_put_ne (by omega)]
    exact I.sx t htt
end
section
/-! THE CHECKER, 14: writing a place -/
def cq_cT (S : cq_S) (c i : Nat) : Option cq_F := match cq_tl (false, c) (cq_c i) S.T with
  | some (1, f, _) => some f
  | _ => none
/-- has a value a place's type -/
def cq_ck (S : cq_S) (t : cq_T) (j : cq_F) (a : cq_A) : Bool := match t with
  | (1, l, u, _) => Nat.beq a.1 1 && cq_inE S.P a.2.1 l u
  | (2, _) => Nat.beq a.1 2
  | (3, _, _, k, _) => Nat.beq a.1 5 && Nat.beq a.2.2 k
  | (4, _, _, k, _) => Nat.beq a.1 6 && (match cq_sk S a.2.2 with
    | some (0, k', _) => Nat.beq k' k
    | _ => false)
  | (5, _, _, k, _) => Nat.beq a.1 4 || (Nat.beq a.1 6 && (match cq_kl a.2.2 S.K with
    | some (0, k', _) => Nat.beq k' k
    | _ => false))
  | (6, _, _, tc, ln, _) => Nat.beq a.1 6 && (match cq_sk S a.2.2 with
    | some (1, tc', ln') => Nat.beq tc' tc && (Nat.beq ln 0 || Nat.beq ln' ln)
    | _ => false)
  | (7, _, _, k, k', _) => Nat.beq a.1 5 && (Nat.beq a.2.2 k || Nat.beq a.2.2 k')
  | (8, l, u, k, _) => Nat.beq a.1 1 && cq_inE S.P a.2.1 l u && (match cq_cT S 40 13 with
    | some g => cq_en S.P (cq_sub (cq_sc k g) a.2.1)
    | none => false)
  | (9, l, u, _) => Nat.beq a.1 1 && cq_inE S.P a.2.1 l u && (cq_fe a.2.1 (cq_c 0) || (match cq_cT S 40 13 with
    | some g => cq_en S.P (cq_sub (cq_ac g (-1)) a.2.1)
    | none => false))
  | (10, l, u, _) => Nat.beq a.1 1 && cq_en S.P (cq_ac a.2.1 (- l)) && cq_en S.P (cq_sub (cq_sub (cq_c u) j) a.2.1)
  | (11, _, _, k, _) => Nat.beq a.1 6 && (match cq_sk S a.2.2 with
    | some (0, k', _) => Nat.beq k' k
    | _ => false)
  | _ => false
section CSA
variable {m : cq_W} {h0 : am_H} {ρ : Nat → Int} {S : cq_S} {h : am_H}
theorem cq_cT_ok {c i : Nat} {f : cq_F} (q : cq_cT S c i = some f) (D : cq_Md m h0 ρ S h) : cq_n h c i = cq_e ρ f ∧ ∃ x : Int32, h.2.2.2 c i = .int x := by
  unfold cq_cT at q
  split at q
  · rename_i f' k ht
    cases Option.some.inj q
    have z := D.T _ (cq_tl_ok ht)
    dsimp only at z
    rw [cq_c_e, Int.toNat_natCast] at z
    obtain ⟨x, ex, hx⟩ := z
    have ex : h.2.2.2 c i = .int x := ex
    refine ⟨?_, x, ex⟩
    unfold cq_n
    rw [ex]
    exact hx
  · cases q
theorem cq_tag {a : cq_A} {n : Nat} (h : Nat.beq a.1 n = true) : a = (n, a.2.1, a.2.2) := by
  obtain ⟨t, f, k⟩ := a
  have e := am_beq h
  dsimp only at e
  rw [e]
theorem cq_kk0 {x k k' z : Nat} (q : cq_kOk h x (0, k', z)) (e : k' = k) : cq_kOk h x (0, k, 0) := by
  subst e
  exact q
theorem cq_ck_ok {t : cq_T} {j : cq_F} {a : cq_A} {v : Value} (q : cq_ck S t j a = true) (D : cq_Md m h0 ρ S h) (g : cq_g ρ a v) (hj : 0 ≤ cq_e ρ j) : cq_ht h (cq_e ρ j).toNat t v := by
  have sym : ∀ k, (Nat.beq a.1 6 && (match cq_sk S a.2.2 with
    | some (0, k', _) => Nat.beq k' k
    | _ => false)) = true → ∃ x, v = .ref x ∧ cq_kOk h x (0, k, 0) := fun k q => by
    have q := (Bool.and_eq_true _ _ ▸ q)
    rw [cq_tag q.1] at g
    have q2 := q.2
    split at q2
    · rename_i k' z hs
      obtain ⟨p1, p2, -⟩ := cq_sk_ok D hs
      rcases g with ⟨g1, -⟩ | ⟨-, g2⟩
      · omega
      · exact ⟨_, g2, cq_kk0 p2 (am_beq q2)⟩
    · cases q2
  unfold cq_ck at q
  split at q
  · rename_i l u r
    have q := (Bool.and_eq_true _ _ ▸ q)
    rw [cq_tag q.1] at g
    obtain ⟨x, ex, hx⟩ := g
    obtain ⟨b1, b2⟩ := cq_inE_ok D.P q.2
    exact ⟨x, ex, by rw [hx]; exact b1, by rw [hx]; exact b2⟩
  · rw [cq_tag q] at g
    obtain ⟨x, ex, hx⟩ := g
    exact ⟨x, ex⟩
  · have q := (Bool.and_eq_true _ _ ▸ q)
    rw [cq_tag q.1] at g
    have g : v = .ref a.2.2 := g
    rw [am_beq q.2] at g
    exact g
  · exact sym _ q
  · rename_i k r
    rcases Bool.or_eq_true _ _ ▸ q with z | z
    · rw [cq_tag z] at g
      exact Or.inl g
    · have z := (Bool.and_eq_true _ _ ▸ z)
      rw [cq_tag z.1] at g
      have q2 := z.2
      split at q2
      · rename_i k' y hs
        rcases g with ⟨-, g2⟩ | ⟨g1, g2⟩
        · exact Or.inl g2
        · exact Or.inr ⟨_, g2, cq_kk0 (D.K _ (cq_kl_ok hs) g1) (am_beq q2)⟩
      · cases q2
  · rename_i tc ln r
    have q := (Bool.and_eq_true _ _ ▸ q)
    rw [cq_tag q.1] at g
    have q2 := q.2
    split at q2
    · rename_i tc' ln' hs
      have q2 := (Bool.and_eq_true _ _ ▸ q2)
      obtain ⟨p1, p2, -⟩ := cq_sk_ok D hs
      rcases g with ⟨g1, -⟩ | ⟨-, g2⟩
      · omega
      · refine ⟨_, g2, ?_⟩
        obtain ⟨k1, k2, k3, k4, k5⟩ := p2
        refine ⟨k1, k2, k3, k4.trans (am_beq q2.1), ?_⟩
        rcases Bool.or_eq_true _ _ ▸ q2.2 with z | z
        · exact Or.inl (am_beq z)
        · have z := am_beq z
          rw [z] at k5
          exact k5
    · cases q2
  · have q := (Bool.and_eq_true _ _ ▸ q)
    rw [cq_tag q.1] at g
    have g : v = .ref a.2.2 := g
    rcases Bool.or_eq_true _ _ ▸ q.2 with z | z
    · rw [am_beq z] at g
      exact Or.inl g
    · rw [am_beq z] at g
      exact Or.inr g
  · rename_i l u k r
    have q := (Bool.and_eq_true _ _ ▸ q)
    have q1 := (Bool.and_eq_true _ _ ▸ q.1)
    rw [cq_tag q1.1] at g
    obtain ⟨x, ex, hx⟩ := g
    obtain ⟨b1, b2⟩ := cq_inE_ok D.P q1.2
    have q2 := q.2
    split at q2
    · rename_i f hf
      obtain ⟨n1, -⟩ := cq_cT_ok hf D
      have := cq_en_ok D.P q2
      rw [cq_sub_e, cq_sc_e] at this
      refine ⟨x, ex, by rw [hx]; exact b1, by rw [hx]; exact b2, ?_⟩
      rw [n1, hx]
      omega
    · cases q2
  · rename_i l u r
    have q := (Bool.and_eq_true _ _ ▸ q)
    have q1 := (Bool.and_eq_true _ _ ▸ q.1)
    rw [cq_tag q1.1] at g
    obtain ⟨x, ex, hx⟩ := g
    obtain ⟨b1, b2⟩ := cq_inE_ok D.P q1.2
    refine ⟨x, ex, by rw [hx]; exact b1, by rw [hx]; exact b2, ?_⟩
    rcases Bool.or_eq_true _ _ ▸ q.2 with z | z
    · right
      rw [hx, cq_fe_ok z, cq_c_e]
    · left
      split at z
      · rename_i f hf
        obtain ⟨n1, -⟩ := cq_cT_ok hf D
        have := cq_en_ok D.P z
        rw [cq_sub_e, cq_ac_e] at this
        rw [n1, hx]
        omega
      · cases z
  · rename_i l u r
    have q := (Bool.and_eq_true _ _ ▸ q)
    have q1 := (Bool.and_eq_true _ _ ▸ q.1)
    rw [cq_tag q1.1] at g
    obtain ⟨x, ex, hx⟩ := g
    have c1 := cq_en_ok D.P q1.2
    have c2 := cq_en_ok D.P q.2
    rw [cq_ac_e] at c1
    rw [cq_sub_e, cq_sub_e, cq_c_e] at c2
    exact ⟨x, ex, by rw [hx]; omega, by rw [hx]; omega⟩
  · exact Or.inr (sym _ q)
  · cases q
end CSA
def cq_mem (s : Nat) : List Nat → Bool
  | [] => false
  | q :: r => Nat.beq q s || cq_mem s r
theorem cq_mem_ok {s : Nat} : ∀ {l : List Nat}, cq_mem s l = true → s ∈ l
  | [], h => by cases h
  | q :: r, h => by
    rcases Bool.or_eq_true _ _ ▸ h with z | z
    · rw [am_beq z]; exact List.mem_cons_self
    · exact List.mem_cons_of_mem _ (cq_mem_ok z)
/-- two places' slots differ -/
def cq_sd (P : cq_P) (i j : cq_F) : Bool := cq_en P j && (bif cq_k (cq_sub i j) then !cq_z (cq_sub i j).1 else (cq_en P (cq_ac (cq_sub i j) (-1)) || cq_en P (cq_ac (cq_sub j i) (-1))))
/-- two cells differ -/
def cq_cdf (S : cq_S) (c d : cq_C) : Bool := bif c.1 then (bif d.1 then (match cq_sk S c.2, cq_sk S d.2 with
      | some k1, some k2 => !(Nat.beq k1.1 k2.1 && Nat.beq k1.2.1 k2.2.1) && Nat.ble k1.1 1 && Nat.ble k2.1 1 || (cq_mem c.2 S.W && Nat.blt d.2 c.2) || (cq_mem d.2 S.W && Nat.blt c.2 d.2)
      | _, _ => false)
    else (match cq_sk S c.2 with
      | some k1 => Nat.blt d.2 130 && Nat.ble k1.1 1
      | none => false))
  else bif d.1 then (match cq_sk S d.2 with
      | some k1 => Nat.blt c.2 130 && Nat.ble k1.1 1
      | none => false)
  else !Nat.beq c.2 d.2
def cq_kp (S : cq_S) (c : cq_C) (j : cq_F) (q : cq_C × cq_F × cq_A) : Bool := cq_cdf S c q.1 || cq_sd S.P j q.2.1
section CSB
variable {m : cq_W} {h0 : am_H} {ρ : Nat → Int} {S : cq_S} {h : am_H}
theorem cq_nb {b : Bool} (q : (!b) = true) : b = false := by cases b with
  | true => cases q
  | false => rfl
theorem cq_sd_ok {i j : cq_F} (D : cq_Md m h0 ρ S h) (hi : 0 ≤ cq_e ρ i) (q : cq_sd S.P i j = true) : (cq_e ρ j).toNat ≠ (cq_e ρ i).toNat := by
  have q := (Bool.and_eq_true _ _ ▸ q)
  have h1 := cq_en_ok D.P q.1
  have q2 := q.2
  cases hk : cq_k (cq_sub i j) with
  | true =>
    rw [hk] at q2
    have e := cq_k_e hk ρ
    rw [cq_sub_e] at e
    have nz : ¬ (cq_sub i j).1 = 0 := fun z => by
      rw [z] at q2
      cases q2
    omega
  | false =>
    rw [hk] at q2
    rcases Bool.or_eq_true _ _ ▸ q2 with z | z
    · have := cq_en_ok D.P z
      rw [cq_ac_e, cq_sub_e] at this
      omega
    · have := cq_en_ok D.P z
      rw [cq_ac_e, cq_sub_e] at this
      omega
theorem cq_k130 {a : Nat} {k : cq_Kd} (q : cq_kOk h a k) (hk : Nat.ble k.1 1 = true) : 130 ≤ a := by
  obtain ⟨t, x, y⟩ := k
  rcases t with _ | _ | t
  · exact q.1
  · exact q.1
  · cases hk
theorem cq_kuq {a : Nat} {k k' : cq_Kd} (q : cq_kOk h a k) (q' : cq_kOk h a k') (hk : Nat.ble k.1 1 = true) (hk' : Nat.ble k'.1 1 = true) : k.1 = k'.1 ∧ k.2.1 = k'.2.1 := by
  have key : ∀ k : cq_Kd, cq_kOk h a k → Nat.ble k.1 1 = true → (h.2.2.1 a).1 = k.1 ∧ (h.2.2.1 a).2.1 = k.2.1 := fun k q hk => by
    obtain ⟨t, x, y⟩ := k
    rcases t with _ | _ | t
    · rw [q.2.2]
      exact ⟨rfl, rfl⟩
    · exact ⟨q.2.2.1, q.2.2.2.1⟩
    · cases hk
  have k1 := key k q hk
  have k2 := key k' q' hk'
  exact ⟨k1.1.symm.trans k2.1, k1.2.symm.trans k2.2⟩
theorem cq_cdf_ok {c d : cq_C} (D : cq_Md m h0 ρ S h) (q : cq_cdf S c d = true) : cq_ce ρ d ≠ cq_ce ρ c := by
  obtain ⟨c1, c2⟩ := c
  obtain ⟨d1, d2⟩ := d
  unfold cq_cdf at q
  unfold cq_ce
  cases c1 with
  | true =>
    cases d1 with
    | true =>
      simp only [cond_true] at q ⊢
      split at q
      · rename_i k1 k2 s1 s2
        obtain ⟨p1, p2, p3⟩ := cq_sk_ok D s1
        obtain ⟨r1, r2, r3⟩ := cq_sk_ok D s2
        intro e
        rcases Bool.or_eq_true _ _ ▸ q with z | z
        · rcases Bool.or_eq_true _ _ ▸ z with y | y
          · have y := (Bool.and_eq_true _ _ ▸ y)
            have y1 := (Bool.and_eq_true _ _ ▸ y.1)
            rw [e] at r2
            obtain ⟨u1, u2⟩ := cq_kuq p2 r2 y1.2 y.2
            have := cq_nb y1.1
            rw [u1, u2, Nat.beq_refl, Nat.beq_refl] at this
            cases this
          · have y := (Bool.and_eq_true _ _ ▸ y)
            have l : d2 < c2 := Nat.le_of_ble_eq_true y.2
            have := (D.W c2 (cq_mem_ok y.1)).2.2 _ r3 l
            dsimp only at this
            omega
        · have z := (Bool.and_eq_true _ _ ▸ z)
          have l : c2 < d2 := Nat.le_of_ble_eq_true z.2
          have := (D.W d2 (cq_mem_ok z.1)).2.2 _ p3 l
          dsimp only at this
          omega
      · cases q
    | false =>
      simp only [cond_true, cond_false] at q ⊢
      split at q
      · rename_i k1 s1
        have q := (Bool.and_eq_true _ _ ▸ q)
        obtain ⟨p1, p2, p3⟩ := cq_sk_ok D s1
        have := cq_k130 p2 q.2
        have l : d2 < 130 := Nat.le_of_ble_eq_true q.1
        omega
      · cases q
  | false =>
    cases d1 with
    | true =>
      simp only [cond_true, cond_false] at q ⊢
      split at q
      · rename_i k1 s1
        have q := (Bool.and_eq_true _ _ ▸ q)
        obtain ⟨p1, p2, p3⟩ := cq_sk_ok D s1
        have := cq_k130 p2 q.2
        have l : c2 < 130 := Nat.le_of_ble_eq_true q.1
        omega
      · cases q
    | false =>
      simp only [cond_false] at q ⊢
      intro e
      rw [e, Nat.beq_refl] at q
      cases q
/-- what was known of other places stays -/
theorem cq_kp_ok {c : cq_C} {j : cq_F} {a : cq_A} {v : Value} (D : cq_Md m h0 ρ S h) (hj : 0 ≤ cq_e ρ j) (g : cq_g ρ a v) : ∀ e ∈ (c, j, a) :: S.T.filter (cq_kp S c j), cq_g ρ e.2.2 ((am_put h (cq_ce ρ c) (cq_e ρ j).toNat v).2.2.2 (cq_ce ρ e.1) (cq_e ρ e.2.1).toNat) := by
  intro x hx
  rcases List.mem_cons.1 hx with z | z
  · subst z
    dsimp only
    rw [cq_put_eq]
    exact g
  · obtain ⟨z1, z2⟩ := List.mem_filter.1 z
    rw [cq_put_ne]
    · exact D.T x z1
    · rcases Bool.or_eq_true _ _ ▸ z2 with y | y
      · exact Or.inl (cq_cdf_ok D y)
      · exact Or.inr (cq_sd_ok D hj y)
end CSB
end
section
/-! THE CHECKER, 15: a write, and what must be looked at -/
def cq_mw (m : cq_W) (c : cq_C) (k : cq_Kd) (j : cq_F) : Bool := m.any fun w => bif c.1 then w.1 && Nat.beq w.2.1 k.1 && Nat.beq w.2.2.1 k.2.1 && (Nat.beq w.2.2.2 0 || (cq_k j && Nat.beq w.2.2.2 (j.1.toNat + 1))) else !w.1 && Nat.beq w.2.1 c.2 && (Nat.beq w.2.2.1 0 || (cq_k j && Nat.beq w.2.2.1 (j.1.toNat + 1)))
/-- a count's new value: the old one, or one more, if the element is there -/
def cq_cn1 (S : cq_S) (c i ar : Nat) (a : cq_A) : Bool := Nat.beq a.1 1 && (match cq_cT S c i with
  | some g => cq_k (cq_sub a.2.1 g) && (cq_z (cq_sub a.2.1 g).1 || (cq_ieq (cq_sub a.2.1 g).1 1 && (match cq_tl (false, ar) g S.T with
    | some (6, _, s) => (cq_sk S s).isSome
    | _ => false)))
  | none => false)
def cq_cnk (S : cq_S) (c : cq_C) (j : cq_F) (a : cq_A) : Bool := bif c.1 then true else bif Nat.beq c.2 40 && cq_k j && cq_ieq j.1 13 then cq_cn1 S 40 13 74 a else bif Nat.beq c.2 48 && cq_k j && cq_ieq j.1 1 then cq_cn1 S 48 1 49 a else true
def cq_gd (S : cq_S) (c : cq_C) (k : cq_Kd) (j : cq_F) : Bool := bif c.1 then Nat.ble k.1 1 && (Nat.beq k.1 1 || cq_k j) else Nat.ble 40 c.2 && (Nat.beq k.1 1 || cq_k j) && (!(Nat.beq c.2 81 || Nat.beq c.2 83) || cq_k j) && (!Nat.beq c.2 93 || cq_en S.P (cq_ac j (-120))) && (!Nat.beq c.2 96 || cq_en S.P (cq_ac j (-3600))) && !Nat.beq c.2 92
def cq_S.sU (S : cq_S) (U : Option (Nat × Nat)) : cq_S := cq_mk S.n S.P S.N S.K S.W S.T S.L S.M U S.ac S.al
/-- is the object under making made -/
def cq_dOk (S : cq_S) (s ci : Nat) : Bool := (match cq_sk S s with
      | some (0, ci', _) => Nat.beq ci' ci
      | _ => false) && (List.range (am_N ci)).all (fun j => match cq_tl (true, s) (cq_c j) S.T with
      | some a => cq_ck S (cq_cl ci j) (cq_c j) a
      | none => false)
def cq_dis (S : cq_S) : cq_S := match S.U with
  | some (s, ci) => bif cq_dOk S s ci then S.sU none else S
  | none => S
def cq_wrp (m : cq_W) (S : cq_S) (c : cq_C) (k : cq_Kd) (j : cq_F) (a : cq_A) : Option cq_S :=
  bif cq_isU S c then some (cq_dis (S.sT ((c, j, a) :: S.T.filter (cq_kp S c j))))
  else bif cq_mw m c k j && cq_gd S c k j && cq_cnk S c j a && cq_ck S (cq_pt c k j) j a then some (S.sT ((c, j, a) :: S.T.filter (cq_kp S c j)))
  else none
section CSC
variable {m : cq_W} {h0 : am_H} {ρ : Nat → Int} {S : cq_S} {h : am_H}
theorem cq_dis_ok (D : cq_Md m h0 ρ S h) : cq_Md m h0 ρ (cq_dis S) h := by
  unfold cq_dis
  split
  · rename_i s ci hu
    cases hb : cq_dOk S s ci with
    | false => exact D
    | true =>
      have hb := (Bool.and_eq_true _ _ ▸ hb)
      have hk := hb.1
      split at hk
      · rename_i ci' z hs
        have e := am_beq hk
        subst e
        obtain ⟨p1, p2, p3⟩ := cq_sk_ok D hs
        refine ⟨D.1, D.2.1, D.2.2.1, D.2.2.2.1, D.2.2.2.2.1, D.2.2.2.2.2.1, D.2.2.2.2.2.2.1, ?_, D.2.2.2.2.2.2.2.2.1, D.2.2.2.2.2.2.2.2.2.1, fun q hq => by cases hq⟩
        have I := D.I
        refine ⟨I.lo, I.fx, I.sv, I.sc, I.dy, ?_, I.sx⟩
        intro c b1 b2 _ j hj
        by_cases e : c = (ρ s).toNat
        · subst e
          obtain ⟨k1, k2, k3⟩ := p2
          rw [k3] at hj
          have ha := List.all_eq_true.1 hb.2 j (List.mem_range.2 hj)
          split at ha
          · rename_i a hT
            have g := D.T _ (cq_tl_ok hT)
            dsimp only at g
            have ej : cq_e ρ (cq_c (j : Int)) = j := cq_c_e ρ j
            have z := cq_ck_ok ha D g (by rw [ej]; exact Int.natCast_nonneg j)
            rw [ej, Int.toNat_natCast] at z
            have et2 : cq_tyOf (ρ s).toNat (h.2.2.1 (ρ s).toNat) j = cq_cl ci' j := by
              unfold cq_tyOf
              have : Nat.blt (ρ s).toNat 130 = false := by
                cases hh : Nat.blt (ρ s).toNat 130 with
                | false => rfl
                | true => have : (ρ s).toNat < 130 := Nat.le_of_ble_eq_true hh; omega
              rw [this, k3]
              rfl
            rw [et2]
            exact z
          · cases ha
        · refine I.ty c b1 b2 ?_ j hj
          rw [hu]
          intro z
          exact e (Option.some.inj z)
      · cases hk
  · exact D
theorem cq_cn1_ok {c i ar : Nat} {a : cq_A} {v : Value} {lim : Nat} (q : cq_cn1 S c i ar a = true) (D : cq_Md m h0 ρ S h) (g : cq_g ρ a v) : ∃ x : Int32, v = .int x ∧ cq_n h c i ≤ x.toInt ∧ ∀ i' : Nat, i' < x.toInt → i' < lim → cq_n h c i ≤ i' → h.2.2.2 ar i' ≠ .null := by
  have q := (Bool.and_eq_true _ _ ▸ q)
  rw [cq_tag q.1] at g
  obtain ⟨x, ex, hx⟩ := g
  have q2 := q.2
  split at q2
  · rename_i f hf
    obtain ⟨n1, -⟩ := cq_cT_ok hf D
    have q2 := (Bool.and_eq_true _ _ ▸ q2)
    have e := cq_k_e q2.1 ρ
    rw [cq_sub_e] at e
    refine ⟨x, ex, ?_⟩
    rcases Bool.or_eq_true _ _ ▸ q2.2 with z | z
    · have := cq_z_eq z
      refine ⟨by rw [n1, hx]; omega, fun i' l1 _ l2 => ?_⟩
      rw [n1] at l2
      rw [hx] at l1
      omega
    · have z := (Bool.and_eq_true _ _ ▸ z)
      have e1 := cq_z_eq z.1
      refine ⟨by rw [n1, hx]; omega, fun i' l1 _ l2 => ?_⟩
      rw [n1] at l2
      rw [hx] at l1
      have ei : cq_e ρ f = (i' : Int) := by omega
      have q3 := z.2
      split at q3
      · rename_i y s hT
        have g2 := D.T _ (cq_tl_ok hT)
        dsimp only at g2
        rw [ei, Int.toNat_natCast] at g2
        cases hs : cq_sk S s with
        | none => rw [hs] at q3; cases q3
        | some kd =>
          obtain ⟨p1, -, -⟩ := cq_sk_ok D hs
          have g2 : (ρ s < 0 ∧ h.2.2.2 ar i' = .null) ∨ (0 ≤ ρ s ∧ h.2.2.2 ar i' = .ref (ρ s).toNat) := g2
          rcases g2 with ⟨g3, -⟩ | ⟨-, g3⟩
          · omega
          · rw [g3]; exact fun z => by cases z
      · cases q3
  · cases q2
theorem cq_Fr_put {c j : Nat} {v : Value} (F : cq_Fr m h0 h) (hw : c < h0.1 → cq_inW m c (h0.2.2.1 c) j = true) : cq_Fr m h0 (am_put h c j v) := by
  refine ⟨F.nx, F.sh, fun a ha b hb => ?_⟩
  rw [cq_put_ne]
  · exact F.vl a ha b hb
  · by_cases e : a = c ∧ b = j
    · obtain ⟨e1, e2⟩ := e
      subst e1
      subst e2
      rw [hw ha] at hb
      cases hb
    · omega
/-- the parts of a store that a write leaves -/
theorem cq_Md_put {c : cq_C} {j : cq_F} {a : cq_A} {v : Value} (D : cq_Md m h0 ρ S h) (hj : 0 ≤ cq_e ρ j) (g : cq_g ρ a v) (hI : cq_Inv (S.U.map fun q => (ρ q.1).toNat) (am_put h (cq_ce ρ c) (cq_e ρ j).toNat v)) (hF : cq_Fr m h0 (am_put h (cq_ce ρ c) (cq_e ρ j).toNat v)) : cq_Md m h0 ρ (S.sT ((c, j, a) :: S.T.filter (cq_kp S c j))) (am_put h (cq_ce ρ c) (cq_e ρ j).toNat v) := by
  refine ⟨D.1, D.2.1, fun x hx hp => cq_kOk_put.2 (D.K x hx hp), D.2.2.2.1, cq_kp_ok D hj g, D.2.2.2.2.2.1, D.2.2.2.2.2.2.1, hI, hF, D.2.2.2.2.2.2.2.2.2⟩
theorem cq_mw_ok {b : cq_A} {c : cq_C} {k : cq_Kd} {j : cq_F} (hcel : cq_cel S b = some (c, k)) (D : cq_Md m h0 ρ S h) (hk : Nat.ble k.1 1 = true) (q : cq_mw m c k j = true) (hj : 0 ≤ cq_e ρ j) (hlt : cq_ce ρ c < h0.1) (hc : c.1 = true → cq_sk S c.2 = some k) : cq_inW m (cq_ce ρ c) (h0.2.2.1 (cq_ce ρ c)) (cq_e ρ j).toNat = true := by
  obtain ⟨w, hw, q⟩ := List.any_eq_true.1 q
  refine List.any_eq_true.2 ⟨w, hw, ?_⟩
  have ej : cq_k j = true → j.1.toNat = (cq_e ρ j).toNat := fun z => by rw [cq_k_e z]
  cases c1 : c.1 with
  | true =>
    rw [c1] at q
    simp only [cond_true] at q
    have q1 := (Bool.and_eq_true _ _ ▸ q)
    have q2 := (Bool.and_eq_true _ _ ▸ q1.1)
    have q3 := (Bool.and_eq_true _ _ ▸ q2.1)
    obtain ⟨p1, p2, -⟩ := cq_sk_ok D (hc c1)
    have ec : cq_ce ρ c = (ρ c.2).toNat := by unfold cq_ce; rw [c1]; rfl
    rw [ec] at hlt ⊢
    have es := D.F.sh _ hlt
    have h130 := cq_k130 p2 hk
    have sh : (h.2.2.1 (ρ c.2).toNat).1 = k.1 ∧ (h.2.2.1 (ρ c.2).toNat).2.1 = k.2.1 := by
      obtain ⟨t, x, y⟩ := k
      rcases t with _ | _ | t
      · rw [p2.2.2]; exact ⟨rfl, rfl⟩
      · exact ⟨p2.2.2.1, p2.2.2.2.1⟩
      · cases hk
    rw [q3.1]
    simp only [cond_true]
    rw [← es, sh.1, sh.2, q3.2, q2.2, show Nat.ble 130 (ρ c.2).toNat = true from Nat.ble_eq_true_of_le h130]
    simp only [Bool.true_and]
    rcases Bool.or_eq_true _ _ ▸ q1.2 with z | z
    · rw [z]; rfl
    · have z := (Bool.and_eq_true _ _ ▸ z)
      rw [ej z.1] at z
      rw [z.2, Bool.or_true]
  | false =>
    rw [c1] at q
    simp only [cond_false] at q
    have q1 := (Bool.and_eq_true _ _ ▸ q)
    have q2 := (Bool.and_eq_true _ _ ▸ q1.1)
    have ec : cq_ce ρ c = c.2 := by unfold cq_ce; rw [c1]; rfl
    rw [ec]
    have w1 := cq_nb q2.1
    rw [w1]
    simp only [cond_false]
    rw [q2.2]
    simp only [Bool.true_and]
    rcases Bool.or_eq_true _ _ ▸ q1.2 with z | z
    · rw [z]; rfl
    · have z := (Bool.and_eq_true _ _ ▸ z)
      rw [ej z.1] at z
      rw [z.2, Bool.or_true]
end CSC
end
section
section CSD
variable {m : cq_W} {h0 : am_H} {ρ : Nat → Int} {S : cq_S} {h : am_H} {als ast : List cq_A} {ls st : List Value} {out : List cq_O} {e : am_E} {pc pc' : Nat}
theorem cq_cel_str {a : cq_A} {c : cq_C} {k : cq_Kd} (q : cq_cel S a = some (c, k)) (c1 : c.1 = false) (k1 : k = (2, 0, 0)) (h40 : 40 ≤ c.2) : False := by
  unfold cq_cel at q
  split at q
  · rename_i x k'
    rw [cond_eq_ite] at q
    split at q
    · rw [cond_eq_ite] at q
      split at q
      · cases Option.some.inj q; cases k1
      · cases Option.some.inj q; cases k1
    · rw [cond_eq_ite] at q
      split at q
      · cases Option.some.inj q; cases k1
      · rw [cond_eq_ite] at q
        split at q
        · cases Option.some.inj q; cases k1
        · rw [cond_eq_ite] at q
          split at q
          · rename_i h23
            have h23 : k' < 23 := Nat.le_of_ble_eq_true h23
            cases Option.some.inj q
            dsimp only at h40
            omega
          · cases q
  · rename_i x s
    split at q
    · cases Option.some.inj q; cases c1
    · cases q
  · cases q
theorem cq_dis_n : (cq_dis S).n = S.n := by
  unfold cq_dis
  split
  · rename_i s ci hu
    cases cq_dOk S s ci with
    | true => rfl
    | false => rfl
  · rfl
theorem cq_wrp_n {c : cq_C} {k : cq_Kd} {j : cq_F} {a : cq_A} {S' : cq_S} (q : cq_wrp m S c k j a = some S') : S'.n = S.n := by
  unfold cq_wrp at q
  rw [cond_eq_ite] at q
  split at q
  · rw [← Option.some.inj q, cq_dis_n]
    rfl
  · rw [cond_eq_ite] at q
    split at q
    · rw [← Option.some.inj q]
      rfl
    · cases q
/-- a write into a place that is there -/
theorem cq_wrp_ok {b a : cq_A} {c : cq_C} {k : cq_Kd} {j : cq_F} {v : Value} {S' : cq_S} (hcel : cq_cel S b = some (c, k)) (q : cq_wrp m S c k j a = some S') (D : cq_Md m h0 ρ S h) (g : cq_g ρ a v) (hj : 0 ≤ cq_e ρ j) (hlt : (cq_e ρ j).toNat < (h.2.2.1 (cq_ce ρ c)).2.2) : cq_Md m h0 ρ S' (am_put h (cq_ce ρ c) (cq_e ρ j).toNat v) := by
  unfold cq_wrp at q
  rw [cond_eq_ite] at q
  split at q
  · rename_i hu
    rw [← Option.some.inj q]
    unfold cq_isU at hu
    split at hu
    · rename_i x hx
      have hu := (Bool.and_eq_true _ _ ▸ hu)
      have e1 := am_beq hu.2
      have ec : cq_ce ρ c = (ρ x.1).toNat := by unfold cq_ce; rw [hu.1, e1]; rfl
      obtain ⟨u1, u2⟩ := D.U x hx
      have hl : cq_ce ρ c < h.1 := by
        rcases cq_cel_c hcel with ⟨-, hs⟩ | ⟨z, -⟩ | ⟨z, -⟩ | ⟨z, -⟩ | ⟨z, -⟩
        · obtain ⟨p1, p2, -⟩ := cq_sk_ok D hs
          rw [ec, e1]
          obtain ⟨t, y, w⟩ := k
          rcases t with _ | _ | t
          · exact p2.2.1
          · exact p2.2.1
          · have := p2.2
            have := D.I.lo
            omega
        · rw [hu.1] at z; cases z
        · rw [z] at hu; cases hu.1
        · rw [hu.1] at z; cases z
        · rw [hu.1] at z; cases z
      refine cq_dis_ok (cq_Md_put D hj g ?_ ?_)
      · refine cq_Inv_put D.I (by omega) hl ?_ (fun z => by omega) (fun z => by omega) (fun z => by omega) (fun z => by omega) (by omega)
        intro z
        rw [hx] at z
        exact absurd (by rw [ec]; rfl) z
      · exact cq_Fr_put D.F (fun z => by omega)
    · cases hu
  · rename_i hu
    rw [cond_eq_ite] at q
    split at q
    · rename_i hb
      rw [← Option.some.inj q]
      have b1 := (Bool.and_eq_true _ _ ▸ hb)
      have b2 := (Bool.and_eq_true _ _ ▸ b1.1)
      have b3 := (Bool.and_eq_true _ _ ▸ b2.1)
      have hg := b3.2
      have hn := b2.2
      have ht := cq_ck_ok b1.2 D g hj
      rcases cq_cel_c hcel with ⟨c1, hs⟩ | ⟨c1, r1, r2, hf⟩ | ⟨c1, k1⟩ | ⟨c1, r1, r2, k1⟩ | ⟨c1, k1⟩
      · obtain ⟨p1, p2, -⟩ := cq_sk_ok D hs
        have ec : cq_ce ρ c = (ρ c.2).toNat := by unfold cq_ce; rw [c1]; rfl
        unfold cq_gd at hg
        rw [c1] at hg
        simp only [cond_true] at hg
        have hg2 := (Bool.and_eq_true _ _ ▸ hg)
        have hg := hg2.1
        have h130 := cq_k130 p2 hg
        have hl : cq_ce ρ c < h.1 := by
          rw [ec]
          obtain ⟨t, y, w⟩ := k
          rcases t with _ | _ | t
          · exact p2.2.1
          · exact p2.2.1
          · cases hg
        refine cq_Md_put D hj g ?_ (cq_Fr_put D.F fun z => cq_mw_ok hcel D hg b3.1 hj z (fun _ => hs))
        refine cq_Inv_put D.I (by omega) hl (fun nx => ?_) (fun z => by omega) (fun z => by omega) (fun z => by omega) (fun z => by omega) (by omega)
        have bl : Nat.blt (cq_ce ρ c) 130 = false := by
          cases hh : Nat.blt (cq_ce ρ c) 130 with
          | false => rfl
          | true => have : cq_ce ρ c < 130 := Nat.le_of_ble_eq_true hh; omega
        have et : cq_tyOf (cq_ce ρ c) (h.2.2.1 (cq_ce ρ c)) (cq_e ρ j).toNat = cq_pt c k j := by
          unfold cq_tyOf cq_pt
          rw [bl, c1]
          simp only [cond_false, cond_true]
          obtain ⟨t, y, w⟩ := k
          rcases t with _ | _ | t
          · rw [ec, p2.2.2]
            have hk : cq_k j = true := by
              rcases Bool.or_eq_true _ _ ▸ hg2.2 with z | z
              · cases z
              · exact z
            rw [cq_k_e hk]
          · rw [ec, p2.2.2.1, p2.2.2.2.1]
            rfl
          · cases hg
        rw [et]
        exact ht
      · have ec : cq_ce ρ c = c.2 := by unfold cq_ce; rw [c1]; rfl
        have ef := D.I.fx c.2 r1 r2
        unfold cq_gd at hg
        rw [c1] at hg
        simp only [cond_false] at hg
        have g0 := (Bool.and_eq_true _ _ ▸ hg)
        have g1 := (Bool.and_eq_true _ _ ▸ g0.1)
        have g2 := (Bool.and_eq_true _ _ ▸ g1.1)
        have g3 := (Bool.and_eq_true _ _ ▸ g2.1)
        have g4 := (Bool.and_eq_true _ _ ▸ g3.1)
        have hk1 : Nat.ble k.1 1 = true := by
          rcases hf with ⟨-, z⟩ | ⟨-, z⟩
          · rw [z]; rfl
          · rw [z]; rfl
        have hl : cq_ce ρ c < h.1 := by rw [ec]; exact Nat.lt_of_lt_of_le r2 D.I.lo
        refine cq_Md_put D hj g ?_ (cq_Fr_put D.F fun z => cq_mw_ok hcel D hk1 b3.1 hj z (fun z => by rw [c1] at z; cases z))
        have ej : cq_k j = true → (cq_e ρ j).toNat = j.1.toNat := fun z => by rw [cq_k_e z]
        refine cq_Inv_put D.I (by omega) hl (fun nx => ?_) (fun z1 z2 => ?_) (fun z1 z2 => ?_) (fun z => ?_) (fun z => ?_) (fun z => by
          rw [ec] at z
          have := cq_nb g0.2
          rw [z] at this
          cases this)
        · have bl : Nat.blt c.2 130 = true := Nat.ble_eq_true_of_le r2
          have et : cq_tyOf (cq_ce ρ c) (h.2.2.1 (cq_ce ρ c)) (cq_e ρ j).toNat = cq_pt c k j := by
            unfold cq_tyOf cq_pt
            rw [ec, bl, c1]
            simp only [cond_false, cond_true]
            rcases hf with ⟨f0, z⟩ | ⟨f1, z⟩
            · subst z
              have hk : cq_k j = true := by
                rcases Bool.or_eq_true _ _ ▸ g4.2 with z | z
                · cases z
                · exact z
              rw [ej hk]
              unfold cq_ty cq_isA
              rw [f0]
              rfl
            · subst z
              have isA : cq_isA c.2 = true := by unfold cq_isA; rw [f1]; rfl
              show cq_ty c.2 (cq_e ρ j).toNat = bif cq_k j then cq_ty c.2 j.1.toNat else cq_ar c.2
              cases hk : cq_k j with
              | true => rw [ej hk]; rfl
              | false =>
                have : (Nat.beq c.2 81 || Nat.beq c.2 83) = false := by
                  rcases Bool.or_eq_true _ _ ▸ g3.2 with z | z
                  · exact cq_nb z
                  · rw [hk] at z; cases z
                unfold cq_ty
                rw [isA, this]
                rfl
          rw [et]
          exact ht
        · rw [ec] at z1
          unfold cq_cnk at hn
          rw [c1, z1] at hn
          have kj : cq_k j = true := by
            rcases Bool.or_eq_true _ _ ▸ g4.2 with z | z
            · exfalso
              rcases hf with ⟨-, y⟩ | ⟨y, -⟩
              · rw [y] at z; cases z
              · rw [z1] at y
                have : (cq_fix 40).1 = 0 := by decide +kernel
                omega
            · exact z
          have e13 : cq_ieq j.1 13 = true := by
            have := cq_k_e kj ρ
            have : j.1 = 13 := by omega
            rw [this]
            rfl
          rw [kj, e13] at hn
          exact cq_cn1_ok hn D g
        · rw [ec] at z1
          unfold cq_cnk at hn
          rw [c1, z1] at hn
          have kj : cq_k j = true := by
            rcases Bool.or_eq_true _ _ ▸ g4.2 with z | z
            · exfalso
              rcases hf with ⟨-, y⟩ | ⟨y, -⟩
              · rw [y] at z; cases z
              · rw [z1] at y
                have : (cq_fix 48).1 = 0 := by decide +kernel
                omega
            · exact z
          have e13 : cq_ieq j.1 1 = true := by
            have := cq_k_e kj ρ
            have : j.1 = 1 := by omega
            rw [this]
            rfl
          rw [kj, e13] at hn
          exact cq_cn1_ok hn D g
        · rw [ec] at z
          rcases Bool.or_eq_true _ _ ▸ g2.2 with y | y
          · rw [z] at y; cases y
          · have := cq_en_ok D.P y
            rw [cq_ac_e] at this
            omega
        · rw [ec] at z
          rcases Bool.or_eq_true _ _ ▸ g1.2 with y | y
          · rw [z] at y; cases y
          · have := cq_en_ok D.P y
            rw [cq_ac_e] at this
            omega
      · exfalso
        unfold cq_gd at hg
        rw [c1] at hg
        cases hg
      · exfalso
        unfold cq_gd at hg
        rw [c1] at hg
        simp only [cond_false] at hg
        have g0 := (Bool.and_eq_true _ _ ▸ hg)
        have g1 := (Bool.and_eq_true _ _ ▸ g0.1)
        have g2 := (Bool.and_eq_true _ _ ▸ g1.1)
        have g3 := (Bool.and_eq_true _ _ ▸ g2.1)
        have g4 := (Bool.and_eq_true _ _ ▸ g3.1)
        have := Nat.le_of_ble_eq_true g4.1
        omega
      · exfalso
        unfold cq_ck at b1
        have b5 := b1.2
        unfold cq_gd at hg
        rw [c1] at hg
        simp only [cond_false] at hg
        have g0 := (Bool.and_eq_true _ _ ▸ hg)
        have g1 := (Bool.and_eq_true _ _ ▸ g0.1)
        have g2 := (Bool.and_eq_true _ _ ▸ g1.1)
        have g3 := (Bool.and_eq_true _ _ ▸ g2.1)
        have g4 := (Bool.and_eq_true _ _ ▸ g3.1)
        have h40 := Nat.le_of_ble_eq_true g4.1
        exact cq_cel_str hcel c1 k1 h40
    · cases q
end CSD
end
section
/-! THE CHECKER, 16: the steps that write the heap -/
def cq_fk (S : cq_S) (ty : FieldType) (a : cq_A) : Bool := match ty with
  | .int => Nat.beq a.1 1
  | .boolean => Nat.beq a.1 1 && cq_in S.P a.2.1 0 1
  | .long => Nat.beq a.1 2
  | .object _ => cq_tR a.1
  | .array _ => cq_tR a.1
  | _ => false
def cq_pf (m : cq_W) (ci j pc' : Nat) (ls st : List cq_A) (S : cq_S) : Option (List cq_O) := match st with
  | a :: b :: r => (match cq_cel S b with
    | some (c, (0, ci', z)) => bif Nat.beq ci' ci && Nat.blt j (am_N ci) && cq_fk S (am_ty ci j) a then (match cq_wrp m S c (0, ci', z) (cq_c j) a with
      | some S' => some [(pc', ls, r, S')]
      | none => none) else none
    | _ => none)
  | _ => none
/-- what an array of a code takes -/
def cq_va (w : Nat) (S : cq_S) (tc : Nat) (a : cq_A) : Option (cq_A × cq_S) := match w with
  | 0 => bif Nat.beq tc 0 && Nat.beq a.1 1 then some (a, S) else none
  | 1 => bif Nat.beq a.1 1 && Nat.beq tc 1 then (bif cq_in S.P a.2.1 (-128) 127 then some (a, S) else some (cq_fi S (-128) 127)) else bif Nat.beq a.1 1 && Nat.beq tc 2 then (bif cq_in S.P a.2.1 0 1 then some (a, S) else some (cq_fi S 0 1)) else none
  | 2 => bif Nat.beq tc 3 && Nat.beq a.1 2 then some (a, S) else none
  | _ => bif Nat.beq a.1 6 then (match cq_sk S a.2.2 with
    | some (0, k, _) => bif Nat.beq tc (k + 4) && am_isA (k + 4) then some (a, S) else none
    | _ => none) else none
def cq_ast (m : cq_W) (w pc' : Nat) (ls st : List cq_A) (S : cq_S) : Option (List cq_O) := match st with
  | a :: (1, i, _) :: b :: r => (match cq_cel S b with
    | some (c, (1, tc, ln)) => bif c.1 || Nat.ble 40 c.2 then (match cq_va w S tc a with
      | some (a', S0) => (match cq_lnp S0 c (1, tc, ln) with
        | (f, S1) => bif cq_en S1.P i && cq_en S1.P (cq_ac (cq_sub f i) (-1)) then (match cq_wrp m S1 c (1, tc, ln) i a' with
          | some S2 => some [(pc', ls, r, S2)]
          | none => none) else none)
      | none => none) else none
    | _ => none)
  | _ => none
section CSE
variable {m : cq_W} {h0 : am_H} {ρ : Nat → Int} {S : cq_S} {h : am_H} {als ast : List cq_A} {ls st : List Value} {out : List cq_O} {e : am_E} {pc pc' : Nat}
theorem cq_fk_fok {ty : FieldType} {a : cq_A} {v : Value} (q : cq_fk S ty a = true) (D : cq_Md m h0 ρ S h) (g : cq_g ρ a v) : am_fok ty v = true := by
  have int : Nat.beq a.1 1 = true → ∃ x : Int32, v = .int x ∧ x.toInt = cq_e ρ a.2.1 := fun z => by
    rw [cq_tag z] at g
    exact g
  have ref : cq_tR a.1 = true → v = .null ∨ ∃ x, v = .ref x := fun z => cq_tR_ok z g
  unfold cq_fk at q
  split at q
  · obtain ⟨x, ex, -⟩ := int q
    rw [ex]; rfl
  · have q := (Bool.and_eq_true _ _ ▸ q)
    obtain ⟨x, ex, hx⟩ := int q.1
    obtain ⟨b1, b2⟩ := cq_in_ok D.P q.2
    rw [ex]
    show (x == 0 || x == 1) = true
    rcases (show x.toInt = 0 ∨ x.toInt = 1 by omega) with z | z
    · have : x = 0 := Int32.toInt_inj.1 z
      rw [this]; rfl
    · have : x = 1 := Int32.toInt_inj.1 z
      rw [this]; rfl
  · rw [cq_tag q] at g
    obtain ⟨x, ex, -⟩ := g
    rw [ex]; rfl
  · rcases ref q with z | ⟨x, z⟩
    · rw [z]; rfl
    · rw [z]; rfl
  · rcases ref q with z | ⟨x, z⟩
    · rw [z]; rfl
    · rw [z]; rfl
  · cases q
theorem cq_pf_ok {x : Nat} (he : e.1 = .putfield x) (H : cq_Rb m h0 ρ S als ast ls st h) (q : cq_pf m e.2.2.2.1 e.2.2.2.2.1 (pc + 3) als ast S = some out) : cq_Res m h0 ρ S.n out (am_st e pc ls st h) := by
  unfold cq_pf at q
  split at q
  · rename_i a b r
    split at q
    · rename_i c ci' z hcel
      rw [cond_eq_ite] at q
      split at q
      · rename_i hb
        have hb0 := (Bool.and_eq_true _ _ ▸ hb)
        have hb := (Bool.and_eq_true _ _ ▸ hb0.1)
        have e1 := am_beq hb.1
        have e2 : e.2.2.2.2.1 < am_N e.2.2.2.1 := Nat.le_of_ble_eq_true hb.2
        split at q
        · rename_i S' hw
          rw [← Option.some.inj q]
          obtain ⟨v, rs, es, K1, H1⟩ := cq_pop1 H
          subst es
          obtain ⟨v2, rs, es, K2, H2⟩ := cq_pop1 H1
          subst es
          obtain ⟨ev, hl, hu⟩ := cq_cel_u hcel fun ρ' a => ⟨(H ρ' a).1, K2 ρ' a⟩
          subst ev
          have hO : am_isO h (cq_ce ρ c) e.2.2.2.1 = true := by
            rw [← e1]
            exact cq_isO_of (ci := ci') ⟨hl.1, hl.2⟩
          have hfo := cq_fk_fok hb0.2 (H ρ cq_ag.rf).1 (K1 ρ cq_ag.rf)
          have est : am_st e pc ls (v :: .ref (cq_ce ρ c) :: rs) h = some (pc + 3, ls, rs, am_put h (cq_ce ρ c) e.2.2.2.2.1 v) := by
            simp only [am_st, he, hO, hfo, Bool.and_self, cond_true]
          rw [est]
          have en : S'.n = S.n := cq_wrp_n hw
          refine cq_keep en fun ρ' a' => ⟨?_, (H2 ρ' a').2⟩
          have D' := (H ρ' a').1
          have ej : cq_e ρ' (cq_c (e.2.2.2.2.1 : Int)) = (e.2.2.2.2.1 : Int) := cq_c_e ρ' _
          have k := cq_wrp_ok hcel hw D' (K1 ρ' a') (by rw [ej]; exact Int.natCast_nonneg _) (by
            rw [ej, Int.toNat_natCast, hu ρ' a', hl.2]
            show e.2.2.2.2.1 < am_N ci'
            rw [e1]
            exact e2)
          rw [ej, Int.toNat_natCast, hu ρ' a'] at k
          exact k
        · cases q
      · cases q
    · cases q
  · cases q
theorem cq_wr_ev {a tc : Nat} {i : Int32} {v : Value} (h1 : a < h.1) (h2 : (h.2.2.1 a).1 = 1) (h3 : (h.2.2.1 a).2.1 = tc) (h4 : ¬ i < 0) (h5 : i.toNatClampNeg < (h.2.2.1 a).2.2) : am_wr h a i tc v = some (am_put h a i.toNatClampNeg v) := by
  unfold am_wr
  rw [show Nat.blt a h.1 = true from Nat.ble_eq_true_of_le h1, h2, h3, Nat.beq_refl, Nat.beq_refl]
  simp only [Bool.and_self, cond_true]
  rw [if_neg (fun z => by rcases z with z | z; exact h4 z; omega)]
theorem cq_va_eq {w tc : Nat} {a : cq_A} {q : cq_A × cq_S} (e : cq_va w S tc a = some q) : q.2.N = S.N ∧ q.2.K = S.K := by
  unfold cq_va at e
  split at e
  · rw [cond_eq_ite] at e
    split at e
    · rw [← Option.some.inj e]; exact ⟨rfl, rfl⟩
    · cases e
  · rw [cond_eq_ite] at e
    split at e
    · rw [cond_eq_ite] at e
      split at e
      · rw [← Option.some.inj e]; exact ⟨rfl, rfl⟩
      · rw [← Option.some.inj e]; exact ⟨rfl, rfl⟩
    · rw [cond_eq_ite] at e
      split at e
      · rw [cond_eq_ite] at e
        split at e
        · rw [← Option.some.inj e]; exact ⟨rfl, rfl⟩
        · rw [← Option.some.inj e]; exact ⟨rfl, rfl⟩
      · cases e
  · rw [cond_eq_ite] at e
    split at e
    · rw [← Option.some.inj e]; exact ⟨rfl, rfl⟩
    · cases e
  · rw [cond_eq_ite] at e
    split at e
    · split at e
      · rw [cond_eq_ite] at e
        split at e
        · rw [← Option.some.inj e]; exact ⟨rfl, rfl⟩
        · cases e
      · cases e
    · cases e
/-- what is stored of a value -/
def cq_sv1 (w tc : Nat) (v : Value) : Value := match w, v with
  | 1, .int x => bif Nat.beq tc 1 then .int x.toInt8.toInt32 else .int (x &&& 1)
  | _, v => v
theorem cq_va_ok {w tc : Nat} {a : cq_A} {q : cq_A × cq_S} {v : Value} (e : cq_va w S tc a = some q) (H : ∀ ρ', cq_ag S.n ρ' ρ → cq_Md m h0 ρ' S h ∧ cq_g ρ' a v) : cq_Mk m h0 ρ S h q (cq_sv1 w tc v) ∧ ((w = 0 ∧ tc = 0 ∧ ∃ x, v = .int x) ∨ (w = 1 ∧ (tc = 1 ∨ tc = 2) ∧ ∃ x, v = .int x) ∨ (w = 2 ∧ tc = 3 ∧ ∃ x, v = .long x) ∨ (2 < w ∧ ∃ k x, tc = k + 4 ∧ am_isA (k + 4) = true ∧ v = .ref x ∧ cq_kOk h x (0, k, 0))) := by
  have H1 : ∀ ρ', cq_ag S.n ρ' ρ → cq_Md m h0 ρ' S h := fun ρ' a => (H ρ' a).1
  unfold cq_va at e
  split at e
  · rw [cond_eq_ite] at e
    split at e
    · rename_i hb
      have hb := (Bool.and_eq_true _ _ ▸ hb)
      have e1 := am_beq hb.1
      rw [← Option.some.inj e]
      have g := (H ρ cq_ag.rf).2
      rw [cq_tag hb.2] at g
      obtain ⟨x, ex, -⟩ := g
      exact ⟨cq_Mk.of H, Or.inl ⟨rfl, e1, x, ex⟩⟩
    · cases e
  · rw [cond_eq_ite] at e
    split at e
    · rename_i hb
      have hb := (Bool.and_eq_true _ _ ▸ hb)
      have e1 := am_beq hb.2
      subst e1
      have K : ∀ ρ', cq_ag S.n ρ' ρ → cq_g ρ' (1, a.2.1, a.2.2) v := fun ρ' z => by
        have g := (H ρ' z).2
        rw [cq_tag hb.1] at g
        exact g
      obtain ⟨x, ex, hx⟩ := cq_int K
      subst ex
      refine ⟨?_, Or.inr (Or.inl ⟨rfl, Or.inl rfl, x, rfl⟩)⟩
      show cq_Mk m h0 ρ S h q (.int x.toInt8.toInt32)
      have e8 : x.toInt8.toInt32.toInt = x.toInt.bmod (2 ^ 8) := by rw [Int8.toInt_toInt32, Int32.toInt_toInt8]
      rw [cond_eq_ite] at e
      split at e
      · rename_i hi
        rw [← Option.some.inj e]
        refine cq_Mk.of fun ρ' z => ⟨H1 ρ' z, ?_⟩
        rw [cq_tag hb.1]
        refine ⟨_, rfl, ?_⟩
        obtain ⟨b1, b2⟩ := cq_in_ok (H1 ρ' z).P hi
        rw [e8, hx ρ' z]
        exact Int.bmod_eq_of_le (by omega) (by omega)
      · rw [← Option.some.inj e]
        have l1 := x.toInt8.le_toInt
        have l2 := x.toInt8.toInt_lt
        refine cq_fi_ok H1 ?_ ?_
        · rw [Int8.toInt_toInt32]; omega
        · rw [Int8.toInt_toInt32]; omega
    · rw [cond_eq_ite] at e
      split at e
      · rename_i hb
        have hb := (Bool.and_eq_true _ _ ▸ hb)
        have e1 := am_beq hb.2
        subst e1
        have K : ∀ ρ', cq_ag S.n ρ' ρ → cq_g ρ' (1, a.2.1, a.2.2) v := fun ρ' z => by
          have g := (H ρ' z).2
          rw [cq_tag hb.1] at g
          exact g
        obtain ⟨x, ex, hx⟩ := cq_int K
        subst ex
        refine ⟨?_, Or.inr (Or.inl ⟨rfl, Or.inr rfl, x, rfl⟩)⟩
        show cq_Mk m h0 ρ S h q (.int (x &&& 1))
        have b : 0 ≤ (x &&& 1).toInt ∧ (x &&& 1).toInt ≤ 1 := by
          have e1 : (1 : Int32).toInt = 1 := rfl
          have := cq_and_nn (x := 1) (y := x) (by rw [e1]; omega)
          rw [cq_and_cm, e1] at this
          exact this
        rw [cond_eq_ite] at e
        split at e
        · rename_i hi
          rw [← Option.some.inj e]
          refine cq_Mk.of fun ρ' z => ⟨H1 ρ' z, ?_⟩
          rw [cq_tag hb.1]
          refine ⟨_, rfl, ?_⟩
          obtain ⟨b1, b2⟩ := cq_in_ok (H1 ρ' z).P hi
          rw [← hx ρ' z] at b1 b2 ⊢
          rcases (show x.toInt = 0 ∨ x.toInt = 1 by omega) with y | y
          · have : x = 0 := Int32.toInt_inj.1 y
            rw [this]; rfl
          · have : x = 1 := Int32.toInt_inj.1 y
            rw [this]; rfl
        · rw [← Option.some.inj e]
          exact cq_fi_ok H1 b.1 b.2
      · cases e
  · rw [cond_eq_ite] at e
    split at e
    · rename_i hb
      have hb := (Bool.and_eq_true _ _ ▸ hb)
      have e1 := am_beq hb.1
      rw [← Option.some.inj e]
      have g := (H ρ cq_ag.rf).2
      rw [cq_tag hb.2] at g
      obtain ⟨x, ex, -⟩ := g
      exact ⟨cq_Mk.of H, Or.inr (Or.inr (Or.inl ⟨rfl, e1, x, ex⟩))⟩
    · cases e
  · rename_i n0 n1 n2
    rw [cond_eq_ite] at e
    split at e
    · rename_i h6
      split at e
      · rename_i k z hs
        rw [cond_eq_ite] at e
        split at e
        · rename_i hb
          have hb := (Bool.and_eq_true _ _ ▸ hb)
          have e1 := am_beq hb.1
          rw [← Option.some.inj e]
          have hw : 2 < w := by
            rcases w with _ | _ | _ | w
            · exact absurd rfl n0
            · exact absurd rfl n1
            · exact absurd rfl n2
            · omega
          have D := H1 ρ cq_ag.rf
          obtain ⟨p1, p2, -⟩ := cq_sk_ok D hs
          have g := (H ρ cq_ag.rf).2
          rw [cq_tag h6] at g
          rcases g with ⟨g1, -⟩ | ⟨-, g2⟩
          · omega
          · have esv : cq_sv1 w tc v = v := by
              rw [g2]
              unfold cq_sv1
              split
              · rename_i y; cases y
              · rfl
            rw [esv]
            exact ⟨cq_Mk.of H, Or.inr (Or.inr (Or.inr ⟨hw, k, _, e1, hb.2, g2, p2⟩))⟩
        · cases e
      · cases e
    · cases e
end CSE
end
section
section CSF
variable {m : cq_W} {h0 : am_H} {ρ : Nat → Int} {S : cq_S} {h : am_H} {als ast : List cq_A} {ls st : List Value} {out : List cq_O} {e : am_E} {pc pc' : Nat}
/-- an element is written -/
theorem cq_ast_ok {w : Nat} (H : cq_Rb m h0 ρ S als ast ls st h) (q : cq_ast m w pc' als ast S = some out) : ∃ (v : Value) (i : Int32) (a tc : Nat) (rs : List Value), st = v :: .int i :: .ref a :: rs ∧ a < h.1 ∧ (h.2.2.1 a).1 = 1 ∧ (h.2.2.1 a).2.1 = tc ∧ ¬ i < 0 ∧ i.toNatClampNeg < (h.2.2.1 a).2.2 ∧ ((w = 0 ∧ tc = 0 ∧ ∃ x, v = .int x) ∨ (w = 1 ∧ (tc = 1 ∨ tc = 2) ∧ ∃ x, v = .int x) ∨ (w = 2 ∧ tc = 3 ∧ ∃ x, v = .long x) ∨ (2 < w ∧ ∃ k x, tc = k + 4 ∧ am_isA (k + 4) = true ∧ v = .ref x ∧ cq_kOk h x (0, k, 0))) ∧ cq_Res m h0 ρ S.n out (some (pc', ls, rs, am_put h a i.toNatClampNeg (cq_sv1 w tc v))) := by
  unfold cq_ast at q
  split at q
  · rename_i a f k b r
    split at q
    · rename_i c tc ln hcel
      rw [cond_eq_ite] at q
      split at q
      · rename_i h40
        split at q
        · rename_i a' S0 hva
          split at q
          rename_i n S1 hL
          rw [cond_eq_ite] at q
          split at q
          · rename_i hb
            have hb := (Bool.and_eq_true _ _ ▸ hb)
            split at q
            · rename_i S2 hw
              rw [← Option.some.inj q]
              obtain ⟨v, rs, es, K0, H0⟩ := cq_pop1 H
              subst es
              obtain ⟨v1, rs, es, K1, H1⟩ := cq_pop1 H0
              subst es
              obtain ⟨i, ei, hi⟩ := cq_int K1
              subst ei
              obtain ⟨v2, rs, es, K2, H2⟩ := cq_pop1 H1
              subst es
              obtain ⟨ev, hl, hu⟩ := cq_cel_u hcel fun ρ' a => ⟨(H ρ' a).1, K2 ρ' a⟩
              subst ev
              obtain ⟨l1, l2⟩ := cq_len_ar (k := (1, tc, ln)) hcel (H ρ cq_ag.rf).1 rfl
              obtain ⟨⟨hn0, ρ0, a0, k0⟩, hcase⟩ := cq_va_ok (m := m) (h0 := h0) (ρ := ρ) (h := h) (v := v) hva fun ρ' a => ⟨(H ρ' a).1, K0 ρ' a⟩
              have eqv := cq_va_eq hva
              dsimp only at hn0 k0 eqv
              have eq4 := cq_lnp_eq (S := S0) c (1, tc, ln)
              have kk := cq_lnp_ok (m := m) (h0 := h0) (ρ := ρ0) (S := S0) (h := h) (c := c) (k := (1, tc, ln)) (cc := cq_ce ρ c) (fun ρ' a => (k0 ρ' a).1) (fun ρ' a => hu ρ' ((a.lt hn0).tr a0)) (by rw [l1]; exact l2) (fun x hx => by
                have hx : ln = x + 1 := hx
                rcases hl.2.2.2 with z | z
                · omega
                · rw [l1]; omega)
              rw [hL] at kk eq4
              dsimp only at kk eq4
              obtain ⟨hn, ρ1, a1, k1⟩ := kk
              obtain ⟨D1, x, ex, hx⟩ := k1 ρ1 cq_ag.rf
              cases ex
              have en : (Int32.ofNat (cq_len h (cq_ce ρ c))).toInt = ((h.2.2.1 (cq_ce ρ c)).2.2 : Int) := by rw [l1]; exact Int32.toInt_ofNat_of_lt (by omega)
              have b1 := cq_en_ok D1.P hb.1
              have b2 := cq_en_ok D1.P hb.2
              rw [cq_ac_e, cq_sub_e, ← hx, en] at b2
              have a01 : cq_ag S.n ρ1 ρ := (a1.lt hn0).tr a0
              have hi1 : i.toInt = cq_e ρ1 f := hi ρ1 a01
              have i0 : ¬ i < 0 := fun z => by
                have := Int32.lt_iff_toInt_lt.1 z
                rw [cq_i0] at this
                omega
              have ei : i.toInt = (i.toNatClampNeg : Int) := (Int32.cast_toNatClampNeg i (by rw [Int32.le_iff_toInt_le, cq_i0]; omega)).symm
              have hlt : i.toNatClampNeg < (h.2.2.1 (cq_ce ρ c)).2.2 := by omega
              have sh1 : (h.2.2.1 (cq_ce ρ c)).1 = 1 := by
                rcases cq_cel_c hcel with ⟨c1, hs⟩ | ⟨c1, r1, r2, hf⟩ | ⟨c1, kz⟩ | ⟨c1, r1, r2, kz⟩ | ⟨c1, kz⟩
                · obtain ⟨p1, p2, -⟩ := cq_sk_ok (H ρ cq_ag.rf).1 hs
                  have ec : cq_ce ρ c = (ρ c.2).toNat := by unfold cq_ce; rw [c1]; rfl
                  rw [ec]
                  exact p2.2.2.1
                · have ec : cq_ce ρ c = c.2 := by unfold cq_ce; rw [c1]; rfl
                  rw [ec, (H ρ cq_ag.rf).1.I.fx c.2 r1 r2]
                  rcases hf with ⟨-, z⟩ | ⟨z, -⟩
                  · cases z
                  · exact z
                · rw [c1] at h40; cases h40
                · rw [c1] at h40
                  have := Nat.le_of_ble_eq_true h40
                  omega
                · cases kz
              refine ⟨v, i, cq_ce ρ c, tc, rs, rfl, hl.1, sh1, hl.2.2.1, i0, hlt, hcase, ?_⟩
              have en2 : S2.n = S1.n := cq_wrp_n hw
              refine ⟨_, rfl, _, List.mem_cons_self, rfl, by rw [en2]; exact Nat.le_trans hn0 hn, ρ1, a01, fun ρ' a' => ?_⟩
              have a2 : cq_ag S1.n ρ' ρ1 := en2 ▸ a'
              have a3 : cq_ag S0.n ρ' ρ0 := (a2.lt hn).tr a1
              have a4 : cq_ag S.n ρ' ρ := (a3.lt hn0).tr a0
              obtain ⟨D2, -⟩ := k1 ρ' a2
              have g2 := (k0 ρ' a3).2
              have hcel1 : cq_cel S1 b = some (c, (1, tc, ln)) := by rw [cq_cel_eq (eq4.1.trans eqv.1) (eq4.2.1.trans eqv.2)]; exact hcel
              have ew : cq_e ρ' f = (i.toNatClampNeg : Int) := by rw [← hi ρ' a4]; exact ei
              have kf := cq_wrp_ok hcel1 hw D2 g2 (by rw [ew]; exact Int.natCast_nonneg _) (by rw [ew, Int.toNat_natCast, hu ρ' a4]; exact hlt)
              rw [ew, Int.toNat_natCast, hu ρ' a4] at kf
              exact ⟨kf, (H2 ρ' a4).2⟩
            · cases q
          · cases q
        · cases q
      · cases q
    · cases q
  · cases q
theorem cq_ias_ok (he : e.1 = .iastore) (H : cq_Rb m h0 ρ S als ast ls st h) (q : cq_ast m 0 (pc + 1) als ast S = some out) : cq_Res m h0 ρ S.n out (am_st e pc ls st h) := by
  obtain ⟨v, i, a, tc, rs, es, h1, h2, h3, h4, h5, hc, R⟩ := cq_ast_ok H q
  rcases hc with ⟨-, et, x, ex⟩ | ⟨z, -⟩ | ⟨z, -⟩ | ⟨z, -⟩
  · subst ex
    subst es
    subst et
    simp only [am_st, he, cq_wr_ev h1 h2 h3 h4 h5]
    exact R
  · cases z
  · cases z
  · omega
theorem cq_las_ok (he : e.1 = .lastore) (H : cq_Rb m h0 ρ S als ast ls st h) (q : cq_ast m 2 (pc + 1) als ast S = some out) : cq_Res m h0 ρ S.n out (am_st e pc ls st h) := by
  obtain ⟨v, i, a, tc, rs, es, h1, h2, h3, h4, h5, hc, R⟩ := cq_ast_ok H q
  rcases hc with ⟨z, -⟩ | ⟨z, -⟩ | ⟨-, et, x, ex⟩ | ⟨z, -⟩
  · cases z
  · cases z
  · subst ex
    subst es
    subst et
    simp only [am_st, he, cq_wr_ev h1 h2 h3 h4 h5]
    exact R
  · omega
theorem cq_bas_ok (he : e.1 = .bastore) (H : cq_Rb m h0 ρ S als ast ls st h) (q : cq_ast m 1 (pc + 1) als ast S = some out) : cq_Res m h0 ρ S.n out (am_st e pc ls st h) := by
  obtain ⟨v, i, a, tc, rs, es, h1, h2, h3, h4, h5, hc, R⟩ := cq_ast_ok H q
  rcases hc with ⟨z, -⟩ | ⟨-, et, x, ex⟩ | ⟨z, -⟩ | ⟨z, -⟩
  · cases z
  · subst ex
    subst es
    rcases et with et | et
    · subst et
      simp only [am_st, he, h3, Nat.beq_refl, cond_true, cq_wr_ev h1 h2 h3 h4 h5]
      exact R
    · subst et
      simp only [am_st, he, h3, show Nat.beq 2 1 = false from rfl, cond_false, cq_wr_ev h1 h2 h3 h4 h5]
      exact R
  · cases z
  · omega
theorem cq_aas_ok (he : e.1 = .aastore) (H : cq_Rb m h0 ρ S als ast ls st h) (q : cq_ast m 3 (pc + 1) als ast S = some out) : cq_Res m h0 ρ S.n out (am_st e pc ls st h) := by
  obtain ⟨v, i, a, tc, rs, es, h1, h2, h3, h4, h5, hc, R⟩ := cq_ast_ok H q
  rcases hc with ⟨z, -⟩ | ⟨z, -⟩ | ⟨z, -⟩ | ⟨-, k, x, et, hA, ex, hk⟩
  · cases z
  · cases z
  · cases z
  · subst ex
    subst es
    subst et
    have eO : am_isO h x (h.2.2.1 x).2.1 = true := by
      have := hk.2.2
      rw [this]
      exact cq_isO_of (ci := k) ⟨hk.2.1, this⟩
    have e21 : (h.2.2.1 x).2.1 = k := by rw [hk.2.2]
    simp only [am_st, he]
    rw [eO]
    simp only [e21, hA, Bool.and_self, cond_true, cq_wr_ev h1 h2 h3 h4 h5]
    exact R
end CSF
end
section
/-! THE CHECKER, 17: new objects and arrays -/
def cq_ol (S : cq_S) (c : cq_C) : Bool := bif c.1 then (cq_sk S c.2).isSome else Nat.blt c.2 130
def cq_S.nw (S : cq_S) (k : cq_Kd) (T : List (cq_C × cq_F × cq_A)) (L : List (cq_C × cq_F)) (U : Option (Nat × Nat)) (al : Nat) : cq_S := cq_mk (S.n + 1) S.P ((S.n, true) :: S.N) ((S.n, k) :: S.K) (S.n :: S.W) (T ++ S.T.filter fun q => cq_ol S q.1) (L ++ S.L.filter fun q => cq_ol S q.1) S.M U (S.ac + 1) (S.al + al)
section CSG
variable {m : cq_W} {h0 : am_H} {ρ : Nat → Int} {S : cq_S} {h : am_H} {als ast : List cq_A} {ls st : List Value} {out : List cq_O} {e : am_E} {pc pc' : Nat}
theorem cq_mk_v (sh : am_Sh) (N : Nat) (d : Nat → Value) (a b : Nat) : (am_mk h sh N d).2.2.2 a b = if a = h.1 then d b else h.2.2.2 a b := rfl
theorem cq_mk_s (sh : am_Sh) (N : Nat) (d : Nat → Value) (a : Nat) : (am_mk h sh N d).2.2.1 a = if a = h.1 then sh else h.2.2.1 a := rfl
theorem cq_kOk_mk {sh : am_Sh} {N : Nat} {d : Nat → Value} {a : Nat} {k : cq_Kd} (q : cq_kOk h a k) : cq_kOk (am_mk h sh N d) a k := by
  obtain ⟨t, x, y⟩ := k
  rcases t with _ | _ | t
  · obtain ⟨q1, q2, q3⟩ := q
    refine ⟨q1, Nat.lt_succ_of_lt q2, ?_⟩
    rw [cq_mk_s, if_neg (Nat.ne_of_lt q2)]
    exact q3
  · obtain ⟨q1, q2, q3⟩ := q
    refine ⟨q1, Nat.lt_succ_of_lt q2, ?_⟩
    rw [cq_mk_s, if_neg (Nat.ne_of_lt q2)]
    exact q3
  · exact q
theorem cq_kOk_lt (D : cq_Md m h0 ρ S h) {a : Nat} {k : cq_Kd} (q : cq_kOk h a k) : a < h.1 := by
  obtain ⟨t, x, y⟩ := k
  rcases t with _ | _ | t
  · exact q.2.1
  · exact q.2.1
  · have := q.2
    have := D.I.lo
    omega
theorem cq_ol_ok (D : cq_Md m h0 ρ S h) {c : cq_C} (q : cq_ol S c = true) : cq_ce ρ c < h.1 := by
  unfold cq_ol at q
  unfold cq_ce
  cases c1 : c.1 with
  | true =>
    rw [c1] at q
    simp only [cond_true] at q ⊢
    cases hs : cq_sk S c.2 with
    | none => rw [hs] at q; cases q
    | some k =>
      obtain ⟨p1, p2, -⟩ := cq_sk_ok D hs
      exact cq_kOk_lt D p2
  | false =>
    rw [c1] at q
    simp only [cond_false] at q ⊢
    have : c.2 < 130 := Nat.le_of_ble_eq_true q
    have := D.I.lo
    omega
theorem cq_Inv_mk {x x' : Option Nat} (I : cq_Inv x h) {sh : am_Sh} {N : Nat} {d : Nat → Value} (hx : x' = x ∨ (x = none ∧ x' = some h.1)) (hd : (∃ k, sh = (0, k, am_N k)) ∨ (sh.1 = 1 ∧ sh.2.2 ≤ 100000)) (ht : some h.1 ≠ x' → ∀ j, j < sh.2.2 → cq_ht (am_mk h sh N d) j (cq_tyOf h.1 sh j) (d j)) : cq_Inv x' (am_mk h sh N d) := by
  have lo := I.lo
  have vv : ∀ a b, a < h.1 → (am_mk h sh N d).2.2.2 a b = h.2.2.2 a b := fun a b z => by rw [cq_mk_v, if_neg (Nat.ne_of_lt z)]
  have ss : ∀ a, a < h.1 → (am_mk h sh N d).2.2.1 a = h.2.2.1 a := fun a z => by rw [cq_mk_s, if_neg (Nat.ne_of_lt z)]
  have nn : ∀ a b, a < h.1 → cq_n (am_mk h sh N d) a b = cq_n h a b := fun a b z => by unfold cq_n; rw [vv a b z]
  have G : cq_gr h (am_mk h sh N d) := ⟨fun a k q => cq_kOk_mk q, by rw [nn 40 13 (by omega)]; exact Int.le_refl _⟩
  refine ⟨Nat.le_succ_of_le lo, fun c b1 b2 => ?_, fun c b1 b2 => ?_, ?_, fun c b1 b2 => ?_, fun c b1 b2 nx j hj => ?_, fun t htt => ?_⟩
  · rw [ss c (by omega)]
    exact I.fx c b1 b2
  · rw [ss c (by omega)]
    refine ⟨(I.sv c b1 b2).1, fun j hj => ?_⟩
    rw [vv c j (by omega)]
    exact (I.sv c b1 b2).2 j hj
  · rw [ss 0 (by omega)]
    refine ⟨I.sc.1, I.sc.2.1, I.sc.2.2.1, fun j hj => ?_⟩
    rw [vv 0 j (by omega)]
    exact I.sc.2.2.2 j hj
  · have b2 : c < h.1 + 1 := b2
    by_cases e : c = h.1
    · subst e
      rw [cq_mk_s, if_pos rfl]
      exact hd
    · rw [ss c (by omega)]
      exact I.dy c b1 (by omega)
  · have b2 : c < h.1 + 1 := b2
    by_cases e : c = h.1
    · subst e
      rw [cq_mk_s, if_pos rfl] at hj ⊢
      rw [cq_mk_v, if_pos rfl]
      exact ht nx j hj
    · rw [ss c (by omega)] at hj ⊢
      rw [vv c j (by omega)]
      have nx' : some c ≠ x := by
        rcases hx with z | ⟨z, -⟩
        · rw [← z]; exact nx
        · rw [z]; exact fun y => by cases y
      refine cq_ht_gr G (fun t11 ev hle => ?_) (I.ty c b1 (by omega) nx' j hj)
      have h11 := cq_tyOf11 I b1 (show c < h.1 by omega) hj
      rcases cq_pre11_c h11 t11 with ⟨z1, z2⟩ | ⟨z1, z2⟩
      · rw [z1, z2] at hle ⊢
        rw [nn 40 13 (by omega)]
        exact hle
      · rw [z1, z2] at hle ⊢
        rw [nn 48 1 (by omega)]
        exact hle
  · rw [nn 93 t (by omega), nn 92 (t / 3) (by omega)]
    rw [vv 96 _ (by omega)]
    exact I.sx t htt
/-- a new cell -/
theorem cq_nw_ok {k : cq_Kd} {T : List (cq_C × cq_F × cq_A)} {L : List (cq_C × cq_F)} {U : Option (Nat × Nat)} {al : Nat} {sh : am_Sh} {N : Nat} {d : Nat → Value} (H : ∀ ρ', cq_ag S.n ρ' ρ → cq_Md m h0 ρ' S h) (hN : N ≤ al) (hk : cq_kOk (am_mk h sh N d) h.1 k)
    (hT : ∀ ρ', ρ' S.n = (h.1 : Int) → ∀ q ∈ T, q.1 = (true, S.n) ∧ cq_g ρ' q.2.2 (d (cq_e ρ' q.2.1).toNat))
    (hL : ∀ ρ', cq_ag S.n ρ' ρ → ∀ q ∈ L, q.1 = (true, S.n) ∧ cq_e ρ' q.2 = sh.2.2)
    (hI : ∀ ρ', cq_ag (S.n + 1) ρ' (cq_up ρ S.n h.1) → cq_Inv (U.map fun q => (ρ' q.1).toNat) (am_mk h sh N d))
    (hU : ∀ q, U = some q → q.1 = S.n ∨ S.U = some q) :
    ∀ ρ', cq_ag (S.n + 1) ρ' (cq_up ρ S.n h.1) → cq_Md m h0 ρ' (S.nw k T L U al) (am_mk h sh N d) ∧ cq_g ρ' (cq_rs S.n) (.ref h.1) := by
  intro ρ' a
  have e := cq_up_s a
  have D := H ρ' (cq_up_a a)
  have lo := D.I.lo
  have e2 : (ρ' S.n).toNat = h.1 := by rw [e]; exact Int.toNat_natCast _
  refine ⟨⟨D.1, ?_, ?_, ?_, ?_, ?_, D.M, hI ρ' a, ?_, ?_, ?_⟩, Or.inr ⟨by rw [e]; exact Int.natCast_nonneg _, by rw [e2]⟩⟩
  · intro x hx
    rcases List.mem_cons.1 hx with z | z
    · subst z
      exact ⟨fun _ => by rw [e]; exact Int.natCast_nonneg _, fun z => by cases z⟩
    · exact D.N x z
  · intro x hx hp
    rcases List.mem_cons.1 hx with z | z
    · subst z
      rw [e2]
      exact hk
    · exact cq_kOk_mk (D.K x z hp)
  · intro s hs
    have old : ∀ x ∈ S.K, ρ' x.1 < (h.1 : Int) := fun x hx => by
      rcases (show 0 ≤ ρ' x.1 ∨ ρ' x.1 < 0 by omega) with z | z
      · have := cq_kOk_lt D (D.K x hx z)
        omega
      · omega
    rcases List.mem_cons.1 hs with z | z
    · subst z
      refine ⟨Nat.lt_succ_self _, by rw [e]; have := D.F.nx; omega, fun x hx hlt => ?_⟩
      rcases List.mem_cons.1 hx with y | y
      · subst y
        exact absurd hlt (Nat.lt_irrefl _)
      · rw [e]
        exact old x y
    · refine ⟨Nat.lt_succ_of_lt (D.W s z).1, (D.W s z).2.1, fun x hx hlt => ?_⟩
      rcases List.mem_cons.1 hx with y | y
      · subst y
        have := (D.W s z).1
        dsimp only at hlt
        omega
      · exact (D.W s z).2.2 x y hlt
  · intro x hx
    rcases List.mem_append.1 hx with z | z
    · obtain ⟨c1, g⟩ := hT ρ' e x z
      rw [c1]
      show cq_g ρ' x.2.2 ((am_mk h sh N d).2.2.2 (ρ' S.n).toNat _)
      rw [e2, cq_mk_v, if_pos rfl]
      exact g
    · obtain ⟨z1, z2⟩ := List.mem_filter.1 z
      have := cq_ol_ok D z2
      rw [cq_mk_v, if_neg (Nat.ne_of_lt this)]
      exact D.T x z1
  · intro x hx
    rcases List.mem_append.1 hx with z | z
    · obtain ⟨c1, g⟩ := hL ρ' (cq_up_a a) x z
      rw [c1, g]
      show _ = ((cq_len (am_mk h sh N d) (ρ' S.n).toNat : Nat) : Int)
      rw [e2]
      have : cq_len (am_mk h sh N d) h.1 = sh.2.2 := by
        unfold cq_len
        have : (Nat.ble 7 h.1 && Nat.blt h.1 23) = false := by
          cases hh : (Nat.ble 7 h.1 && Nat.blt h.1 23) with
          | false => rfl
          | true =>
            have hh := (Bool.and_eq_true _ _ ▸ hh)
            have h2 : h.1 < 23 := Nat.le_of_ble_eq_true hh.2
            omega
        rw [this]
        show ((am_mk h sh N d).2.2.1 h.1).2.2 = _
        rw [cq_mk_s, if_pos rfl]
      rw [this]
    · obtain ⟨z1, z2⟩ := List.mem_filter.1 z
      have := cq_ol_ok D z2
      rw [D.L x z1]
      unfold cq_len
      rw [cq_mk_s, if_neg (Nat.ne_of_lt this)]
  · have F := D.F
    have nx := F.nx
    refine ⟨Nat.le_succ_of_le nx, fun c hc => ?_, fun c hc j hj => ?_⟩
    · rw [cq_mk_s, if_neg (by omega)]
      exact F.sh c hc
    · rw [cq_mk_v, if_neg (by omega)]
      exact F.vl c hc j hj
  · have A := D.A
    exact ⟨by show h.1 + 1 ≤ h0.1 + (S.ac + 1); omega, by show h.2.1 + N ≤ h0.2.1 + (S.al + al); omega⟩
  · intro q hq
    rcases hU q hq with z | z
    · rw [z, e]
      have := D.F.nx
      exact ⟨by omega, by omega⟩
    · exact D.U q z
end CSG
def cq_dv (ty : FieldType) : cq_A := match ty with
  | .int => cq_i (cq_c 0)
  | .boolean => cq_i (cq_c 0)
  | .long => cq_l (cq_c 0)
  | .object _ => cq_nu
  | .array _ => cq_nu
  | _ => cq_u
def cq_new (ci pc' : Nat) (ls st : List cq_A) (S : cq_S) : Option (List cq_O) := match S.U with
  | some _ => none
  | none => some [(pc', ls, cq_rs S.n :: st, cq_dis (S.nw (0, ci, 0) ((List.range (am_N ci)).map fun (j : Nat) => ((true, S.n), cq_c (j : Int), cq_dv (am_ty ci j))) [] (some (S.n, ci)) (am_N ci)))]
def cq_nar (ob : Bool) (tc pc' : Nat) (ls st : List cq_A) (S : cq_S) : Option (List cq_O) := match st with
  | (1, f, _) :: r => bif (bif ob then Nat.beq tc 7 else (Nat.beq tc 0 || Nat.beq tc 3)) && cq_in S.P f 0 100000 then (match cq_hi S.P.1 f with
    | some u => some [(pc', ls, cq_rs S.n :: r, S.nw (1, tc, bif cq_k f then f.1.toNat + 1 else 0) [] [((true, S.n), f)] S.U u.toNat)]
    | none => none) else none
  | _ => none
section CSH
variable {m : cq_W} {h0 : am_H} {ρ : Nat → Int} {S : cq_S} {h : am_H} {als ast : List cq_A} {ls st : List Value} {out : List cq_O} {e : am_E} {pc pc' : Nat}
theorem cq_dv_ok (ty : FieldType) (ρ : Nat → Int) : cq_g ρ (cq_dv ty) (defaultValue ty) := by
  have z32 : (0 : Int32).toInt = 0 := rfl
  have z64 : (0 : Int64).toInt = 0 := rfl
  cases ty with
  | int => exact ⟨0, rfl, by rw [cq_c_e, z32]⟩
  | boolean => exact ⟨0, rfl, by rw [cq_c_e, z32]⟩
  | long => exact ⟨0, rfl, by rw [cq_c_e, z64]⟩
  | object n => exact rfl
  | array t => exact rfl
  | _ => exact trivial
theorem cq_new_ok {x : Nat} (he : e.1 = .new x) (H : cq_Rb m h0 ρ S als ast ls st h) (q : cq_new e.2.2.2.1 (pc + 3) als ast S = some out) : cq_Res m h0 ρ S.n out (am_st e pc ls st h) := by
  unfold cq_new at q
  split at q
  · cases q
  · rename_i hu
    rw [← Option.some.inj q]
    simp only [am_st, he]
    have H1 : ∀ ρ', cq_ag S.n ρ' ρ → cq_Md m h0 ρ' S h := fun ρ' a => (H ρ' a).1
    have lo := (H1 ρ cq_ag.rf).I.lo
    have kk := cq_nw_ok (m := m) (h0 := h0) (ρ := ρ) (S := S) (h := h) (k := (0, e.2.2.2.1, 0)) (T := (List.range (am_N e.2.2.2.1)).map fun (j : Nat) => ((true, S.n), cq_c (j : Int), cq_dv (am_ty e.2.2.2.1 j))) (L := []) (U := some (S.n, e.2.2.2.1)) (al := am_N e.2.2.2.1) (sh := (0, e.2.2.2.1, am_N e.2.2.2.1)) (N := am_N e.2.2.2.1) (d := fun j => defaultValue (am_ty e.2.2.2.1 j)) H1 (Nat.le_refl _)
      ⟨lo, Nat.lt_succ_self _, by rw [cq_mk_s, if_pos rfl]⟩
      (fun ρ' e1 y hy => by
        obtain ⟨j, -, ej⟩ := List.mem_map.1 hy
        subst ej
        refine ⟨rfl, ?_⟩
        dsimp only
        rw [cq_c_e, Int.toNat_natCast]
        exact cq_dv_ok _ ρ')
      (fun ρ' a y hy => by cases hy)
      (fun ρ' a => by
        have I := (H1 ρ' (cq_up_a a)).I
        rw [hu] at I
        have e2 : (ρ' S.n).toNat = h.1 := by rw [cq_up_s a]; exact Int.toNat_natCast _
        refine cq_Inv_mk I (Or.inr ⟨rfl, ?_⟩) (Or.inl ⟨_, rfl⟩) (fun z => absurd ?_ z)
        · show some (ρ' S.n).toNat = _
          rw [e2]
        · show some h.1 = some (ρ' S.n).toNat
          rw [e2])
      (fun y hy => by
        cases hy
        exact Or.inl rfl)
    refine ⟨_, rfl, _, List.mem_cons_self, rfl, by rw [cq_dis_n]; exact Nat.le_succ _, cq_up ρ S.n h.1, cq_up_g, fun ρ' a => ?_⟩
    have a' : cq_ag (S.n + 1) ρ' (cq_up ρ S.n h.1) := by
      have := a
      rw [cq_dis_n] at this
      exact this
    obtain ⟨D, g⟩ := kk ρ' a'
    exact ⟨cq_dis_ok D, (H ρ' (cq_up_a a')).2.1, g, (H ρ' (cq_up_a a')).2.2⟩
theorem cq_nar_ok {ob : Bool} {tc : Nat} (H : cq_Rb m h0 ρ S als ast ls st h) (q : cq_nar ob tc pc' als ast S = some out) : ∃ (n : Int32) (rs : List Value), st = .int n :: rs ∧ ¬ (n < 0 ∨ 100000 < n.toNatClampNeg) ∧ (ob = true → tc = 7) ∧ (ob = false → tc = 0 ∨ tc = 3) ∧ cq_Res m h0 ρ S.n out (some (pc', ls, .ref h.1 :: rs, am_mk h (1, tc, n.toNatClampNeg) n.toNatClampNeg (fun _ => am_dv tc))) := by
  unfold cq_nar at q
  split at q
  · rename_i f k r
    rw [cond_eq_ite] at q
    split at q
    · rename_i hb
      have hb := (Bool.and_eq_true _ _ ▸ hb)
      split at q
      · rename_i u hu
        rw [← Option.some.inj q]
        obtain ⟨v, rs, es, K, H2⟩ := cq_pop1 H
        subst es
        obtain ⟨n, en, hn⟩ := cq_int K
        subst en
        have H1 : ∀ ρ', cq_ag S.n ρ' ρ → cq_Md m h0 ρ' S h := fun ρ' a => (H ρ' a).1
        have D := H1 ρ cq_ag.rf
        obtain ⟨b1, b2⟩ := cq_in_ok D.P hb.2
        rw [← hn ρ cq_ag.rf] at b1 b2
        have hu1 := cq_hi_ok D.P.1 hu
        rw [← hn ρ cq_ag.rf] at hu1
        have n0 : ¬ n < 0 := fun z => by
          have := Int32.lt_iff_toInt_lt.1 z
          rw [cq_i0] at this
          omega
        have ei : n.toInt = (n.toNatClampNeg : Int) := (Int32.cast_toNatClampNeg n (by rw [Int32.le_iff_toInt_le, cq_i0]; omega)).symm
        have htc : (ob = true → tc = 7) ∧ (ob = false → tc = 0 ∨ tc = 3) := by
          have h1 := hb.1
          cases ob with
          | true => exact ⟨fun _ => am_beq h1, fun z => by cases z⟩
          | false =>
            refine ⟨fun z => (by cases z), fun _ => ?_⟩
            rcases Bool.or_eq_true _ _ ▸ h1 with z | z
            · exact Or.inl (am_beq z)
            · exact Or.inr (am_beq z)
        have htc3 : tc = 0 ∨ tc = 3 ∨ tc = 7 := by
          cases ob with
          | true => exact Or.inr (Or.inr (htc.1 rfl))
          | false =>
            rcases htc.2 rfl with z | z
            · exact Or.inl z
            · exact Or.inr (Or.inl z)
        refine ⟨n, rs, rfl, (fun z => by rcases z with z | z; exact n0 z; omega), htc.1, htc.2, ?_⟩
        have lo := D.I.lo
        have kk := cq_nw_ok (m := m) (h0 := h0) (ρ := ρ) (S := S) (h := h) (k := (1, tc, bif cq_k f then f.1.toNat + 1 else 0)) (T := []) (L := [((true, S.n), f)]) (U := S.U) (al := u.toNat) (sh := (1, tc, n.toNatClampNeg)) (N := n.toNatClampNeg) (d := fun _ => am_dv tc) H1 (by omega)
          (by
            refine ⟨lo, Nat.lt_succ_self _, ?_⟩
            rw [cq_mk_s, if_pos rfl]
            refine ⟨rfl, rfl, ?_⟩
            cases hk : cq_k f with
            | true =>
              right
              have := hn ρ cq_ag.rf
              rw [cq_k_e hk] at this
              show n.toNatClampNeg + 1 = f.1.toNat + 1
              omega
            | false => exact Or.inl rfl)
          (fun ρ' e1 y hy => by cases hy)
          (fun ρ' a y hy => by
            rcases List.mem_cons.1 hy with z | z
            · subst z
              refine ⟨rfl, ?_⟩
              show cq_e ρ' f = (n.toNatClampNeg : Int)
              rw [← hn ρ' a]
              exact ei
            · cases z)
          (fun ρ' a => by
            have I := (H1 ρ' (cq_up_a a)).I
            refine cq_Inv_mk I (Or.inl rfl) (Or.inr ⟨rfl, by show n.toNatClampNeg ≤ 100000; omega⟩) (fun _ j _ => ?_)
            have et : cq_tyOf h.1 (1, tc, n.toNatClampNeg) j = cq_at tc := by
              unfold cq_tyOf
              have : Nat.blt h.1 130 = false := by
                cases hh : Nat.blt h.1 130 with
                | false => rfl
                | true => have : h.1 < 130 := Nat.le_of_ble_eq_true hh; omega
              rw [this]
              rfl
            rw [et]
            rcases htc3 with z | z | z
            · subst z
              exact ⟨0, rfl, by decide, by decide⟩
            · subst z
              exact ⟨0, rfl⟩
            · subst z
              exact Or.inl rfl)
          (fun y hy => Or.inr hy)
        refine ⟨_, rfl, _, List.mem_cons_self, rfl, Nat.le_succ _, cq_up ρ S.n h.1, cq_up_g, fun ρ' a => ?_⟩
        obtain ⟨D', g⟩ := kk ρ' a
        exact ⟨D', (H ρ' (cq_up_a a)).2.1, g, (H2 ρ' (cq_up_a a)).2.2⟩
      · cases q
    · cases q
  · cases q
end CSH
end
section
/-! THE CHECKER, 18: every step that is no call, no return and no throw -/
def cq_ex (m : cq_W) (e : am_E) (pc : Nat) (ls st : List cq_A) (S : cq_S) : Option (List cq_O) := match e.1 with
  | .getfield _ => cq_gf e.2.2.2.1 e.2.2.2.2.1 (pc + 3) ls st S
  | .putfield _ => cq_pf m e.2.2.2.1 e.2.2.2.2.1 (pc + 3) ls st S
  | .iaload => cq_ald (fun c => Nat.beq c 0) (pc + 1) ls st S
  | .baload => cq_ald (fun c => Nat.beq c 1 || Nat.beq c 2) (pc + 1) ls st S
  | .laload => cq_ald (fun c => Nat.beq c 3) (pc + 1) ls st S
  | .aaload => cq_ald (fun c => Nat.ble 4 c && am_isA c) (pc + 1) ls st S
  | .iastore => cq_ast m 0 (pc + 1) ls st S
  | .bastore => cq_ast m 1 (pc + 1) ls st S
  | .lastore => cq_ast m 2 (pc + 1) ls st S
  | .aastore => cq_ast m 3 (pc + 1) ls st S
  | .arraylength => cq_aln (pc + 1) ls st S
  | .new _ => cq_new e.2.2.2.1 (pc + 3) ls st S
  | .newarray _ => cq_nar false e.2.2.2.1 (pc + 2) ls st S
  | .anewarray _ => cq_nar true e.2.2.2.1 (pc + 3) ls st S
  | _ => cq_pu e pc ls st S
section CSI
variable {m : cq_W} {h0 : am_H} {ρ : Nat → Int} {S : cq_S} {h : am_H} {als ast : List cq_A} {ls st : List Value} {out : List cq_O} {e : am_E} {pc pc' : Nat}
theorem cq_ex_ok (H : cq_Rb m h0 ρ S als ast ls st h) (q : cq_ex m e pc als ast S = some out) : cq_Res m h0 ρ S.n out (am_st e pc ls st h) := by
  unfold cq_ex at q
  split at q
  · rename_i x he
    exact cq_gf_ok he H q
  · rename_i x he
    exact cq_pf_ok he H q
  · rename_i he
    obtain ⟨i, a, rs, es, R⟩ := cq_ald_ok H q
    subst es
    simp only [am_st, he]
    exact R
  · rename_i he
    obtain ⟨i, a, rs, es, R⟩ := cq_ald_ok H q
    subst es
    simp only [am_st, he]
    exact R
  · rename_i he
    obtain ⟨i, a, rs, es, R⟩ := cq_ald_ok H q
    subst es
    simp only [am_st, he]
    exact R
  · rename_i he
    obtain ⟨i, a, rs, es, R⟩ := cq_ald_ok H q
    subst es
    simp only [am_st, he]
    exact R
  · rename_i he
    exact cq_ias_ok he H q
  · rename_i he
    exact cq_bas_ok he H q
  · rename_i he
    exact cq_las_ok he H q
  · rename_i he
    exact cq_aas_ok he H q
  · rename_i he
    exact cq_aln_ok he H q
  · rename_i x he
    exact cq_new_ok he H q
  · rename_i x he
    obtain ⟨n, rs, es, hn, -, -, R⟩ := cq_nar_ok H q
    subst es
    simp only [am_st, he, if_neg hn]
    exact R
  · rename_i x he
    obtain ⟨n, rs, es, hn, h7, -, R⟩ := cq_nar_ok H q
    subst es
    have e7 := h7 rfl
    simp only [am_st, he, if_neg hn]
    rw [e7] at R ⊢
    exact R
  · exact cq_pu_ok H q
end CSI
end
