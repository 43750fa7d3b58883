section CQV
variable {m : cq_W} {h0 : am_H} {ρ : Nat → Int} {S : cq_S} {als ast : List cq_A} {ls st : List Value} {h : am_H} {out : List cq_O} {e : am_E} {pc pc' : Nat}
theorem cq_pu_ok (H : cq_Rb m h0 ρ S als ast ls st h) (q : cq_pu e pc als ast S = some out) : cq_Res m h0 ρ S.n out (am_st e pc ls st h) := by
  unfold cq_pu at q
  split at q
  · -- aconst_null
    rename_i he
    rw [← Option.some.inj q]
    simp only [am_st, he]
    exact cq_push H fun ρ' a => rfl
  · rename_i n he
    simp only [cond_eq_ite] at q
    split at q
    · rename_i hk
      have hk := cq_k1_ok hk
      rw [← Option.some.inj q]
      simp only [am_st, he]
      exact cq_push H fun ρ' a => ⟨_, rfl, by rw [cq_c_e]; exact Int32.toInt_ofInt_of_le (by omega) (by omega)⟩
    · cases q
  · rename_i n he
    simp only [cond_eq_ite] at q
    split at q
    · rename_i hk
      have hk := cq_k1_ok hk
      rw [← Option.some.inj q]
      simp only [am_st, he]
      exact cq_push H fun ρ' a => ⟨_, rfl, by rw [cq_c_e, Int8.toInt_toInt32]; exact Int8.toInt_ofInt_of_le (by omega) (by omega)⟩
    · cases q
  · rename_i n he
    simp only [cond_eq_ite] at q
    split at q
    · rename_i hk
      have hk := cq_k1_ok hk
      rw [← Option.some.inj q]
      simp only [am_st, he]
      exact cq_push H fun ρ' a => ⟨_, rfl, by rw [cq_c_e, Int16.toInt_toInt32]; exact Int16.toInt_ofInt_of_le (by omega) (by omega)⟩
    · cases q
  · rename_i n he
    simp only [cond_eq_ite] at q
    split at q
    · rename_i hk
      have hk : (n : Nat) < 100 := Nat.le_of_ble_eq_true hk
      rw [← Option.some.inj q]
      simp only [am_st, he]
      exact cq_push H fun ρ' a => ⟨_, rfl, by rw [cq_c_e]; exact Int64.toInt_ofNat_of_lt (by omega)⟩
    · cases q
  · rename_i n he
    simp only [cond_eq_ite] at q
    split at q
    · rename_i hk
      rw [← Option.some.inj q]
      simp only [am_st, he, cond_eq_ite, if_pos hk]
      exact cq_push H fun ρ' a => ⟨_, rfl, by rw [cq_c_e]; exact Int32.toInt_ofNat'⟩
    · cases q
  · rename_i n he
    simp only [cond_eq_ite] at q
    split at q
    · rename_i hk
      rw [← Option.some.inj q]
      simp only [am_st, he, cond_eq_ite, if_pos hk]
      exact cq_push H fun ρ' a => ⟨_, rfl, by rw [cq_c_e]; exact Int32.toInt_ofNat'⟩
    · cases q
  · rename_i n he
    rw [← Option.some.inj q]
    simp only [am_st, he]
    exact cq_push H fun ρ' a => ⟨_, rfl, by rw [cq_c_e]; exact Int64.toInt_ofNat'⟩
  · rename_i n he
    rw [← Option.some.inj q]
    simp only [am_st, he]
    exact cq_push H fun ρ' a => rfl
  · rename_i i he
    obtain ⟨a, v, -, hv, ht, K, R⟩ := cq_ld_ok H q
    obtain ⟨x, ex⟩ := cq_tI_ok ht (K ρ cq_ag.rf)
    subst ex
    simp only [am_st, he, hv]
    exact R
  · rename_i i he
    obtain ⟨a, v, -, hv, ht, K, R⟩ := cq_ld_ok H q
    obtain ⟨x, ex⟩ := cq_tI_ok ht (K ρ cq_ag.rf)
    subst ex
    simp only [am_st, he, hv]
    exact R
  · rename_i i he
    obtain ⟨a, v, -, hv, ht, K, R⟩ := cq_ld_ok H q
    obtain ⟨x, ex⟩ := cq_tL_ok ht (K ρ cq_ag.rf)
    subst ex
    simp only [am_st, he, hv]
    exact R
  · rename_i i he
    obtain ⟨a, v, -, hv, ht, K, R⟩ := cq_ld_ok H q
    obtain ⟨x, ex⟩ := cq_tL_ok ht (K ρ cq_ag.rf)
    subst ex
    simp only [am_st, he, hv]
    exact R
  · rename_i i he
    obtain ⟨a, v, -, hv, ht, K, R⟩ := cq_ld_ok H q
    rcases cq_tR_ok ht (K ρ cq_ag.rf) with ex | ⟨x, ex⟩
    · subst ex
      simp only [am_st, he, hv]
      exact R
    · subst ex
      simp only [am_st, he, hv]
      exact R
  · rename_i i he
    obtain ⟨a, v, -, hv, ht, K, R⟩ := cq_ld_ok H q
    rcases cq_tR_ok ht (K ρ cq_ag.rf) with ex | ⟨x, ex⟩
    · subst ex
      simp only [am_st, he, hv]
      exact R
    · subst ex
      simp only [am_st, he, hv]
      exact R
  · rename_i i he
    obtain ⟨a, v, rs, es, ht, hl, K, R⟩ := cq_sto_ok H q
    have hl : Nat.blt i ls.length = true := Nat.ble_eq_true_of_le hl
    obtain ⟨x, ex⟩ := cq_tI_ok ht (K ρ cq_ag.rf)
    subst ex
    subst es
    simp only [am_st, he, hl, cond_true]
    exact R
  · rename_i i he
    obtain ⟨a, v, rs, es, ht, hl, K, R⟩ := cq_sto_ok H q
    have hl : Nat.blt i.val ls.length = true := Nat.ble_eq_true_of_le hl
    obtain ⟨x, ex⟩ := cq_tI_ok ht (K ρ cq_ag.rf)
    subst ex
    subst es
    simp only [am_st, he, hl, cond_true]
    exact R
  · rename_i i he
    obtain ⟨a, v, rs, es, ht, hl, K, R⟩ := cq_sto_ok H q
    have hl : Nat.blt i ls.length = true := Nat.ble_eq_true_of_le hl
    subst es
    rcases cq_tR_ok ht (K ρ cq_ag.rf) with ex | ⟨x, ex⟩
    · subst ex
      simp only [am_st, he, hl, cond_true]
      exact R
    · subst ex
      simp only [am_st, he, hl, cond_true]
      exact R
  · rename_i i he
    obtain ⟨a, v, rs, es, ht, hl, K, R⟩ := cq_sto_ok H q
    have hl : Nat.blt i.val ls.length = true := Nat.ble_eq_true_of_le hl
    subst es
    rcases cq_tR_ok ht (K ρ cq_ag.rf) with ex | ⟨x, ex⟩
    · subst ex
      simp only [am_st, he, hl, cond_true]
      exact R
    · subst ex
      simp only [am_st, he, hl, cond_true]
      exact R
  · rename_i i he
    obtain ⟨x, rs, es, hl, R⟩ := cq_stl_ok H q
    have hl : Nat.blt (i + 1) ls.length = true := Nat.ble_eq_true_of_le hl
    subst es
    simp only [am_st, he, hl, cond_true]
    exact R
  · rename_i i he
    obtain ⟨x, rs, es, hl, R⟩ := cq_stl_ok H q
    have hl : Nat.blt (i.val + 1) ls.length = true := Nat.ble_eq_true_of_le hl
    subst es
    simp only [am_st, he, hl, cond_true]
    exact R
  · rename_i i n he
    exact cq_inc_ok he H q
  · rename_i he
    refine cq_b2_ok (op := fun x y => x + y) (C := fun _ _ => True) (fun x y r _ => by simp only [am_st, he]) (fun f g w x y hw K => ⟨trivial, ?_⟩) H q
    rw [← Option.some.inj hw]
    exact cq_ai_ok fun ρ' a => ⟨(K ρ' a).1, by rw [Int32.toInt_add, cq_add_e, (K ρ' a).2.1, (K ρ' a).2.2]⟩
  · rename_i he
    refine cq_b2_ok (op := fun x y => x - y) (C := fun _ _ => True) (fun x y r _ => by simp only [am_st, he]) (fun f g w x y hw K => ⟨trivial, ?_⟩) H q
    rw [← Option.some.inj hw]
    exact cq_ai_ok fun ρ' a => ⟨(K ρ' a).1, by rw [Int32.toInt_sub, cq_sub_e, (K ρ' a).2.1, (K ρ' a).2.2]⟩
  · rename_i he
    refine cq_b2_ok (op := fun x y => x * y) (C := fun _ _ => True) (fun x y r _ => by simp only [am_st, he]) (fun f g w x y hw K => ⟨trivial, ?_⟩) H q
    split at hw
    · rename_i p hp
      rw [← Option.some.inj hw]
      exact cq_ai_ok fun ρ' a => ⟨(K ρ' a).1, by rw [Int32.toInt_mul, cq_mu_ok hp, (K ρ' a).2.1, (K ρ' a).2.2]⟩
    · rw [← Option.some.inj hw]
      exact cq_any_ok fun ρ' a => (K ρ' a).1
  · rename_i he
    refine cq_b2_ok (op := fun x y => x &&& y) (C := fun _ _ => True) (fun x y r _ => by simp only [am_st, he]) (fun f g w x y hw K => ⟨trivial, ?_⟩) H q
    rw [← Option.some.inj hw]
    exact cq_an_ok K
  · rename_i he
    refine cq_b2_ok (op := fun x y => x <<< (y &&& 31)) (C := fun _ _ => True) (fun x y r _ => by simp only [am_st, he]) (fun f g w x y hw K => ⟨trivial, ?_⟩) H q
    rw [← Option.some.inj hw]
    exact cq_sl_ok K
  · rename_i he
    refine cq_b2_ok (op := fun x y => x ||| y) (C := fun _ _ => True) (fun x y r _ => by simp only [am_st, he]) (fun f g w x y hw K => ⟨trivial, ?_⟩) H q
    rw [← Option.some.inj hw]
    exact cq_any_ok fun ρ' a => (K ρ' a).1
  · rename_i he
    refine cq_b2_ok (op := fun x y => x ^^^ y) (C := fun _ _ => True) (fun x y r _ => by simp only [am_st, he]) (fun f g w x y hw K => ⟨trivial, ?_⟩) H q
    rw [← Option.some.inj hw]
    exact cq_any_ok fun ρ' a => (K ρ' a).1
  · rename_i he
    refine cq_b2_ok (op := fun x y => x >>> (y &&& 31)) (C := fun _ _ => True) (fun x y r _ => by simp only [am_st, he]) (fun f g w x y hw K => ⟨trivial, ?_⟩) H q
    rw [← Option.some.inj hw]
    exact cq_any_ok fun ρ' a => (K ρ' a).1
  · rename_i he
    refine cq_b2_ok (op := fun x y => (x.toUInt32 >>> (y.toUInt32 &&& Int32.toUInt32 31)).toInt32) (C := fun _ _ => True) (fun x y r _ => by simp only [am_st, he]) (fun f g w x y hw K => ⟨trivial, ?_⟩) H q
    rw [← Option.some.inj hw]
    exact cq_any_ok fun ρ' a => (K ρ' a).1
  · rename_i he
    refine cq_b2_ok (op := fun x y => x / y) (C := fun _ y => y ≠ 0) (fun x y r hy => by simp only [am_st, he, if_neg hy]) (fun f g w x y hw K => ?_) H q
    simp only [cond_eq_ite] at hw
    split at hw
    · rename_i hz
      rw [← Option.some.inj hw]
      exact ⟨fun z => cq_nz_ok hz (y := y.toInt) (fun ρ' a => ⟨(K ρ' a).1, (K ρ' a).2.2⟩) (by rw [z]; rfl), cq_any_ok fun ρ' a => (K ρ' a).1⟩
    · cases hw
  · rename_i he
    refine cq_b2_ok (op := fun x y => x - x / y * y) (C := fun _ y => y ≠ 0) (fun x y r hy => by simp only [am_st, he, if_neg hy]) (fun f g w x y hw K => ?_) H q
    simp only [cond_eq_ite] at hw
    split at hw
    · rename_i hz
      rw [← Option.some.inj hw]
      exact ⟨fun z => cq_nz_ok hz (y := y.toInt) (fun ρ' a => ⟨(K ρ' a).1, (K ρ' a).2.2⟩) (by rw [z]; rfl), cq_any_ok fun ρ' a => (K ρ' a).1⟩
    · cases hw
  · rename_i he
    refine cq_l2_ok (op := fun x y => .long (x + y)) (C := fun _ _ => True) (fun x y r _ => by simp only [am_st, he]) (fun f g w x y hw K => ⟨trivial, ?_⟩) H q
    rw [← Option.some.inj hw]
    exact cq_al_ok fun ρ' a => ⟨(K ρ' a).1, by rw [Int64.toInt_add, cq_add_e, (K ρ' a).2.1, (K ρ' a).2.2]⟩
  · rename_i he
    refine cq_l2_ok (op := fun x y => .long (x - y)) (C := fun _ _ => True) (fun x y r _ => by simp only [am_st, he]) (fun f g w x y hw K => ⟨trivial, ?_⟩) H q
    rw [← Option.some.inj hw]
    exact cq_al_ok fun ρ' a => ⟨(K ρ' a).1, by rw [Int64.toInt_sub, cq_sub_e, (K ρ' a).2.1, (K ρ' a).2.2]⟩
  · rename_i he
    refine cq_l2_ok (op := fun x y => .long (x * y)) (C := fun _ _ => True) (fun x y r _ => by simp only [am_st, he]) (fun f g w x y hw K => ⟨trivial, ?_⟩) H q
    rw [← Option.some.inj hw]
    exact cq_anl_ok fun ρ' a => (K ρ' a).1
  · rename_i he
    refine cq_l2_ok (op := fun x y => .long (x ||| y)) (C := fun _ _ => True) (fun x y r _ => by simp only [am_st, he]) (fun f g w x y hw K => ⟨trivial, ?_⟩) H q
    rw [← Option.some.inj hw]
    exact cq_anl_ok fun ρ' a => (K ρ' a).1
  · rename_i he
    refine cq_l2_ok (op := fun x y => .long (x / y)) (C := fun _ y => y ≠ 0) (fun x y r hy => by simp only [am_st, he, if_neg hy]) (fun f g w x y hw K => ?_) H q
    simp only [cond_eq_ite] at hw
    split at hw
    · rename_i hz
      rw [← Option.some.inj hw]
      exact ⟨fun z => cq_nz_ok hz (y := y.toInt) (fun ρ' a => ⟨(K ρ' a).1, (K ρ' a).2.2⟩) (by rw [z]; rfl), cq_anl_ok fun ρ' a => (K ρ' a).1⟩
    · cases hw
  · rename_i he
    refine cq_l2_ok (op := fun x y => .long (x - x / y * y)) (C := fun _ y => y ≠ 0) (fun x y r hy => by simp only [am_st, he, if_neg hy]) (fun f g w x y hw K => ?_) H q
    simp only [cond_eq_ite] at hw
    split at hw
    · rename_i hz
      rw [← Option.some.inj hw]
      exact ⟨fun z => cq_nz_ok hz (y := y.toInt) (fun ρ' a => ⟨(K ρ' a).1, (K ρ' a).2.2⟩) (by rw [z]; rfl), cq_anl_ok fun ρ' a => (K ρ' a).1⟩
    · cases hw
  · rename_i he
    refine cq_l2_ok (op := fun x y => .int (lg_cmp x y)) (C := fun _ _ => True) (fun x y r _ => by simp only [am_st, he]) (fun f g w x y hw K => ⟨trivial, ?_⟩) H q
    rw [← Option.some.inj hw]
    refine cq_Mk.of fun ρ' a => ⟨(K ρ' a).1, lg_cmp x y, rfl, ?_⟩
    have := cq_cmp_s x y
    rw [cq_sub_e, ← (K ρ' a).2.1, ← (K ρ' a).2.2]
    exact this
  · rename_i he
    split at q
    · rename_i f1 k1 f2 k2 r
      rw [← Option.some.inj q]
      obtain ⟨v, rs, e1, K1, H1⟩ := cq_pop1 H
      subst e1
      obtain ⟨y, e2, hy⟩ := cq_int K1
      subst e2
      obtain ⟨v, rs, e1, K2, H2⟩ := cq_pop1 H1
      subst e1
      obtain ⟨x, e2, hx⟩ := cq_lng K2
      subst e2
      simp only [am_st, he]
      exact (cq_anl_ok fun ρ' a => (H ρ' a).1).res fun ρ' a => (H2 ρ' a).2
    · cases q
  · rename_i he
    unfold cq_u1 at q
    split at q
    · rename_i a f k r
      simp only [cond_eq_ite] at q
      split at q
      · rename_i ht
        have ht := am_beq ht
        subst ht
        rw [← Option.some.inj q]
        obtain ⟨v, rs, e1, K1, H1⟩ := cq_pop1 H
        subst e1
        obtain ⟨y, e2, hy⟩ := cq_int K1
        subst e2
        simp only [am_st, he]
        exact cq_u1_ok (F := fun f => (cq_l f, S)) H (cq_Mk.of fun ρ' a => ⟨(H ρ' a).1, _, rfl, by rw [Int32.toInt_toInt64]; exact hy ρ' a⟩)
      · cases q
    · cases q
  · rename_i he
    unfold cq_u1 at q
    split at q
    · rename_i a f k r
      simp only [cond_eq_ite] at q
      split at q
      · rename_i ht
        have ht := am_beq ht
        subst ht
        rw [← Option.some.inj q]
        obtain ⟨v, rs, e1, K1, H1⟩ := cq_pop1 H
        subst e1
        obtain ⟨y, e2, hy⟩ := cq_lng K1
        subst e2
        simp only [am_st, he]
        exact cq_u1_ok (F := fun f => cq_ai S f) H (cq_ai_ok fun ρ' a => ⟨(H ρ' a).1, by rw [Int64.toInt_toInt32, hy ρ' a]⟩)
      · cases q
    · cases q
  · rename_i he
    unfold cq_u1 at q
    split at q
    · rename_i a f k r
      rw [cond_eq_ite] at q
      split at q
      · rename_i ht
        have ht := am_beq ht
        subst ht
        rw [← Option.some.inj q]
        obtain ⟨v, rs, e1, K1, H1⟩ := cq_pop1 H
        subst e1
        obtain ⟨y, e2, hy⟩ := cq_int K1
        subst e2
        simp only [am_st, he]
        refine cq_u1_ok (F := fun f => bif cq_in S.P f (-128) 127 then (cq_i f, S) else cq_fi S (-128) 127) H ?_
        have e8 : y.toInt8.toInt32.toInt = y.toInt.bmod (2 ^ 8) := by rw [Int8.toInt_toInt32, Int32.toInt_toInt8]
        cases hi : cq_in S.P f (-128) 127 with
        | true =>
          refine cq_Mk.of fun ρ' a => ⟨(H ρ' a).1, _, rfl, ?_⟩
          obtain ⟨b1, b2⟩ := cq_in_ok (H ρ' a).1.P hi
          rw [e8, hy ρ' a]
          exact Int.bmod_eq_of_le (by omega) (by omega)
        | false =>
          have l1 := y.toInt8.le_toInt
          have l2 := y.toInt8.toInt_lt
          rw [Int8.toInt_toInt32] at e8
          refine cq_fi_ok (fun ρ' a => (H ρ' a).1) ?_ ?_
          · rw [Int8.toInt_toInt32]; omega
          · rw [Int8.toInt_toInt32]; omega
      · cases q
    · cases q
  · rename_i he
    split at q
    · rename_i a r
      simp only [cond_eq_ite] at q
      split at q
      · rename_i ht
        rw [← Option.some.inj q]
        obtain ⟨v, rs, e1, K1, H1⟩ := cq_pop1 H
        subst e1
        have c1 := cq_cat1' (K1 ρ cq_ag.rf) ht
        simp only [am_st, he, c1, Nat.beq_refl, cond_true]
        exact cq_keep rfl fun ρ' a => ⟨(H ρ' a).1, (H ρ' a).2.1, K1 ρ' a, (H ρ' a).2.2⟩
      · cases q
    · cases q
  · rename_i he
    split at q
    · rename_i a b r
      simp only [cond_eq_ite] at q
      split at q
      · rename_i ht
        have ht := (Bool.and_eq_true _ _ ▸ ht)
        rw [← Option.some.inj q]
        obtain ⟨v, rs, e1, K1, H1⟩ := cq_pop1 H
        subst e1
        obtain ⟨w, rs, e1, K2, H2⟩ := cq_pop1 H1
        subst e1
        have c1 := cq_cat1' (K1 ρ cq_ag.rf) ht.1
        have c2 := cq_cat1' (K2 ρ cq_ag.rf) ht.2
        simp only [am_st, he, c1, c2, Nat.beq_refl, Bool.and_self, cond_true]
        exact cq_keep rfl fun ρ' a => ⟨(H ρ' a).1, (H ρ' a).2.1, K1 ρ' a, K2 ρ' a, (H ρ' a).2.2⟩
      · cases q
    · cases q
  · rename_i he
    split at q
    · rename_i a r
      simp only [cond_eq_ite] at q
      split at q
      · rename_i ht
        rw [← Option.some.inj q]
        obtain ⟨v, rs, e1, K1, H1⟩ := cq_pop1 H
        subst e1
        have c1 := cq_cat1' (K1 ρ cq_ag.rf) ht
        simp only [am_st, he, c1, Nat.beq_refl, cond_true]
        exact cq_keep rfl H1
      · cases q
    · cases q
  · rename_i he
    rw [← Option.some.inj q]
    simp only [am_st, he]
    exact cq_keep rfl H
  · rename_i c o he
    exact cq_j1_ok he H q
  · rename_i c o he
    exact cq_j2_ok he H q
  · rename_i o he
    obtain ⟨v, rs, e1, k⟩ := cq_j3_ok H q
    subst e1
    rcases k with ⟨e2, R⟩ | ⟨⟨a, e2⟩, R⟩
    · subst e2
      simp only [am_st, he]
      exact R
    · subst e2
      simp only [am_st, he]
      exact R
  · rename_i o he
    obtain ⟨v, rs, e1, k⟩ := cq_j3_ok H q
    subst e1
    rcases k with ⟨e2, R⟩ | ⟨⟨a, e2⟩, R⟩
    · subst e2
      simp only [am_st, he]
      exact R
    · subst e2
      simp only [am_st, he]
      exact R
  · rename_i d lo hi offs he
    exact cq_sw_ok he H q
  · cases q
end CQV
