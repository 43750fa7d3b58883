/-! A STEP, whatever the instruction -/
theorem am_chP_use {y pc : Nat} {en : am_E} (hc : am_code y pc = some en) (hp : am_chP y pc = true) : en.2.1 = am_ln en.1 en.2.1 ∧ decode (am_by y) pc = .ok (en.1, en.2.1) ∧ am_chE y (am_in y).1 pc en = true := by
  unfold am_chP at hp
  rw [hc] at hp
  simp only [Bool.and_eq_true] at hp
  exact ⟨am_beq hp.1.1, of_decide_eq_true hp.1.2, hp.2⟩
set_option maxHeartbeats 4000000 in
theorem am_step {p : Program} {l : Launch} {e : Env} {R : Room} {s : State} {m : MethodId} {args : Array Value} {below : List Frame} {meth : Method} {c : Code} {Q : State → Prop} {D : va_G} {dA : Nat → ClassId} {B0 : Nat} {ca : Nat → Nat} {y : Nat} {h0 : am_H} {pc pc' : Nat} {ls st ls' st' : List Value} {h h' : am_H} {en : am_E} (C : am_Cx p s m args meth c D dA B0 ca y) (hc : am_code y pc = some en) (hp : am_chP y pc = true) (hs : am_st en pc ls st h = some (pc', ls', st', h')) (hm : h0.1 ≤ h.1 ∧ h0.2.1 ≤ h.2.1) (hcap : h'.1 - h0.1 ≤ R.cells ∧ h'.2.1 - h0.2.1 ≤ R.slots) (k : am_Wp p l e R s m args below meth c Q D dA B0 ca y h0 pc' ls' st' h') : am_Wp p l e R s m args below meth c Q D dA B0 ca y h0 pc ls st h := by
  obtain ⟨hn, hd, hce⟩ := am_chP_use hc hp
  clear hc hp
  obtain ⟨i, n, t, a, b, w⟩ := en
  replace hn : n = am_ln i n := hn
  replace hd : decode (am_by y) pc = .ok (i, n) := hd
  cases i with
  | aconst_null =>
    obtain rfl : n = 1 := hn
    exact am_k_aconst_null C hd hce hs k
  | iconst x0 =>
    obtain rfl : n = 1 := hn
    exact am_k_iconst C hd hce hs k
  | bipush x0 =>
    obtain rfl : n = 2 := hn
    exact am_k_bipush C hd hce hs k
  | sipush x0 =>
    obtain rfl : n = 3 := hn
    exact am_k_sipush C hd hce hs k
  | lconst x0 =>
    obtain rfl : n = 1 := hn
    exact am_k_lconst C hd hce hs k
  | iload x0 =>
    obtain rfl : n = 2 := hn
    exact am_k_iload C hd hce hs k
  | iload_n x0 =>
    obtain rfl : n = 1 := hn
    exact am_k_iload_n C hd hce hs k
  | lload x0 =>
    obtain rfl : n = 2 := hn
    exact am_k_lload C hd hce hs k
  | lload_n x0 =>
    obtain rfl : n = 1 := hn
    exact am_k_lload_n C hd hce hs k
  | aload x0 =>
    obtain rfl : n = 2 := hn
    exact am_k_aload C hd hce hs k
  | aload_n x0 =>
    obtain rfl : n = 1 := hn
    exact am_k_aload_n C hd hce hs k
  | istore x0 =>
    obtain rfl : n = 2 := hn
    exact am_k_istore C hd hce hs k
  | istore_n x0 =>
    obtain rfl : n = 1 := hn
    exact am_k_istore_n C hd hce hs k
  | lstore x0 =>
    obtain rfl : n = 2 := hn
    exact am_k_lstore C hd hce hs k
  | lstore_n x0 =>
    obtain rfl : n = 1 := hn
    exact am_k_lstore_n C hd hce hs k
  | astore x0 =>
    obtain rfl : n = 2 := hn
    exact am_k_astore C hd hce hs k
  | astore_n x0 =>
    obtain rfl : n = 1 := hn
    exact am_k_astore_n C hd hce hs k
  | iinc x0 x1 =>
    obtain rfl : n = 3 := hn
    exact am_k_iinc C hd hce hs k
  | iadd =>
    obtain rfl : n = 1 := hn
    exact am_k_iadd C hd hce hs k
  | isub =>
    obtain rfl : n = 1 := hn
    exact am_k_isub C hd hce hs k
  | imul =>
    obtain rfl : n = 1 := hn
    exact am_k_imul C hd hce hs k
  | iand =>
    obtain rfl : n = 1 := hn
    exact am_k_iand C hd hce hs k
  | ior =>
    obtain rfl : n = 1 := hn
    exact am_k_ior C hd hce hs k
  | ixor =>
    obtain rfl : n = 1 := hn
    exact am_k_ixor C hd hce hs k
  | ineg =>
    obtain rfl : n = 1 := hn
    exact am_k_ineg C hd hce hs k
  | ishl =>
    obtain rfl : n = 1 := hn
    exact am_k_ishl C hd hce hs k
  | ishr =>
    obtain rfl : n = 1 := hn
    exact am_k_ishr C hd hce hs k
  | ladd =>
    obtain rfl : n = 1 := hn
    exact am_k_ladd C hd hce hs k
  | lsub =>
    obtain rfl : n = 1 := hn
    exact am_k_lsub C hd hce hs k
  | lmul =>
    obtain rfl : n = 1 := hn
    exact am_k_lmul C hd hce hs k
  | lor =>
    obtain rfl : n = 1 := hn
    exact am_k_lor C hd hce hs k
  | land =>
    obtain rfl : n = 1 := hn
    exact am_k_land C hd hce hs k
  | iushr =>
    obtain rfl : n = 1 := hn
    exact am_k_iushr C hd hce hs k
  | lshl =>
    obtain rfl : n = 1 := hn
    exact am_k_lshl C hd hce hs k
  | i2l =>
    obtain rfl : n = 1 := hn
    exact am_k_i2l C hd hce hs k
  | l2i =>
    obtain rfl : n = 1 := hn
    exact am_k_l2i C hd hce hs k
  | i2b =>
    obtain rfl : n = 1 := hn
    exact am_k_i2b C hd hce hs k
  | i2c =>
    obtain rfl : n = 1 := hn
    exact am_k_i2c C hd hce hs k
  | lcmp =>
    obtain rfl : n = 1 := hn
    exact am_k_lcmp C hd hce hs k
  | idiv =>
    obtain rfl : n = 1 := hn
    exact am_k_idiv C hd hce hs k
  | irem =>
    obtain rfl : n = 1 := hn
    exact am_k_irem C hd hce hs k
  | ldiv =>
    obtain rfl : n = 1 := hn
    exact am_k_ldiv C hd hce hs k
  | lrem =>
    obtain rfl : n = 1 := hn
    exact am_k_lrem C hd hce hs k
  | dup =>
    obtain rfl : n = 1 := hn
    exact am_k_dup C hd hce hs k
  | pop =>
    obtain rfl : n = 1 := hn
    exact am_k_pop C hd hce hs k
  | dup2 =>
    obtain rfl : n = 1 := hn
    exact am_k_dup2 C hd hce hs k
  | goto x0 =>
    obtain rfl : n = 3 := hn
    exact am_k_goto C hd hce hs k
  | ifCond cnd off =>
    obtain rfl : n = 3 := hn
    cases cnd with
    | eq => exact am_k_if_eq C hd hce hs k
    | lt => exact am_k_if_lt C hd hce hs k
    | ge => exact am_k_if_ge C hd hce hs k
    | gt => exact am_k_if_gt C hd hce hs k
    | le => exact am_k_if_le C hd hce hs k
    | ne => exact am_k_if_ne C hd hce hs k
  | if_icmp cnd off =>
    obtain rfl : n = 3 := hn
    cases cnd with
    | eq => exact am_k_icmp_eq C hd hce hs k
    | lt => exact am_k_icmp_lt C hd hce hs k
    | ge => exact am_k_icmp_ge C hd hce hs k
    | gt => exact am_k_icmp_gt C hd hce hs k
    | le => exact am_k_icmp_le C hd hce hs k
    | ne => exact am_k_icmp_ne C hd hce hs k
  | ifnull x0 =>
    obtain rfl : n = 3 := hn
    exact am_k_ifnull C hd hce hs k
  | ifnonnull x0 =>
    obtain rfl : n = 3 := hn
    exact am_k_ifnonnull C hd hce hs k
  | tableswitch d0 lo hi offs => exact am_k_tableswitch C hd hce hs k
  | ldc x0 =>
    obtain rfl : n = 2 := hn
    have hb0 : Nat.beq b 0 = true := by
      simp only [am_st] at hs
      exact (am_cond hs).1
    exact am_k_ldc C hd hce hb0 hs k
  | ldc_w x0 =>
    obtain rfl : n = 3 := hn
    have hb0 : Nat.beq b 0 = true := by
      simp only [am_st] at hs
      exact (am_cond hs).1
    exact am_k_ldc_w C hd hce hb0 hs k
  | ldc2_w x0 =>
    obtain rfl : n = 3 := hn
    exact am_k_ldc2_w C hd hce hs k
  | getstatic x0 =>
    obtain rfl : n = 3 := hn
    exact am_k_getstatic C hd hce hs k
  | getfield x0 =>
    obtain rfl : n = 3 := hn
    exact am_k_getfield C hd hce hs k
  | putfield x0 =>
    obtain rfl : n = 3 := hn
    exact am_k_putfield C hd hce hs k
  | iaload =>
    obtain rfl : n = 1 := hn
    exact am_k_iaload C hd hs k
  | baload =>
    obtain rfl : n = 1 := hn
    exact am_k_baload C hd hs k
  | laload =>
    obtain rfl : n = 1 := hn
    exact am_k_laload C hd hs k
  | aaload =>
    obtain rfl : n = 1 := hn
    exact am_k_aaload C hd hs k
  | arraylength =>
    obtain rfl : n = 1 := hn
    exact am_k_arraylength C hd hs k
  | iastore =>
    obtain rfl : n = 1 := hn
    exact am_k_iastore C hd hs k
  | lastore =>
    obtain rfl : n = 1 := hn
    exact am_k_lastore C hd hs k
  | bastore =>
    obtain rfl : n = 1 := hn
    exact am_k_bastore C hd hs k
  | aastore =>
    obtain rfl : n = 1 := hn
    exact am_k_aastore C hd hs k
  | new x0 =>
    obtain rfl : n = 3 := hn
    exact am_k_new C hd hce hs hm hcap k
  | newarray x0 =>
    obtain rfl : n = 2 := hn
    exact am_k_newarray C hd hce hs hm hcap k
  | anewarray x0 =>
    obtain rfl : n = 3 := hn
    exact am_k_anewarray C hd hce hs hm hcap k
  | _ => exact absurd hs (fun q => by cases q)
