/-! CALLS, IV: the constructor of Stop, through Exception's and Throwable's -/
def am_yS : MethodName := ⟨"PoetsBookModel$Stop", "<init>", "()V"⟩
def am_yE : MethodName := ⟨"java/lang/Exception", "<init>", "(Ljava/lang/String;Ljava/lang/Throwable;ZZ)V"⟩
def am_yT : MethodName := ⟨"java/lang/Throwable", "<init>", "(Ljava/lang/String;Ljava/lang/Throwable;ZZ)V"⟩
theorem am_dT_0 : decode prog_24_method_5_code 0 = .ok (.aload_n 0, 1) := by decide +kernel
theorem am_dT_1 : decode prog_24_method_5_code 1 = .ok (.invokespecial 1, 3) := by decide +kernel
theorem am_dT_4 : decode prog_24_method_5_code 4 = .ok (.aload_n 0, 1) := by decide +kernel
theorem am_dT_5 : decode prog_24_method_5_code 5 = .ok (.aload_n 0, 1) := by decide +kernel
theorem am_dT_6 : decode prog_24_method_5_code 6 = .ok (.putfield 7, 3) := by decide +kernel
theorem am_dT_9 : decode prog_24_method_5_code 9 = .ok (.aload_n 0, 1) := by decide +kernel
theorem am_dT_10 : decode prog_24_method_5_code 10 = .ok (.getstatic 13, 3) := by decide +kernel
theorem am_dT_13 : decode prog_24_method_5_code 13 = .ok (.putfield 17, 3) := by decide +kernel
theorem am_dT_16 : decode prog_24_method_5_code 16 = .ok (.aload_n 0, 1) := by decide +kernel
theorem am_dT_17 : decode prog_24_method_5_code 17 = .ok (.getstatic 20, 3) := by decide +kernel
theorem am_dT_20 : decode prog_24_method_5_code 20 = .ok (.putfield 24, 3) := by decide +kernel
theorem am_dT_23 : decode prog_24_method_5_code 23 = .ok (.iload 4, 2) := by decide +kernel
theorem am_dT_25 : decode prog_24_method_5_code 25 = .ok (.ifCond .eq 11, 3) := by decide +kernel
theorem am_dT_36 : decode prog_24_method_5_code 36 = .ok (.aload_n 0, 1) := by decide +kernel
theorem am_dT_37 : decode prog_24_method_5_code 37 = .ok (.aconst_null, 1) := by decide +kernel
theorem am_dT_38 : decode prog_24_method_5_code 38 = .ok (.putfield 17, 3) := by decide +kernel
theorem am_dT_41 : decode prog_24_method_5_code 41 = .ok (.aload_n 0, 1) := by decide +kernel
theorem am_dT_42 : decode prog_24_method_5_code 42 = .ok (.aload_n 1, 1) := by decide +kernel
theorem am_dT_43 : decode prog_24_method_5_code 43 = .ok (.putfield 31, 3) := by decide +kernel
theorem am_dT_46 : decode prog_24_method_5_code 46 = .ok (.aload_n 0, 1) := by decide +kernel
theorem am_dT_47 : decode prog_24_method_5_code 47 = .ok (.aload_n 2, 1) := by decide +kernel
theorem am_dT_48 : decode prog_24_method_5_code 48 = .ok (.putfield 7, 3) := by decide +kernel
theorem am_dT_51 : decode prog_24_method_5_code 51 = .ok (.iload_n 3, 1) := by decide +kernel
theorem am_dT_52 : decode prog_24_method_5_code 52 = .ok (.ifCond .ne 8, 3) := by decide +kernel
theorem am_dT_55 : decode prog_24_method_5_code 55 = .ok (.aload_n 0, 1) := by decide +kernel
theorem am_dT_56 : decode prog_24_method_5_code 56 = .ok (.aconst_null, 1) := by decide +kernel
theorem am_dT_57 : decode prog_24_method_5_code 57 = .ok (.putfield 24, 3) := by decide +kernel
theorem am_dT_60 : decode prog_24_method_5_code 60 = .ok (.return_, 1) := by decide +kernel
theorem am_dE_0 : decode prog_16_method_5_code 0 = .ok (.aload_n 0, 1) := by decide +kernel
theorem am_dE_1 : decode prog_16_method_5_code 1 = .ok (.aload_n 1, 1) := by decide +kernel
theorem am_dE_2 : decode prog_16_method_5_code 2 = .ok (.aload_n 2, 1) := by decide +kernel
theorem am_dE_3 : decode prog_16_method_5_code 3 = .ok (.iload_n 3, 1) := by decide +kernel
theorem am_dE_4 : decode prog_16_method_5_code 4 = .ok (.iload 4, 2) := by decide +kernel
theorem am_dE_6 : decode prog_16_method_5_code 6 = .ok (.invokespecial 16, 3) := by decide +kernel
theorem am_dE_9 : decode prog_16_method_5_code 9 = .ok (.return_, 1) := by decide +kernel
theorem am_dS_0 : decode prog_15_method_1_code 0 = .ok (.aload_n 0, 1) := by decide +kernel
theorem am_dS_1 : decode prog_15_method_1_code 1 = .ok (.aconst_null, 1) := by decide +kernel
theorem am_dS_2 : decode prog_15_method_1_code 2 = .ok (.aconst_null, 1) := by decide +kernel
theorem am_dS_3 : decode prog_15_method_1_code 3 = .ok (.iconst 0, 1) := by decide +kernel
theorem am_dS_4 : decode prog_15_method_1_code 4 = .ok (.iconst 0, 1) := by decide +kernel
theorem am_dS_5 : decode prog_15_method_1_code 5 = .ok (.invokespecial 1, 3) := by decide +kernel
theorem am_dS_8 : decode prog_15_method_1_code 8 = .ok (.return_, 1) := by decide +kernel
theorem am_wk1 : Cond.methodLink "java/lang/Throwable" 1 Lib.objectInit ∈ am_big := am_big_of (show am_wt 1340 ∈ lw_tbl from am_wt_in (by decide)) rfl
theorem am_wk7 : Cond.fieldLink "java/lang/Throwable" 7 (am_TT 12 0).1 (am_TT 12 0).2.1 (am_TT 12 0).2.2.1 ∈ am_big := am_big_of (show am_wt 1365 ∈ lw_tbl from am_wt_in (by decide)) rfl
theorem am_wk17 : Cond.fieldLink "java/lang/Throwable" 17 (am_TT 12 1).1 (am_TT 12 1).2.1 (am_TT 12 1).2.2.1 ∈ am_big := am_big_of (show am_wt 1366 ∈ lw_tbl from am_wt_in (by decide)) rfl
theorem am_wk24 : Cond.fieldLink "java/lang/Throwable" 24 (am_TT 12 2).1 (am_TT 12 2).2.1 (am_TT 12 2).2.2.1 ∈ am_big := am_big_of (show am_wt 1367 ∈ lw_tbl from am_wt_in (by decide)) rfl
theorem am_wk31 : Cond.fieldLink "java/lang/Throwable" 31 (am_TT 12 3).1 (am_TT 12 3).2.1 (am_TT 12 3).2.2.1 ∈ am_big := am_big_of (show am_wt 1364 ∈ lw_tbl from am_wt_in (by decide)) rfl
theorem am_wk13 : Cond.fieldLink "java/lang/Throwable" 13 "java/lang/Throwable" "UNASSIGNED_STACK" "[Ljava/lang/StackTraceElement;" ∈ am_big := am_big_of (show am_wt 1341 ∈ lw_tbl from am_wt_in (by decide)) rfl
theorem am_wk20 : Cond.fieldLink "java/lang/Throwable" 20 "java/lang/Throwable" "SUPPRESSED_SENTINEL" "Ljava/util/List;" ∈ am_big := am_big_of (show am_wt 1343 ∈ lw_tbl from am_wt_in (by decide)) rfl
theorem am_wkT : Cond.code am_yT prog_24_method_5_code 5 none ∈ am_big := am_big_of (show am_wt 1362 ∈ lw_tbl from am_wt_in (by decide)) rfl
theorem am_wkT2 : Cond.instanceMethod am_yT ∈ am_big := am_big_of (show am_wt 1361 ∈ lw_tbl from am_wt_in (by decide)) rfl
theorem am_wkI : Cond.initialized am_yT.cls ∈ am_big := am_big_of (show am_wt 114 ∈ lw_tbl from am_wt_in (by decide)) rfl
theorem am_wk16 : Cond.methodLink "java/lang/Exception" 16 am_yT ∈ am_big := am_big_of (show am_wt 1360 ∈ lw_tbl from am_wt_in (by decide)) rfl
theorem am_wkE : Cond.code am_yE prog_16_method_5_code 5 none ∈ am_big := am_big_of (show am_wt 1359 ∈ lw_tbl from am_wt_in (by decide)) rfl
theorem am_wkE2 : Cond.instanceMethod am_yE ∈ am_big := am_big_of (show am_wt 1358 ∈ lw_tbl from am_wt_in (by decide)) rfl
theorem am_wkIE : Cond.initialized am_yE.cls ∈ am_big := am_big_of (show am_wt 115 ∈ lw_tbl from am_wt_in (by decide)) rfl
theorem am_wk1S : Cond.methodLink "PoetsBookModel$Stop" 1 am_yE ∈ am_big := am_big_of (show am_wt 1357 ∈ lw_tbl from am_wt_in (by decide)) rfl
theorem am_wkS : Cond.code am_yS prog_15_method_1_code 1 none ∈ am_big := am_big_of (show am_wt 1356 ∈ lw_tbl from am_wt_in (by decide)) rfl
theorem am_wkS2 : Cond.instanceMethod am_yS ∈ am_big := am_big_of (show am_wt 1355 ∈ lw_tbl from am_wt_in (by decide)) rfl
theorem am_wkIS : Cond.initialized am_yS.cls ∈ am_big := am_big_of (show am_wt 116 ∈ lw_tbl from am_wt_in (by decide)) rfl
def am_SW (s : State) (D : va_G) (a0 : Nat) (H : Heap) (V : Nat → Value) (locs : List Loc) : Prop :=
  t_OB a0 (D.1 12) 6 (D.2 12) H V ∧ H.size = s.heap.size ∧ (∀ q, q ≠ a0 → H[q]? = s.heap[q]?) ∧ ∀ q ∈ locs, q.base = a0
theorem am_N12 : am_N 12 = 6 := rfl
theorem am_rn_fit {v : Value} (h : am_rn v) : ∀ k, k < 4 → narrow (am_ty 12 k) v = v ∧ fits (am_ty 12 k) v = true := by
  intro k hk
  rcases (show k = 0 ∨ k = 1 ∨ k = 2 ∨ k = 3 by omega) with rfl | rfl | rfl | rfl <;> rcases h with rfl | ⟨a, rfl⟩ <;> exact ⟨rfl, rfl⟩
theorem am_nf12 : ∀ k, k < 4 → (am_TT 12 k).2.2.2 = false := by decide
section AMS
variable {p : Program} {l : Launch} {e : Env} {R : Room} {s : State} {m : MethodId} {args : Array Value} {below : List Frame} {meth : Method} {c : Code} {Q : State → Prop} {D : va_G} {dA : Nat → ClassId} {B0 : Nat} {ca : Nat → Nat} {cells slots : Nat} {cc : ByteArray} {pc a0 : Nat} {ls : Array Slot} {rest : List Value} {H : Heap} {V : Nat → Value} {locs : List Loc}
theorem am_sput {idx : Nat} {v : Value} (hx : p.tables.exec = Jvm.exec) (hb : c.code = cc) (hts : ∀ w ∈ am_big, w.before args s = true) (hown : s.vm.findClass "java/lang/Throwable" = some m.cls) (hT : am_Tab D dA ca s) (k : Nat) (hk : k < 4) (hv : am_rn v) (hl : Cond.fieldLink "java/lang/Throwable" idx (am_TT 12 k).1 (am_TT 12 k).2.1 (am_TT 12 k).2.2.1 ∈ am_big) (hS : am_SW s D a0 H V locs) (hd : decode cc pc = .ok (.putfield idx, 3))
    (kk : ∀ (H' : Heap) (locs' : List Loc), am_SW s D a0 H' (updV V k v) locs' → W p l e R s m args below meth c H' locs' cells slots Q (F0 m (pc + 3) ls rest)) : W p l e R s m args below meth c H locs cells slots Q (F0 m pc ls (v :: .ref a0 :: rest)) := by
  obtain ⟨⟨cell, q1, q2, q3, q4⟩, z1, z2, z3⟩ := hS
  have h12 : (12 : Nat) < 14 := by decide
  have hk6 : k < am_N 12 := by rw [am_N12]; omega
  have hap := va_apart (own := "java/lang/Throwable") hts (am_cls h12).1 (am_ty 12) (am_cT 12 h12).1 (am_cT 12 h12).2 hT.1 (am_cl 12 h12)
  obtain ⟨hSl, hfc, kC, hkC, hkind⟩ := hT.1.1 12 _ (am_cl 12 h12)
  obtain ⟨cf, kf, fi, f, hi, hsl⟩ := hSl k hk6
  have hlay := hts _ ((am_cls h12).1 _ (u_in_lay hk6))
  have hst := (u_facts hfc hkC (u_lays hts (am_cls h12).1 hk6) hi).1
  unfold u_lay at hlay
  rw [if_neg (by rw [am_nf12 k hk]; decide)] at hlay
  have hnf := am_rn_fit hv k hk
  have h7 := u_store hfc hkC hkind hlay hi ((am_cT 12 h12).1 k hk6) hnf.1 hnf.2
  refine W.putK hx hb (f := f) ⟨hown, hts _ hl, ⟨_, _, _, hi⟩, hst⟩ (by rw [q2]; exact h7) q1 q3 (by rw [hsl]; exact k2_hasslot (q4 k hk6)) rfl rfl hd fun H' e1 e2 e3 => ?_
  rw [hsl] at e1
  refine kk H' _ ⟨⟨_, e1, q2, q3, t_set q4 hap hk6 _⟩, e2.trans z1, fun q hq => (e3 q hq).trans (z2 q hq), fun q hq => ?_⟩
  rcases List.mem_append.mp hq with h | h
  · exact z3 q h
  · cases List.mem_singleton.mp h
    rfl
theorem am_sget {idx : Nat} {C n d : String} {v : Value} (hx : p.tables.exec = Jvm.exec) (hb : c.code = cc) (hts : ∀ w ∈ am_big, w.before args s = true) (hown : s.vm.findClass "java/lang/Throwable" = some m.cls) (hl : Cond.fieldLink "java/lang/Throwable" idx C n d ∈ am_big) (hZ : va_Z C n d v (fun q => B0 ≤ q) s s.heap) (ha : B0 ≤ a0) (hS : am_SW s D a0 H V locs) (hd : decode cc pc = .ok (.getstatic idx, 3))
    (kk : W p l e R s m args below meth c H locs cells slots Q (F0 m (pc + 3) ls (v :: rest))) : W p l e R s m args below meth c H locs cells slots Q (F0 m pc ls rest) := by
  obtain ⟨cf, kf, fi, f, q, cell, z1, z2, z3, z4, z5, z6, z7, z8⟩ := hZ
  have hne : q ≠ a0 := fun e => z8 (by rw [e]; exact ha)
  exact W.gets hx hb hown (hts _ hl) z1 z2 z3 z4 (by rw [hS.2.2.1 q hne]; exact z5) (fun e => by rw [e] at z6; cases z6) z7 rfl hd kk
end AMS
def am_wT : List Cond := Cond.code am_yT prog_24_method_5_code 5 none :: am_big
def am_wE : List Cond := Cond.code am_yE prog_16_method_5_code 5 none :: am_big
def am_wS : List Cond := Cond.code am_yS prog_15_method_1_code 1 none :: am_big
set_option maxHeartbeats 4000000 in
theorem am_mT {l : Launch} {D : va_G} {dA : Nat → ClassId} {B0 : Nat} {ca : Nat → Nat} {h : am_H} {x : Nat} (hi : am_isO h x 12 = true) : Met l am_yT am_wT { frames := 1, cells := 0, slots := 0, locals := 40 } (am_Pc D dA B0 ca [.ref x, .null, .null, .int 0, .int 0] h) (am_Qc D dA B0 ca none (am_stop h x)) 0 0 (fun q => B0 ≤ q) := by
  refine Met.ofW (cc := prog_24_method_5_code) (maxL := 5) (ret := none) (by decide) rfl ?_
  intro p e s m args below meth c s₁ B hml hv
  obtain ⟨rfl, hR, hC, hSt, hT, hB⟩ := hv
  have hx := B.exec
  have hb := B.bytes
  have hr := B.returns
  have hts0 := atoms_spec (ws := am_wT) B.pre
  have hts : ∀ w ∈ am_big, w.before _ s = true := fun w hw => hts0 w (List.mem_cons_of_mem _ hw)
  have hown : s.vm.findClass "java/lang/Throwable" = some m.cls := findClass_of_methodNamed B.named
  have hlocks := B.notSynchronized
  have hO : am_Ok s D dA B0 ca h s.heap [] := ⟨hR, hC, hSt, fun q hq => by cases hq⟩
  obtain ⟨hx0, hob⟩ := am_obj hO hi (by decide)
  have hB0 : B0 ≤ am_ad B0 ca x := by rw [am_ad_hi hx0]; omega
  have hSW : am_SW s D (am_ad B0 ca x) s.heap (fun j => am_ga (am_ad B0 ca) (h.2.2.2 x j)) [] := ⟨hob, rfl, fun _ _ => rfl, fun q hq => by cases hq⟩
  obtain ⟨-, ⟨v1, r1, s1⟩, ⟨v2, r2, s2⟩, -⟩ := hSt
  generalize hA0 : am_ad B0 ca x = a0 at hob hB0 hSW
  have eargs : ([Value.ref x, .null, .null, .int 0, .int 0].map (am_ga (am_ad B0 ca))) = [Value.ref a0, .null, .null, .int 0, .int 0] := by simp [am_ga, hA0]
  rw [eargs] at B hts ⊢
  have hl := lv_entry [Value.ref a0, .null, .null, .int 0, .int 0] (n := 5) (Nat.le_of_ble_eq_true rfl)
  rw [lg_entry_eq]
  generalize (lg_sl [Value.ref a0, .null, .null, .int 0, .int 0] ++ List.replicate (5 - (lg_sl [Value.ref a0, .null, .null, .int 0, .int 0]).length) Slot.unset).toArray = ls at hl ⊢
  have hl : lv_has ls 5 [(0, .ref a0), (1, .null), (2, .null), (3, .int 0), (4, .int 0)] := hl
  refine lv_aload_n hx hb am_dT_0 rfl (lv_at hl 0 rfl) ?_
  refine W.objInit hx hb hown (hts _ am_wk1) (hts _ am_oi1) (hts _ am_oi2) rfl (by rw [hml]; exact hl.1) rfl am_dT_1 (Nat.le_of_ble_eq_true rfl) (Nat.le_of_ble_eq_true rfl) ?_
  refine W.eq (g2 := F0 m 4 ls []) rfl ?_
  refine lv_aload_n hx hb am_dT_4 rfl (lv_at hl 0 rfl) ?_
  refine lv_aload_n hx hb am_dT_5 rfl (lv_at hl 0 rfl) ?_
  refine am_sput hx hb hts hown hT 0 (by decide) (Or.inr ⟨_, rfl⟩) am_wk7 hSW am_dT_6 fun H1 L1 hS1 => ?_
  refine lv_aload_n hx hb am_dT_9 rfl (lv_at hl 0 rfl) ?_
  refine am_sget hx hb hts hown am_wk13 s1 hB0 hS1 am_dT_10 ?_
  refine am_sput hx hb hts hown hT 1 (by decide) r1 am_wk17 hS1 am_dT_13 fun H2 L2 hS2 => ?_
  refine lv_aload_n hx hb am_dT_16 rfl (lv_at hl 0 rfl) ?_
  refine am_sget hx hb hts hown am_wk20 s2 hB0 hS2 am_dT_17 ?_
  refine am_sput hx hb hts hown hT 2 (by decide) r2 am_wk24 hS2 am_dT_20 fun H3 L3 hS3 => ?_
  refine lv_iload hx hb am_dT_23 (lv_at hl 4 rfl) ?_
  refine lv_if_eq (tgt := 36) hx hb am_dT_25 (by decide) (fun _ => ?_) (fun q => absurd rfl q)
  refine lv_aload_n hx hb am_dT_36 rfl (lv_at hl 0 rfl) ?_
  refine lv_null hx hb am_dT_37 ?_
  refine am_sput hx hb hts hown hT 1 (by decide) (Or.inl rfl) am_wk17 hS3 am_dT_38 fun H4 L4 hS4 => ?_
  refine lv_aload_n hx hb am_dT_41 rfl (lv_at hl 0 rfl) ?_
  refine lv_aload_nN hx hb am_dT_42 rfl (lv_at hl 1 rfl) ?_
  refine am_sput hx hb hts hown hT 3 (by decide) (Or.inl rfl) am_wk31 hS4 am_dT_43 fun H5 L5 hS5 => ?_
  refine lv_aload_n hx hb am_dT_46 rfl (lv_at hl 0 rfl) ?_
  refine lv_aload_nN hx hb am_dT_47 rfl (lv_at hl 2 rfl) ?_
  refine am_sput hx hb hts hown hT 0 (by decide) (Or.inl rfl) am_wk7 hS5 am_dT_48 fun H6 L6 hS6 => ?_
  refine lv_iload_n hx hb am_dT_51 rfl (lv_at hl 3 rfl) ?_
  refine lv_if_ne (tgt := 60) hx hb am_dT_52 (by decide) (fun q => absurd rfl q) (fun _ => ?_)
  refine lv_aload_n hx hb am_dT_55 rfl (lv_at hl 0 rfl) ?_
  refine lv_null hx hb am_dT_56 ?_
  refine am_sput hx hb hts hown hT 2 (by decide) (Or.inl rfl) am_wk24 hS6 am_dT_57 fun H7 L7 hS7 => ?_
  obtain ⟨o7, z7, y7, l7⟩ := hS7
  have hOk : am_Ok s D dA B0 ca (am_stop h x) H7 (([] : List Loc) ++ [⟨am_ad B0 ca x, 0⟩]) := by
    refine hO.put hx0 rfl rfl (fun k hk => ?_) z7 (fun q hq => y7 q (by rw [← hA0]; exact hq)) ?_
    · funext j
      simp [am_stop, am_row, hk]
    · obtain ⟨-, o1, o2⟩ := am_isO_spec hi
      refine Or.inl ⟨o1, (am_cn 12, am_TT 12, am_N 12), ?_, ?_⟩
      · show vwCl[(h.2.2.1 x).2.1]? = _
        rw [o2]
        exact am_cl 12 (by decide)
      · show t_OB _ (D.1 (h.2.2.1 x).2.1) _ (D.2 (h.2.2.1 x).2.1) H7 _
        rw [o2, hA0]
        refine t_OB.to o7 (fun j hj => ?_)
        have hj : j < 6 := hj
        rcases (show j = 0 ∨ j = 1 ∨ j = 2 ∨ j = 3 ∨ j = 4 ∨ j = 5 by omega) with rfl | rfl | rfl | rfl | rfl | rfl <;> (simp only [updV, am_stop, am_row, if_true]; rfl)
  exact W.vret hx hb hr (fun t ht hW => ⟨rfl, (by rw [ht]; exact hOk.1), (by rw [ht]; exact hOk.2.1.warm hW), (by rw [ht]; exact hOk.2.2.1.warm hW)⟩) (fun q hq => by rw [l7 q hq]; exact hB0) am_dT_60
theorem am_goodT (y : MethodName) (w : Cond) (hw : w ∈ am_big) : GoodIn am_big (w :: am_big) := by
  intro v hv
  have hb : v ∈ am_big := by
    rcases List.mem_cons.mp hv with q | q
    · rw [q]; exact hw
    · exact q
  exact ⟨hb, good_of_word (List.mem_filter.mp hb).2⟩
/-- behind the call of a constructor of Stop's kind -/
theorem am_mE {l : Launch} {D : va_G} {dA : Nat → ClassId} {B0 : Nat} {ca : Nat → Nat} {h : am_H} {x : Nat} (hi : am_isO h x 12 = true) : Met l am_yE am_wE { frames := 2, cells := 0, slots := 0, locals := 80 } (am_Pc D dA B0 ca [.ref x, .null, .null, .int 0, .int 0] h) (am_Qc D dA B0 ca none (am_stop h x)) 0 0 (fun q => B0 ≤ q) := by
  refine Met.ofW (cc := prog_16_method_5_code) (maxL := 5) (ret := none) (by decide) rfl ?_
  intro p e s m args below meth c s₁ B hml hv
  have hv0 := hv
  obtain ⟨rfl, hR, hC, hSt, hT, hB⟩ := hv
  have hx := B.exec
  have hb := B.bytes
  have hr := B.returns
  have hts0 := atoms_spec (ws := am_wE) B.pre
  have hts : ∀ w ∈ am_big, w.before _ s = true := fun w hw => hts0 w (List.mem_cons_of_mem _ hw)
  have hown : s.vm.findClass "java/lang/Exception" = some m.cls := findClass_of_methodNamed B.named
  have hlocks := B.notSynchronized
  have eargs : ([Value.ref x, .null, .null, .int 0, .int 0].map (am_ga (am_ad B0 ca))) = [Value.ref (am_ad B0 ca x), .null, .null, .int 0, .int 0] := rfl
  rw [eargs] at B hts hv0 ⊢
  have hl := lv_entry [Value.ref (am_ad B0 ca x), .null, .null, .int 0, .int 0] (n := 5) (Nat.le_of_ble_eq_true rfl)
  rw [lg_entry_eq]
  generalize (lg_sl [Value.ref (am_ad B0 ca x), .null, .null, .int 0, .int 0] ++ List.replicate (5 - (lg_sl [Value.ref (am_ad B0 ca x), .null, .null, .int 0, .int 0]).length) Slot.unset).toArray = ls at hl ⊢
  have hl : lv_has ls 5 [(0, .ref (am_ad B0 ca x)), (1, .null), (2, .null), (3, .int 0), (4, .int 0)] := hl
  refine lv_aload_n hx hb am_dE_0 rfl (lv_at hl 0 rfl) ?_
  refine lv_aload_nN hx hb am_dE_1 rfl (lv_at hl 1 rfl) ?_
  refine lv_aload_nN hx hb am_dE_2 rfl (lv_at hl 2 rfl) ?_
  refine lv_iload_n hx hb am_dE_3 rfl (lv_at hl 3 rfl) ?_
  refine lv_iload hx hb am_dE_4 (lv_at hl 4 rfl) ?_
  have S : CallFix p m c prog_16_method_5_code 5 s _ am_big "java/lang/Exception" := ⟨hx, hb, hml, hown, hts⟩
  have cb := callB_of (R := (headSpec am_wE { frames := 2, cells := 0, slots := 0, locals := 80 }).room) (mc := 0) (ms := 0) (rm := { frames := 1, cells := 0, slots := 0, locals := 40 }) (ws := am_wT) (ws' := am_big) (y := am_yT) (bytes := prog_24_method_5_code) (maxL := 5) (ret := none) 4 hts (am_goodT am_yT _ am_wkT) rfl rfl rfl (hts _ am_wkI) (hts _ am_wk16) (by decide) ⟨Nat.le_of_ble_eq_true rfl, Nat.le_of_ble_eq_true rfl⟩
  have hr0 := va_runI (As := [.null, .null, .int 0, .int 0]) (b := am_ad B0 ca x) (rest := []) (H := s.heap) (locs := []) (cells := 0) (slots := 0) (g := F0 m 6 ls [.int 0, .int 0, .null, .null, .ref (am_ad B0 ca x)]) (below := below) (meth := meth) (e := e) S (am_mT (l := l) (D := D) (dA := dA) (B0 := B0) (ca := ca) hi) ⟨cb, rfl, hts _ am_wkT2⟩ ⟨am_blind, fun U hU hW => ⟨rfl, by rw [hU]; exact hR, by rw [hU]; exact hC.warm hW, by rw [hU]; exact hSt.warm hW, hT.warm hW, by rw [hU]; exact hB⟩⟩ rfl rfl hl.1 rfl (lv_room (by decide)) am_dE_6 ⟨Nat.le_of_ble_eq_true rfl, Nat.le_of_ble_eq_true rfl⟩
  intro T hTh X
  obtain ⟨v, st₀, t, T', L, e0, X', hL', e1, e2, ⟨q1, q2, q3, q4⟩, stp⟩ := hr0 T hTh X
  cases q1
  have hal : t.vm.Alike s.vm := by rw [← e2]; exact X'.warmed.alike.symm
  have hk : W p l e (headSpec am_wE { frames := 2, cells := 0, slots := 0, locals := 80 }).room s m #[Value.ref (am_ad B0 ca x), .null, .null, .int 0, .int 0] below meth c T'.heap ([] ++ L) (0 + 0) (0 + 0) (MQ below (am_Qc D dA B0 ca none (am_stop h x)) #[Value.ref (am_ad B0 ca x), .null, .null, .int 0, .int 0] s 0 0 (fun q => B0 ≤ q)) (F0 m 9 ls []) := by
    refine W.vret hx hb hr (fun t2 ht hW => ⟨rfl, (by rw [ht, e1]; exact q2), (by rw [ht, e1]; exact (q3.alike hal).warm hW), (by rw [ht, e1]; exact (q4.alike hal).warm hW)⟩) (fun q hq => (List.mem_append.mp hq).elim (fun z => absurd z List.not_mem_nil) (hL' q)) am_dE_9
  obtain ⟨t3, a1, b1⟩ := hk T' rfl X'
  exact ⟨t3, stp t3 a1, b1⟩
theorem am_mSp {l : Launch} {D : va_G} {dA : Nat → ClassId} {B0 : Nat} {ca : Nat → Nat} {h : am_H} {x : Nat} (hi : am_isO h x 12 = true) : Met l am_yS am_wS { frames := 3, cells := 0, slots := 0, locals := 120 } (am_Pc D dA B0 ca [.ref x] h) (am_Qc D dA B0 ca none (am_stop h x)) 0 0 (fun q => B0 ≤ q) := by
  refine Met.ofW (cc := prog_15_method_1_code) (maxL := 1) (ret := none) (by decide) rfl ?_
  intro p e s m args below meth c s₁ B hml hv
  obtain ⟨rfl, hR, hC, hSt, hT, hB⟩ := hv
  have hx := B.exec
  have hb := B.bytes
  have hr := B.returns
  have hts0 := atoms_spec (ws := am_wS) B.pre
  have hts : ∀ w ∈ am_big, w.before _ s = true := fun w hw => hts0 w (List.mem_cons_of_mem _ hw)
  have hown : s.vm.findClass "PoetsBookModel$Stop" = some m.cls := findClass_of_methodNamed B.named
  have hlocks := B.notSynchronized
  have eargs : ([Value.ref x].map (am_ga (am_ad B0 ca))) = [Value.ref (am_ad B0 ca x)] := rfl
  rw [eargs] at B hts ⊢
  have hl := lv_entry [Value.ref (am_ad B0 ca x)] (n := 1) (Nat.le_of_ble_eq_true rfl)
  rw [lg_entry_eq]
  generalize (lg_sl [Value.ref (am_ad B0 ca x)] ++ List.replicate (1 - (lg_sl [Value.ref (am_ad B0 ca x)]).length) Slot.unset).toArray = ls at hl ⊢
  have hl : lv_has ls 1 [(0, .ref (am_ad B0 ca x))] := hl
  refine lv_aload_n hx hb am_dS_0 rfl (lv_at hl 0 rfl) ?_
  refine lv_null hx hb am_dS_1 ?_
  refine lv_null hx hb am_dS_2 ?_
  refine lv_iconst hx hb am_dS_3 rfl ?_
  refine lv_iconst hx hb am_dS_4 rfl ?_
  have S : CallFix p m c prog_15_method_1_code 1 s _ am_big "PoetsBookModel$Stop" := ⟨hx, hb, hml, hown, hts⟩
  have cb := callB_of (R := (headSpec am_wS { frames := 3, cells := 0, slots := 0, locals := 120 }).room) (mc := 0) (ms := 0) (rm := { frames := 2, cells := 0, slots := 0, locals := 80 }) (ws := am_wE) (ws' := am_big) (y := am_yE) (bytes := prog_16_method_5_code) (maxL := 5) (ret := none) 4 hts (am_goodT am_yE _ am_wkE) rfl rfl rfl (hts _ am_wkIE) (hts _ am_wk1S) (by decide) ⟨Nat.le_of_ble_eq_true rfl, Nat.le_of_ble_eq_true rfl⟩
  have hr0 := va_runI (As := [.null, .null, .int 0, .int 0]) (b := am_ad B0 ca x) (rest := []) (H := s.heap) (locs := []) (cells := 0) (slots := 0) (g := F0 m 5 ls [.int 0, .int 0, .null, .null, .ref (am_ad B0 ca x)]) (below := below) (meth := meth) (e := e) S (am_mE (l := l) (D := D) (dA := dA) (B0 := B0) (ca := ca) hi) ⟨cb, rfl, hts _ am_wkE2⟩ ⟨am_blind, fun U hU hW => ⟨rfl, by rw [hU]; exact hR, by rw [hU]; exact hC.warm hW, by rw [hU]; exact hSt.warm hW, hT.warm hW, by rw [hU]; exact hB⟩⟩ rfl rfl hl.1 rfl (lv_room (by decide)) am_dS_5 ⟨Nat.le_of_ble_eq_true rfl, Nat.le_of_ble_eq_true rfl⟩
  intro T hTh X
  obtain ⟨v, st₀, t, T', L, e0, X', hL', e1, e2, ⟨q1, q2, q3, q4⟩, stp⟩ := hr0 T hTh X
  cases q1
  have hal : t.vm.Alike s.vm := by rw [← e2]; exact X'.warmed.alike.symm
  have hk : W p l e (headSpec am_wS { frames := 3, cells := 0, slots := 0, locals := 120 }).room s m #[Value.ref (am_ad B0 ca x)] below meth c T'.heap ([] ++ L) (0 + 0) (0 + 0) (MQ below (am_Qc D dA B0 ca none (am_stop h x)) #[Value.ref (am_ad B0 ca x)] s 0 0 (fun q => B0 ≤ q)) (F0 m 8 ls []) := by
    refine W.vret hx hb hr (fun t2 ht hW => ⟨rfl, (by rw [ht, e1]; exact q2), (by rw [ht, e1]; exact (q3.alike hal).warm hW), (by rw [ht, e1]; exact (q4.alike hal).warm hW)⟩) (fun q hq => (List.mem_append.mp hq).elim (fun z => absurd z List.not_mem_nil) (hL' q)) am_dS_8
  obtain ⟨t3, a1, b1⟩ := hk T' rfl X'
  exact ⟨t3, stp t3 a1, b1⟩
section AMC4
variable {p : Program} {l : Launch} {e : Env} {R : Room} {s : State} {m : MethodId} {args : Array Value} {below : List Frame} {meth : Method} {c : Code} {Q : State → Prop} {D : va_G} {dA : Nat → ClassId} {B0 : Nat} {ca : Nat → Nat} {y : Nat} {h0 : am_H} {pc : Nat} {ls st : List Value} {h : am_H}
theorem am_k_stop {idx x : Nat} {rest : List Value} (C : am_Cx p s m args meth c D dA B0 ca y) (hst : st = .ref x :: rest) (hd : decode (am_by y) pc = .ok (.invokespecial idx, 3)) (hl : Cond.methodLink (am_cn (am_in y).1) idx am_yS ∈ am_big) (hcs : am_cs rest ≤ 8) (hi : am_isO h x 12 = true) (hR : 4 ≤ R.frames ∧ 256 ≤ R.locals) (hm : am_le h0 h) (hcap : h.1 - h0.1 ≤ R.cells ∧ h.2.1 - h0.2.1 ≤ R.slots) (k : am_Wp p l e R s m args below meth c Q D dA B0 ca y h0 (pc + 3) ls rest (am_stop h x)) : am_Wp p l e R s m args below meth c Q D dA B0 ca y h0 pc ls st h := by
  subst hst
  intro H locs rls hO hL
  have hts := C.2.2.2.2.1
  have S : CallFix p m c (am_by y) (am_in y).2.2.1 s args am_big (am_cn (am_in y).1) := ⟨C.1, C.2.1, C.2.2.1, C.2.2.2.1, C.2.2.2.2.1⟩
  have cb := callB_of (R := R) (mc := 0) (ms := 0) (rm := { frames := 3, cells := 0, slots := 0, locals := 120 }) (ws := am_wS) (ws' := am_big) (y := am_yS) (bytes := prog_15_method_1_code) (maxL := 1) (ret := none) (own := am_cn (am_in y).1) (index := idx) 0 hts (am_goodT am_yS _ am_wkS) rfl rfl rfl (hts _ am_wkIS) (hts _ hl) (by decide) ⟨hR.1, by have := hR.2; show 8 + (1 + 11) + 120 ≤ R.locals; omega⟩
  have hr0 := va_runI (As := []) (b := am_ad B0 ca x) (rest := rest.map (am_ga (am_ad B0 ca))) (H := H) (locs := locs) (cells := h.1 - h0.1) (slots := h.2.1 - h0.2.1) (g := F0 m pc rls ((Value.ref x :: rest).map (am_ga (am_ad B0 ca)))) (below := below) (meth := meth) (e := e) S (am_mSp (l := l) (D := D) (dA := dA) (B0 := B0) (ca := ca) hi) ⟨cb, rfl, hts _ am_wkS2⟩ ⟨am_blind, am_preU C hO rfl⟩ rfl rfl hL.2.1 rfl (am_roomW hcs) hd ⟨hcap.1, hcap.2⟩
  have e1 : (am_stop h x).1 - h.1 = 0 := Nat.sub_self h.1
  have e2 : (am_stop h x).2.1 - h.2.1 = 0 := Nat.sub_self h.2.1
  have hr1 : va_Run p l e R s m args below meth c H locs (h.1 - h0.1) (h.2.1 - h0.2.1) ((am_stop h x).1 - h.1) ((am_stop h x).2.1 - h.2.1) (F0 m pc rls ((Value.ref x :: rest).map (am_ga (am_ad B0 ca)))) (rest.map (am_ga (am_ad B0 ca))) (am_Qc D dA B0 ca none (am_stop h x) (Value.ref (am_ad B0 ca x) :: []).toArray) (fun q => B0 ≤ q) := by
    rw [e1, e2]
    exact hr0
  exact am_after hr1 hO hm ⟨Nat.le_refl _, Nat.le_refl _⟩ hL rfl k
end AMC4
