/-! CALLS, V: String.length and String.charAt of the texts, through coder, isLatin1, StringLatin1.charAt and checkIndex -/
def am_yLe : MethodName := ⟨"java/lang/String", "length", "()I"⟩
def am_yCh : MethodName := ⟨"java/lang/String", "charAt", "(I)C"⟩
def am_yCo : MethodName := ⟨"java/lang/String", "coder", "()B"⟩
def am_yLa : MethodName := ⟨"java/lang/String", "isLatin1", "()Z"⟩
def am_yCk : MethodName := ⟨"java/lang/String", "checkIndex", "(II)V"⟩
def am_yL1 : MethodName := ⟨"java/lang/StringLatin1", "charAt", "([BI)C"⟩
def am_yPk : MethodName := ⟨"jdk/internal/util/Preconditions", "checkIndex", "(IILjava/util/function/BiFunction;)I"⟩
theorem am_dLe_0 : decode prog_20_method_54_code 0 = .ok (.aload_n 0, 1) := by decide +kernel
theorem am_dLe_1 : decode prog_20_method_54_code 1 = .ok (.getfield 9, 3) := by decide +kernel
theorem am_dLe_4 : decode prog_20_method_54_code 4 = .ok (.arraylength, 1) := by decide +kernel
theorem am_dLe_5 : decode prog_20_method_54_code 5 = .ok (.aload_n 0, 1) := by decide +kernel
theorem am_dLe_6 : decode prog_20_method_54_code 6 = .ok (.invokevirtual 335, 3) := by decide +kernel
theorem am_dLe_9 : decode prog_20_method_54_code 9 = .ok (.ishr, 1) := by decide +kernel
theorem am_dLe_10 : decode prog_20_method_54_code 10 = .ok (.ireturn, 1) := by decide +kernel
theorem am_dCh_0 : decode prog_20_method_56_code 0 = .ok (.aload_n 0, 1) := by decide +kernel
theorem am_dCh_1 : decode prog_20_method_56_code 1 = .ok (.invokevirtual 492, 3) := by decide +kernel
theorem am_dCh_4 : decode prog_20_method_56_code 4 = .ok (.ifCond .eq 12, 3) := by decide +kernel
theorem am_dCh_7 : decode prog_20_method_56_code 7 = .ok (.aload_n 0, 1) := by decide +kernel
theorem am_dCh_8 : decode prog_20_method_56_code 8 = .ok (.getfield 9, 3) := by decide +kernel
theorem am_dCh_11 : decode prog_20_method_56_code 11 = .ok (.iload_n 1, 1) := by decide +kernel
theorem am_dCh_12 : decode prog_20_method_56_code 12 = .ok (.invokestatic 495, 3) := by decide +kernel
theorem am_dCh_15 : decode prog_20_method_56_code 15 = .ok (.ireturn, 1) := by decide +kernel
theorem am_dCo_0 : decode prog_20_method_152_code 0 = .ok (.getstatic 38, 3) := by decide +kernel
theorem am_dCo_3 : decode prog_20_method_152_code 3 = .ok (.ifCond .eq 10, 3) := by decide +kernel
theorem am_dCo_6 : decode prog_20_method_152_code 6 = .ok (.aload_n 0, 1) := by decide +kernel
theorem am_dCo_7 : decode prog_20_method_152_code 7 = .ok (.getfield 15, 3) := by decide +kernel
theorem am_dCo_10 : decode prog_20_method_152_code 10 = .ok (.goto 4, 3) := by decide +kernel
theorem am_dCo_14 : decode prog_20_method_152_code 14 = .ok (.ireturn, 1) := by decide +kernel
theorem am_dLa_0 : decode prog_20_method_154_code 0 = .ok (.getstatic 38, 3) := by decide +kernel
theorem am_dLa_3 : decode prog_20_method_154_code 3 = .ok (.ifCond .eq 14, 3) := by decide +kernel
theorem am_dLa_6 : decode prog_20_method_154_code 6 = .ok (.aload_n 0, 1) := by decide +kernel
theorem am_dLa_7 : decode prog_20_method_154_code 7 = .ok (.getfield 15, 3) := by decide +kernel
theorem am_dLa_10 : decode prog_20_method_154_code 10 = .ok (.ifCond .ne 7, 3) := by decide +kernel
theorem am_dLa_13 : decode prog_20_method_154_code 13 = .ok (.iconst 1, 1) := by decide +kernel
theorem am_dLa_14 : decode prog_20_method_154_code 14 = .ok (.goto 4, 3) := by decide +kernel
theorem am_dLa_18 : decode prog_20_method_154_code 18 = .ok (.ireturn, 1) := by decide +kernel
theorem am_dCk_0 : decode prog_20_method_155_code 0 = .ok (.iload_n 0, 1) := by decide +kernel
theorem am_dCk_1 : decode prog_20_method_155_code 1 = .ok (.iload_n 1, 1) := by decide +kernel
theorem am_dCk_2 : decode prog_20_method_155_code 2 = .ok (.getstatic 1053, 3) := by decide +kernel
theorem am_dCk_5 : decode prog_20_method_155_code 5 = .ok (.invokestatic 1059, 3) := by decide +kernel
theorem am_dCk_8 : decode prog_20_method_155_code 8 = .ok (.pop, 1) := by decide +kernel
theorem am_dCk_9 : decode prog_20_method_155_code 9 = .ok (.return_, 1) := by decide +kernel
theorem am_dL1_0 : decode prog_21_method_2_code 0 = .ok (.iload_n 1, 1) := by decide +kernel
theorem am_dL1_1 : decode prog_21_method_2_code 1 = .ok (.aload_n 0, 1) := by decide +kernel
theorem am_dL1_2 : decode prog_21_method_2_code 2 = .ok (.arraylength, 1) := by decide +kernel
theorem am_dL1_3 : decode prog_21_method_2_code 3 = .ok (.invokestatic 9, 3) := by decide +kernel
theorem am_dL1_6 : decode prog_21_method_2_code 6 = .ok (.aload_n 0, 1) := by decide +kernel
theorem am_dL1_7 : decode prog_21_method_2_code 7 = .ok (.iload_n 1, 1) := by decide +kernel
theorem am_dL1_8 : decode prog_21_method_2_code 8 = .ok (.baload, 1) := by decide +kernel
theorem am_dL1_9 : decode prog_21_method_2_code 9 = .ok (.sipush 255, 3) := by decide +kernel
theorem am_dL1_12 : decode prog_21_method_2_code 12 = .ok (.iand, 1) := by decide +kernel
theorem am_dL1_13 : decode prog_21_method_2_code 13 = .ok (.i2c, 1) := by decide +kernel
theorem am_dL1_14 : decode prog_21_method_2_code 14 = .ok (.ireturn, 1) := by decide +kernel
theorem am_dPk_0 : decode prog_26_method_11_code 0 = .ok (.iload_n 0, 1) := by decide +kernel
theorem am_dPk_1 : decode prog_26_method_11_code 1 = .ok (.ifCond .lt 8, 3) := by decide +kernel
theorem am_dPk_4 : decode prog_26_method_11_code 4 = .ok (.iload_n 0, 1) := by decide +kernel
theorem am_dPk_5 : decode prog_26_method_11_code 5 = .ok (.iload_n 1, 1) := by decide +kernel
theorem am_dPk_6 : decode prog_26_method_11_code 6 = .ok (.if_icmp .lt 10, 3) := by decide +kernel
theorem am_dPk_16 : decode prog_26_method_11_code 16 = .ok (.iload_n 0, 1) := by decide +kernel
theorem am_dPk_17 : decode prog_26_method_11_code 17 = .ok (.ireturn, 1) := by decide +kernel
theorem am_cwLe : Cond.code am_yLe prog_20_method_54_code 1 (some .int) ∈ am_big := am_big_of (show am_wt 547 ∈ lw_tbl from am_wt_in (by decide)) rfl
theorem am_iwLe : Cond.initialized am_yLe.cls ∈ am_big := am_big_of (show am_wt 117 ∈ lw_tbl from am_wt_in (by decide)) rfl
def am_wsLe : List Cond := Cond.code am_yLe prog_20_method_54_code 1 (some .int) :: am_big
theorem am_cwCh : Cond.code am_yCh prog_20_method_56_code 2 (some .char) ∈ am_big := am_big_of (show am_wt 557 ∈ lw_tbl from am_wt_in (by decide)) rfl
theorem am_iwCh : Cond.initialized am_yCh.cls ∈ am_big := am_big_of (show am_wt 117 ∈ lw_tbl from am_wt_in (by decide)) rfl
def am_wsCh : List Cond := Cond.code am_yCh prog_20_method_56_code 2 (some .char) :: am_big
theorem am_cwCo : Cond.code am_yCo prog_20_method_152_code 1 (some .byte) ∈ am_big := am_big_of (show am_wt 551 ∈ lw_tbl from am_wt_in (by decide)) rfl
theorem am_iwCo : Cond.initialized am_yCo.cls ∈ am_big := am_big_of (show am_wt 117 ∈ lw_tbl from am_wt_in (by decide)) rfl
def am_wsCo : List Cond := Cond.code am_yCo prog_20_method_152_code 1 (some .byte) :: am_big
theorem am_cwLa : Cond.code am_yLa prog_20_method_154_code 1 (some .boolean) ∈ am_big := am_big_of (show am_wt 561 ∈ lw_tbl from am_wt_in (by decide)) rfl
theorem am_iwLa : Cond.initialized am_yLa.cls ∈ am_big := am_big_of (show am_wt 117 ∈ lw_tbl from am_wt_in (by decide)) rfl
def am_wsLa : List Cond := Cond.code am_yLa prog_20_method_154_code 1 (some .boolean) :: am_big
theorem am_cwCk : Cond.code am_yCk prog_20_method_155_code 2 none ∈ am_big := am_big_of (show am_wt 567 ∈ lw_tbl from am_wt_in (by decide)) rfl
theorem am_iwCk : Cond.initialized am_yCk.cls ∈ am_big := am_big_of (show am_wt 117 ∈ lw_tbl from am_wt_in (by decide)) rfl
def am_wsCk : List Cond := Cond.code am_yCk prog_20_method_155_code 2 none :: am_big
theorem am_cwL1 : Cond.code am_yL1 prog_21_method_2_code 2 (some .char) ∈ am_big := am_big_of (show am_wt 564 ∈ lw_tbl from am_wt_in (by decide)) rfl
theorem am_iwL1 : Cond.initialized am_yL1.cls ∈ am_big := am_big_of (show am_wt 118 ∈ lw_tbl from am_wt_in (by decide)) rfl
def am_wsL1 : List Cond := Cond.code am_yL1 prog_21_method_2_code 2 (some .char) :: am_big
theorem am_cwPk : Cond.code am_yPk prog_26_method_11_code 3 (some .int) ∈ am_big := am_big_of (show am_wt 572 ∈ lw_tbl from am_wt_in (by decide)) rfl
theorem am_iwPk : Cond.initialized am_yPk.cls ∈ am_big := am_big_of (show am_wt 119 ∈ lw_tbl from am_wt_in (by decide)) rfl
def am_wsPk : List Cond := Cond.code am_yPk prog_26_method_11_code 3 (some .int) :: am_big
theorem am_inLe : Cond.instanceMethod am_yLe ∈ am_big := am_big_of (show am_wt 545 ∈ lw_tbl from am_wt_in (by decide)) rfl
theorem am_seLe : Cond.selects "java/lang/String" am_yLe am_yLe ∈ am_big := am_big_of (show am_wt 546 ∈ lw_tbl from am_wt_in (by decide)) rfl
theorem am_lkCo : Cond.methodLink "java/lang/String" 335 am_yCo ∈ am_big := am_big_of (show am_wt 548 ∈ lw_tbl from am_wt_in (by decide)) rfl
theorem am_inCo : Cond.instanceMethod am_yCo ∈ am_big := am_big_of (show am_wt 549 ∈ lw_tbl from am_wt_in (by decide)) rfl
theorem am_seCo : Cond.selects "java/lang/String" am_yCo am_yCo ∈ am_big := am_big_of (show am_wt 550 ∈ lw_tbl from am_wt_in (by decide)) rfl
theorem am_fl38 : Cond.fieldLink "java/lang/String" 38 "java/lang/String" "COMPACT_STRINGS" "Z" ∈ am_big := am_big_of (show am_wt 552 ∈ lw_tbl from am_wt_in (by decide)) rfl
theorem am_inCh : Cond.instanceMethod am_yCh ∈ am_big := am_big_of (show am_wt 555 ∈ lw_tbl from am_wt_in (by decide)) rfl
theorem am_seCh : Cond.selects "java/lang/String" am_yCh am_yCh ∈ am_big := am_big_of (show am_wt 556 ∈ lw_tbl from am_wt_in (by decide)) rfl
theorem am_lkLa : Cond.methodLink "java/lang/String" 492 am_yLa ∈ am_big := am_big_of (show am_wt 558 ∈ lw_tbl from am_wt_in (by decide)) rfl
theorem am_inLa : Cond.instanceMethod am_yLa ∈ am_big := am_big_of (show am_wt 559 ∈ lw_tbl from am_wt_in (by decide)) rfl
theorem am_seLa : Cond.selects "java/lang/String" am_yLa am_yLa ∈ am_big := am_big_of (show am_wt 560 ∈ lw_tbl from am_wt_in (by decide)) rfl
theorem am_lkL1 : Cond.methodLink "java/lang/String" 495 am_yL1 ∈ am_big := am_big_of (show am_wt 562 ∈ lw_tbl from am_wt_in (by decide)) rfl
theorem am_stL1 : Cond.static am_yL1 ∈ am_big := am_big_of (show am_wt 563 ∈ lw_tbl from am_wt_in (by decide)) rfl
theorem am_lkCk : Cond.methodLink "java/lang/StringLatin1" 9 am_yCk ∈ am_big := am_big_of (show am_wt 565 ∈ lw_tbl from am_wt_in (by decide)) rfl
theorem am_stCk : Cond.static am_yCk ∈ am_big := am_big_of (show am_wt 566 ∈ lw_tbl from am_wt_in (by decide)) rfl
theorem am_fl53 : Cond.fieldLink "java/lang/String" 1053 "jdk/internal/util/Preconditions" "SIOOBE_FORMATTER" "Ljava/util/function/BiFunction;" ∈ am_big := am_big_of (show am_wt 568 ∈ lw_tbl from am_wt_in (by decide)) rfl
theorem am_lkPk : Cond.methodLink "java/lang/String" 1059 am_yPk ∈ am_big := am_big_of (show am_wt 570 ∈ lw_tbl from am_wt_in (by decide)) rfl
theorem am_stPk : Cond.static am_yPk ∈ am_big := am_big_of (show am_wt 571 ∈ lw_tbl from am_wt_in (by decide)) rfl
theorem am_fl9 : Cond.fieldLink "java/lang/String" 9 "java/lang/String" "value" "[B" ∈ am_big := am_big_of (show am_wt 2065 ∈ lw_tbl from am_wt_in (by decide)) rfl
theorem am_fl15 : Cond.fieldLink "java/lang/String" 15 "java/lang/String" "coder" "B" ∈ am_big := am_big_of (show am_wt 2066 ∈ lw_tbl from am_wt_in (by decide)) rfl
theorem am_lk54 : Cond.methodLink "PoetsBook$Tape" 54 am_yLe ∈ am_big := am_big_of (show am_wt 544 ∈ lw_tbl from am_wt_in (by decide)) rfl
theorem am_lk58 : Cond.methodLink "PoetsBook$Tape" 58 am_yCh ∈ am_big := am_big_of (show am_wt 554 ∈ lw_tbl from am_wt_in (by decide)) rfl
theorem am_lk50 : Cond.methodLink "PoetsBookModel" 50 am_yLe ∈ am_big := am_big_of (show am_wt 1681 ∈ lw_tbl from am_wt_in (by decide)) rfl
theorem am_lk55 : Cond.methodLink "PoetsBookModel" 55 am_yCh ∈ am_big := am_big_of (show am_wt 1682 ∈ lw_tbl from am_wt_in (by decide)) rfl
theorem am_beq2 {a b : Nat} {x : Bool} (h : (Nat.beq a b && x) = true) : a = b ∧ x = true := by
  rw [Bool.and_eq_true] at h
  exact ⟨am_beq h.1, h.2⟩
theorem am_sM_len {i : Instr} {ci : Nat} (h : am_sM i ci 1003 = true) : ∃ idx, i = .invokevirtual idx ∧ Cond.methodLink (am_cn ci) idx am_yLe ∈ am_big := by
  unfold am_sM at h
  split at h
  · rename_i idx
    simp only [Bool.or_eq_true, Bool.and_eq_true] at h
    rcases h with ((⟨⟨h1, h2⟩, -⟩ | ⟨⟨h1, h2⟩, -⟩) | ⟨-, h3⟩) | ⟨-, h3⟩
    · cases am_beq h1; cases am_beq h2
      exact ⟨_, rfl, am_lk54⟩
    · cases am_beq h1; cases am_beq h2
      exact ⟨_, rfl, am_lk50⟩
    · exact absurd (am_beq h3) (by decide)
    · exact absurd (am_beq h3) (by decide)
  · cases h
theorem am_sM_chr {i : Instr} {ci : Nat} (h : am_sM i ci 1004 = true) : ∃ idx, i = .invokevirtual idx ∧ Cond.methodLink (am_cn ci) idx am_yCh ∈ am_big := by
  unfold am_sM at h
  split at h
  · rename_i idx
    simp only [Bool.or_eq_true, Bool.and_eq_true] at h
    rcases h with ((⟨-, h3⟩ | ⟨-, h3⟩) | ⟨⟨h1, h2⟩, -⟩) | ⟨⟨h1, h2⟩, -⟩
    · exact absurd (am_beq h3) (by decide)
    · exact absurd (am_beq h3) (by decide)
    · cases am_beq h1; cases am_beq h2
      exact ⟨_, rfl, am_lk58⟩
    · cases am_beq h1; cases am_beq h2
      exact ⟨_, rfl, am_lk55⟩
  · cases h
theorem am_sl8s : ∀ i, i < 16 → am_slen i < 8 := by decide +kernel
theorem am_chf : ∀ i, i < 16 → ∀ j, j < am_slen i → (Int32.ofNat (am_sch i j) &&& 255 = Int32.ofNat (am_sch i j) ∧ ((Int32.ofNat (am_sch i j)).toUInt32 % 65536).toInt32 = Int32.ofNat (am_sch i j)) := by decide +kernel
section AMT
variable {p : Program} {l : Launch} {e : Env} {R : Room} {s : State} {m : MethodId} {args : Array Value} {below : List Frame} {meth : Method} {c : Code} {Q : State → Prop} {D : va_G} {dA : Nat → ClassId} {B0 : Nat} {ca : Nat → Nat} {y : Nat} {h0 h : am_H} {pc : Nat} {ls st : List Value} {H : Heap} {locs : List Loc} {rls : Array Slot} {cells slots : Nat} {cc : ByteArray} {rest : List Value} {i : Nat}
theorem am_sfac (hS : am_Str B0 ca s H) (hi : i < 16) : va_O "java/lang/String" (am_ad B0 ca (7 + i)) (fun q => B0 ≤ q) s H ∧ va_OF "java/lang/String" "coder" "B" (.int 0) (am_ad B0 ca (7 + i)) (fun q => B0 ≤ q) s H ∧ va_OF "java/lang/String" "value" "[B" (.ref (am_ad B0 ca (23 + i))) (am_ad B0 ca (7 + i)) (fun q => B0 ≤ q) s H ∧ va_T .byte (am_ad B0 ca (23 + i)) (am_slen i) (fun j => .int (Int32.ofNat (am_sch i j))) (fun q => B0 ≤ q) s H := by
  rw [am_ad_lo (show 7 + i < 40 by omega), am_ad_lo (show 23 + i < 40 by omega)]
  exact hS.1 i hi
theorem am_gs {own C n d : String} {idx : Nat} {v : Value} (hx : p.tables.exec = Jvm.exec) (hb : c.code = cc) (hown : s.vm.findClass own = some m.cls) (hl : (Cond.fieldLink own idx C n d).before args s = true) (hZ : va_Z C n d v (fun q => B0 ≤ q) s H) (hd : decode cc pc = .ok (.getstatic idx, 3)) (kk : W p l e R s m args below meth c H locs cells slots Q (F0 m (pc + 3) rls (v :: rest))) : W p l e R s m args below meth c H locs cells slots Q (F0 m pc rls rest) := by
  obtain ⟨cf, kf, fi, f, q, cell, z1, z2, z3, z4, z5, z6, z7, z8⟩ := hZ
  exact W.gets hx hb hown hl z1 z2 z3 z4 z5 (fun e => by rw [e] at z6; cases z6) z7 rfl hd kk
theorem am_gf {own C n d : String} {idx t : Nat} {v : Value} (hx : p.tables.exec = Jvm.exec) (hb : c.code = cc) (hown : s.vm.findClass own = some m.cls) (hl : (Cond.fieldLink own idx C n d).before args s = true) (hZ : va_OF C n d v t (fun q => B0 ≤ q) s H) (hd : decode cc pc = .ok (.getfield idx, 3)) (kk : W p l e R s m args below meth c H locs cells slots Q (F0 m (pc + 3) rls (v :: rest))) : W p l e R s m args below meth c H locs cells slots Q (F0 m pc rls (.ref t :: rest)) := by
  obtain ⟨cf, k, fi, f, cell, h1, h2, h3, h4, h5, h6⟩ := hZ
  exact W.getf hx hb hown hl h1 h2 h3 h4 (v := v) h5 rfl rfl hd kk
theorem am_preS {as : List Value} (hT : am_Tab D dA ca s) (hO : am_Ok s D dA B0 ca h H locs) {vs : List Value} (hv : vs = as.map (am_ga (am_ad B0 ca))) : ∀ U : State, U.heap = H → s.WarmedH U.vm → am_Pc D dA B0 ca as h vs.toArray U := by
  intro U hU hW
  subst hU
  refine ⟨by rw [hv], hO.1, hO.2.1.warm hW, hO.2.2.1.warm hW, hT.warm hW, ?_⟩
  rw [hO.1.2.1]
  omega
theorem am_afterS {r : Option Value} {rest' st0 st1 : List Value} {av : Array Value} (hr : va_Run p l e R s m args below meth c H locs 0 0 0 0 (F0 m pc rls st0) rest' (am_Qc D dA B0 ca r h av) (fun q => B0 ≤ q)) (hO : am_Ok s D dA B0 ca h H locs) (hst : (r.map (am_ga (am_ad B0 ca))).toList ++ rest' = st1) (k : ∀ H' locs', am_Ok s D dA B0 ca h H' locs' → W p l e R s m args below meth c H' locs' 0 0 Q (F0 m (pc + 3) rls st1)) : W p l e R s m args below meth c H locs 0 0 Q (F0 m pc rls st0) := by
  subst hst
  intro T hT X
  obtain ⟨v, st₀, t, T', L, e0, X', hL', e1, e2, ⟨q1, q2, q3, q4⟩, stp⟩ := hr T hT X
  cases q1
  have hal : t.vm.Alike s.vm := by rw [← e2]; exact X'.warmed.alike.symm
  have hO' : am_Ok s D dA B0 ca h T'.heap (locs ++ L) := ⟨by rw [e1]; exact q2, by rw [e1]; exact q3.alike hal, by rw [e1]; exact q4.alike hal, fun q hq => (List.mem_append.mp hq).elim (hO.2.2.2 q) (hL' q)⟩
  obtain ⟨t2, a1, b1⟩ := k T'.heap (locs ++ L) hO' T' rfl X'
  exact ⟨t2, stp t2 a1, b1⟩
theorem am_Qof {r : Option Value} {o : Outcome} {av : Array Value} {s0 : State} (hO : am_Ok s D dA B0 ca h H locs) (ho : o = .returned (r.map (am_ga (am_ad B0 ca)))) : ∀ t : State, t.heap = H → s.WarmedH t.vm → am_Qc D dA B0 ca r h av s0 o t := fun t ht hW =>
  ⟨ho, by rw [ht]; exact hO.1, by rw [ht]; exact hO.2.1.warm hW, by rw [ht]; exact hO.2.2.1.warm hW⟩
end AMT
theorem am_ldcwS {p : Program} {l : Launch} {e : Env} {R : Room} {s : State} {m : MethodId} {args : Array Value} {below : List Frame} {meth : Method} {c : Code} {T : State} {locs : List Loc} {cells slots : Nat}
    (X : Stand p l e R s m args below meth c T locs cells slots) (hexec : p.tables.exec = Jvm.exec) {own text : String} {index : Nat} {a : Addr} (hown : s.vm.findClass own = some m.cls)
    (hconst : (Cond.stringRef own index text).before #[] s = true) (hev : (Term.string own index).eval #[] s none [] s = some (.ref a)) {g : JFrame} (hg : g.method = m) (hdg : decode c.code g.pc = .ok (.ldc_w index, 3)) :
    ∀ target, Steps p.tables e below (T.setTop { g with pc := g.pc + 3, stack := .ref a :: g.stack }) target → Steps p.tables e below (T.setTop g) target := by
  obtain ⟨k, cf, i, b, hk, hcf, hcp, -, hr, hev2⟩ := Cond.stringRef_spec hown hconst
  cases hev.symm.trans hev2
  obtain ⟨k2, hk2, he⟩ := X.warmed.alike.2.2 _ _ hk
  have hr2 : k2.resolved[index]? = some (some (.string a)) := by
    rcases X.warmed.entry hk hk2 index with h | ⟨h, -⟩
    · rw [h]; exact hr
    · rw [hr] at h; cases h
  intro target hrest
  subst hg
  jvm_step X.here [hexec, hdg, ldc_w.wp_string (e := e) (s := T) (f := g) X.here.top hk2 (by rw [he]; exact hcf) hcp hr2]
  exact hrest
set_option maxHeartbeats 1000000 in
theorem am_mCo {l : Launch} {D : va_G} {dA : Nat → ClassId} {B0 : Nat} {ca : Nat → Nat} {h : am_H} {i : Nat} (hi : i < 16) : Met l am_yCo am_wsCo { frames := 1, cells := 0, slots := 0, locals := 40 } (am_Pc D dA B0 ca [.ref (7 + i)] h) (am_Qc D dA B0 ca (some (.int 0)) h) 0 0 (fun q => B0 ≤ q) := by
  refine Met.ofW (cc := prog_20_method_152_code) (maxL := 1) (ret := (some .byte)) (by decide) rfl ?_
  intro p e s m args below meth c s₁ B hml hv
  obtain ⟨rfl, hR, hC, hSt, hT, hB⟩ := hv
  have hx := B.exec
  have hb := B.bytes
  have hr := B.returns
  have hts0 := atoms_spec (ws := am_wsCo) B.pre
  have hts : ∀ w ∈ am_big, w.before _ s = true := fun w hw => hts0 w (List.mem_cons_of_mem _ hw)
  have hown : s.vm.findClass "java/lang/String" = some m.cls := findClass_of_methodNamed B.named
  have hlocks := B.notSynchronized
  have hO : am_Ok s D dA B0 ca h s.heap [] := ⟨hR, hC, hSt, fun q hq => by cases hq⟩
  have eargs : ([.ref (7 + i)].map (am_ga (am_ad B0 ca))) = [.ref (am_ad B0 ca (7 + i))] := rfl
  rw [eargs] at B hts ⊢
  have hl := lv_entry [.ref (am_ad B0 ca (7 + i))] (n := 1) (Nat.le_of_ble_eq_true rfl)
  rw [lg_entry_eq]
  generalize (lg_sl [.ref (am_ad B0 ca (7 + i))] ++ List.replicate (1 - (lg_sl [.ref (am_ad B0 ca (7 + i))]).length) Slot.unset).toArray = ls at hl ⊢
  have hl : lv_has ls 1 [(0, .ref (am_ad B0 ca (7 + i)))] := hl
  have S : CallFix p m c prog_20_method_152_code 1 s _ am_big "java/lang/String" := ⟨hx, hb, hml, hown, hts⟩
  have hstr := hSt.2.2.2
  have hf := am_sfac hstr hi
  refine am_gs hx hb hown (hts _ am_fl38) hstr.2.1 am_dCo_0 ?_
  refine lv_if_eq (tgt := 13) hx hb am_dCo_3 (by decide) (fun q => absurd q (by decide)) (fun _ => ?_)
  refine lv_aload_n hx hb am_dCo_6 rfl (lv_at hl 0 rfl) ?_
  refine am_gf hx hb hown (hts _ am_fl15) hf.2.1 am_dCo_7 ?_
  refine lv_goto (tgt := 14) hx hb am_dCo_10 (by decide) ?_
  exact W.zret hx hb hr rfl (am_Qof hO rfl) (fun q hq => by cases hq) am_dCo_14
set_option maxHeartbeats 1000000 in
theorem am_mLa {l : Launch} {D : va_G} {dA : Nat → ClassId} {B0 : Nat} {ca : Nat → Nat} {h : am_H} {i : Nat} (hi : i < 16) : Met l am_yLa am_wsLa { frames := 1, cells := 0, slots := 0, locals := 40 } (am_Pc D dA B0 ca [.ref (7 + i)] h) (am_Qc D dA B0 ca (some (.int 1)) h) 0 0 (fun q => B0 ≤ q) := by
  refine Met.ofW (cc := prog_20_method_154_code) (maxL := 1) (ret := (some .boolean)) (by decide) rfl ?_
  intro p e s m args below meth c s₁ B hml hv
  obtain ⟨rfl, hR, hC, hSt, hT, hB⟩ := hv
  have hx := B.exec
  have hb := B.bytes
  have hr := B.returns
  have hts0 := atoms_spec (ws := am_wsLa) B.pre
  have hts : ∀ w ∈ am_big, w.before _ s = true := fun w hw => hts0 w (List.mem_cons_of_mem _ hw)
  have hown : s.vm.findClass "java/lang/String" = some m.cls := findClass_of_methodNamed B.named
  have hlocks := B.notSynchronized
  have hO : am_Ok s D dA B0 ca h s.heap [] := ⟨hR, hC, hSt, fun q hq => by cases hq⟩
  have eargs : ([.ref (7 + i)].map (am_ga (am_ad B0 ca))) = [.ref (am_ad B0 ca (7 + i))] := rfl
  rw [eargs] at B hts ⊢
  have hl := lv_entry [.ref (am_ad B0 ca (7 + i))] (n := 1) (Nat.le_of_ble_eq_true rfl)
  rw [lg_entry_eq]
  generalize (lg_sl [.ref (am_ad B0 ca (7 + i))] ++ List.replicate (1 - (lg_sl [.ref (am_ad B0 ca (7 + i))]).length) Slot.unset).toArray = ls at hl ⊢
  have hl : lv_has ls 1 [(0, .ref (am_ad B0 ca (7 + i)))] := hl
  have S : CallFix p m c prog_20_method_154_code 1 s _ am_big "java/lang/String" := ⟨hx, hb, hml, hown, hts⟩
  have hstr := hSt.2.2.2
  have hf := am_sfac hstr hi
  refine am_gs hx hb hown (hts _ am_fl38) hstr.2.1 am_dLa_0 ?_
  refine lv_if_eq (tgt := 17) hx hb am_dLa_3 (by decide) (fun q => absurd q (by decide)) (fun _ => ?_)
  refine lv_aload_n hx hb am_dLa_6 rfl (lv_at hl 0 rfl) ?_
  refine am_gf hx hb hown (hts _ am_fl15) hf.2.1 am_dLa_7 ?_
  refine lv_if_ne (tgt := 17) hx hb am_dLa_10 (by decide) (fun q => absurd rfl q) (fun _ => ?_)
  refine lv_iconst hx hb am_dLa_13 rfl ?_
  refine lv_goto (tgt := 18) hx hb am_dLa_14 (by decide) ?_
  exact W.zret hx hb hr rfl (am_Qof hO rfl) (fun q hq => by cases hq) am_dLa_18
def am_PcR (D : va_G) (dA : Nat → ClassId) (B0 : Nat) (ca : Nat → Nat) (vs : List Value) (h : am_H) : Array Value → State → Prop :=
  va_Pc vs (fun U => am_Rep D dA B0 ca h U.heap ∧ am_Con B0 ca h U U.heap ∧ am_Sta B0 ca U U.heap ∧ am_Tab D dA ca U ∧ B0 ≤ U.heap.size)
theorem am_blindR {D : va_G} {dA : Nat → ClassId} {B0 : Nat} {ca : Nat → Nat} {vs : List Value} {h : am_H} : FrameBlind (am_PcR D dA B0 ca vs h) := by
  intro a U g mk q
  obtain ⟨q0, q1, q2, q3, q4, q5⟩ := q
  exact ⟨q0, q1, am_Con.alike (s := U) (U := U.calling g mk a) (Vm.Alike.refl U.vm) q2, am_Sta.alike (s := U) (U := U.calling g mk a) (Vm.Alike.refl U.vm) q3, am_Tab.warm (s := U) (U := U.calling g mk a) (State.WarmedH.refl U) q4, q5⟩
section AMT2
variable {p : Program} {l : Launch} {e : Env} {R : Room} {s : State} {m : MethodId} {args : Array Value} {below : List Frame} {meth : Method} {c : Code} {Q : State → Prop} {D : va_G} {dA : Nat → ClassId} {B0 : Nat} {ca : Nat → Nat} {h : am_H} {pc : Nat} {H : Heap} {locs : List Loc} {rls : Array Slot} {cells slots : Nat} {cc : ByteArray} {rest : List Value}
theorem am_preR {vs : List Value} (hT : am_Tab D dA ca s) (hO : am_Ok s D dA B0 ca h H locs) : ∀ U : State, U.heap = H → s.WarmedH U.vm → am_PcR D dA B0 ca vs h vs.toArray U := by
  intro U hU hW
  subst hU
  refine ⟨rfl, hO.1, hO.2.1.warm hW, hO.2.2.1.warm hW, hT.warm hW, ?_⟩
  rw [hO.1.2.1]
  omega
theorem am_al {ty : FieldType} {t N : Nat} {f : Nat → Value} {A : Nat → Prop} (hx : p.tables.exec = Jvm.exec) (hb : c.code = cc) (hT : va_T ty t N f A s H) (hd : decode cc pc = .ok (.arraylength, 1)) (kk : W p l e R s m args below meth c H locs cells slots Q (F0 m (pc + 1) rls (.int (Int32.ofNat N) :: rest))) : W p l e R s m args below meth c H locs cells slots Q (F0 m pc rls (.ref t :: rest)) := by
  obtain ⟨cell, h1, h2, h3, h4, h5, h6, h7⟩ := hT
  exact W.alen (n := Int32.ofNat N) hx hb h1 h2 h5 rfl rfl hd kk
theorem am_bl {t N : Nat} {f : Nat → Value} {A : Nat → Prop} {j : Int32} (hx : p.tables.exec = Jvm.exec) (hb : c.code = cc) (hT : va_T .byte t N f A s H) (hin : vp_in j N) (hd : decode cc pc = .ok (.baload, 1)) (kk : W p l e R s m args below meth c H locs cells slots Q (F0 m (pc + 1) rls (f j.toNatClampNeg :: rest))) : W p l e R s m args below meth c H locs cells slots Q (F0 m pc rls (.int j :: .ref t :: rest)) := by
  obtain ⟨cell, h1, h2, h3, h4, h5, h6, h7⟩ := hT
  have hlt : j.toNatClampNeg < N := Nat.not_le.mp fun q => hin (Or.inr q)
  have hin2 : ¬ (j < 0 ∨ cell.slots.size ≤ j.toNatClampNeg) := by
    intro q
    rcases q with q | q
    · exact hin (Or.inl q)
    · omega
  exact W.bald (v := f j.toNatClampNeg) hx hb h1 h2 h3 hin2 (h6 _ hlt) rfl rfl hd kk
end AMT2
theorem am_jn {j : Int32} {N : Nat} (h0 : 0 ≤ j) (h1 : j.toNatClampNeg < N) (hN : N < 8) : ¬ j < 0 ∧ j < Int32.ofNat N ∧ vp_in j N := by
  have e0 : (0 : Int32).toInt = 0 := rfl
  have e1 : 0 ≤ j.toInt := by
    have := Int32.le_iff_toInt_le.mp h0
    rw [e0] at this
    exact this
  have e2 : (j.toNatClampNeg : Int) = j.toInt := Int.toNat_of_nonneg e1
  have e3 : (Int32.ofNat N).toInt = (N : Int) := nI_toInt (n := N) (by omega)
  have n0 : ¬ j < 0 := by
    intro q
    have := Int32.lt_iff_toInt_lt.mp q
    rw [e0] at this
    omega
  refine ⟨n0, Int32.lt_iff_toInt_lt.mpr (by rw [e3]; omega), ?_⟩
  intro q
  rcases q with q | q
  · exact n0 q
  · omega
theorem am_shr0 : ∀ i, i < 16 → Int32.ofNat (am_slen i) >>> ((0 : Int32) &&& 31) = Int32.ofNat (am_slen i) := by decide +kernel
set_option maxHeartbeats 1000000 in
theorem am_mPkN {l : Launch} {D : va_G} {dA : Nat → ClassId} {B0 : Nat} {ca : Nat → Nat} {h : am_H} {j n : Int32} (h0 : ¬ j < 0) (h1 : j < n) : Met l am_yPk am_wsPk { frames := 1, cells := 0, slots := 0, locals := 40 } (am_PcR D dA B0 ca [.int j, .int n, .null] h) (am_Qc D dA B0 ca (some (.int j)) h) 0 0 (fun q => B0 ≤ q) := by
  refine Met.ofW (cc := prog_26_method_11_code) (maxL := 3) (ret := (some .int)) (by decide) rfl ?_
  intro p e s m args below meth c s₁ B hml hv
  obtain ⟨rfl, hR, hC, hSt, hT, hB⟩ := hv
  have hx := B.exec
  have hb := B.bytes
  have hr := B.returns
  have hts0 := atoms_spec (ws := am_wsPk) B.pre
  have hts : ∀ w ∈ am_big, w.before _ s = true := fun w hw => hts0 w (List.mem_cons_of_mem _ hw)
  have hown : s.vm.findClass "jdk/internal/util/Preconditions" = some m.cls := findClass_of_methodNamed B.named
  have hlocks := B.notSynchronized
  have hO : am_Ok s D dA B0 ca h s.heap [] := ⟨hR, hC, hSt, fun q hq => by cases hq⟩
  have hl := lv_entry [.int j, .int n, .null] (n := 3) (Nat.le_of_ble_eq_true rfl)
  rw [lg_entry_eq]
  generalize (lg_sl [.int j, .int n, .null] ++ List.replicate (3 - (lg_sl [.int j, .int n, .null]).length) Slot.unset).toArray = ls at hl ⊢
  have hl : lv_has ls 3 [(0, .int j), (1, .int n), (2, .null)] := hl
  have S : CallFix p m c prog_26_method_11_code 3 s _ am_big "jdk/internal/util/Preconditions" := ⟨hx, hb, hml, hown, hts⟩
  have hstr := hSt.2.2.2
  refine lv_iload_n hx hb am_dPk_0 rfl (lv_at hl 0 rfl) ?_
  refine lv_if_lt (tgt := 9) hx hb am_dPk_1 (by decide) (fun q => absurd q h0) (fun _ => ?_)
  refine lv_iload_n hx hb am_dPk_4 rfl (lv_at hl 0 rfl) ?_
  refine lv_iload_n hx hb am_dPk_5 rfl (lv_at hl 1 rfl) ?_
  refine lv_icmp_lt (tgt := 16) hx hb am_dPk_6 (by decide) (fun _ => ?_) (fun q => absurd h1 q)
  refine lv_iload_n hx hb am_dPk_16 rfl (lv_at hl 0 rfl) ?_
  exact W.iret hx hb hr (am_Qof hO rfl) (fun q hq => by cases hq) am_dPk_17
set_option maxHeartbeats 1000000 in
theorem am_mPkR {l : Launch} {D : va_G} {dA : Nat → ClassId} {B0 : Nat} {ca : Nat → Nat} {h : am_H} {j n : Int32} {a : Nat} (h0 : ¬ j < 0) (h1 : j < n) : Met l am_yPk am_wsPk { frames := 1, cells := 0, slots := 0, locals := 40 } (am_PcR D dA B0 ca [.int j, .int n, .ref a] h) (am_Qc D dA B0 ca (some (.int j)) h) 0 0 (fun q => B0 ≤ q) := by
  refine Met.ofW (cc := prog_26_method_11_code) (maxL := 3) (ret := (some .int)) (by decide) rfl ?_
  intro p e s m args below meth c s₁ B hml hv
  obtain ⟨rfl, hR, hC, hSt, hT, hB⟩ := hv
  have hx := B.exec
  have hb := B.bytes
  have hr := B.returns
  have hts0 := atoms_spec (ws := am_wsPk) B.pre
  have hts : ∀ w ∈ am_big, w.before _ s = true := fun w hw => hts0 w (List.mem_cons_of_mem _ hw)
  have hown : s.vm.findClass "jdk/internal/util/Preconditions" = some m.cls := findClass_of_methodNamed B.named
  have hlocks := B.notSynchronized
  have hO : am_Ok s D dA B0 ca h s.heap [] := ⟨hR, hC, hSt, fun q hq => by cases hq⟩
  have hl := lv_entry [.int j, .int n, .ref a] (n := 3) (Nat.le_of_ble_eq_true rfl)
  rw [lg_entry_eq]
  generalize (lg_sl [.int j, .int n, .ref a] ++ List.replicate (3 - (lg_sl [.int j, .int n, .ref a]).length) Slot.unset).toArray = ls at hl ⊢
  have hl : lv_has ls 3 [(0, .int j), (1, .int n), (2, .ref a)] := hl
  have S : CallFix p m c prog_26_method_11_code 3 s _ am_big "jdk/internal/util/Preconditions" := ⟨hx, hb, hml, hown, hts⟩
  have hstr := hSt.2.2.2
  refine lv_iload_n hx hb am_dPk_0 rfl (lv_at hl 0 rfl) ?_
  refine lv_if_lt (tgt := 9) hx hb am_dPk_1 (by decide) (fun q => absurd q h0) (fun _ => ?_)
  refine lv_iload_n hx hb am_dPk_4 rfl (lv_at hl 0 rfl) ?_
  refine lv_iload_n hx hb am_dPk_5 rfl (lv_at hl 1 rfl) ?_
  refine lv_icmp_lt (tgt := 16) hx hb am_dPk_6 (by decide) (fun _ => ?_) (fun q => absurd h1 q)
  refine lv_iload_n hx hb am_dPk_16 rfl (lv_at hl 0 rfl) ?_
  exact W.iret hx hb hr (am_Qof hO rfl) (fun q hq => by cases hq) am_dPk_17
theorem am_mPk {l : Launch} {D : va_G} {dA : Nat → ClassId} {B0 : Nat} {ca : Nat → Nat} {h : am_H} {j n : Int32} {v : Value} (hv : am_rn v) (h0 : ¬ j < 0) (h1 : j < n) : Met l am_yPk am_wsPk { frames := 1, cells := 0, slots := 0, locals := 40 } (am_PcR D dA B0 ca [.int j, .int n, v] h) (am_Qc D dA B0 ca (some (.int j)) h) 0 0 (fun q => B0 ≤ q) := by
  rcases hv with rfl | ⟨a, rfl⟩
  · exact am_mPkN h0 h1
  · exact am_mPkR h0 h1
set_option maxHeartbeats 1000000 in
theorem am_mCk {l : Launch} {D : va_G} {dA : Nat → ClassId} {B0 : Nat} {ca : Nat → Nat} {h : am_H} {j n : Int32} (h0 : ¬ j < 0) (h1 : j < n) : Met l am_yCk am_wsCk { frames := 2, cells := 0, slots := 0, locals := 80 } (am_Pc D dA B0 ca [.int j, .int n] h) (am_Qc D dA B0 ca none h) 0 0 (fun q => B0 ≤ q) := by
  refine Met.ofW (cc := prog_20_method_155_code) (maxL := 2) (ret := none) (by decide) rfl ?_
  intro p e s m args below meth c s₁ B hml hv
  obtain ⟨rfl, hR, hC, hSt, hT, hB⟩ := hv
  have hx := B.exec
  have hb := B.bytes
  have hr := B.returns
  have hts0 := atoms_spec (ws := am_wsCk) B.pre
  have hts : ∀ w ∈ am_big, w.before _ s = true := fun w hw => hts0 w (List.mem_cons_of_mem _ hw)
  have hown : s.vm.findClass "java/lang/String" = some m.cls := findClass_of_methodNamed B.named
  have hlocks := B.notSynchronized
  have hO : am_Ok s D dA B0 ca h s.heap [] := ⟨hR, hC, hSt, fun q hq => by cases hq⟩
  have eargs : ([.int j, .int n].map (am_ga (am_ad B0 ca))) = [.int j, .int n] := rfl
  rw [eargs] at B hts ⊢
  have hl := lv_entry [.int j, .int n] (n := 2) (Nat.le_of_ble_eq_true rfl)
  rw [lg_entry_eq]
  generalize (lg_sl [.int j, .int n] ++ List.replicate (2 - (lg_sl [.int j, .int n]).length) Slot.unset).toArray = ls at hl ⊢
  have hl : lv_has ls 2 [(0, .int j), (1, .int n)] := hl
  have S : CallFix p m c prog_20_method_155_code 2 s _ am_big "java/lang/String" := ⟨hx, hb, hml, hown, hts⟩
  have hstr := hSt.2.2.2
  obtain ⟨v, hrn, hZ⟩ := hstr.2.2
  refine lv_iload_n hx hb am_dCk_0 rfl (lv_at hl 0 rfl) ?_
  refine lv_iload_n hx hb am_dCk_1 rfl (lv_at hl 1 rfl) ?_
  refine am_gs hx hb hown (hts _ am_fl53) hZ am_dCk_2 ?_
  have cb := callB_of (R := (headSpec am_wsCk { frames := 2, cells := 0, slots := 0, locals := 80 }).room) (mc := 0) (ms := 0) (rm := { frames := 1, cells := 0, slots := 0, locals := 40 }) (ws := am_wsPk) (ws' := am_big) (y := am_yPk) (bytes := prog_26_method_11_code) (maxL := 3) (ret := (some .int)) (own := "java/lang/String") (index := 1059) 3 hts (am_goodT am_yPk _ am_cwPk) rfl rfl rfl (hts _ am_iwPk) (hts _ am_lkPk) (by decide) ⟨Nat.le_of_ble_eq_true rfl, Nat.le_of_ble_eq_true rfl⟩
  have r1 := va_runS (As := [.int j, .int n, v]) (rest := []) (below := below) (meth := meth) (e := e) (H := s.heap) (locs := []) (cells := 0) (slots := 0) (g := F0 m 5 ls [v, .int n, .int j]) S (am_mPk (l := l) (D := D) (dA := dA) (B0 := B0) (ca := ca) (h := h) hrn h0 h1) ⟨cb, hts _ am_stPk⟩ ⟨am_blindR, am_preR hT hO⟩ rfl rfl hl.1 rfl (lv_room (by decide)) am_dCk_5 ⟨Nat.le_of_ble_eq_true rfl, Nat.le_of_ble_eq_true rfl⟩
  refine am_afterS r1 hO (st1 := [.int j]) rfl fun H1 L1 hO1 => ?_
  refine lv_pop hx hb am_dCk_8 rfl ?_
  exact W.vret hx hb hr (am_Qof hO1 rfl) (fun q hq => hO1.2.2.2 q hq) am_dCk_9
set_option maxHeartbeats 1000000 in
theorem am_mL1 {l : Launch} {D : va_G} {dA : Nat → ClassId} {B0 : Nat} {ca : Nat → Nat} {h : am_H} {i : Nat} {j : Int32} (hi : i < 16) (h0 : 0 ≤ j) (h1 : j.toNatClampNeg < am_slen i) : Met l am_yL1 am_wsL1 { frames := 3, cells := 0, slots := 0, locals := 120 } (am_Pc D dA B0 ca [.ref (23 + i), .int j] h) (am_Qc D dA B0 ca (some (.int (Int32.ofNat (am_sch i j.toNatClampNeg)))) h) 0 0 (fun q => B0 ≤ q) := by
  refine Met.ofW (cc := prog_21_method_2_code) (maxL := 2) (ret := (some .char)) (by decide) rfl ?_
  intro p e s m args below meth c s₁ B hml hv
  obtain ⟨rfl, hR, hC, hSt, hT, hB⟩ := hv
  have hx := B.exec
  have hb := B.bytes
  have hr := B.returns
  have hts0 := atoms_spec (ws := am_wsL1) B.pre
  have hts : ∀ w ∈ am_big, w.before _ s = true := fun w hw => hts0 w (List.mem_cons_of_mem _ hw)
  have hown : s.vm.findClass "java/lang/StringLatin1" = some m.cls := findClass_of_methodNamed B.named
  have hlocks := B.notSynchronized
  have hO : am_Ok s D dA B0 ca h s.heap [] := ⟨hR, hC, hSt, fun q hq => by cases hq⟩
  have eargs : ([.ref (23 + i), .int j].map (am_ga (am_ad B0 ca))) = [.ref (am_ad B0 ca (23 + i)), .int j] := rfl
  rw [eargs] at B hts ⊢
  have hl := lv_entry [.ref (am_ad B0 ca (23 + i)), .int j] (n := 2) (Nat.le_of_ble_eq_true rfl)
  rw [lg_entry_eq]
  generalize (lg_sl [.ref (am_ad B0 ca (23 + i)), .int j] ++ List.replicate (2 - (lg_sl [.ref (am_ad B0 ca (23 + i)), .int j]).length) Slot.unset).toArray = ls at hl ⊢
  have hl : lv_has ls 2 [(0, .ref (am_ad B0 ca (23 + i))), (1, .int j)] := hl
  have S : CallFix p m c prog_21_method_2_code 2 s _ am_big "java/lang/StringLatin1" := ⟨hx, hb, hml, hown, hts⟩
  have hstr := hSt.2.2.2
  have hf := am_sfac hstr hi
  obtain ⟨g0, g1, g2⟩ := am_jn h0 h1 (am_sl8s i hi)
  obtain ⟨c1, c2⟩ := am_chf i hi _ h1
  refine lv_iload_n hx hb am_dL1_0 rfl (lv_at hl 1 rfl) ?_
  refine lv_aload_n hx hb am_dL1_1 rfl (lv_at hl 0 rfl) ?_
  refine am_al hx hb hf.2.2.2 am_dL1_2 ?_
  have cb := callB_of (R := (headSpec am_wsL1 { frames := 3, cells := 0, slots := 0, locals := 120 }).room) (mc := 0) (ms := 0) (rm := { frames := 2, cells := 0, slots := 0, locals := 80 }) (ws := am_wsCk) (ws' := am_big) (y := am_yCk) (bytes := prog_20_method_155_code) (maxL := 2) (ret := none) (own := "java/lang/StringLatin1") (index := 9) 2 hts (am_goodT am_yCk _ am_cwCk) rfl rfl rfl (hts _ am_iwCk) (hts _ am_lkCk) (by decide) ⟨Nat.le_of_ble_eq_true rfl, Nat.le_of_ble_eq_true rfl⟩
  have r1 := va_runS (As := [.int j, .int (Int32.ofNat (am_slen i))]) (rest := []) (below := below) (meth := meth) (e := e) (H := s.heap) (locs := []) (cells := 0) (slots := 0) (g := F0 m 3 ls [.int (Int32.ofNat (am_slen i)), .int j]) S (am_mCk (l := l) (D := D) (dA := dA) (B0 := B0) (ca := ca) (h := h) g0 g1) ⟨cb, hts _ am_stCk⟩ ⟨am_blind, am_preS (as := [.int j, .int (Int32.ofNat (am_slen i))]) hT hO rfl⟩ rfl rfl hl.1 rfl (lv_room (by decide)) am_dL1_3 ⟨Nat.le_of_ble_eq_true rfl, Nat.le_of_ble_eq_true rfl⟩
  refine am_afterS r1 hO (st1 := []) rfl fun H1 L1 hO1 => ?_
  have hf1 := am_sfac hO1.2.2.1.2.2.2 hi
  refine lv_aload_n hx hb am_dL1_6 rfl (lv_at hl 0 rfl) ?_
  refine lv_iload_n hx hb am_dL1_7 rfl (lv_at hl 1 rfl) ?_
  refine am_bl hx hb hf1.2.2.2 g2 am_dL1_8 ?_
  refine lv_sipush (v := 255) hx hb am_dL1_9 (by decide) ?_
  refine lv_iand hx hb am_dL1_12 ?_
  rw [c1]
  refine lv_i2c hx hb am_dL1_13 c2 ?_
  exact W.zret hx hb hr (show narrow .char (.int (Int32.ofNat (am_sch i j.toNatClampNeg))) = .int (Int32.ofNat (am_sch i j.toNatClampNeg)) from congrArg Value.int c2) (am_Qof hO1 rfl) (fun q hq => hO1.2.2.2 q hq) am_dL1_14
set_option maxHeartbeats 1000000 in
theorem am_mCh {l : Launch} {D : va_G} {dA : Nat → ClassId} {B0 : Nat} {ca : Nat → Nat} {h : am_H} {i : Nat} {j : Int32} (hi : i < 16) (h0 : 0 ≤ j) (h1 : j.toNatClampNeg < am_slen i) : Met l am_yCh am_wsCh { frames := 4, cells := 0, slots := 0, locals := 160 } (am_Pc D dA B0 ca [.ref (7 + i), .int j] h) (am_Qc D dA B0 ca (some (.int (Int32.ofNat (am_sch i j.toNatClampNeg)))) h) 0 0 (fun q => B0 ≤ q) := by
  refine Met.ofW (cc := prog_20_method_56_code) (maxL := 2) (ret := (some .char)) (by decide) rfl ?_
  intro p e s m args below meth c s₁ B hml hv
  obtain ⟨rfl, hR, hC, hSt, hT, hB⟩ := hv
  have hx := B.exec
  have hb := B.bytes
  have hr := B.returns
  have hts0 := atoms_spec (ws := am_wsCh) B.pre
  have hts : ∀ w ∈ am_big, w.before _ s = true := fun w hw => hts0 w (List.mem_cons_of_mem _ hw)
  have hown : s.vm.findClass "java/lang/String" = some m.cls := findClass_of_methodNamed B.named
  have hlocks := B.notSynchronized
  have hO : am_Ok s D dA B0 ca h s.heap [] := ⟨hR, hC, hSt, fun q hq => by cases hq⟩
  have eargs : ([.ref (7 + i), .int j].map (am_ga (am_ad B0 ca))) = [.ref (am_ad B0 ca (7 + i)), .int j] := rfl
  rw [eargs] at B hts ⊢
  have hl := lv_entry [.ref (am_ad B0 ca (7 + i)), .int j] (n := 2) (Nat.le_of_ble_eq_true rfl)
  rw [lg_entry_eq]
  generalize (lg_sl [.ref (am_ad B0 ca (7 + i)), .int j] ++ List.replicate (2 - (lg_sl [.ref (am_ad B0 ca (7 + i)), .int j]).length) Slot.unset).toArray = ls at hl ⊢
  have hl : lv_has ls 2 [(0, .ref (am_ad B0 ca (7 + i))), (1, .int j)] := hl
  have S : CallFix p m c prog_20_method_56_code 2 s _ am_big "java/lang/String" := ⟨hx, hb, hml, hown, hts⟩
  have hstr := hSt.2.2.2
  have hf := am_sfac hstr hi
  obtain ⟨c1, c2⟩ := am_chf i hi _ h1
  obtain ⟨cell, o1, o2, o3, o4⟩ := hf.1
  refine lv_aload_n hx hb am_dCh_0 rfl (lv_at hl 0 rfl) ?_
  have cb := callB_of (R := (headSpec am_wsCh { frames := 4, cells := 0, slots := 0, locals := 160 }).room) (mc := 0) (ms := 0) (rm := { frames := 1, cells := 0, slots := 0, locals := 40 }) (ws := am_wsLa) (ws' := am_big) (y := am_yLa) (bytes := prog_20_method_154_code) (maxL := 1) (ret := (some .boolean)) (own := "java/lang/String") (index := 492) 0 hts (am_goodT am_yLa _ am_cwLa) rfl rfl rfl (hts _ am_iwLa) (hts _ am_lkLa) (by decide) ⟨Nat.le_of_ble_eq_true rfl, Nat.le_of_ble_eq_true rfl⟩
  have r1 := va_runV (C := "java/lang/String") (As := []) (b := am_ad B0 ca (7 + i)) (rest := []) (below := below) (meth := meth) (e := e) (H := s.heap) (locs := []) (cells := 0) (slots := 0) (g := F0 m 1 ls [.ref (am_ad B0 ca (7 + i))]) S (am_mLa (l := l) (D := D) (dA := dA) (B0 := B0) (ca := ca) (h := h) hi) ⟨cb, hts _ am_inLa, hts _ am_seLa⟩ ⟨am_blind, ⟨cell, o1, o2, o3⟩, am_preS (as := [.ref (7 + i)]) hT hO rfl⟩ rfl rfl hl.1 rfl (lv_room (by decide)) am_dCh_1 ⟨Nat.le_of_ble_eq_true rfl, Nat.le_of_ble_eq_true rfl⟩
  refine am_afterS r1 hO (st1 := [.int 1]) rfl fun H1 L1 hO1 => ?_
  refine lv_if_eq (tgt := 16) hx hb am_dCh_4 (by decide) (fun q => absurd q (by decide)) (fun _ => ?_)
  have hf1 := am_sfac hO1.2.2.1.2.2.2 hi
  refine lv_aload_n hx hb am_dCh_7 rfl (lv_at hl 0 rfl) ?_
  refine am_gf hx hb hown (hts _ am_fl9) hf1.2.2.1 am_dCh_8 ?_
  refine lv_iload_n hx hb am_dCh_11 rfl (lv_at hl 1 rfl) ?_
  have cb2 := callB_of (R := (headSpec am_wsCh { frames := 4, cells := 0, slots := 0, locals := 160 }).room) (mc := 0) (ms := 0) (rm := { frames := 3, cells := 0, slots := 0, locals := 120 }) (ws := am_wsL1) (ws' := am_big) (y := am_yL1) (bytes := prog_21_method_2_code) (maxL := 2) (ret := (some .char)) (own := "java/lang/String") (index := 495) 2 hts (am_goodT am_yL1 _ am_cwL1) rfl rfl rfl (hts _ am_iwL1) (hts _ am_lkL1) (by decide) ⟨Nat.le_of_ble_eq_true rfl, Nat.le_of_ble_eq_true rfl⟩
  have r2 := va_runS (As := [.ref (am_ad B0 ca (23 + i)), .int j]) (rest := []) (below := below) (meth := meth) (e := e) (H := H1) (locs := L1) (cells := 0) (slots := 0) (g := F0 m 12 ls [.int j, .ref (am_ad B0 ca (23 + i))]) S (am_mL1 (l := l) (D := D) (dA := dA) (B0 := B0) (ca := ca) (h := h) hi h0 h1) ⟨cb2, hts _ am_stL1⟩ ⟨am_blind, am_preS (as := [.ref (23 + i), .int j]) hT hO1 rfl⟩ rfl rfl hl.1 rfl (lv_room (by decide)) am_dCh_12 ⟨Nat.le_of_ble_eq_true rfl, Nat.le_of_ble_eq_true rfl⟩
  refine am_afterS r2 hO1 (st1 := [.int (Int32.ofNat (am_sch i j.toNatClampNeg))]) rfl fun H2 L2 hO2 => ?_
  exact W.zret hx hb hr (show narrow .char (.int (Int32.ofNat (am_sch i j.toNatClampNeg))) = .int (Int32.ofNat (am_sch i j.toNatClampNeg)) from congrArg Value.int c2) (am_Qof hO2 rfl) (fun q hq => hO2.2.2.2 q hq) am_dCh_15
set_option maxHeartbeats 1000000 in
theorem am_mLe {l : Launch} {D : va_G} {dA : Nat → ClassId} {B0 : Nat} {ca : Nat → Nat} {h : am_H} {i : Nat} (hi : i < 16) : Met l am_yLe am_wsLe { frames := 2, cells := 0, slots := 0, locals := 80 } (am_Pc D dA B0 ca [.ref (7 + i)] h) (am_Qc D dA B0 ca (some (.int (Int32.ofNat (am_slen i)))) h) 0 0 (fun q => B0 ≤ q) := by
  refine Met.ofW (cc := prog_20_method_54_code) (maxL := 1) (ret := (some .int)) (by decide) rfl ?_
  intro p e s m args below meth c s₁ B hml hv
  obtain ⟨rfl, hR, hC, hSt, hT, hB⟩ := hv
  have hx := B.exec
  have hb := B.bytes
  have hr := B.returns
  have hts0 := atoms_spec (ws := am_wsLe) B.pre
  have hts : ∀ w ∈ am_big, w.before _ s = true := fun w hw => hts0 w (List.mem_cons_of_mem _ hw)
  have hown : s.vm.findClass "java/lang/String" = some m.cls := findClass_of_methodNamed B.named
  have hlocks := B.notSynchronized
  have hO : am_Ok s D dA B0 ca h s.heap [] := ⟨hR, hC, hSt, fun q hq => by cases hq⟩
  have eargs : ([.ref (7 + i)].map (am_ga (am_ad B0 ca))) = [.ref (am_ad B0 ca (7 + i))] := rfl
  rw [eargs] at B hts ⊢
  have hl := lv_entry [.ref (am_ad B0 ca (7 + i))] (n := 1) (Nat.le_of_ble_eq_true rfl)
  rw [lg_entry_eq]
  generalize (lg_sl [.ref (am_ad B0 ca (7 + i))] ++ List.replicate (1 - (lg_sl [.ref (am_ad B0 ca (7 + i))]).length) Slot.unset).toArray = ls at hl ⊢
  have hl : lv_has ls 1 [(0, .ref (am_ad B0 ca (7 + i)))] := hl
  have S : CallFix p m c prog_20_method_54_code 1 s _ am_big "java/lang/String" := ⟨hx, hb, hml, hown, hts⟩
  have hstr := hSt.2.2.2
  have hf := am_sfac hstr hi
  obtain ⟨cell, o1, o2, o3, o4⟩ := hf.1
  refine lv_aload_n hx hb am_dLe_0 rfl (lv_at hl 0 rfl) ?_
  refine am_gf hx hb hown (hts _ am_fl9) hf.2.2.1 am_dLe_1 ?_
  refine am_al hx hb hf.2.2.2 am_dLe_4 ?_
  refine lv_aload_n hx hb am_dLe_5 rfl (lv_at hl 0 rfl) ?_
  have cb := callB_of (R := (headSpec am_wsLe { frames := 2, cells := 0, slots := 0, locals := 80 }).room) (mc := 0) (ms := 0) (rm := { frames := 1, cells := 0, slots := 0, locals := 40 }) (ws := am_wsCo) (ws' := am_big) (y := am_yCo) (bytes := prog_20_method_152_code) (maxL := 1) (ret := (some .byte)) (own := "java/lang/String") (index := 335) 0 hts (am_goodT am_yCo _ am_cwCo) rfl rfl rfl (hts _ am_iwCo) (hts _ am_lkCo) (by decide) ⟨Nat.le_of_ble_eq_true rfl, Nat.le_of_ble_eq_true rfl⟩
  have r1 := va_runV (C := "java/lang/String") (As := []) (b := am_ad B0 ca (7 + i)) (rest := [.int (Int32.ofNat (am_slen i))]) (below := below) (meth := meth) (e := e) (H := s.heap) (locs := []) (cells := 0) (slots := 0) (g := F0 m 6 ls [.ref (am_ad B0 ca (7 + i)), .int (Int32.ofNat (am_slen i))]) S (am_mCo (l := l) (D := D) (dA := dA) (B0 := B0) (ca := ca) (h := h) hi) ⟨cb, hts _ am_inCo, hts _ am_seCo⟩ ⟨am_blind, ⟨cell, o1, o2, o3⟩, am_preS (as := [.ref (7 + i)]) hT hO rfl⟩ rfl rfl hl.1 rfl (lv_room (by show (1 : Nat) ≤ 8; decide)) am_dLe_6 ⟨Nat.le_of_ble_eq_true rfl, Nat.le_of_ble_eq_true rfl⟩
  refine am_afterS r1 hO (st1 := [.int 0, .int (Int32.ofNat (am_slen i))]) rfl fun H1 L1 hO1 => ?_
  refine lv_ishr hx hb am_dLe_9 ?_
  rw [am_shr0 i hi]
  exact W.iret hx hb hr (am_Qof hO1 rfl) (fun q hq => hO1.2.2.2 q hq) am_dLe_10
section AMT3
variable {p : Program} {l : Launch} {e : Env} {R : Room} {s : State} {m : MethodId} {args : Array Value} {below : List Frame} {meth : Method} {c : Code} {Q : State → Prop} {D : va_G} {dA : Nat → ClassId} {B0 : Nat} {ca : Nat → Nat} {y : Nat} {h0 : am_H} {pc : Nat} {ls st : List Value} {h : am_H}
theorem am_k_len {idx k : Nat} {rest : List Value} (C : am_Cx p s m args meth c D dA B0 ca y) (hst : st = .ref k :: rest) (hd : decode (am_by y) pc = .ok (.invokevirtual idx, 3)) (hl : Cond.methodLink (am_cn (am_in y).1) idx am_yLe ∈ am_big) (hk : 7 ≤ k ∧ k < 23) (hcs : am_cs rest ≤ 8) (hR : 3 ≤ R.frames ∧ 192 ≤ R.locals) (hm : am_le h0 h) (hcap : h.1 - h0.1 ≤ R.cells ∧ h.2.1 - h0.2.1 ≤ R.slots) (kk : am_Wp p l e R s m args below meth c Q D dA B0 ca y h0 (pc + 3) ls (.int (Int32.ofNat (am_slen (k - 7))) :: rest) h) : am_Wp p l e R s m args below meth c Q D dA B0 ca y h0 pc ls st h := by
  subst hst
  obtain ⟨i, rfl⟩ : ∃ i, k = 7 + i := ⟨k - 7, by omega⟩
  have hi : i < 16 := by omega
  rw [Nat.add_sub_cancel_left] at kk
  intro H locs rls hO hL
  have hts := C.2.2.2.2.1
  have S : CallFix p m c (am_by y) (am_in y).2.2.1 s args am_big (am_cn (am_in y).1) := ⟨C.1, C.2.1, C.2.2.1, C.2.2.2.1, C.2.2.2.2.1⟩
  obtain ⟨cell, o1, o2, o3, o4⟩ := (am_sfac hO.2.2.1.2.2.2 hi).1
  have cb := callB_of (R := R) (mc := 0) (ms := 0) (rm := { frames := 2, cells := 0, slots := 0, locals := 80 }) (ws := am_wsLe) (ws' := am_big) (y := am_yLe) (bytes := prog_20_method_54_code) (maxL := 1) (ret := (some .int)) (own := am_cn (am_in y).1) (index := idx) 0 hts (am_goodT am_yLe _ am_cwLe) rfl rfl rfl (hts _ am_iwLe) (hts _ hl) (by decide) ⟨hR.1, by have := hR.2; show 8 + (1 + 11) + 80 ≤ R.locals; omega⟩
  have hr0 := va_runV (C := "java/lang/String") (As := []) (b := am_ad B0 ca (7 + i)) (rest := rest.map (am_ga (am_ad B0 ca))) (H := H) (locs := locs) (cells := h.1 - h0.1) (slots := h.2.1 - h0.2.1) (g := F0 m pc rls ((Value.ref (7 + i) :: rest).map (am_ga (am_ad B0 ca)))) (below := below) (meth := meth) (e := e) S (am_mLe (l := l) (D := D) (dA := dA) (B0 := B0) (ca := ca) (h := h) hi) ⟨cb, hts _ am_inLe, hts _ am_seLe⟩ ⟨am_blind, ⟨cell, o1, o2, o3⟩, am_preU C hO rfl⟩ rfl rfl hL.2.1 rfl (am_roomW hcs) hd ⟨hcap.1, hcap.2⟩
  have hr1 : va_Run p l e R s m args below meth c H locs (h.1 - h0.1) (h.2.1 - h0.2.1) (h.1 - h.1) (h.2.1 - h.2.1) (F0 m pc rls ((Value.ref (7 + i) :: rest).map (am_ga (am_ad B0 ca)))) (rest.map (am_ga (am_ad B0 ca))) (am_Qc D dA B0 ca (some (.int (Int32.ofNat (am_slen i)))) h (Value.ref (am_ad B0 ca (7 + i)) :: []).toArray) (fun q => B0 ≤ q) := by
    rw [Nat.sub_self, Nat.sub_self]
    exact hr0
  exact am_after hr1 hO hm ⟨Nat.le_refl _, Nat.le_refl _⟩ hL rfl kk
theorem am_k_chr {idx k : Nat} {j : Int32} {rest : List Value} (C : am_Cx p s m args meth c D dA B0 ca y) (hst : st = .int j :: .ref k :: rest) (hd : decode (am_by y) pc = .ok (.invokevirtual idx, 3)) (hl : Cond.methodLink (am_cn (am_in y).1) idx am_yCh ∈ am_big) (hk : 7 ≤ k ∧ k < 23) (hj0 : 0 ≤ j) (hj1 : j.toNatClampNeg < am_slen (k - 7)) (hcs : am_cs rest ≤ 8) (hR : 5 ≤ R.frames ∧ 320 ≤ R.locals) (hm : am_le h0 h) (hcap : h.1 - h0.1 ≤ R.cells ∧ h.2.1 - h0.2.1 ≤ R.slots) (kk : am_Wp p l e R s m args below meth c Q D dA B0 ca y h0 (pc + 3) ls (.int (Int32.ofNat (am_sch (k - 7) j.toNatClampNeg)) :: rest) h) : am_Wp p l e R s m args below meth c Q D dA B0 ca y h0 pc ls st h := by
  subst hst
  obtain ⟨i, rfl⟩ : ∃ i, k = 7 + i := ⟨k - 7, by omega⟩
  have hi : i < 16 := by omega
  rw [Nat.add_sub_cancel_left] at kk hj1
  intro H locs rls hO hL
  have hts := C.2.2.2.2.1
  have S : CallFix p m c (am_by y) (am_in y).2.2.1 s args am_big (am_cn (am_in y).1) := ⟨C.1, C.2.1, C.2.2.1, C.2.2.2.1, C.2.2.2.2.1⟩
  obtain ⟨cell, o1, o2, o3, o4⟩ := (am_sfac hO.2.2.1.2.2.2 hi).1
  have cb := callB_of (R := R) (mc := 0) (ms := 0) (rm := { frames := 4, cells := 0, slots := 0, locals := 160 }) (ws := am_wsCh) (ws' := am_big) (y := am_yCh) (bytes := prog_20_method_56_code) (maxL := 2) (ret := (some .char)) (own := am_cn (am_in y).1) (index := idx) 1 hts (am_goodT am_yCh _ am_cwCh) rfl rfl rfl (hts _ am_iwCh) (hts _ hl) (by decide) ⟨hR.1, by have := hR.2; show 8 + (2 + 11) + 160 ≤ R.locals; omega⟩
  have hr0 := va_runV (C := "java/lang/String") (As := [.int j]) (b := am_ad B0 ca (7 + i)) (rest := rest.map (am_ga (am_ad B0 ca))) (H := H) (locs := locs) (cells := h.1 - h0.1) (slots := h.2.1 - h0.2.1) (g := F0 m pc rls ((Value.int j :: Value.ref (7 + i) :: rest).map (am_ga (am_ad B0 ca)))) (below := below) (meth := meth) (e := e) S (am_mCh (l := l) (D := D) (dA := dA) (B0 := B0) (ca := ca) (h := h) hi hj0 hj1) ⟨cb, hts _ am_inCh, hts _ am_seCh⟩ ⟨am_blind, ⟨cell, o1, o2, o3⟩, am_preU (as := [.ref (7 + i), .int j]) C hO rfl⟩ rfl rfl hL.2.1 rfl (am_roomW hcs) hd ⟨hcap.1, hcap.2⟩
  have hr1 : va_Run p l e R s m args below meth c H locs (h.1 - h0.1) (h.2.1 - h0.2.1) (h.1 - h.1) (h.2.1 - h.2.1) (F0 m pc rls ((Value.int j :: Value.ref (7 + i) :: rest).map (am_ga (am_ad B0 ca)))) (rest.map (am_ga (am_ad B0 ca))) (am_Qc D dA B0 ca (some (.int (Int32.ofNat (am_sch i j.toNatClampNeg)))) h (Value.ref (am_ad B0 ca (7 + i)) :: [.int j]).toArray) (fun q => B0 ≤ q) := by
    rw [Nat.sub_self, Nat.sub_self]
    exact hr0
  exact am_after hr1 hO hm ⟨Nat.le_refl _, Nat.le_refl _⟩ hL rfl kk
theorem am_sF_in {ci idx i : Nat} : ∀ (t : List (Nat × Nat × Nat)), am_sF ci idx t = some i → (ci, idx, i) ∈ t
  | [], h => by cases h
  | q :: r, h => by
    unfold am_sF at h
    simp only [cond_eq_ite] at h
    split at h
    · rename_i hc
      rw [Bool.and_eq_true] at hc
      cases am_beq hc.1; cases am_beq hc.2; cases h
      exact List.mem_cons_self
    · exact List.mem_cons_of_mem _ (am_sF_in r h)
theorem am_sTab_ok : ∀ q ∈ am_sTab, (am_cn q.1, q.2.1, q.2.2) ∈ am_sRefs ∧ q.2.2 < 16 := by decide +kernel
theorem am_k_lds {idx i : Nat} (C : am_Cx p s m args meth c D dA B0 ca y) (hs : am_sR (am_in y).1 idx = some i) (hd : decode (am_by y) pc = .ok (.ldc idx, 2)) (k : am_Wp p l e R s m args below meth c Q D dA B0 ca y h0 (pc + 2) ls (.ref (7 + i) :: st) h) : am_Wp p l e R s m args below meth c Q D dA B0 ca y h0 pc ls st h := by
  intro H locs rls hO hL
  obtain ⟨q1, q2⟩ := am_sTab_ok _ (am_sF_in _ hs)
  have hZ := C.2.2.2.2.2.1.2.2.2.2 _ q1
  have kk := k H locs rls hO hL
  have e1 : (Value.ref (7 + i) :: st).map (am_ga (am_ad B0 ca)) = .ref (ca (7 + i)) :: st.map (am_ga (am_ad B0 ca)) := by
    rw [← am_ad_lo (B0 := B0) (ca := ca) (k := 7 + i) (show 7 + i < 40 by have : i < 16 := q2; omega)]
    rfl
  rw [e1] at kk
  exact va_ldcS C.1 C.2.1 C.2.2.2.1 hZ hd kk
theorem am_k_ldsw {idx i : Nat} (C : am_Cx p s m args meth c D dA B0 ca y) (hs : am_sR (am_in y).1 idx = some i) (hd : decode (am_by y) pc = .ok (.ldc_w idx, 3)) (k : am_Wp p l e R s m args below meth c Q D dA B0 ca y h0 (pc + 3) ls (.ref (7 + i) :: st) h) : am_Wp p l e R s m args below meth c Q D dA B0 ca y h0 pc ls st h := by
  intro H locs rls hO hL
  obtain ⟨q1, q2⟩ := am_sTab_ok _ (am_sF_in _ hs)
  have hZ := C.2.2.2.2.2.1.2.2.2.2 _ q1
  have kk := k H locs rls hO hL
  have e1 : (Value.ref (7 + i) :: st).map (am_ga (am_ad B0 ca)) = .ref (ca (7 + i)) :: st.map (am_ga (am_ad B0 ca)) := by
    rw [← am_ad_lo (B0 := B0) (ca := ca) (k := 7 + i) (show 7 + i < 40 by have : i < 16 := q2; omega)]
    rfl
  rw [e1] at kk
  intro T hT X
  obtain ⟨t, a1, b1⟩ := kk T hT X
  exact ⟨t, am_ldcwS X C.1 C.2.2.2.1 hZ.1 hZ.2 (g := F0 m pc rls (st.map (am_ga (am_ad B0 ca)))) rfl (by rw [C.2.1]; exact hd) t a1, b1⟩
end AMT3
