/-! A RUN OF THE PLAIN MACHINE IS A RUN OF THE MACHINE -/
theorem am_wid_get {ad : Nat → Nat} : ∀ (as : List Value) (i : Nat) (v : Value), (am_wid as)[i]? = some v → v ≠ am_ph → (lg_sl (as.map (am_ga ad)))[i]? = some (Slot.val (am_ga ad v)) := by
  intro as
  induction as with
  | nil => intro i v h; simp [am_wid] at h
  | cons a as ih =>
    intro i v h hv
    by_cases hc : a.category = 2
    · have e1 : am_wid (a :: as) = a :: am_ph :: am_wid as := by simp [am_wid, hc]
      have e2 : lg_sl ((a :: as).map (am_ga ad)) = Slot.val (am_ga ad a) :: Slot.second :: lg_sl (as.map (am_ga ad)) := by simp [lg_sl, am_ga_cat, hc]
      rw [e1] at h
      rw [e2]
      match i, h with
      | 0, h => cases h; rfl
      | 1, h => exact absurd (Option.some.inj h).symm hv
      | i + 2, h => exact ih i v h hv
    · have hb : Nat.beq a.category 2 = false := by
        rcases lv_cat a with q | q
        · rw [q]; rfl
        · exact absurd q hc
      have e1 : am_wid (a :: as) = a :: am_wid as := by simp [am_wid, hb]
      have e2 : lg_sl ((a :: as).map (am_ga ad)) = Slot.val (am_ga ad a) :: lg_sl (as.map (am_ga ad)) := by simp [lg_sl, am_ga_cat, hc]
      rw [e1] at h
      rw [e2]
      match i, h with
      | 0, h => cases h; rfl
      | i + 1, h => exact ih i v h hv
theorem am_wid_len {ad : Nat → Nat} : ∀ (as : List Value), (lg_sl (as.map (am_ga ad))).length = (am_wid as).length := by
  intro as
  induction as with
  | nil => rfl
  | cons a as ih =>
    by_cases hc : a.category = 2
    · have e1 : am_wid (a :: as) = a :: am_ph :: am_wid as := by simp [am_wid, hc]
      have e2 : lg_sl ((a :: as).map (am_ga ad)) = Slot.val (am_ga ad a) :: Slot.second :: lg_sl (as.map (am_ga ad)) := by simp [lg_sl, am_ga_cat, hc]
      rw [e1, e2]
      simp [ih]
    · have hb : Nat.beq a.category 2 = false := by
        rcases lv_cat a with q | q
        · rw [q]; rfl
        · exact absurd q hc
      have e1 : am_wid (a :: as) = a :: am_wid as := by simp [am_wid, hb]
      have e2 : lg_sl ((a :: as).map (am_ga ad)) = Slot.val (am_ga ad a) :: lg_sl (as.map (am_ga ad)) := by simp [lg_sl, am_ga_cat, hc]
      rw [e1, e2]
      simp [ih]
theorem am_entL {ad : Nat → Nat} {as : List Value} {n : Nat} (h : (am_wid as).length ≤ n) : am_LR ad ((lg_sl (as.map (am_ga ad)) ++ List.replicate (n - (lg_sl (as.map (am_ga ad))).length) Slot.unset).toArray) n (am_ent as n) := by
  have hl : (lg_sl (as.map (am_ga ad))).length ≤ n := by rw [am_wid_len]; exact h
  obtain ⟨q1, q2, -⟩ := lv_entry (as.map (am_ga ad)) hl
  refine ⟨?_, q1, q2, fun i v hi hv => ?_⟩
  · unfold am_ent
    rw [List.length_append, List.length_replicate]
    omega
  · unfold am_ent at hi
    rcases Nat.lt_or_ge i (am_wid as).length with q | q
    · rw [List.getElem?_append_left q] at hi
      have := am_wid_get (ad := ad) as i v hi hv
      rw [List.getElem?_toArray, List.getElem?_append_left (by rw [am_wid_len]; exact q)]
      exact this
    · rw [List.getElem?_append_right q] at hi
      exact absurd (List.eq_of_mem_replicate (List.mem_of_getElem? hi)) hv
def am_rtk (i : Instr) (rt : Option FieldType) : Prop := (i = .lreturn → rt = some .long) ∧ (i = .areturn → (∃ n, rt = some (.object n)) ∨ ∃ t, rt = some (.array t)) ∧ (i = .return_ → rt = none)
theorem am_rtk_of {y pc : Nat} {en : am_E} (hc : am_code y pc = some en) (h : am_chR y pc = true) : am_rtk en.1 (am_rt y) := by
  unfold am_chR at h
  rw [hc] at h
  replace h : (match en.1 with
    | .lreturn => decide (am_rt y = some .long)
    | .areturn => am_isRf (am_rt y)
    | .return_ => decide (am_rt y = none)
    | _ => true) = true := h
  refine ⟨fun q => ?_, fun q => ?_, fun q => ?_⟩
  · rw [q] at h; exact of_decide_eq_true h
  · rw [q] at h
    replace h : am_isRf (am_rt y) = true := h
    unfold am_isRf at h
    split at h
    · rename_i n e; exact Or.inl ⟨n, e⟩
    · rename_i t e; exact Or.inr ⟨t, e⟩
    · cases h
  · rw [q] at h; exact of_decide_eq_true h
theorem am_run_lt {n d y pc : Nat} {ls st : List Value} {h h' : am_H} {r : Option Value} (q : am_run n d y pc ls st h = some (r, h')) : y < am_NM := by
  cases n with
  | zero => cases q
  | succ n =>
    rw [am_run_s] at q
    obtain ⟨en, ⟨h1, -, -⟩, -⟩ := am_one_inv q
    exact h1
/-- what a call's entry says -/
theorem am_chC {y pc : Nat} {en : am_E} (hi : am_isC en.1) (hce : am_chE y (am_in y).1 pc en = true) : ∃ index,
    (en.2.2.2.1 = 1000 ∧ en.1 = .invokespecial index ∧ Cond.methodLink (am_cn (am_in y).1) index Lib.objectInit ∈ am_big) ∨
    (en.2.2.2.1 = 1001 ∧ en.1 = .invokestatic index ∧ Cond.methodLink (am_cn (am_in y).1) index arraycopyName ∈ am_big) ∨
    (en.2.2.2.1 = 1002 ∧ en.1 = .invokespecial index ∧ Cond.methodLink (am_cn (am_in y).1) index am_yS ∈ am_big) ∨
    (en.2.2.2.1 = 1003 ∨ en.2.2.2.1 = 1004) ∨
    (en.2.2.2.1 < am_NM ∧ ((en.1 = .invokestatic index ∧ (am_in en.2.2.2.1).2.2.2 = 1) ∨ (en.1 = .invokevirtual index ∧ ((am_in en.2.2.2.1).2.2.2 = 0 ∨ (am_in en.2.2.2.1).2.2.2 = 3)) ∨ (en.1 = .invokespecial index ∧ (am_in en.2.2.2.1).2.2.2 = 2)) ∧
      (Cond.methodLink (am_cn (am_in y).1) index (am_nm en.2.2.2.1) ∈ am_big ∨ (en.2.2.2.2.1 = 1 ∧ ((am_in en.2.2.2.1).2.2.2 = 1 ∨ (am_in en.2.2.2.1).2.2.2 = 2) ∧ Cond.methodLinkNest (am_cn (am_in y).1) index (am_nm en.2.2.2.1) "PoetsBook" ∈ lw_tbl))) := by
  obtain ⟨i, n, t, z, b, w⟩ := en
  have lk : ∀ index, am_q (i, n, t, z, b, w) 4 (am_in y).1 index z 0 = true → Cond.methodLink (am_cn (am_in y).1) index (am_cnm z) ∈ am_big := fun index q => am_mlk (of_decide_eq_true q)
  have ln : ∀ index, am_q (i, n, t, z, b, w) 5 (am_in y).1 index z 0 = true → Cond.methodLinkNest (am_cn (am_in y).1) index (am_cnm z) "PoetsBook" ∈ lw_tbl := fun index q => am_mln (of_decide_eq_true q)
  rcases hi with ⟨index, hi⟩ | ⟨index, hi⟩ | ⟨index, hi⟩
  · replace hi : i = .invokestatic index := hi
    subst hi
    refine ⟨index, ?_⟩
    simp only [am_chE, Bool.or_eq_true, Bool.and_eq_true] at hce
    rcases hce with ⟨q1, q2⟩ | ⟨⟨q1, q2⟩, q3⟩
    · have q1 := am_beq q1
      subst q1
      exact Or.inr (Or.inl ⟨rfl, rfl, lk _ q2⟩)
    · have q1 := am_blt q1
      refine Or.inr (Or.inr (Or.inr (Or.inr ⟨q1, Or.inl ⟨rfl, am_beq q2⟩, ?_⟩)))
      rw [← am_cnm_eq q1]
      cases hb : Nat.beq b 1 with
      | true => rw [hb] at q3; exact Or.inr ⟨am_beq hb, Or.inl (am_beq q2), ln _ q3⟩
      | false => rw [hb] at q3; exact Or.inl (lk _ q3)
  · replace hi : i = .invokevirtual index := hi
    subst hi
    refine ⟨index, ?_⟩
    simp only [am_chE, Bool.or_eq_true, Bool.and_eq_true] at hce
    rcases hce with (q1 | q1) | ⟨⟨q1, q2⟩, q3⟩
    · exact Or.inr (Or.inr (Or.inr (Or.inl (Or.inl (am_beq q1)))))
    · exact Or.inr (Or.inr (Or.inr (Or.inl (Or.inr (am_beq q1)))))
    · have q1 := am_blt q1
      refine Or.inr (Or.inr (Or.inr (Or.inr ⟨q1, Or.inr (Or.inl ⟨rfl, q2.imp am_beq am_beq⟩), Or.inl ?_⟩)))
      rw [← am_cnm_eq q1]
      exact lk _ q3
  · replace hi : i = .invokespecial index := hi
    subst hi
    refine ⟨index, ?_⟩
    simp only [am_chE, Bool.or_eq_true, Bool.and_eq_true] at hce
    rcases hce with ⟨q1 | q1, q2⟩ | ⟨⟨q1, q2⟩, q3⟩
    · have q1 := am_beq q1
      subst q1
      exact Or.inl ⟨rfl, rfl, lk _ q2⟩
    · have q1 := am_beq q1
      subst q1
      exact Or.inr (Or.inr (Or.inl ⟨rfl, rfl, lk _ q2⟩))
    · have q1 := am_blt q1
      refine Or.inr (Or.inr (Or.inr (Or.inr ⟨q1, Or.inr (Or.inr ⟨rfl, am_beq q2⟩), ?_⟩)))
      rw [← am_cnm_eq q1]
      cases hb : Nat.beq b 1 with
      | true => rw [hb] at q3; exact Or.inr ⟨am_beq hb, Or.inr (am_beq q2), ln _ q3⟩
      | false => rw [hb] at q3; exact Or.inl (lk _ q3)
theorem am_mx1 : Cond.static (am_nm 10) ∈ am_big := am_big_of (show am_wt 252 ∈ lw_tbl from am_wt_in (by decide)) rfl
theorem am_mx2 : Cond.code (am_nm 10) prog_19_method_65_code 2 (some .int) ∈ am_big := am_big_of (show am_wt 253 ∈ lw_tbl from am_wt_in (by decide)) rfl
theorem am_mn1 : Cond.static (am_nm 57) ∈ am_big := am_big_of (show am_wt 775 ∈ lw_tbl from am_wt_in (by decide)) rfl
theorem am_mn2 : Cond.code (am_nm 57) prog_19_method_69_code 2 (some .int) ∈ am_big := am_big_of (show am_wt 776 ∈ lw_tbl from am_wt_in (by decide)) rfl
theorem am_mm0 : Cond.initialized "java/lang/Math" ∈ am_big := am_big_of (show am_wt 109 ∈ lw_tbl from am_wt_in (by decide)) rfl
def am_Snd (l : Launch) (D : va_G) (dA : Nat → ClassId) (B0 : Nat) (ca : Nat → Nat) (n : Nat) : Prop := ∀ (d y pc : Nat) (ls st : List Value) (h : am_H) (r : Option Value) (h' : am_H), am_run n d y pc ls st h = some (r, h') →
  ∀ (p : Program) (e : Env) (R : Room) (s : State) (m : MethodId) (args : Array Value) (below : List Frame) (meth : Method) (c : Code) (Q : State → Prop) (h0 : am_H), am_Cx p s m args meth c D dA B0 y → am_le h0 h → (d ≤ R.frames ∧ 64 * d ≤ R.locals) → (h'.1 - h0.1 ≤ R.cells ∧ h'.2.1 - h0.2.1 ≤ R.slots) →
  (∀ (pcR : Nat) (i : Instr) (H : Heap) (locs : List Loc) (rls : Array Slot), decode (am_by y) pcR = .ok (i, 1) → am_ret i (am_rt y) r → am_rtk i (am_rt y) → am_Ok s D dA B0 ca h' H locs → W p l e R s m args below meth c H locs (h'.1 - h0.1) (h'.2.1 - h0.2.1) Q (F0 m pcR rls (r.toList.map (am_ga (am_ad B0 ca))))) →
  am_Wp p l e R s m args below meth c Q D dA B0 ca y h0 pc ls st h
section AMB
variable {l : Launch} {D : va_G} {dA : Nat → ClassId} {B0 : Nat} {ca : Nat → Nat}
theorem am_narB {rt : Option FieldType} {v : Int32} (h : am_rok rt v = true) : ∃ ty, rt = some ty ∧ narrow ty (.int v) = .int v := by
  unfold am_rok at h
  split at h
  · exact ⟨.int, rfl, rfl⟩
  · simp only [Bool.or_eq_true, beq_iff_eq] at h
    rcases h with rfl | rfl
    · exact ⟨.boolean, rfl, (by decide : narrow .boolean (.int 0) = .int 0)⟩
    · exact ⟨.boolean, rfl, (by decide : narrow .boolean (.int 1) = .int 1)⟩
  · cases h
theorem am_body {n d z : Nat} {as : List Value} {h h2 : am_H} {v : Option Value} (ih : am_Snd l D dA B0 ca n) (hz : am_Mk z) (q : am_run n d z 0 (am_ent as (am_in z).2.2.1) [] h = some (v, h2)) (hw : (am_wid as).length ≤ (am_in z).2.2.1)
    {p : Program} {e : Env} {s : State} {m : MethodId} {args : Array Value} {below : List Frame} {meth : Method} {c : Code} {s₁ : State} (B : BodyLoose p l (am_nm z) (headSpec (am_ws z) (am_rm d h h2)) (am_by z) (am_in z).2.2.1 (am_rt z) e s m args below meth c s₁) (hml : c.maxLocals = (am_in z).2.2.1) (hv : am_Pc D dA B0 ca as h args s) :
    W p l e (headSpec (am_ws z) (am_rm d h h2)).room s m args below meth c s.heap [] 0 0 (MQ below (am_Qc D dA B0 ca v h2) args s (h2.1 - h.1) (h2.2.1 - h.2.1) (fun q => B0 ≤ q)) (entryFrame m args (am_in z).2.2.1) := by
  obtain ⟨rfl, hR, hC, hSt, hT, hB⟩ := hv
  have hts0 := atoms_spec (ws := am_ws z) B.pre
  have hlocks := B.notSynchronized
  have hr := B.returns
  have hx := B.exec
  have hb := B.bytes
  obtain ⟨z1, z2, z3, z4, z5, z6, z7, z8, z9, z10, z11, z12⟩ := id hz
  have C : am_Cx p s m (as.map (am_ga (am_ad B0 ca))).toArray meth c D dA B0 z := ⟨hx, hb, hml, by rw [← z7]; exact findClass_of_methodNamed B.named, fun w hw => hts0 w (List.mem_cons_of_mem _ hw), hT, fun q => (name_of_methodNamed B.named B.method).1.trans (z11 q).1, hB⟩
  have hO : am_Ok s D dA B0 ca h s.heap [] := ⟨hR, hC, hSt, fun q hq => by cases hq⟩
  rw [lg_entry_eq]
  have k := ih d z 0 (am_ent as (am_in z).2.2.1) [] h v h2 q p e (headSpec (am_ws z) (am_rm d h h2)).room s m (as.map (am_ga (am_ad B0 ca))).toArray below meth c (MQ below (am_Qc D dA B0 ca v h2) (as.map (am_ga (am_ad B0 ca))).toArray s (h2.1 - h.1) (h2.2.1 - h.2.1) (fun q => B0 ≤ q)) h C (am_le.rf h) ⟨Nat.le_refl _, Nat.le_refl _⟩ ⟨Nat.le_refl _, Nat.le_refl _⟩ (by
    intro pcR i H locs rls hd hret hrt hO'
    have hq : ∀ t : State, t.heap = H → s.WarmedH t.vm → am_Qc D dA B0 ca v h2 (as.map (am_ga (am_ad B0 ca))).toArray s (.returned (v.map (am_ga (am_ad B0 ca)))) t := fun t ht hW => ⟨rfl, (by rw [ht]; exact hO'.1), (by rw [ht]; exact hO'.2.1.warm hW), (by rw [ht]; exact hO'.2.2.1.warm hW)⟩
    rcases hret with ⟨rfl, x, rfl, hk⟩ | ⟨rfl, x, rfl⟩ | ⟨rfl, rfl | ⟨x, rfl⟩⟩ | ⟨rfl, rfl⟩
    · obtain ⟨ty, hty, hn⟩ := am_narB hk
      exact W.zret hx hb (hr.trans hty) hn hq hO'.2.2.2 hd
    · exact W.lret hx hb (hr.trans (hrt.1 rfl)) hq hO'.2.2.2 hd
    · rcases hrt.2.1 rfl with ⟨n, hn⟩ | ⟨t, hn⟩
      · exact W.aret hx hb (hr.trans hn) (Or.inl ⟨n, rfl⟩) (Or.inl rfl) hq hO'.2.2.2 hd
      · exact W.aret hx hb (hr.trans hn) (Or.inr ⟨t, rfl⟩) (Or.inl rfl) hq hO'.2.2.2 hd
    · rcases hrt.2.1 rfl with ⟨n, hn⟩ | ⟨t, hn⟩
      · exact W.aret hx hb (hr.trans hn) (Or.inl ⟨n, rfl⟩) (Or.inr ⟨_, rfl⟩) hq hO'.2.2.2 hd
      · exact W.aret hx hb (hr.trans hn) (Or.inr ⟨t, rfl⟩) (Or.inr ⟨_, rfl⟩) hq hO'.2.2.2 hd
    · exact W.vret hx hb (hr.trans (hrt.2.2 rfl)) hq hO'.2.2.2 hd)
  have k2 := k s.heap [] _ hO (am_entL hw)
  rw [Nat.sub_self, Nat.sub_self] at k2
  exact k2
theorem am_met_of {n d z : Nat} {as : List Value} {h h2 : am_H} {v : Option Value} (ih : am_Snd l D dA B0 ca n) (hz : am_Mk z) (q : am_run n d z 0 (am_ent as (am_in z).2.2.1) [] h = some (v, h2)) (hw : (am_wid as).length ≤ (am_in z).2.2.1) : am_Met l D dA B0 ca d z as h v h2 := by
  unfold am_Met
  by_cases h3 : (am_in z).2.2.2 = 3
  · have hcw : am_ws z = .codeWith (am_nm z) (am_by z) (am_in z).2.2.1 (am_rt z) (am_hh z) :: am_big := by
      unfold am_ws am_cw
      rw [h3]
      rfl
    exact va_MetW (cc := am_by z) (maxL := (am_in z).2.2.1) (ret := am_rt z) (hh := am_hh z) hz.1 hcw (fun p e s m args below meth c s₁ B hml hv => am_body ih hz q hw B hml hv)
  · have hcw : am_ws z = .code (am_nm z) (am_by z) (am_in z).2.2.1 (am_rt z) :: am_big := by
      unfold am_ws am_cw
      have : Nat.beq (am_in z).2.2.2 3 = false := by
        cases hh : Nat.beq (am_in z).2.2.2 3 with
        | false => rfl
        | true => exact absurd (am_beq hh) h3
      rw [this]
      rfl
    exact Met.ofW (cc := am_by z) (maxL := (am_in z).2.2.1) (ret := am_rt z) hz.1 hcw (fun p e s m args below meth c s₁ B hml hv => am_body ih hz q hw B hml hv)
theorem am_sound (n : Nat) : am_Snd l D dA B0 ca n := by
  induction n with
  | zero => intro d y pc ls st h r h' q; cases q
  | succ n ih =>
    intro d y pc ls st h r h' q p e R s m args below meth c Q h0 C hm hR hcap hE
    rw [am_run_s] at q
    obtain ⟨en, ⟨hy, hpc, hc⟩, hcase⟩ := am_one_inv q
    have hp := am_pcs hy hpc
    obtain ⟨hn, hd, hce⟩ := am_chP_use hc hp
    rcases hcase with ⟨hret, hst, rfl⟩ | ⟨hi, q⟩ | ⟨pc', ls', st', h1, q1, q2⟩
    · have h1 : en.2.1 = 1 := by
        rcases hret with ⟨e1, -⟩ | ⟨e1, -⟩ | ⟨e1, -⟩ | ⟨e1, -⟩ <;> (rw [e1] at hn; exact hn)
      rw [h1] at hd
      intro H locs rls hO hL
      rw [hst]
      exact hE pc en.1 H locs rls hd hret (am_rtk_of hc (am_rts hy hpc)) hO
    · have h3 : en.2.1 = 3 := by
        rcases hi with ⟨x, e1⟩ | ⟨x, e1⟩ | ⟨x, e1⟩ <;> (rw [e1] at hn; exact hn)
      rw [h3] at hd
      obtain ⟨index, hcc⟩ := am_chC hi hce
      obtain ⟨d', rfl, hcal⟩ := am_cal_inv q
      have hR1 : 1 ≤ R.frames ∧ 64 ≤ R.locals := ⟨by have := hR.1; omega, by have := hR.2; omega⟩
      have hle : am_le h h' := am_le.run (n + 1) _ _ _ _ _ _ _ _ (by rw [am_run_s]; assumption)
      have hcaph : h.1 - h0.1 ≤ R.cells ∧ h.2.1 - h0.2.1 ≤ R.slots := by
        obtain ⟨a1, a2⟩ := hle
        obtain ⟨a3, a4⟩ := hcap
        exact ⟨by omega, by omega⟩
      rcases hcal with ⟨ez, x, rr, hst, hcs, q⟩ | ⟨ez, nn, dp, b, sp, a, rr, h2, hst, hcs, hcp, q⟩ | ⟨ez, x, rr, hst, hcs, hix, hd3, q⟩ | ⟨ez, a, b, rr, hst, hcs, hb0, q⟩ | ⟨ez, a, b, rr, hst, hcs, hb0, q⟩ | ⟨n0, n1, n2, n3, n4, hpos, as, rr, v, h2, hst, hlen, hcs, hrcv, hw, q1, q2⟩
      · rcases hcc with ⟨-, hin, hl⟩ | ⟨ez2, -⟩ | ⟨ez2, -⟩ | ez2 | ⟨ez2, -⟩
        · rw [hin] at hd
          exact am_k_obj C hst hd hl hcs hR1 (ih _ _ _ _ _ _ _ _ q p e R s m args below meth c Q h0 C hm hR hcap hE)
        · omega
        · omega
        · omega
        · rw [ez] at ez2; exact absurd ez2 (by decide)
      · rcases hcc with ⟨ez2, -⟩ | ⟨-, hin, hl⟩ | ⟨ez2, -⟩ | ez2 | ⟨ez2, -⟩
        · omega
        · rw [hin] at hd
          exact am_k_copy C hst hd hl hcs hcp hR1 (ih _ _ _ _ _ _ _ _ q p e R s m args below meth c Q h0 C (hm.tr (am_le.cp hcp)) hR hcap hE)
        · omega
        · omega
        · rw [ez] at ez2; exact absurd ez2 (by decide)
      · rcases hcc with ⟨ez2, -⟩ | ⟨ez2, -⟩ | ⟨-, hin, hl⟩ | ez2 | ⟨ez2, -⟩
        · omega
        · omega
        · rw [hin] at hd
          have hR4 : 4 ≤ R.frames ∧ 256 ≤ R.locals := ⟨by have := hR.1; omega, by have := hR.2; omega⟩
          exact am_k_stop C hst hd hl hcs hix hR4 hm hcaph (ih _ _ _ _ _ _ _ _ q p e R s m args below meth c Q h0 C ⟨hm.1, hm.2⟩ hR hcap hE)
        · omega
        · rw [ez] at ez2; exact absurd ez2 (by decide)
      · rcases hcc with ⟨ez2, -⟩ | ⟨ez2, -⟩ | ⟨ez2, -⟩ | ez2 | ⟨ez2, hk, hl⟩
        · omega
        · omega
        · omega
        · omega
        · rw [ez] at hk hl
          have k := ih _ _ _ _ _ _ _ _ q p e R s m args below meth c Q h0 C hm hR hcap hE
          rcases hk with ⟨hin, -⟩ | ⟨-, hk⟩ | ⟨-, hk⟩
          · rcases hl with hl | ⟨hb1, -⟩
            · rw [hin] at hd
              intro H locs rls hO hL
              rw [hst]
              have hts := C.2.2.2.2.1
              have hw := am_cs_map (am_ad B0 ca) rr
              exact va_mmax C.1 C.2.1 (C.2.2.1.trans hL.2.1.symm) C.2.2.2.1 (hts _ hl) (hts _ am_mx1) (hts _ am_mm0) (hts _ am_mx2) hR1.1 (by rw [hw]; have := hR1.2; omega) hcaph.1 hcaph.2 hd (k H locs rls hO hL)
            · omega
          · exact absurd hk (by decide)
          · exact absurd hk (by decide)
      · rcases hcc with ⟨ez2, -⟩ | ⟨ez2, -⟩ | ⟨ez2, -⟩ | ez2 | ⟨ez2, hk, hl⟩
        · omega
        · omega
        · omega
        · omega
        · rw [ez] at hk hl
          have k := ih _ _ _ _ _ _ _ _ q p e R s m args below meth c Q h0 C hm hR hcap hE
          rcases hk with ⟨hin, -⟩ | ⟨-, hk⟩ | ⟨-, hk⟩
          · rcases hl with hl | ⟨hb1, -⟩
            · rw [hin] at hd
              intro H locs rls hO hL
              rw [hst]
              have hts := C.2.2.2.2.1
              have hw := am_cs_map (am_ad B0 ca) rr
              exact va_mmin C.1 C.2.1 (C.2.2.1.trans hL.2.1.symm) C.2.2.2.1 (hts _ hl) (hts _ am_mn1) (hts _ am_mm0) (hts _ am_mn2) hR1.1 (by rw [hw]; have := hR1.2; omega) hcaph.1 hcaph.2 hd (k H locs rls hO hL)
            · omega
          · exact absurd hk (by decide)
          · exact absurd hk (by decide)
      · have hzlt := am_run_lt q1
        have hz := am_mk_of hpos hzlt n3 n4
        rcases hcc with ⟨ez2, -⟩ | ⟨ez2, -⟩ | ⟨ez2, -⟩ | ez2 | ⟨-, hk, hl⟩
        · omega
        · omega
        · omega
        · have : en.2.2.2.1 < 264 := hzlt
          omega
        · have l1 := am_le.run _ _ _ _ _ _ _ _ _ q1
          have l2 := am_le.run _ _ _ _ _ _ _ _ _ q2
          refine am_k_call C hz hst hlen hk hd (hl.imp id And.right) hcs hrcv (am_met_of ih hz q1 hw) hR hm l1 ?_ (ih _ _ _ _ _ _ _ _ q2 p e R s m args below meth c Q h0 C (hm.tr l1) hR hcap hE)
          obtain ⟨a1, a2⟩ := l2
          obtain ⟨a3, a4⟩ := hcap
          exact ⟨by omega, by omega⟩
    · have l2 := am_le.run _ _ _ _ _ _ _ _ _ q2
      refine am_step C hc hp q1 hm ?_ (ih _ _ _ _ _ _ _ _ q2 p e R s m args below meth c Q h0 C (hm.tr (am_le.st q1)) hR hcap hE)
      obtain ⟨a1, a2⟩ := l2
      obtain ⟨a3, a4⟩ := hcap
      exact ⟨by omega, by omega⟩
end AMB
