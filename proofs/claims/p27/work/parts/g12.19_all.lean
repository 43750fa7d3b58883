section
/-! every entry of the tables was held against the bytes and the words -/
theorem am_all {n : Nat} {f : Nat → Bool} (h : (List.range n).all f = true) {k : Nat} (hk : k < n) : f k = true := List.all_eq_true.mp h k (List.mem_range.mpr hk)
theorem am_pcs {y pc : Nat} (h1 : y < am_NM) (h2 : pc < am_bd y) : am_chP y pc = true := by
  have h1 : y < 264 := h1
  have key : ∀ (n b : Nat), ((List.range n).all fun k => am_wkM (b + k)) = true → b ≤ y → y < b + n → am_chP y pc = true := by
    intro n b hh q1 q2
    have := am_all hh (k := y - b) (by omega)
    rw [show b + (y - b) = y by omega] at this
    exact am_wkM_ok this h2
  rcases Nat.lt_or_ge y 1 with q0 | q0
  · exact key 1 0 am_kP0 (by omega) (by omega)
  rcases Nat.lt_or_ge y 20 with q1 | q1
  · exact key 19 1 am_kP1 (by omega) (by omega)
  rcases Nat.lt_or_ge y 39 with q2 | q2
  · exact key 19 20 am_kP2 (by omega) (by omega)
  rcases Nat.lt_or_ge y 55 with q3 | q3
  · exact key 16 39 am_kP3 (by omega) (by omega)
  rcases Nat.lt_or_ge y 72 with q4 | q4
  · exact key 17 55 am_kP4 (by omega) (by omega)
  rcases Nat.lt_or_ge y 89 with q5 | q5
  · exact key 17 72 am_kP5 (by omega) (by omega)
  rcases Nat.lt_or_ge y 105 with q6 | q6
  · exact key 16 89 am_kP6 (by omega) (by omega)
  rcases Nat.lt_or_ge y 120 with q7 | q7
  · exact key 15 105 am_kP7 (by omega) (by omega)
  rcases Nat.lt_or_ge y 135 with q8 | q8
  · exact key 15 120 am_kP8 (by omega) (by omega)
  rcases Nat.lt_or_ge y 148 with q9 | q9
  · exact key 13 135 am_kP9 (by omega) (by omega)
  rcases Nat.lt_or_ge y 162 with q10 | q10
  · exact key 14 148 am_kP10 (by omega) (by omega)
  rcases Nat.lt_or_ge y 179 with q11 | q11
  · exact key 17 162 am_kP11 (by omega) (by omega)
  rcases Nat.lt_or_ge y 196 with q12 | q12
  · exact key 17 179 am_kP12 (by omega) (by omega)
  rcases Nat.lt_or_ge y 207 with q13 | q13
  · exact key 11 196 am_kP13 (by omega) (by omega)
  rcases Nat.lt_or_ge y 217 with q14 | q14
  · exact key 10 207 am_kP14 (by omega) (by omega)
  rcases Nat.lt_or_ge y 235 with q15 | q15
  · exact key 18 217 am_kP15 (by omega) (by omega)
  rcases Nat.lt_or_ge y 244 with q16 | q16
  · exact key 9 235 am_kP16 (by omega) (by omega)
  rcases Nat.lt_or_ge y 254 with q17 | q17
  · exact key 10 244 am_kP17 (by omega) (by omega)
  rcases Nat.lt_or_ge y 261 with q18 | q18
  · exact key 7 254 am_kP18 (by omega) (by omega)
  exact key 3 261 am_kP19 (by omega) (by omega)
theorem am_pc0 {pc : Nat} (h : pc < 1302) : am_chP 0 pc = true := am_pcs (by decide) h
def am_isRf (rt : Option FieldType) : Bool := match rt with
  | some (.object _) => true
  | some (.array _) => true
  | _ => false
def am_chR (y pc : Nat) : Bool := match am_code y pc with
  | none => true
  | some e => (match e.1 with
    | .lreturn => decide (am_rt y = some .long)
    | .areturn => am_isRf (am_rt y)
    | .return_ => decide (am_rt y = none)
    | _ => true)
theorem am_kR0 : ((List.range 1).all fun k => (List.range (am_bd (0 + k))).all fun pc => am_chR (0 + k) pc) = true := by decide +kernel
theorem am_kR1 : ((List.range 32).all fun k => (List.range (am_bd (1 + k))).all fun pc => am_chR (1 + k) pc) = true := by decide +kernel
theorem am_kR2 : ((List.range 33).all fun k => (List.range (am_bd (33 + k))).all fun pc => am_chR (33 + k) pc) = true := by decide +kernel
theorem am_kR3 : ((List.range 33).all fun k => (List.range (am_bd (66 + k))).all fun pc => am_chR (66 + k) pc) = true := by decide +kernel
theorem am_kR4 : ((List.range 33).all fun k => (List.range (am_bd (99 + k))).all fun pc => am_chR (99 + k) pc) = true := by decide +kernel
theorem am_kR5 : ((List.range 33).all fun k => (List.range (am_bd (132 + k))).all fun pc => am_chR (132 + k) pc) = true := by decide +kernel
theorem am_kR6 : ((List.range 33).all fun k => (List.range (am_bd (165 + k))).all fun pc => am_chR (165 + k) pc) = true := by decide +kernel
theorem am_kR7 : ((List.range 33).all fun k => (List.range (am_bd (198 + k))).all fun pc => am_chR (198 + k) pc) = true := by decide +kernel
theorem am_kR8 : ((List.range 33).all fun k => (List.range (am_bd (231 + k))).all fun pc => am_chR (231 + k) pc) = true := by decide +kernel
theorem am_rts {y pc : Nat} (h1 : y < am_NM) (h2 : pc < am_bd y) : am_chR y pc = true := by
  have h1 : y < 264 := h1
  have key : ∀ (n b : Nat), ((List.range n).all fun k => (List.range (am_bd (b + k))).all fun pc => am_chR (b + k) pc) = true → b ≤ y → y < b + n → am_chR y pc = true := by
    intro n b hh q1 q2
    have := am_all hh (k := y - b) (by omega)
    rw [show b + (y - b) = y by omega] at this
    exact am_all this h2
  rcases Nat.lt_or_ge y 1 with q0 | q0
  · exact key 1 0 am_kR0 (by omega) (by omega)
  rcases Nat.lt_or_ge y 33 with q1 | q1
  · exact key 32 1 am_kR1 (by omega) (by omega)
  rcases Nat.lt_or_ge y 66 with q2 | q2
  · exact key 33 33 am_kR2 (by omega) (by omega)
  rcases Nat.lt_or_ge y 99 with q3 | q3
  · exact key 33 66 am_kR3 (by omega) (by omega)
  rcases Nat.lt_or_ge y 132 with q4 | q4
  · exact key 33 99 am_kR4 (by omega) (by omega)
  rcases Nat.lt_or_ge y 165 with q5 | q5
  · exact key 33 132 am_kR5 (by omega) (by omega)
  rcases Nat.lt_or_ge y 198 with q6 | q6
  · exact key 33 165 am_kR6 (by omega) (by omega)
  rcases Nat.lt_or_ge y 231 with q7 | q7
  · exact key 33 198 am_kR7 (by omega) (by omega)
  exact key 33 231 am_kR8 (by omega) (by omega)
end
section
/-! A RUN OF THE PLAIN MACHINE IS A RUN OF THE MACHINE -/
theorem am_wid_get {ad : Nat → Nat} : ∀ (as : List Value) (i : Nat) (v : Value), (am_wid as)[i]? = some v → v ≠ am_ph → (lg_sl (as.map (am_ga ad)))[i]? = some (Slot.val (am_ga ad v)) := by
  intro as
  induction as with
  | nil => intro i v h; simp [am_wid] at h
  | cons a as ih =>
    intro i v h hv
    by_cases hc : a.category = 2
    · have e1 : am_wid (a :: as) = a :: am_ph :: am_wid as := by simp [am_wid, hc]
      have e2 : lg_sl ((a :: as).map (am_ga ad)) = Slot.val (am_ga ad a) :: Slot.second :: lg_sl (as.map (am_ga ad)) := by simp [lg_sl, am_ga_cat, hc]
      rw [e1] at h
      rw [e2]
      match i, h with
      | 0, h => cases h; rfl
      | 1, h => exact absurd (Option.some.inj h).symm hv
      | i + 2, h => exact ih i v h hv
    · have hb : Nat.beq a.category 2 = false := by
        rcases lv_cat a with q | q
        · rw [q]; rfl
        · exact absurd q hc
      have e1 : am_wid (a :: as) = a :: am_wid as := by simp [am_wid, hb]
      have e2 : lg_sl ((a :: as).map (am_ga ad)) = Slot.val (am_ga ad a) :: lg_sl (as.map (am_ga ad)) := by simp [lg_sl, am_ga_cat, hc]
      rw [e1] at h
      rw [e2]
      match i, h with
      | 0, h => cases h; rfl
      | i + 1, h => exact ih i v h hv
theorem am_wid_len {ad : Nat → Nat} : ∀ (as : List Value), (lg_sl (as.map (am_ga ad))).length = (am_wid as).length := by
  intro as
  induction as with
  | nil => rfl
  | cons a as ih =>
    by_cases hc : a.category = 2
    · have e1 : am_wid (a :: as) = a :: am_ph :: am_wid as := by simp [am_wid, hc]
      have e2 : lg_sl ((a :: as).map (am_ga ad)) = Slot.val (am_ga ad a) :: Slot.second :: lg_sl (as.map (am_ga ad)) := by simp [lg_sl, am_ga_cat, hc]
      rw [e1, e2]
      simp [ih]
    · have hb : Nat.beq a.category 2 = false := by
        rcases lv_cat a with q | q
        · rw [q]; rfl
        · exact absurd q hc
      have e1 : am_wid (a :: as) = a :: am_wid as := by simp [am_wid, hb]
      have e2 : lg_sl ((a :: as).map (am_ga ad)) = Slot.val (am_ga ad a) :: lg_sl (as.map (am_ga ad)) := by simp [lg_sl, am_ga_cat, hc]
      rw [e1, e2]
      simp [ih]
theorem am_entL {ad : Nat → Nat} {as : List Value} {n : Nat} (h : (am_wid as).length ≤ n) : am_LR ad ((lg_sl (as.map (am_ga ad)) ++ List.replicate (n - (lg_sl (as.map (am_ga ad))).length) Slot.unset).toArray) n (am_ent as n) := by
  have hl : (lg_sl (as.map (am_ga ad))).length ≤ n := by rw [am_wid_len]; exact h
  obtain ⟨q1, q2, -⟩ := lv_entry (as.map (am_ga ad)) hl
  refine ⟨?_, q1, q2, fun i v hi hv => ?_⟩
  · unfold am_ent
    rw [List.length_append, List.length_replicate]
    omega
  · unfold am_ent at hi
    rcases Nat.lt_or_ge i (am_wid as).length with q | q
    · rw [List.getElem?_append_left q] at hi
      have := am_wid_get (ad := ad) as i v hi hv
      rw [List.getElem?_toArray, List.getElem?_append_left (by rw [am_wid_len]; exact q)]
      exact this
    · rw [List.getElem?_append_right q] at hi
      exact absurd (List.eq_of_mem_replicate (List.mem_of_getElem? hi)) hv
def am_rtk (i : Instr) (rt : Option FieldType) : Prop := (i = .lreturn → rt = some .long) ∧ (i = .areturn → (∃ n, rt = some (.object n)) ∨ ∃ t, rt = some (.array t)) ∧ (i = .return_ → rt = none)
theorem am_rtk_of {y pc : Nat} {en : am_E} (hc : am_code y pc = some en) (h : am_chR y pc = true) : am_rtk en.1 (am_rt y) := by
  unfold am_chR at h
  rw [hc] at h
  replace h : (match en.1 with
    | .lreturn => decide (am_rt y = some .long)
    | .areturn => am_isRf (am_rt y)
    | .return_ => decide (am_rt y = none)
    | _ => true) = true := h
  refine ⟨fun q => ?_, fun q => ?_, fun q => ?_⟩
  · rw [q] at h; exact of_decide_eq_true h
  · rw [q] at h
    replace h : am_isRf (am_rt y) = true := h
    unfold am_isRf at h
    split at h
    · rename_i n e; exact Or.inl ⟨n, e⟩
    · rename_i t e; exact Or.inr ⟨t, e⟩
    · cases h
  · rw [q] at h; exact of_decide_eq_true h
theorem am_run_lt {n d y pc : Nat} {ls st : List Value} {h h' : am_H} {r : Option Value} (q : am_run n d y pc ls st h = some (r, h')) : y < am_NM := by
  cases n with
  | zero => cases q
  | succ n =>
    rw [am_run_s] at q
    obtain ⟨en, ⟨h1, -, -⟩, -⟩ := am_one_inv q
    exact h1
/-- what a call's entry says -/
theorem am_chC {y pc : Nat} {en : am_E} (hi : am_isC en.1) (hce : am_chE y (am_in y).1 pc en = true) : ∃ index,
    (en.2.2.2.1 = 1000 ∧ en.1 = .invokespecial index ∧ Cond.methodLink (am_cn (am_in y).1) index Lib.objectInit ∈ am_big) ∨
    (en.2.2.2.1 = 1001 ∧ en.1 = .invokestatic index ∧ Cond.methodLink (am_cn (am_in y).1) index arraycopyName ∈ am_big) ∨
    (en.2.2.2.1 = 1002 ∧ en.1 = .invokespecial index ∧ Cond.methodLink (am_cn (am_in y).1) index am_yS ∈ am_big) ∨
    (en.2.2.2.1 = 1003 ∨ en.2.2.2.1 = 1004) ∨
    (en.2.2.2.1 < am_NM ∧ ((en.1 = .invokestatic index ∧ (am_in en.2.2.2.1).2.2.2 = 1) ∨ (en.1 = .invokevirtual index ∧ ((am_in en.2.2.2.1).2.2.2 = 0 ∨ (am_in en.2.2.2.1).2.2.2 = 3)) ∨ (en.1 = .invokespecial index ∧ (am_in en.2.2.2.1).2.2.2 = 2)) ∧
      (Cond.methodLink (am_cn (am_in y).1) index (am_nm en.2.2.2.1) ∈ am_big ∨ (en.2.2.2.2.1 = 1 ∧ ((am_in en.2.2.2.1).2.2.2 = 1 ∨ (am_in en.2.2.2.1).2.2.2 = 2) ∧ Cond.methodLinkNest (am_cn (am_in y).1) index (am_nm en.2.2.2.1) "PoetsBook" ∈ lw_tbl))) := by
  obtain ⟨i, n, t, z, b, w⟩ := en
  have lk : ∀ index, am_q (i, n, t, z, b, w) 4 (am_in y).1 index z 0 = true → Cond.methodLink (am_cn (am_in y).1) index (am_cnm z) ∈ am_big := fun index q => am_mlk (of_decide_eq_true q)
  have ln : ∀ index, am_q (i, n, t, z, b, w) 5 (am_in y).1 index z 0 = true → Cond.methodLinkNest (am_cn (am_in y).1) index (am_cnm z) "PoetsBook" ∈ lw_tbl := fun index q => am_mln (of_decide_eq_true q)
  rcases hi with ⟨index, hi⟩ | ⟨index, hi⟩ | ⟨index, hi⟩
  · replace hi : i = .invokestatic index := hi
    subst hi
    refine ⟨index, ?_⟩
    simp only [am_chE, Bool.or_eq_true, Bool.and_eq_true] at hce
    rcases hce with ⟨q1, q2⟩ | ⟨⟨q1, q2⟩, q3⟩
    · have q1 := am_beq q1
      subst q1
      exact Or.inr (Or.inl ⟨rfl, rfl, lk _ q2⟩)
    · have q1 := am_blt q1
      refine Or.inr (Or.inr (Or.inr (Or.inr ⟨q1, Or.inl ⟨rfl, am_beq q2⟩, ?_⟩)))
      rw [← am_cnm_eq q1]
      cases hb : Nat.beq b 1 with
      | true => rw [hb] at q3; exact Or.inr ⟨am_beq hb, Or.inl (am_beq q2), ln _ q3⟩
      | false => rw [hb] at q3; exact Or.inl (lk _ q3)
  · replace hi : i = .invokevirtual index := hi
    subst hi
    refine ⟨index, ?_⟩
    simp only [am_chE, Bool.or_eq_true, Bool.and_eq_true] at hce
    rcases hce with (q1 | q1) | ⟨⟨q1, q2⟩, q3⟩
    · exact Or.inr (Or.inr (Or.inr (Or.inl (Or.inl (am_beq q1)))))
    · exact Or.inr (Or.inr (Or.inr (Or.inl (Or.inr (am_beq q1)))))
    · have q1 := am_blt q1
      refine Or.inr (Or.inr (Or.inr (Or.inr ⟨q1, Or.inr (Or.inl ⟨rfl, q2.imp am_beq am_beq⟩), Or.inl ?_⟩)))
      rw [← am_cnm_eq q1]
      exact lk _ q3
  · replace hi : i = .invokespecial index := hi
    subst hi
    refine ⟨index, ?_⟩
    simp only [am_chE, Bool.or_eq_true, Bool.and_eq_true] at hce
    rcases hce with ⟨q1 | q1, q2⟩ | ⟨⟨q1, q2⟩, q3⟩
    · have q1 := am_beq q1
      subst q1
      exact Or.inl ⟨rfl, rfl, lk _ q2⟩
    · have q1 := am_beq q1
      subst q1
      exact Or.inr (Or.inr (Or.inl ⟨rfl, rfl, lk _ q2⟩))
    · have q1 := am_blt q1
      refine Or.inr (Or.inr (Or.inr (Or.inr ⟨q1, Or.inr (Or.inr ⟨rfl, am_beq q2⟩), ?_⟩)))
      rw [← am_cnm_eq q1]
      cases hb : Nat.beq b 1 with
      | true => rw [hb] at q3; exact Or.inr ⟨am_beq hb, Or.inr (am_beq q2), ln _ q3⟩
      | false => rw [hb] at q3; exact Or.inl (lk _ q3)
theorem am_mx1 : Cond.static (am_nm 10) ∈ am_big := am_big_of (show am_wt 252 ∈ lw_tbl from am_wt_in (by decide)) rfl
theorem am_mx2 : Cond.code (am_nm 10) prog_19_method_65_code 2 (some .int) ∈ am_big := am_big_of (show am_wt 253 ∈ lw_tbl from am_wt_in (by decide)) rfl
theorem am_mn1 : Cond.static (am_nm 57) ∈ am_big := am_big_of (show am_wt 775 ∈ lw_tbl from am_wt_in (by decide)) rfl
theorem am_mn2 : Cond.code (am_nm 57) prog_19_method_69_code 2 (some .int) ∈ am_big := am_big_of (show am_wt 776 ∈ lw_tbl from am_wt_in (by decide)) rfl
theorem am_mm0 : Cond.initialized "java/lang/Math" ∈ am_big := am_big_of (show am_wt 109 ∈ lw_tbl from am_wt_in (by decide)) rfl
/-! THROWS in the plain machine's words -/
theorem am_kH : ((List.range 264).all fun y => (Nat.beq (am_in y).2.2.2 3 || (am_hh y).isEmpty) && (am_hh y).all fun q => Nat.beq q.2.2.2 86 && Nat.beq (am_in y).1 13) = true := by decide +kernel
theorem am_lk86 : Cond.classLink (am_cn 13) 86 (am_cn 12) ∈ am_big := am_big_of (show am_wt 1317 ∈ lw_tbl from am_wt_in (by decide)) rfl
def am_Tbl (c : Code) (y : Nat) : Prop := c.exceptionTable.toList.map (fun q => (q.startPc, q.endPc, q.handlerPc, q.catchType)) = am_hh y
theorem am_ctc_some : ∀ {hh : List (Nat × Nat × Nat × Nat)} {pc hp : Nat}, am_ctc hh pc = some hp → ∃ pre q rest, hh = pre ++ q :: rest ∧ (∀ r ∈ pre, (Nat.ble r.1 pc && Nat.blt pc r.2.1) = false) ∧ (Nat.ble q.1 pc && Nat.blt pc q.2.1) = true ∧ q.2.2.1 = hp := by
  intro hh pc hp
  induction hh with
  | nil => intro h; cases h
  | cons q r ih =>
    intro h
    unfold am_ctc at h
    cases hc : (Nat.ble q.1 pc && Nat.blt pc q.2.1) with
    | true =>
      rw [hc] at h
      exact ⟨[], q, r, rfl, (fun _ z => absurd z List.not_mem_nil), hc, Option.some.inj h⟩
    | false =>
      rw [hc] at h
      obtain ⟨pre, q', rest, e1, e2, e3, e4⟩ := ih h
      refine ⟨q :: pre, q', rest, by rw [e1]; rfl, fun z hz => ?_, e3, e4⟩
      rcases List.mem_cons.mp hz with z1 | z1
      · rw [z1]; exact hc
      · exact e2 z z1
theorem am_ctc_none : ∀ {hh : List (Nat × Nat × Nat × Nat)} {pc : Nat}, am_ctc hh pc = none → ∀ r ∈ hh, (Nat.ble r.1 pc && Nat.blt pc r.2.1) = false := by
  intro hh pc
  induction hh with
  | nil => intro _ r hr; cases hr
  | cons q r ih =>
    intro h z hz
    unfold am_ctc at h
    cases hc : (Nat.ble q.1 pc && Nat.blt pc q.2.1) with
    | true => rw [hc] at h; cases h
    | false =>
      rw [hc] at h
      rcases List.mem_cons.mp hz with z1 | z1
      · rw [z1]; exact hc
      · exact ih h z z1
theorem am_cov {x : ExceptionTableEntry} {pc : Nat} : covers x pc = (Nat.ble x.startPc pc && Nat.blt pc x.endPc) := by
  have h1 : decide (x.startPc ≤ pc) = Nat.ble x.startPc pc := by
    cases h : Nat.ble x.startPc pc with
    | true => exact decide_eq_true (Nat.le_of_ble_eq_true h)
    | false => exact decide_eq_false (fun q => by rw [Nat.ble_eq.mpr q] at h; cases h)
  have h2 : decide (pc < x.endPc) = Nat.blt pc x.endPc := by
    cases h : Nat.blt pc x.endPc with
    | true => exact decide_eq_true (am_blt h)
    | false => exact decide_eq_false (fun q => by rw [show Nat.blt pc x.endPc = true from Nat.ble_eq.mpr q] at h; cases h)
  unfold covers
  rw [h1, h2]
def am_QcT (D : va_G) (dA : Nat → ClassId) (B0 : Nat) (ca : Nat → Nat) (a : Nat) (h' : am_H) : Array Value → State → Outcome → State → Prop :=
  fun _ _ o t => o = .threw (am_ad B0 ca a) ∧ am_Rep D dA B0 ca h' t.heap ∧ am_Con B0 ca h' t t.heap ∧ am_Sta B0 ca t t.heap
def am_MetT (l : Launch) (D : va_G) (dA : Nat → ClassId) (B0 : Nat) (ca : Nat → Nat) (d z : Nat) (as : List Value) (h : am_H) (a : Nat) (h' : am_H) : Prop :=
  am_MT l (am_nm z) (am_ws z) (am_rm d h h') (am_Pc D dA B0 ca as h) (am_QcT D dA B0 ca a h') (h'.1 - h.1) (h'.2.1 - h.2.1) (fun q => B0 ≤ q)
section AMT
variable {p : Program} {l : Launch} {e : Env} {R : Room} {s : State} {m : MethodId} {args : Array Value} {below : List Frame} {meth : Method} {c : Code} {Q : State → Prop} {D : va_G} {dA : Nat → ClassId} {B0 : Nat} {ca : Nat → Nat} {y : Nat} {h0 : am_H} {pc : Nat} {ls st : List Value} {h h1 : am_H}
def am_Wtp (p : Program) (l : Launch) (e : Env) (R : Room) (s : State) (m : MethodId) (args : Array Value) (below : List Frame) (meth : Method) (c : Code) (Q : State → Prop) (D : va_G) (dA : Nat → ClassId) (B0 : Nat) (ca : Nat → Nat) (y : Nat) (h0 : am_H) (pc : Nat) (ls : List Value) (a : Nat) (h : am_H) : Prop :=
  ∀ (H : Heap) (locs : List Loc) (rls : Array Slot) (stk : List Value), am_Ok s D dA B0 ca h H locs → am_LR (am_ad B0 ca) rls (am_in y).2.2.1 ls → am_Wt p l e R s m args below meth c H locs (h.1 - h0.1) (h.2.1 - h0.2.1) Q (F0 m pc rls stk) (am_ad B0 ca a)
theorem am_k_catch {a hp : Nat} (C : am_Cx p s m args meth c D dA B0 ca y) (hTb : am_Tbl c y) (hy : y < am_NM) (hc : am_ctc (am_hh y) pc = some hp) (hi : am_isO h a 12 = true) (k : am_Wp p l e R s m args below meth c Q D dA B0 ca y h0 hp ls [.ref a] h) : am_Wtp p l e R s m args below meth c Q D dA B0 ca y h0 pc ls a h := by
  intro H locs rls stk hO hL
  obtain ⟨pre, q, rest, e1, e2, e3, e4⟩ := am_ctc_some hc
  unfold am_Tbl at hTb
  rw [e1] at hTb
  obtain ⟨es1, es2, f1, f2, f3⟩ := List.map_eq_append_iff.mp hTb
  obtain ⟨x, es3, g1, g2, g3⟩ := List.map_eq_cons_iff.mp f3
  have hkh := am_all am_kH hy
  rw [Bool.and_eq_true] at hkh
  have hq := List.all_eq_true.mp hkh.2 q (by rw [e1]; simp)
  rw [Bool.and_eq_true] at hq
  have q86 := am_beq hq.1
  have q13 := am_beq hq.2
  have hxc : x.catchType = 86 := by rw [← q86, ← g2]
  have hxh : x.handlerPc = hp := by rw [← e4, ← g2]
  obtain ⟨-, cell, c1, c2, c3, -⟩ := am_obj hO hi (by decide)
  have hT := C.2.2.2.2.2.1
  have hcl : ClassAt s (am_cn 12) cell.cls := by
    rw [c2]
    exact (hT.1.1 12 _ (am_cl 12 (by decide))).2
  have hown := C.2.2.2.1
  rw [q13] at hown
  have hk := k H locs rls hO hL
  rw [← hxh] at hk
  refine am_Wcatch hown es1 x es3 (by rw [f1, g1]) rfl (fun z hz => ?_) ?_ (by rw [hxc]; decide) (by rw [hxc]; exact C.2.2.2.2.1 _ am_lk86) c1 (fun k q => by rw [c3] at q; cases q) hcl hk
  · rw [am_cov]
    exact e2 (z.startPc, z.endPc, z.handlerPc, z.catchType) (by rw [← f2]; exact List.mem_map.mpr ⟨z, hz, rfl⟩)
  · rw [am_cov]
    rw [← g2] at e3
    exact e3
theorem am_k_callT {z d index a : Nat} {as rest : List Value} (C : am_Cx p s m args meth c D dA B0 ca y) (hz : am_Mk z) (hst : st = as.reverse ++ rest) (hlen : as.length = (am_in z).2.1) (hk : (am_in z).2.2.2 = 0)
    (hd : decode (am_by y) pc = .ok (.invokevirtual index, 3)) (hl : Cond.methodLink (am_cn (am_in y).1) index (am_nm z) ∈ am_big)
    (hcs : am_cs rest ≤ 8) (hrcv : am_rcv z as h = true) (hM : am_MetT l D dA B0 ca d z as h a h1) (hR : d + 1 ≤ R.frames ∧ 64 * (d + 1) ≤ R.locals)
    (hm : am_le h0 h) (hm1 : am_le h h1) (hcap : h1.1 - h0.1 ≤ R.cells ∧ h1.2.1 - h0.2.1 ≤ R.slots)
    (k : am_Wtp p l e R s m args below meth c Q D dA B0 ca y h0 pc ls a h1) : am_Wp p l e R s m args below meth c Q D dA B0 ca y h0 pc ls st h := by
  intro H locs rls hO hL
  have S : CallFix p m c (am_by y) (am_in y).2.2.1 s args am_big (am_cn (am_in y).1) := ⟨C.1, C.2.1, C.2.2.1, C.2.2.2.1, C.2.2.2.2.1⟩
  have hts := C.2.2.2.2.1
  have hT := C.2.2.2.2.2.1
  obtain ⟨m1, m2⟩ := hm
  obtain ⟨m3, m4⟩ := hm1
  have hf : h.1 - h0.1 + (h1.1 - h.1) ≤ R.cells ∧ h.2.1 - h0.2.1 + (h1.2.1 - h.2.1) ≤ R.slots := by
    obtain ⟨q5, q6⟩ := hcap
    exact ⟨by omega, by omega⟩
  have hstk := am_stk hst (am_ga (am_ad B0 ca))
  obtain ⟨z1, z2, z3, z4, z5, z6, z7, z8, z9, z10, z11, z12⟩ := id hz
  have hn : (am_in z).2.1 - (bif Nat.beq (am_in z).2.2.2 1 then 0 else 1) = (am_in z).2.1 - 1 := by rw [hk]; rfl
  have hkw : (Cond.instanceMethod (am_nm z)).before args s = true := by
    have q := hts _ z5
    unfold am_kw at q
    rw [hk] at q
    exact q
  have hrv : ∃ x as', as = .ref x :: as' ∧ am_isO h x (am_in z).1 = true := by
    unfold am_rcv at hrcv
    rw [hk] at hrcv
    cases as with
    | nil => cases hrcv
    | cons v as' => cases v <;> first | (exact ⟨_, _, rfl, hrcv⟩) | (cases hrcv)
  obtain ⟨x, as', rfl, hix⟩ := hrv
  have hsl := z10 (Or.inl hk)
  have hcell := am_recvC hT hO hix hsl.2
  rw [← z7] at hcell
  have hlen' : (as'.map (am_ga (am_ad B0 ca))).length = (am_in z).2.1 - 1 := by
    rw [List.length_map]
    have : as'.length + 1 = (am_in z).2.1 := hlen
    omega
  have hstk' : st.map (am_ga (am_ad B0 ca)) = (as'.map (am_ga (am_ad B0 ca))).reverse ++ .ref (am_ad B0 ca x) :: rest.map (am_ga (am_ad B0 ca)) := by
    rw [hstk]
    simp [am_ga]
  have hpre : PreV s H (am_nm z).cls (am_ad B0 ca x) (am_Pc D dA B0 ca (.ref x :: as') h) (as'.map (am_ga (am_ad B0 ca))) := ⟨am_blind, hcell, am_preU C hO rfl⟩
  have hr := am_runVT (C := (am_nm z).cls) (rest := rest.map (am_ga (am_ad B0 ca))) (below := below) (meth := meth) (e := e) (locs := locs) (g := F0 m pc rls (st.map (am_ga (am_ad B0 ca)))) S hM ⟨am_callB (h := h) (h1 := h1) hts hz (by omega) (hts _ hl) hn hR, hkw, hts _ hsl.1⟩ hpre rfl hlen' hL.2.1 hstk' (am_roomW hcs) hd hf
  intro T hTh X
  obtain ⟨v, st₀, t, T', L, e0, X', hL', e1, e2, ⟨q1, q2, q3, q4⟩, stp⟩ := hr T hTh X
  cases q1
  have hal : t.vm.Alike s.vm := by rw [← e2]; exact X'.warmed.alike.symm
  have hO' : am_Ok s D dA B0 ca h1 T'.heap (locs ++ L) := ⟨by rw [e1]; exact q2, by rw [e1]; exact q3.alike hal, by rw [e1]; exact q4.alike hal, fun q hq => (List.mem_append.mp hq).elim (hO.2.2.2 q) (hL' q)⟩
  have c1 : h.1 - h0.1 + (h1.1 - h.1) = h1.1 - h0.1 := by omega
  have c2 : h.2.1 - h0.2.1 + (h1.2.1 - h.2.1) = h1.2.1 - h0.2.1 := by omega
  rw [c1, c2] at X'
  obtain ⟨t2, a1, b1⟩ := k T'.heap (locs ++ L) rls (rest.map (am_ga (am_ad B0 ca))) hO' hL T' rfl X'
  exact ⟨t2, stp.trans a1, b1⟩
end AMT
def am_Snd (l : Launch) (D : va_G) (dA : Nat → ClassId) (B0 : Nat) (ca : Nat → Nat) (n : Nat) : Prop := ∀ (d y pc : Nat) (ls st : List Value) (h : am_H) (r : Option Value) (h' : am_H), am_run n d y pc ls st h = some (r, h') →
  ∀ (p : Program) (e : Env) (R : Room) (s : State) (m : MethodId) (args : Array Value) (below : List Frame) (meth : Method) (c : Code) (Q : State → Prop) (h0 : am_H), am_Cx p s m args meth c D dA B0 ca y → (y ≠ 0 → am_Tbl c y) → am_le h0 h → (d ≤ R.frames ∧ 64 * d ≤ R.locals) → (h'.1 - h0.1 ≤ R.cells ∧ h'.2.1 - h0.2.1 ≤ R.slots) →
  (∀ (pcR : Nat) (i : Instr) (H : Heap) (locs : List Loc) (rls : Array Slot), decode (am_by y) pcR = .ok (i, 1) → am_ret i (am_rt y) r → am_rtk i (am_rt y) → am_Ok s D dA B0 ca h' H locs → W p l e R s m args below meth c H locs (h'.1 - h0.1) (h'.2.1 - h0.2.1) Q (F0 m pcR rls (r.toList.map (am_ga (am_ad B0 ca))))) →
  (∀ (pcR a : Nat) (ls : List Value), r = some (.retAddr (a + 1)) → am_ctc (am_hh y) pcR = none → am_Wtp p l e R s m args below meth c Q D dA B0 ca y h0 pcR ls a h') →
  am_Wp p l e R s m args below meth c Q D dA B0 ca y h0 pc ls st h
section AMB
variable {l : Launch} {D : va_G} {dA : Nat → ClassId} {B0 : Nat} {ca : Nat → Nat}
theorem am_narB {rt : Option FieldType} {v : Int32} (h : am_rok rt v = true) : ∃ ty, rt = some ty ∧ narrow ty (.int v) = .int v := by
  unfold am_rok at h
  split at h
  · exact ⟨.int, rfl, rfl⟩
  · simp only [Bool.or_eq_true, beq_iff_eq] at h
    rcases h with rfl | rfl
    · exact ⟨.boolean, rfl, (by decide : narrow .boolean (.int 0) = .int 0)⟩
    · exact ⟨.boolean, rfl, (by decide : narrow .boolean (.int 1) = .int 1)⟩
  · cases h
/-- the table of handlers, as the words have it -/
theorem am_tblOf {z : Nat} {s : State} {args : Array Value} {m : MethodId} {meth : Method} {c : Code} (hz : am_Mk z) (hzl : z < am_NM) (hw : (am_cw z).before args s = true) (hn : s.methodNamed? (am_nm z) = some m) (hm : s.vm.method? m = some meth) (hc : meth.code = some c) : am_Tbl c z := by
  have hk := am_all am_kH hzl
  rw [Bool.and_eq_true] at hk
  unfold am_cw at hw
  cases h3 : Nat.beq (am_in z).2.2.2 3 with
  | true =>
    rw [h3] at hw
    obtain ⟨m', meth', c', n1, n2, n3, -, -, n4, -⟩ := Cond.codeWith_spec (show (Cond.codeWith (am_nm z) (am_by z) (am_in z).2.2.1 (am_rt z) (am_hh z)).before args s = true from hw)
    cases hn.symm.trans n1
    cases hm.symm.trans n2
    cases hc.symm.trans n3
    exact n4
  | false =>
    rw [h3] at hw
    obtain ⟨meth', c', n2, n3, -, -, -, -, n4, -⟩ := Cond.code_spec hn (show (Cond.code (am_nm z) (am_by z) (am_in z).2.2.1 (am_rt z)).before args s = true from hw)
    cases hm.symm.trans n2
    cases hc.symm.trans n3
    have h4 := hk.1
    rw [h3, Bool.false_or] at h4
    have e1 : am_hh z = [] := List.isEmpty_iff.mp h4
    have e2 : c.exceptionTable.toList = [] := by
      have := Array.isEmpty_iff.mp n4
      rw [this]
    unfold am_Tbl
    rw [e1, e2]
    rfl
theorem am_body {n d z : Nat} {as : List Value} {h h2 : am_H} {v : Option Value} (ih : am_Snd l D dA B0 ca n) (hz : am_Mk z) (hzl : z < am_NM) (q : am_run n d z 0 (am_ent as (am_in z).2.2.1) [] h = some (v, h2)) (hv0 : am_isT v = none) (hw : (am_wid as).length ≤ (am_in z).2.2.1)
    {p : Program} {e : Env} {s : State} {m : MethodId} {args : Array Value} {below : List Frame} {meth : Method} {c : Code} {s₁ : State} (B : BodyLoose p l (am_nm z) (headSpec (am_ws z) (am_rm d h h2)) (am_by z) (am_in z).2.2.1 (am_rt z) e s m args below meth c s₁) (hml : c.maxLocals = (am_in z).2.2.1) (hv : am_Pc D dA B0 ca as h args s) :
    W p l e (headSpec (am_ws z) (am_rm d h h2)).room s m args below meth c s.heap [] 0 0 (MQ below (am_Qc D dA B0 ca v h2) args s (h2.1 - h.1) (h2.2.1 - h.2.1) (fun q => B0 ≤ q)) (entryFrame m args (am_in z).2.2.1) := by
  obtain ⟨rfl, hR, hC, hSt, hT, hB⟩ := hv
  have hts0 := atoms_spec (ws := am_ws z) B.pre
  have hlocks := B.notSynchronized
  have hr := B.returns
  have hx := B.exec
  have hb := B.bytes
  obtain ⟨z1, z2, z3, z4, z5, z6, z7, z8, z9, z10, z11, z12⟩ := id hz
  have C : am_Cx p s m (as.map (am_ga (am_ad B0 ca))).toArray meth c D dA B0 ca z := ⟨hx, hb, hml, by rw [← z7]; exact findClass_of_methodNamed B.named, fun w hw => hts0 w (List.mem_cons_of_mem _ hw), hT, fun q => (name_of_methodNamed B.named B.method).1.trans (z11 q).1, hB⟩
  have hO : am_Ok s D dA B0 ca h s.heap [] := ⟨hR, hC, hSt, fun q hq => by cases hq⟩
  have hTb : am_Tbl c z := am_tblOf hz hzl (hts0 _ List.mem_cons_self) B.named B.method (Stand.of_body B).code
  rw [lg_entry_eq]
  have k := ih d z 0 (am_ent as (am_in z).2.2.1) [] h v h2 q p e (headSpec (am_ws z) (am_rm d h h2)).room s m (as.map (am_ga (am_ad B0 ca))).toArray below meth c (MQ below (am_Qc D dA B0 ca v h2) (as.map (am_ga (am_ad B0 ca))).toArray s (h2.1 - h.1) (h2.2.1 - h.2.1) (fun q => B0 ≤ q)) h C (fun _ => hTb) (am_le.rf h) ⟨Nat.le_refl _, Nat.le_refl _⟩ ⟨Nat.le_refl _, Nat.le_refl _⟩ (by
    intro pcR i H locs rls hd hret hrt hO'
    have hq : ∀ t : State, t.heap = H → s.WarmedH t.vm → am_Qc D dA B0 ca v h2 (as.map (am_ga (am_ad B0 ca))).toArray s (.returned (v.map (am_ga (am_ad B0 ca)))) t := fun t ht hW => ⟨rfl, (by rw [ht]; exact hO'.1), (by rw [ht]; exact hO'.2.1.warm hW), (by rw [ht]; exact hO'.2.2.1.warm hW)⟩
    rcases hret with ⟨rfl, x, rfl, hk⟩ | ⟨rfl, x, rfl⟩ | ⟨rfl, rfl | ⟨x, rfl⟩⟩ | ⟨rfl, rfl⟩
    · obtain ⟨ty, hty, hn⟩ := am_narB hk
      exact W.zret hx hb (hr.trans hty) hn hq hO'.2.2.2 hd
    · exact W.lret hx hb (hr.trans (hrt.1 rfl)) hq hO'.2.2.2 hd
    · rcases hrt.2.1 rfl with ⟨n, hn⟩ | ⟨t, hn⟩
      · exact W.aret hx hb (hr.trans hn) (Or.inl ⟨n, rfl⟩) (Or.inl rfl) hq hO'.2.2.2 hd
      · exact W.aret hx hb (hr.trans hn) (Or.inr ⟨t, rfl⟩) (Or.inl rfl) hq hO'.2.2.2 hd
    · rcases hrt.2.1 rfl with ⟨n, hn⟩ | ⟨t, hn⟩
      · exact W.aret hx hb (hr.trans hn) (Or.inl ⟨n, rfl⟩) (Or.inr ⟨_, rfl⟩) hq hO'.2.2.2 hd
      · exact W.aret hx hb (hr.trans hn) (Or.inr ⟨t, rfl⟩) (Or.inr ⟨_, rfl⟩) hq hO'.2.2.2 hd
    · exact W.vret hx hb (hr.trans (hrt.2.2 rfl)) hq hO'.2.2.2 hd) (by
    intro pcR a ls e1 _
    rw [e1] at hv0
    cases hv0)
  have k2 := k s.heap [] _ hO (am_entL hw)
  rw [Nat.sub_self, Nat.sub_self] at k2
  exact k2
theorem am_bodyT {n d z a : Nat} {as : List Value} {h h2 : am_H} (ih : am_Snd l D dA B0 ca n) (hz : am_Mk z) (hzl : z < am_NM) (q : am_run n d z 0 (am_ent as (am_in z).2.2.1) [] h = some (some (.retAddr (a + 1)), h2)) (hw : (am_wid as).length ≤ (am_in z).2.2.1)
    {p : Program} {e : Env} {s : State} {m : MethodId} {args : Array Value} {below : List Frame} {meth : Method} {c : Code} {s₁ : State} (B : BodyLoose p l (am_nm z) (headSpec (am_ws z) (am_rm d h h2)) (am_by z) (am_in z).2.2.1 (am_rt z) e s m args below meth c s₁) (hml : c.maxLocals = (am_in z).2.2.1) (hv : am_Pc D dA B0 ca as h args s) :
    W p l e (headSpec (am_ws z) (am_rm d h h2)).room s m args below meth c s.heap [] 0 0 (am_MQT below (am_QcT D dA B0 ca a h2) args s (h2.1 - h.1) (h2.2.1 - h.2.1) (fun q => B0 ≤ q)) (entryFrame m args (am_in z).2.2.1) := by
  obtain ⟨rfl, hR, hC, hSt, hT, hB⟩ := hv
  have hts0 := atoms_spec (ws := am_ws z) B.pre
  have hlocks := B.notSynchronized
  have hx := B.exec
  have hb := B.bytes
  obtain ⟨z1, z2, z3, z4, z5, z6, z7, z8, z9, z10, z11, z12⟩ := id hz
  have C : am_Cx p s m (as.map (am_ga (am_ad B0 ca))).toArray meth c D dA B0 ca z := ⟨hx, hb, hml, by rw [← z7]; exact findClass_of_methodNamed B.named, fun w hw => hts0 w (List.mem_cons_of_mem _ hw), hT, fun q => (name_of_methodNamed B.named B.method).1.trans (z11 q).1, hB⟩
  have hO : am_Ok s D dA B0 ca h s.heap [] := ⟨hR, hC, hSt, fun q hq => by cases hq⟩
  have hTb : am_Tbl c z := am_tblOf hz hzl (hts0 _ List.mem_cons_self) B.named B.method (Stand.of_body B).code
  rw [lg_entry_eq]
  have k := ih d z 0 (am_ent as (am_in z).2.2.1) [] h (some (.retAddr (a + 1))) h2 q p e (headSpec (am_ws z) (am_rm d h h2)).room s m (as.map (am_ga (am_ad B0 ca))).toArray below meth c (am_MQT below (am_QcT D dA B0 ca a h2) (as.map (am_ga (am_ad B0 ca))).toArray s (h2.1 - h.1) (h2.2.1 - h.2.1) (fun q => B0 ≤ q)) h C (fun _ => hTb) (am_le.rf h) ⟨Nat.le_refl _, Nat.le_refl _⟩ ⟨Nat.le_refl _, Nat.le_refl _⟩ (by
    intro pcR i H locs rls hd hret hrt hO'
    rcases hret with ⟨-, x, e1, -⟩ | ⟨-, x, e1⟩ | ⟨-, e1 | ⟨x, e1⟩⟩ | ⟨-, e1⟩ <;> cases e1) (by
    intro pcR a' ls e1 hn H locs rls stk hO' hL
    cases e1
    refine am_Wleave rfl rfl rfl (fun x hx => ?_) hlocks (fun t ht hW => ⟨rfl, (by rw [ht]; exact hO'.1), (by rw [ht]; exact hO'.2.1.warm hW), (by rw [ht]; exact hO'.2.2.1.warm hW)⟩) hO'.2.2.2
    rw [am_cov]
    exact am_ctc_none hn (x.startPc, x.endPc, x.handlerPc, x.catchType) (by unfold am_Tbl at hTb; rw [← hTb]; exact List.mem_map.mpr ⟨x, hx, rfl⟩))
  have k2 := k s.heap [] _ hO (am_entL hw)
  rw [Nat.sub_self, Nat.sub_self] at k2
  exact k2
theorem am_metT_of {n d z a : Nat} {as : List Value} {h h2 : am_H} (ih : am_Snd l D dA B0 ca n) (hz : am_Mk z) (hzl : z < am_NM) (hk : (am_in z).2.2.2 = 0) (q : am_run n d z 0 (am_ent as (am_in z).2.2.1) [] h = some (some (.retAddr (a + 1)), h2)) (hw : (am_wid as).length ≤ (am_in z).2.2.1) : am_MetT l D dA B0 ca d z as h a h2 := by
  have hcw : am_ws z = .code (am_nm z) (am_by z) (am_in z).2.2.1 (am_rt z) :: am_big := by
    unfold am_ws am_cw
    rw [hk]
    rfl
  exact am_MT.ofW (cc := am_by z) (maxL := (am_in z).2.2.1) (ret := am_rt z) hz.1 hcw (fun p e s m args below meth c s₁ B hml hv => am_bodyT ih hz hzl q hw B hml hv)
theorem am_met_of {n d z : Nat} {as : List Value} {h h2 : am_H} {v : Option Value} (ih : am_Snd l D dA B0 ca n) (hz : am_Mk z) (hzl : z < am_NM) (hv0 : am_isT v = none) (q : am_run n d z 0 (am_ent as (am_in z).2.2.1) [] h = some (v, h2)) (hw : (am_wid as).length ≤ (am_in z).2.2.1) : am_Met l D dA B0 ca d z as h v h2 := by
  unfold am_Met
  by_cases h3 : (am_in z).2.2.2 = 3
  · have hcw : am_ws z = .codeWith (am_nm z) (am_by z) (am_in z).2.2.1 (am_rt z) (am_hh z) :: am_big := by
      unfold am_ws am_cw
      rw [h3]
      rfl
    exact va_MetW (cc := am_by z) (maxL := (am_in z).2.2.1) (ret := am_rt z) (hh := am_hh z) hz.1 hcw (fun p e s m args below meth c s₁ B hml hv => am_body ih hz hzl q hv0 hw B hml hv)
  · have hcw : am_ws z = .code (am_nm z) (am_by z) (am_in z).2.2.1 (am_rt z) :: am_big := by
      unfold am_ws am_cw
      have : Nat.beq (am_in z).2.2.2 3 = false := by
        cases hh : Nat.beq (am_in z).2.2.2 3 with
        | false => rfl
        | true => exact absurd (am_beq hh) h3
      rw [this]
      rfl
    exact Met.ofW (cc := am_by z) (maxL := (am_in z).2.2.1) (ret := am_rt z) hz.1 hcw (fun p e s m args below meth c s₁ B hml hv => am_body ih hz hzl q hv0 hw B hml hv)
theorem am_sound (n : Nat) : am_Snd l D dA B0 ca n := by
  induction n with
  | zero => intro d y pc ls st h r h' q; cases q
  | succ n ih =>
    intro d y pc ls st h r h' q p e R s m args below meth c Q h0 C hTb hm hR hcap hE hX
    have hy0 := am_run_lt q
    have thr : ∀ (a : Nat) (h1 : am_H), am_le h0 h1 → am_thr (am_run n) d y pc ls a h1 = some (r, h') → am_Wtp p l e R s m args below meth c Q D dA B0 ca y h0 pc ls a h1 := by
      intro a h1 hm1 qt
      obtain ⟨hi, hy1, ⟨hp, hc, q2⟩ | ⟨hc, er, eh⟩⟩ := am_thr_inv qt
      · exact am_k_catch C (hTb (by omega)) hy0 hc hi (ih _ _ _ _ _ _ _ _ q2 p e R s m args below meth c Q h0 C hTb hm1 hR hcap hE hX)
      · rw [← eh]
        exact hX pc a ls er hc
    rw [am_run_s] at q
    obtain ⟨en, ⟨hy, hpc, hc⟩, hcase⟩ := am_one_inv q
    have hp := am_pcs hy hpc
    obtain ⟨hn, hd, hce⟩ := am_chP_use hc hp
    rcases hcase with ⟨hret, hst, rfl⟩ | ⟨hi, q⟩ | ⟨pc', ls', st', h1, q1, q2⟩ | ⟨hi, a, rr, hst, q⟩ | ⟨idx, i, kk, hi, hsr, q⟩
    · have h1 : en.2.1 = 1 := by
        rcases hret with ⟨e1, -⟩ | ⟨e1, -⟩ | ⟨e1, -⟩ | ⟨e1, -⟩ <;> (rw [e1] at hn; exact hn)
      rw [h1] at hd
      intro H locs rls hO hL
      rw [hst]
      exact hE pc en.1 H locs rls hd hret (am_rtk_of hc (am_rts hy hpc)) hO
    · have h3 : en.2.1 = 3 := by
        rcases hi with ⟨x, e1⟩ | ⟨x, e1⟩ | ⟨x, e1⟩ <;> (rw [e1] at hn; exact hn)
      rw [h3] at hd
      obtain ⟨index, hcc⟩ := am_chC hi hce
      rcases am_cal_or q with q | q
      · obtain ⟨d', rfl, ⟨k, rr, hst, hk, hcs, hd2, hM, q⟩ | ⟨j, k, rr, hst, hk, hcs, hd2, hM, hj0, hj1, q⟩⟩ := am_cas_inv q
        · have hle : am_le h h' := am_le.run _ _ _ _ _ _ _ _ _ q
          have hcaph : h.1 - h0.1 ≤ R.cells ∧ h.2.1 - h0.2.1 ≤ R.slots := by
            obtain ⟨a1, a2⟩ := hle
            obtain ⟨a3, a4⟩ := hcap
            exact ⟨by omega, by omega⟩
          obtain ⟨idx, hin, hl⟩ := am_sM_len hM
          rw [hin] at hd
          exact am_k_len C hst hd hl hk hcs ⟨by have := hR.1; omega, by have := hR.2; omega⟩ hm hcaph (ih _ _ _ _ _ _ _ _ q p e R s m args below meth c Q h0 C hTb hm hR hcap hE hX)
        · have hle : am_le h h' := am_le.run _ _ _ _ _ _ _ _ _ q
          have hcaph : h.1 - h0.1 ≤ R.cells ∧ h.2.1 - h0.2.1 ≤ R.slots := by
            obtain ⟨a1, a2⟩ := hle
            obtain ⟨a3, a4⟩ := hcap
            exact ⟨by omega, by omega⟩
          obtain ⟨idx, hin, hl⟩ := am_sM_chr hM
          rw [hin] at hd
          exact am_k_chr C hst hd hl hk hj0 hj1 hcs ⟨by have := hR.1; omega, by have := hR.2; omega⟩ hm hcaph (ih _ _ _ _ _ _ _ _ q p e R s m args below meth c Q h0 C hTb hm hR hcap hE hX)
      obtain ⟨d', rfl, hcal⟩ := am_cal_inv q
      have hR1 : 1 ≤ R.frames ∧ 64 ≤ R.locals := ⟨by have := hR.1; omega, by have := hR.2; omega⟩
      have hle : am_le h h' := am_le.run (n + 1) _ _ _ _ _ _ _ _ (by rw [am_run_s]; assumption)
      have hcaph : h.1 - h0.1 ≤ R.cells ∧ h.2.1 - h0.2.1 ≤ R.slots := by
        obtain ⟨a1, a2⟩ := hle
        obtain ⟨a3, a4⟩ := hcap
        exact ⟨by omega, by omega⟩
      rcases hcal with ⟨ez, x, rr, hst, hcs, q⟩ | ⟨ez, nn, dp, b, sp, a, rr, h2, hst, hcs, hcp, q⟩ | ⟨ez, x, rr, hst, hcs, hix, hd3, q⟩ | ⟨ez, a, b, rr, hst, hcs, hb0, q⟩ | ⟨ez, a, b, rr, hst, hcs, hb0, q⟩ | ⟨n0, n1, n2, n3, n4, hpos, as, rr, v, h2, hst, hlen, hcs, hrcv, hw, q1, q2⟩
      · rcases hcc with ⟨-, hin, hl⟩ | ⟨ez2, -⟩ | ⟨ez2, -⟩ | ez2 | ⟨ez2, -⟩
        · rw [hin] at hd
          exact am_k_obj C hst hd hl hcs hR1 (ih _ _ _ _ _ _ _ _ q p e R s m args below meth c Q h0 C hTb hm hR hcap hE hX)
        · omega
        · omega
        · omega
        · rw [ez] at ez2; exact absurd ez2 (by decide)
      · rcases hcc with ⟨ez2, -⟩ | ⟨-, hin, hl⟩ | ⟨ez2, -⟩ | ez2 | ⟨ez2, -⟩
        · omega
        · rw [hin] at hd
          exact am_k_copy C hst hd hl hcs hcp hR1 (ih _ _ _ _ _ _ _ _ q p e R s m args below meth c Q h0 C hTb (hm.tr (am_le.cp hcp)) hR hcap hE hX)
        · omega
        · omega
        · rw [ez] at ez2; exact absurd ez2 (by decide)
      · rcases hcc with ⟨ez2, -⟩ | ⟨ez2, -⟩ | ⟨-, hin, hl⟩ | ez2 | ⟨ez2, -⟩
        · omega
        · omega
        · rw [hin] at hd
          have hR4 : 4 ≤ R.frames ∧ 256 ≤ R.locals := ⟨by have := hR.1; omega, by have := hR.2; omega⟩
          exact am_k_stop C hst hd hl hcs hix hR4 hm hcaph (ih _ _ _ _ _ _ _ _ q p e R s m args below meth c Q h0 C hTb ⟨hm.1, hm.2⟩ hR hcap hE hX)
        · omega
        · rw [ez] at ez2; exact absurd ez2 (by decide)
      · rcases hcc with ⟨ez2, -⟩ | ⟨ez2, -⟩ | ⟨ez2, -⟩ | ez2 | ⟨ez2, hk, hl⟩
        · omega
        · omega
        · omega
        · omega
        · rw [ez] at hk hl
          have k := ih _ _ _ _ _ _ _ _ q p e R s m args below meth c Q h0 C hTb hm hR hcap hE hX
          rcases hk with ⟨hin, -⟩ | ⟨-, hk⟩ | ⟨-, hk⟩
          · rcases hl with hl | ⟨hb1, -⟩
            · rw [hin] at hd
              intro H locs rls hO hL
              rw [hst]
              have hts := C.2.2.2.2.1
              have hw := am_cs_map (am_ad B0 ca) rr
              exact va_mmax C.1 C.2.1 (C.2.2.1.trans hL.2.1.symm) C.2.2.2.1 (hts _ hl) (hts _ am_mx1) (hts _ am_mm0) (hts _ am_mx2) hR1.1 (by rw [hw]; have := hR1.2; omega) hcaph.1 hcaph.2 hd (k H locs rls hO hL)
            · omega
          · exact absurd hk (by decide)
          · exact absurd hk (by decide)
      · rcases hcc with ⟨ez2, -⟩ | ⟨ez2, -⟩ | ⟨ez2, -⟩ | ez2 | ⟨ez2, hk, hl⟩
        · omega
        · omega
        · omega
        · omega
        · rw [ez] at hk hl
          have k := ih _ _ _ _ _ _ _ _ q p e R s m args below meth c Q h0 C hTb hm hR hcap hE hX
          rcases hk with ⟨hin, -⟩ | ⟨-, hk⟩ | ⟨-, hk⟩
          · rcases hl with hl | ⟨hb1, -⟩
            · rw [hin] at hd
              intro H locs rls hO hL
              rw [hst]
              have hts := C.2.2.2.2.1
              have hw := am_cs_map (am_ad B0 ca) rr
              exact va_mmin C.1 C.2.1 (C.2.2.1.trans hL.2.1.symm) C.2.2.2.1 (hts _ hl) (hts _ am_mn1) (hts _ am_mm0) (hts _ am_mn2) hR1.1 (by rw [hw]; have := hR1.2; omega) hcaph.1 hcaph.2 hd (k H locs rls hO hL)
            · omega
          · exact absurd hk (by decide)
          · exact absurd hk (by decide)
      · have hzlt := am_run_lt q1
        have hz := am_mk_of hpos hzlt n3 n4
        rcases hcc with ⟨ez2, -⟩ | ⟨ez2, -⟩ | ⟨ez2, -⟩ | ez2 | ⟨-, hk, hl⟩
        · omega
        · omega
        · omega
        · have : en.2.2.2.1 < 264 := hzlt
          omega
        · have l1 := am_le.run _ _ _ _ _ _ _ _ _ q1
          rcases q2 with ⟨hv0, q2⟩ | ⟨a, hva, hk0, q2⟩
          · have l2 := am_le.run _ _ _ _ _ _ _ _ _ q2
            refine am_k_call C hz hst hlen hk hd (hl.imp id And.right) hcs hrcv (am_met_of ih hz hzlt hv0 q1 hw) hR hm l1 ?_ (ih _ _ _ _ _ _ _ _ q2 p e R s m args below meth c Q h0 C hTb (hm.tr l1) hR hcap hE hX)
            obtain ⟨a1, a2⟩ := l2
            obtain ⟨a3, a4⟩ := hcap
            exact ⟨by omega, by omega⟩
          · have hva := am_isT_spec hva
            subst hva
            have l2 := am_le.thr (am_le.run n) q2
            have hin : en.1 = .invokevirtual index := by
              rcases hk with ⟨-, z⟩ | ⟨z, -⟩ | ⟨-, z⟩
              · omega
              · exact z
              · omega
            have hl2 : Cond.methodLink (am_cn (am_in y).1) index (am_nm en.2.2.2.1) ∈ am_big := by
              rcases hl with z | ⟨-, z, -⟩
              · exact z
              · omega
            rw [hin] at hd
            refine am_k_callT C hz hst hlen hk0 hd hl2 hcs hrcv (am_metT_of ih hz hzlt hk0 q1 hw) hR hm l1 ?_ (thr a h2 (hm.tr l1) q2)
            obtain ⟨a1, a2⟩ := l2
            obtain ⟨a3, a4⟩ := hcap
            exact ⟨by omega, by omega⟩
    · have l2 := am_le.run _ _ _ _ _ _ _ _ _ q2
      refine am_step C hc hp q1 hm ?_ (ih _ _ _ _ _ _ _ _ q2 p e R s m args below meth c Q h0 C hTb (hm.tr (am_le.st q1)) hR hcap hE hX)
      obtain ⟨a1, a2⟩ := l2
      obtain ⟨a3, a4⟩ := hcap
      exact ⟨by omega, by omega⟩
    · have h1 : en.2.1 = 1 := by rw [hi] at hn; exact hn
      rw [h1, hi] at hd
      intro H locs rls hO hL
      rw [hst]
      exact am_Wathrow C.1 C.2.1 rfl rfl hd (thr a h hm q H locs rls (rr.map (am_ga (am_ad B0 ca))) hO hL)
    · have k := ih _ _ _ _ _ _ _ _ q p e R s m args below meth c Q h0 C hTb hm hR hcap hE hX
      rcases hi with ⟨hi, rfl⟩ | ⟨hi, rfl⟩
      · have h1 : en.2.1 = 2 := by rw [hi] at hn; exact hn
        rw [h1, hi] at hd
        exact am_k_lds C hsr hd k
      · have h1 : en.2.1 = 3 := by rw [hi] at hn; exact hn
        rw [h1, hi] at hd
        exact am_k_ldsw C hsr hd k
end AMB
end
section
/-! THE CLAIM OUT OF ONE WALK OF THE LAW'S BODY. Your part is whole_start (and what it stands on); all else here is the same for every law, but numbers. -/
def R_law : String := "PoetsBookLaw"
def lw_P (b : Addr) (xs : List Int32) (args : Array Value) (s : State) : Prop := args = #[.ref b] ∧ s.IntsAt b xs ∧ xs.length ≤ 3072 ∧ (Jvm.Cond.and given_1 narrow_1).before args s = true
def lw_Q (_ : Array Value) (s : State) (o : Outcome) (t : State) : Prop := o = .returned (some (.int 1)) ∧ Framed s o t [] 601024 7293034
def lw_Z (below : List Frame) (a : Array Value) (s : State) : State → Prop := fun t => ∃ o, t.status = .running ∧ Ended t below o ∧ lw_Q a s o t
/-- the law's own end, with 1 on the stack, nothing written that was there before, its room as the claim has it -/
theorem lw_ret {p : Program} {l : Launch} {e : Env} {s : State} {m : MethodId} {below : List Frame} {meth : Method} {c : Code} {b : Nat} (hx : p.tables.exec = Jvm.exec) (hb : c.code = code) (hr : meth.sig.returnType = ret) (hlocks : meth.locks = false) {pc : Nat} {H : Heap} {ls : Array Slot} (hdg : decode code pc = .ok (.ireturn, 1)) : W p l e room_1 s m #[Value.ref b] below meth c H [] 601024 7293034 (lw_Z below #[Value.ref b] s) (F0 m pc ls [.int 1]) := by
  intro T hT X
  obtain ⟨fs, hret, hrun, hended, hW, hframe⟩ := X.leave (v := some (.int 1)) (hlocks := hlocks) (fun h => by rw [hr] at h; cases h)
  have hmeth' : T.vm.method? m = some meth := X.method'
  refine ⟨T.setFrames fs, ?_, .returned (some (.int 1)), hrun, hended, rfl, ⟨_, rfl⟩, hW, hframe⟩
  jvm_step X.here [X.here.top, hx, hb, hdg, hmeth', hr, ret, narrow_b1]
  (try refine ⟨rfl, ?_⟩); (try refine ⟨rfl, ?_⟩)
  first | (intro acts; rw [hret _ acts rfl rfl rfl]) | rw [hret _ _ rfl rfl rfl]
  exact Steps.refl _
/-- what holds at the law's entry: the machine, the code, the tables' words (any of lw_tbl by 'hts w (by decide +kernel)'), the script of L ints xs at the cell b, what the Statement gives of the start (any of its parts by flat_of_before) -/
def lw_At (p : Program) (s : State) (m : MethodId) (meth : Method) (c : Code) (b L : Nat) (xs : Nat → Int32) : Prop :=
  p.tables.exec = Jvm.exec ∧ c.code = code ∧ meth.sig.returnType = ret ∧ c.maxLocals = 4 ∧ s.vm.findClass R_law = some m.cls ∧ (∀ w ∈ lw_tbl, w.before #[Value.ref b] s = true) ∧ va_X b L xs s s.heap ∧ b < s.heap.size ∧ meth.locks = false ∧ (Jvm.Cond.and given_1 narrow_1).before #[Value.ref b] s = true
end
