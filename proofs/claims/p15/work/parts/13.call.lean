/-! CALLS -/
theorem am_Con.alike {B0 : Nat} {ca : Nat → Nat} {h : am_H} {s U : State} {H : Heap} (hW : s.vm.Alike U.vm) (hC : am_Con B0 ca h s H) : am_Con B0 ca h U H :=
  fun k hk => ⟨(hC k hk).1, (hC k hk).2.1, fun h2 => ⟨((hC k hk).2.2 h2).1, ((hC k hk).2.2 h2).2.moved hW⟩⟩
theorem am_Sta.alike {B0 : Nat} {ca : Nat → Nat} {s U : State} {H : Heap} (hW : s.vm.Alike U.vm) (hC : am_Sta B0 ca s H) : am_Sta B0 ca U H := by
  obtain ⟨h1, ⟨v, h2, h3⟩, ⟨w, h4, h5⟩, h6⟩ := hC
  exact ⟨fun k a b => (h1 k a b).moved hW, ⟨v, h2, h3.moved hW⟩, ⟨w, h4, h5.moved hW⟩, h6.moved hW⟩
def am_ws (z : Nat) : List Cond := am_cw z :: am_big
def am_Pc (D : va_G) (dA : Nat → ClassId) (B0 : Nat) (ca : Nat → Nat) (as : List Value) (h : am_H) : Array Value → State → Prop :=
  va_Pc (as.map (am_ga (am_ad B0 ca))) (fun U => am_Rep D dA B0 ca h U.heap ∧ am_Con B0 ca h U U.heap ∧ am_Sta B0 ca U U.heap ∧ am_Tab D dA ca U ∧ B0 ≤ U.heap.size)
def am_Qc (D : va_G) (dA : Nat → ClassId) (B0 : Nat) (ca : Nat → Nat) (r : Option Value) (h' : am_H) : Array Value → State → Outcome → State → Prop :=
  fun _ _ o t => o = .returned (r.map (am_ga (am_ad B0 ca))) ∧ am_Rep D dA B0 ca h' t.heap ∧ am_Con B0 ca h' t t.heap ∧ am_Sta B0 ca t t.heap
def am_rm (d : Nat) (h h' : am_H) : Room := { frames := d, cells := h'.1 - h.1, slots := h'.2.1 - h.2.1, locals := 64 * d }
def am_Met (l : Launch) (D : va_G) (dA : Nat → ClassId) (B0 : Nat) (ca : Nat → Nat) (d z : Nat) (as : List Value) (h : am_H) (r : Option Value) (h' : am_H) : Prop :=
  Met l (am_nm z) (am_ws z) (am_rm d h h') (am_Pc D dA B0 ca as h) (am_Qc D dA B0 ca r h') (h'.1 - h.1) (h'.2.1 - h.2.1) (fun q => B0 ≤ q)
theorem am_blind {D : va_G} {dA : Nat → ClassId} {B0 : Nat} {ca : Nat → Nat} {as : List Value} {h : am_H} : FrameBlind (am_Pc D dA B0 ca as h) := by
  intro a U g mk q
  obtain ⟨q0, q1, q2, q3, q4, q5⟩ := q
  exact ⟨q0, q1, am_Con.alike (s := U) (U := U.calling g mk a) (Vm.Alike.refl U.vm) q2, am_Sta.alike (s := U) (U := U.calling g mk a) (Vm.Alike.refl U.vm) q3, am_Tab.warm (s := U) (U := U.calling g mk a) (State.WarmedH.refl U) q4, q5⟩
theorem am_cnm_eq {z : Nat} (hz : z < am_NM) : am_cnm z = am_nm z := by
  have hz : z < 264 := hz
  have f : ∀ k : Nat, 264 ≤ k → Nat.beq z k = false := by
    intro k hk
    cases h : Nat.beq z k with
    | false => rfl
    | true => exact absurd (am_beq h) (by omega)
  unfold am_cnm
  rw [f 1000 (by omega), f 1001 (by omega), f 1002 (by omega), f 1003 (by omega), f 1004 (by omega)]
  rfl
/-- what the tables say of a method -/
theorem am_mth {z : Nat} (h1 : 1 ≤ z) (h2 : z < am_NM) : am_chM z = true := by
  have h2 : z < 264 := h2
  have key : ∀ (n b : Nat), ((List.range n).all fun k => am_chM (b + k)) = true → b ≤ z → z < b + n → am_chM z = true := by
    intro n b hh q1 q2
    have := List.all_eq_true.mp hh (z - b) (List.mem_range.mpr (by omega))
    rwa [show b + (z - b) = z by omega] at this
  rcases Nat.lt_or_ge z 45 with q | q
  · exact key _ _ am_kM0 h1 (by omega)
  rcases Nat.lt_or_ge z 89 with q2 | q2
  · exact key _ _ am_kM1 q (by omega)
  rcases Nat.lt_or_ge z 133 with q3 | q3
  · exact key _ _ am_kM2 q2 (by omega)
  rcases Nat.lt_or_ge z 177 with q4 | q4
  · exact key _ _ am_kM3 q3 (by omega)
  rcases Nat.lt_or_ge z 221 with q5 | q5
  · exact key _ _ am_kM4 q4 (by omega)
  exact key _ _ am_kM5 q5 (by omega)
theorem am_pn : ∀ k, k < 19 → k ≠ 15 → plainName (am_cn k) = true ∧ am_cn k ≠ "java/lang/invoke/MethodHandle" ∧ am_cn k ≠ "java/lang/invoke/VarHandle" := by decide +kernel
theorem am_k15 : ((List.range 264).all fun z => !(Nat.beq (am_in z).1 15) || Nat.beq z 10 || Nat.beq z 57) = true := by decide +kernel
theorem am_n15 {z : Nat} (h2 : z < am_NM) (h3 : z ≠ 10) (h4 : z ≠ 57) : (am_in z).1 ≠ 15 := by
  intro q
  have h := List.all_eq_true.mp am_k15 z (List.mem_range.mpr h2)
  rw [q] at h
  simp only [Bool.or_eq_true, Bool.not_eq_true'] at h
  rcases h with (h | h) | h
  · cases h
  · exact h3 (am_beq h)
  · exact h4 (am_beq h)
/-- a method of the tables: its numbers and its words -/
def am_Mk (z : Nat) : Prop :=
  plainName (am_nm z).cls = true ∧ ((am_nm z).cls ≠ "java/lang/invoke/MethodHandle" ∧ (am_nm z).cls ≠ "java/lang/invoke/VarHandle") ∧ (parseMethodDescriptor (am_nm z).desc).map (fun d => d.parameters.length) = some ((am_in z).2.1 - (bif Nat.beq (am_in z).2.2.2 1 then 0 else 1)) ∧
  am_cw z ∈ am_big ∧ am_kw z ∈ am_big ∧ Cond.initialized (am_nm z).cls ∈ am_big ∧ (am_nm z).cls = am_cn (am_in z).1 ∧ (am_in z).2.2.1 ≤ 40 ∧ (am_in z).2.2.2 ≤ 3 ∧
  (((am_in z).2.2.2 = 0 ∨ (am_in z).2.2.2 = 3) → Cond.selects (am_nm z).cls (am_nm z) (am_nm z) ∈ am_big ∧ (am_in z).1 < 14) ∧ ((am_in z).2.2.2 = 2 → (am_nm z).name = "<init>" ∧ am_rt z = none) ∧ ((am_in z).2.2.2 ≠ 1 → 1 ≤ (am_in z).2.1)
theorem am_mk_of {z : Nat} (h1 : 1 ≤ z) (h2 : z < am_NM) (h3 : z ≠ 10) (h4 : z ≠ 57) : am_Mk z := by
  have h := am_mth h1 h2
  unfold am_chM at h
  simp only [Bool.and_eq_true] at h
  obtain ⟨⟨⟨⟨⟨⟨⟨⟨⟨⟨a1, a2⟩, a3⟩, a4⟩, a5⟩, a6⟩, a7⟩, a8⟩, a9⟩, a10⟩, a11⟩ := h
  have hcn := am_mN h1 h2
  obtain ⟨p1, p2, p3⟩ := am_pn _ (am_blt a6) (am_n15 h2 h3 h4)
  have gw : ∀ w : Cond, am_isN w = false → True := fun _ _ => trivial
  refine ⟨by rw [hcn]; exact p1, ⟨by rw [hcn]; exact p2, by rw [hcn]; exact p3⟩, of_decide_eq_true a7, ?_, ?_, ?_, hcn, Nat.le_of_ble_eq_true a9, Nat.le_of_ble_eq_true a10, ?_, ?_, ?_⟩
  · refine am_big_of ?_ ?_
    · rw [← am_mC h1 h2]; exact am_wt_in (am_blt a1)
    · unfold am_cw
      cases Nat.beq (am_in z).2.2.2 3 <;> rfl
  · refine am_big_of ?_ ?_
    · rw [← am_mK h1 h2]; exact am_wt_in (am_blt a2)
    · unfold am_kw
      cases Nat.beq (am_in z).2.2.2 1 <;> rfl
  · refine am_big_of ?_ rfl
    rw [← am_mI h1 h2]; exact am_wt_in (am_blt a4)
  · intro q
    have hq : (Nat.beq (am_in z).2.2.2 0 || Nat.beq (am_in z).2.2.2 3) = true := by
      rcases q with q | q <;> rw [q] <;> rfl
    rw [hq] at a5
    refine ⟨am_big_of ?_ rfl, am_blt a5⟩
    have hs := am_mS h1 h2
    unfold am_sw at hs
    rw [hq] at hs
    have hs : am_wt (am_wd z).2.2.1 = .selects (am_nm z).cls (am_nm z) (am_nm z) := hs
    rw [← hs]; exact am_wt_in (am_blt a3)
  · intro q
    have hq : Nat.beq (am_in z).2.2.2 2 = true := by rw [q]; rfl
    rw [hq] at a8
    have hv := am_mV h1 h2
    rw [hq] at hv
    exact ⟨hv, of_decide_eq_true a8⟩
  · intro q
    have hq : Nat.beq (am_in z).2.2.2 1 = false := by
      cases hh : Nat.beq (am_in z).2.2.2 1 with
      | false => rfl
      | true => exact absurd (am_beq hh) q
    rw [hq] at a11
    exact Nat.le_of_ble_eq_true a11
theorem am_good {z : Nat} (h : am_Mk z) : GoodIn am_big (am_ws z) := by
  intro w hw
  have hb : w ∈ am_big := by
    rcases List.mem_cons.mp hw with q | q
    · rw [q]; exact h.2.2.2.1
    · exact q
  exact ⟨hb, good_of_word (List.mem_filter.mp hb).2⟩
section AMC
variable {p : Program} {l : Launch} {e : Env} {R : Room} {s : State} {m : MethodId} {args : Array Value} {below : List Frame} {meth : Method} {c : Code} {Q : State → Prop} {D : va_G} {dA : Nat → ClassId} {B0 : Nat} {ca : Nat → Nat} {y : Nat} {h0 : am_H} {pc : Nat} {ls st : List Value} {h h1 : am_H} {H : Heap} {locs : List Loc} {rls : Array Slot}
theorem am_preU {as : List Value} (C : am_Cx p s m args meth c D dA B0 ca y) (hO : am_Ok s D dA B0 ca h H locs) {vs : List Value} (hv : vs = as.map (am_ga (am_ad B0 ca))) : ∀ U : State, U.heap = H → s.WarmedH U.vm → am_Pc D dA B0 ca as h vs.toArray U := by
  intro U hU hW
  subst hU
  refine ⟨by rw [hv], hO.1, hO.2.1.warm hW, hO.2.2.1.warm hW, C.2.2.2.2.2.1.warm hW, ?_⟩
  rw [hO.1.2.1]
  omega
theorem am_after {r : Option Value} {rest rest' st0 : List Value} {av : Array Value} (hr : va_Run p l e R s m args below meth c H locs (h.1 - h0.1) (h.2.1 - h0.2.1) (h1.1 - h.1) (h1.2.1 - h.2.1) (F0 m pc rls st0) rest' (am_Qc D dA B0 ca r h1 av) (fun q => B0 ≤ q)) (hO : am_Ok s D dA B0 ca h H locs) (hm : h0.1 ≤ h.1 ∧ h0.2.1 ≤ h.2.1) (hm1 : h.1 ≤ h1.1 ∧ h.2.1 ≤ h1.2.1) (hL : am_LR (am_ad B0 ca) rls (am_in y).2.2.1 ls) (hrest : rest' = rest.map (am_ga (am_ad B0 ca))) (k : am_Wp p l e R s m args below meth c Q D dA B0 ca y h0 (pc + 3) ls (r.toList ++ rest) h1) : W p l e R s m args below meth c H locs (h.1 - h0.1) (h.2.1 - h0.2.1) Q (F0 m pc rls st0) := by
  intro T hT X
  obtain ⟨v, st₀, t, T', L, e0, X', hL', e1, e2, ⟨q1, q2, q3, q4⟩, stp⟩ := hr T hT X
  cases q1
  have hal : t.vm.Alike s.vm := by rw [← e2]; exact X'.warmed.alike.symm
  have hO' : am_Ok s D dA B0 ca h1 T'.heap (locs ++ L) := ⟨by rw [e1]; exact q2, by rw [e1]; exact q3.alike hal, by rw [e1]; exact q4.alike hal, fun q hq => (List.mem_append.mp hq).elim (hO.2.2.2 q) (hL' q)⟩
  have hk := k T'.heap (locs ++ L) rls hO' hL
  have c1 : h.1 - h0.1 + (h1.1 - h.1) = h1.1 - h0.1 := by omega
  have c2 : h.2.1 - h0.2.1 + (h1.2.1 - h.2.1) = h1.2.1 - h0.2.1 := by omega
  rw [c1, c2] at X'
  obtain ⟨t2, a1, b1⟩ := hk T' rfl X'
  refine ⟨t2, stp t2 ?_, b1⟩
  have e3 : (r.toList ++ rest).map (am_ga (am_ad B0 ca)) = (r.map (am_ga (am_ad B0 ca))).toList ++ rest' := by
    rw [hrest, List.map_append]
    cases r <;> rfl
  rw [e3] at a1
  exact a1
theorem am_roomW {rest : List Value} (h : am_cs rest ≤ 8) : 2 * (F0 m pc rls st).monitorRoom + (((rest.map (am_ga (am_ad B0 ca)))).map fun v => v.category).sum ≤ 8 := by
  rw [am_cs_map]
  exact lv_room (m := m) (pc := pc) (ls := rls) (rest := st) (st := rest) h
/-- the method that is called: its cells and what it may use -/
theorem am_callB {z d n index : Nat} {own : String} (hts : ∀ w ∈ am_big, w.before args s = true) (hz : am_Mk z) (h3 : (am_in z).2.2.2 ≠ 3) (hl : (Cond.methodLink own index (am_nm z)).before args s = true) (hn : (am_in z).2.1 - (bif Nat.beq (am_in z).2.2.2 1 then 0 else 1) = n) (hR : d + 1 ≤ R.frames ∧ 64 * (d + 1) ≤ R.locals) : CallB R s args own index (am_nm z) (am_by z) (am_in z).2.2.1 (am_rt z) (am_ws z) (am_rm d h h1) (h1.1 - h.1) (h1.2.1 - h.2.1) n := by
  obtain ⟨z1, z2, z3, z4, z5, z6, z7, z8, z9, z10, z11, z12⟩ := id hz
  have hcw : am_cw z = .code (am_nm z) (am_by z) (am_in z).2.2.1 (am_rt z) := by
    unfold am_cw
    have : Nat.beq (am_in z).2.2.2 3 = false := by
      cases hh : Nat.beq (am_in z).2.2.2 3 with
      | false => rfl
      | true => exact absurd (am_beq hh) h3
    rw [this]
    rfl
  refine callB_of n hts (am_good hz) (ws' := am_big) (by rw [am_ws, hcw]) rfl rfl (hts _ z6) hl ⟨z2.1, z2.2, by rw [z3, hn]⟩ ⟨hR.1, ?_⟩
  show 8 + ((am_in z).2.2.1 + 11) + 64 * d ≤ R.locals
  omega
theorem am_callN {z d n index : Nat} {own : String} (hts : ∀ w ∈ am_big, w.before args s = true) (hz : am_Mk z) (h3 : (am_in z).2.2.2 ≠ 3) (hl : va_Nw (.methodLinkNest own index (am_nm z) "PoetsBook") s) (hn : (am_in z).2.1 - (bif Nat.beq (am_in z).2.2.2 1 then 0 else 1) = n) (hR : d + 1 ≤ R.frames ∧ 64 * (d + 1) ≤ R.locals) : va_CN R s args own index (am_nm z) "PoetsBook" (am_by z) (am_in z).2.2.1 (am_rt z) (am_ws z) (am_rm d h h1) (h1.1 - h.1) (h1.2.1 - h.2.1) n := by
  obtain ⟨z1, z2, z3, z4, z5, z6, z7, z8, z9, z10, z11, z12⟩ := id hz
  have hcw : am_cw z = .code (am_nm z) (am_by z) (am_in z).2.2.1 (am_rt z) := by
    unfold am_cw
    have : Nat.beq (am_in z).2.2.2 3 = false := by
      cases hh : Nat.beq (am_in z).2.2.2 3 with
      | false => rfl
      | true => exact absurd (am_beq hh) h3
    rw [this]
    rfl
  refine va_cnB n hts (am_good hz) (ws' := am_big) (by rw [am_ws, hcw]) rfl rfl hl (hts _ z6) ⟨z2.1, z2.2, by rw [z3, hn]⟩ ⟨hR.1, ?_⟩
  show 8 + ((am_in z).2.2.1 + 11) + 64 * d ≤ R.locals
  omega
end AMC
