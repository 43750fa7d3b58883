/-! CALLS, III: Object's constructor; System.arraycopy between rows of ints -/
theorem am_oi1 : Cond.instanceMethod Lib.objectInit ∈ am_big := am_big_of (show am_wt 132 ∈ lw_tbl from am_wt_in (by decide)) rfl
theorem am_oi2 : Cond.code Lib.objectInit ⟨#[0xb1]⟩ 1 none ∈ am_big := am_big_of (show am_wt 133 ∈ lw_tbl from am_wt_in (by decide)) rfl
theorem am_ac1 : Cond.static arraycopyName ∈ am_big := am_big_of (show am_wt 182 ∈ lw_tbl from am_wt_in (by decide)) rfl
theorem am_ac2 : Cond.native arraycopyName ∈ am_big := am_big_of (show am_wt 183 ∈ lw_tbl from am_wt_in (by decide)) rfl
theorem am_ac3 : Cond.initialized "java/lang/System" ∈ am_big := am_big_of (show am_wt 104 ∈ lw_tbl from am_wt_in (by decide)) rfl
theorem am_isI_spec {v : Value} (h : am_isI v = true) : ∃ x, v = .int x := by
  cases v <;> first | (exact ⟨_, rfl⟩) | (cases h)
section AMC3
variable {p : Program} {l : Launch} {e : Env} {R : Room} {s : State} {m : MethodId} {args : Array Value} {below : List Frame} {meth : Method} {c : Code} {Q : State → Prop} {D : va_G} {dA : Nat → ClassId} {B0 : Nat} {ca : Nat → Nat} {y : Nat} {h0 : am_H} {pc : Nat} {ls st : List Value} {h h1 : am_H}
theorem am_k_obj {idx x : Nat} {rest : List Value} (C : am_Cx p s m args meth c D dA B0 ca y) (hst : st = .ref x :: rest) (hd : decode (am_by y) pc = .ok (.invokespecial idx, 3)) (hl : Cond.methodLink (am_cn (am_in y).1) idx Lib.objectInit ∈ am_big) (hcs : am_cs rest ≤ 8) (hR : 1 ≤ R.frames ∧ 64 ≤ R.locals) (k : am_Wp p l e R s m args below meth c Q D dA B0 ca y h0 (pc + 3) ls rest h) : am_Wp p l e R s m args below meth c Q D dA B0 ca y h0 pc ls st h := by
  subst hst
  intro H locs rls hO hL
  have hts := C.2.2.2.2.1
  have hw := am_roomW (m := m) (pc := pc) (rls := rls) (st := (Value.ref x :: rest).map (am_ga (am_ad B0 ca))) (B0 := B0) (ca := ca) hcs
  refine W.objInit C.1 C.2.1 C.2.2.2.1 (hts _ hl) (hts _ am_oi1) (hts _ am_oi2) rfl (by rw [C.2.2.1]; exact hL.2.1) (a := am_ad B0 ca x) (rest := rest.map (am_ga (am_ad B0 ca))) rfl hd hR.1 ?_ (W.eq (g2 := F0 m (pc + 3) rls (rest.map (am_ga (am_ad B0 ca)))) rfl (k H locs rls hO hL))
  have := hR.2
  omega
theorem am_src {a : Nat} {H : Heap} {locs : List Loc} (hT : am_Tab D dA ca s) (hO : am_Ok s D dA B0 ca h H locs) (ha : a < h.1) (h1 : (h.2.2.1 a).1 = 1 ∨ (h.2.2.1 a).1 = 2) (h2 : (h.2.2.1 a).2.1 = 0) : ∃ cs : Cell, H[am_ad B0 ca a]? = some cs ∧ s.isArrayOf cs .int ∧ cs.vm ≠ .unknown ∧ (h.2.2.1 a).2.2 ≤ cs.slots.size ∧ ∀ j, j < (h.2.2.1 a).2.2 → cs.slots[j]? = some (am_ga (am_ad B0 ca) (h.2.2.2 a j)) := by
  rcases h1 with h1 | h1
  · obtain ⟨-, hA, hc⟩ := am_arr hO ha h1
    rw [h2] at hc hA
    exact ⟨_, hc, (hT.2.1 0 hA).1 _ _, (fun q => nomatch q), (by rw [arrV_size]; exact Nat.le_refl _), (fun j hj => by rw [arrV_read _ _ hj])⟩
  · obtain ⟨-, -, cell, z1, z2, z3, z4, -, z6, -⟩ := am_con hO ha h1
    exact ⟨cell, z1, z2, z3, z4, z6⟩
theorem am_nn {z : Int32} (hz : ¬ z < 0) : z.toInt = (z.toNatClampNeg : Int) := by
  have hz0 : (0 : Int) ≤ z.toInt := by
    have := Int32.not_lt.mp hz
    simpa using Int32.le_iff_toInt_le.mp this
  show z.toInt = ((z.toInt.toNat : Nat) : Int)
  omega
theorem am_k_copy {idx a b : Nat} {n dp sp : Int32} {rest : List Value} (C : am_Cx p s m args meth c D dA B0 ca y) (hst : st = .int n :: .int dp :: .ref b :: .int sp :: .ref a :: rest) (hd : decode (am_by y) pc = .ok (.invokestatic idx, 3)) (hl : Cond.methodLink (am_cn (am_in y).1) idx arraycopyName ∈ am_big) (hcs : am_cs rest ≤ 8) (hcp : am_cp h a sp b dp n = some h1) (hR : 1 ≤ R.frames ∧ 64 ≤ R.locals) (k : am_Wp p l e R s m args below meth c Q D dA B0 ca y h0 (pc + 3) ls rest h1) : am_Wp p l e R s m args below meth c Q D dA B0 ca y h0 pc ls st h := by
  unfold am_cp at hcp
  obtain ⟨c1, hcp⟩ := am_cond hcp
  obtain ⟨c2, hcp⟩ := am_ifn hcp
  obtain ⟨c3, hcp⟩ := am_cond hcp
  simp only [Bool.and_eq_true, Bool.or_eq_true] at c1
  obtain ⟨⟨⟨⟨⟨a1, a2⟩, a3⟩, b1⟩, b2⟩, b3⟩ := c1
  have a1 := am_blt a1
  have a2 := a2.imp am_beq am_beq
  have a3 := am_beq a3
  have b1 := am_blt b1
  have b2 := am_beq b2
  have b3 := am_beq b3
  simp only [not_or, Nat.not_lt] at c2
  obtain ⟨n1, n2, n3, n4, n5⟩ := c2
  cases hcp
  subst hst
  intro H locs rls hO hL
  have hts := C.2.2.2.2.1
  have hT := C.2.2.2.2.2.1
  obtain ⟨cs, s1, ⟨s2, kS, s3, cmS, s4⟩, s5, s6, s7⟩ := am_src hT hO a1 a2 a3
  obtain ⟨hb0, hbA, hbc⟩ := am_arr hO b1 b2
  rw [b3] at hbc hbA
  obtain ⟨-, kD, d3, cmD, d4⟩ := (hT.2.1 0 hbA).1 (h.2.2.1 b).2.2 (fun j => am_ga (am_ad B0 ca) (h.2.2.2 b j))
  have hw := am_roomW (m := m) (pc := pc) (rls := rls) (st := (Value.int n :: Value.int dp :: Value.ref b :: Value.int sp :: Value.ref a :: rest).map (am_ga (am_ad B0 ca))) (B0 := B0) (ca := ca) hcs
  intro T hTh X
  have hval : ∀ i, i < n.toNatClampNeg → ∃ z, cs.slots.getD (sp.toNatClampNeg + i) .null = .int z := by
    intro i hi
    obtain ⟨z, hz⟩ := am_isI_spec (List.all_eq_true.mp c3 i (List.mem_range.mpr hi))
    refine ⟨z, ?_⟩
    rw [Array.getD_eq_getD_getElem?, s7 _ (by omega), hz]
    rfl
  obtain ⟨vm', X', step⟩ := X.arraycopy C.1 C.2.2.2.1 (hts _ hl) (hts _ am_ac2) (hts _ am_ac1) (hts _ am_ac3) (src := am_ad B0 ca a) (dst := am_ad B0 ca b) (cs := cs) (srcPos := sp) (destPos := dp) (n := n) (by rw [hTh]; exact s1) (by rw [hTh]; exact hbc) s2 (fun _ q => by cases q) s5 (fun q => by cases q) s3 d3 s4 d4 (by decide) n1 n2 n3
    (by rw [am_nn n1, am_nn n3]; omega) (by rw [am_nn n2, am_nn n3, arrV_size]; omega)
    (fun vm₁ _ i hi => by
      obtain ⟨z, hz⟩ := hval i hi
      rw [hz]
      exact ⟨rfl, trivial⟩)
    (g := F0 m pc rls ((Value.int n :: Value.int dp :: Value.ref b :: Value.int sp :: Value.ref a :: rest).map (am_ga (am_ad B0 ca)))) rfl (by rw [C.2.2.1]; exact hL.2.1) (rest := rest.map (am_ga (am_ad B0 ca))) rfl (by rw [C.2.1]; exact hd) hR.1 (by
      have := hR.2
      have e : nativeFrameWords "java/lang/System" "arraycopy" 5 ≤ 40 := by decide
      omega)
  have e1 : copied cs (arrV (dA 0) (h.2.2.1 b).2.2 (fun j => am_ga (am_ad B0 ca) (h.2.2.2 b j))) sp dp n = arrV (dA 0) (h.2.2.1 b).2.2 (va_cpy (fun j => am_ga (am_ad B0 ca) (h.2.2.2 a j)) (fun j => am_ga (am_ad B0 ca) (h.2.2.2 b j)) sp.toNatClampNeg dp.toNatClampNeg n.toNatClampNeg) := va_copiedX (fun v : Value => v) cs (dA 0) (n0 := (h.2.2.1 a).2.2) (fun j => am_ga (am_ad B0 ca) (h.2.2.2 a j)) (fun j => am_ga (am_ad B0 ca) (h.2.2.2 b j)) s7 n4
  rw [e1] at X' step
  generalize hnew : arrV (dA 0) (h.2.2.1 b).2.2 (va_cpy (fun j => am_ga (am_ad B0 ca) (h.2.2.2 a j)) (fun j => am_ga (am_ad B0 ca) (h.2.2.2 b j)) sp.toNatClampNeg dp.toNatClampNeg n.toNatClampNeg) = nc at X' step
  have hbl : am_ad B0 ca b < H.size := (Array.getElem?_eq_some_iff.mp hbc).1
  have hheap : ((T.setVm vm').setCell (am_ad B0 ca b) nc).heap = H.setIfInBounds (am_ad B0 ca b) nc := by rw [← hTh]; rfl
  have oq : ∀ q : Nat, q ≠ am_ad B0 ca b → (H.setIfInBounds (am_ad B0 ca b) nc)[q]? = H[q]? := fun q hq => by simp [Array.getElem?_setIfInBounds, Ne.symm hq]
  have ob : (H.setIfInBounds (am_ad B0 ca b) nc)[am_ad B0 ca b]? = some nc := by simp [Array.getElem?_setIfInBounds, hbl]
  have hB : B0 ≤ am_ad B0 ca b := by rw [am_ad_hi hb0]; omega
  have hO' := hO.put (sl := 0) (h' := (h.1, h.2.1, h.2.2.1, am_row h.2.2.2 b (fun j => if dp.toNatClampNeg ≤ j ∧ j < dp.toNatClampNeg + n.toNatClampNeg then h.2.2.2 a (sp.toNatClampNeg + (j - dp.toNatClampNeg)) else h.2.2.2 b j))) hb0 rfl rfl (fun q hq => by funext j; simp [am_row, hq]) (by simp) oq (Or.inr ⟨b2, by show am_isA (h.2.2.1 b).2.1 = true; rw [b3]; exact hbA, by
      rw [ob, ← hnew]
      show some _ = some (arrV (dA (h.2.2.1 b).2.1) (h.2.2.1 b).2.2 _)
      rw [b3]
      congr 2
      funext j
      simp only [va_cpy, am_row, if_true]
      split <;> rfl⟩)
  obtain ⟨t, t1, t2⟩ := k (H.setIfInBounds (am_ad B0 ca b) nc) (locs ++ (cs.stretch sp.toNatClampNeg n.toNatClampNeg).zipIdx.map fun q => ⟨am_ad B0 ca b, dp.toNatClampNeg + q.2⟩) rls ⟨hO'.1, hO'.2.1, hO'.2.2.1, fun q hq => by
      rcases List.mem_append.mp hq with z | z
      · exact hO.2.2.2 q z
      · obtain ⟨w, -, hw⟩ := List.mem_map.mp z
        rw [← hw]
        exact hB⟩ hL _ hheap X'
  exact ⟨t, step t t1, t2⟩
end AMC3
