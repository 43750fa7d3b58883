/-! THE PLAIN MACHINE AND THE MACHINE: what a heap of the one is in the other -/
def am_ga (ad : Nat → Nat) (v : Value) : Value := match v with
  | .ref k => .ref (ad k)
  | v => v
def am_ad (B0 : Nat) (ca : Nat → Nat) (k : Nat) : Nat := if k < am_n0 then ca k else B0 + (k - am_n0)
theorem am_ad_hi {B0 : Nat} {ca : Nat → Nat} {k : Nat} (h : am_n0 ≤ k) : am_ad B0 ca k = B0 + (k - am_n0) := if_neg (Nat.not_lt.mpr h)
theorem am_ad_lo {B0 : Nat} {ca : Nat → Nat} {k : Nat} (h : k < am_n0) : am_ad B0 ca k = ca k := if_pos h
theorem am_ad_ne {B0 : Nat} {ca : Nat → Nat} {k j : Nat} (hk : am_n0 ≤ k) (hj : am_n0 ≤ j) (hn : k ≠ j) : am_ad B0 ca k ≠ am_ad B0 ca j := by
  rw [am_ad_hi hk, am_ad_hi hj]
  omega
theorem am_ga_cat (ad : Nat → Nat) (v : Value) : (am_ga ad v).category = v.category := by cases v <;> rfl
theorem am_cs_map (ad : Nat → Nat) (st : List Value) : ((st.map (am_ga ad)).map fun v => v.category).sum = am_cs st := by
  unfold am_cs
  rw [List.map_map]
  congr 1
  apply List.map_congr_left
  intro v _
  exact am_ga_cat ad v
def am_cellR (D : va_G) (dA : Nat → ClassId) (ad : Nat → Nat) (h : am_H) (H : Heap) (k : Nat) : Prop :=
  ((h.2.2.1 k).1 = 0 ∧ ∃ r : vw_C, vwCl[(h.2.2.1 k).2.1]? = some r ∧ t_OB (ad k) (D.1 (h.2.2.1 k).2.1) r.2.2 (D.2 (h.2.2.1 k).2.1) H (fun j => am_ga ad (h.2.2.2 k j))) ∨
  ((h.2.2.1 k).1 = 1 ∧ am_isA (h.2.2.1 k).2.1 = true ∧ H[ad k]? = some (arrV (dA (h.2.2.1 k).2.1) (h.2.2.1 k).2.2 (fun j => am_ga ad (h.2.2.2 k j))))
def am_Rep (D : va_G) (dA : Nat → ClassId) (B0 : Nat) (ca : Nat → Nat) (h : am_H) (H : Heap) : Prop :=
  am_n0 ≤ h.1 ∧ H.size = B0 + (h.1 - am_n0) ∧ ∀ k, am_n0 ≤ k → k < h.1 → am_cellR D dA (am_ad B0 ca) h H k
def am_Con (B0 : Nat) (ca : Nat → Nat) (h : am_H) (U : State) (H : Heap) : Prop :=
  ∀ k, k < am_n0 → (h.2.2.1 k).1 ≠ 0 ∧ (h.2.2.1 k).1 ≠ 1 ∧ ((h.2.2.1 k).1 = 2 → (h.2.2.1 k).2.1 = 0 ∧ va_T .int (ca k) (h.2.2.1 k).2.2 (fun j => am_ga (am_ad B0 ca) (h.2.2.2 k j)) (fun q => B0 ≤ q) U H)
def am_rn (v : Value) : Prop := v = .null ∨ ∃ a, v = .ref a
/-- the texts of the program: text i at ca (7 + i), its bytes at ca (23 + i) -/
def am_Str (B0 : Nat) (ca : Nat → Nat) (U : State) (H : Heap) : Prop :=
  (∀ i, i < 16 → va_O "java/lang/String" (ca (7 + i)) (fun q => B0 ≤ q) U H ∧ va_OF "java/lang/String" "coder" "B" (.int 0) (ca (7 + i)) (fun q => B0 ≤ q) U H ∧ va_OF "java/lang/String" "value" "[B" (.ref (ca (23 + i))) (ca (7 + i)) (fun q => B0 ≤ q) U H ∧ va_T .byte (ca (23 + i)) (am_slen i) (fun j => .int (Int32.ofNat (am_sch i j))) (fun q => B0 ≤ q) U H) ∧
  va_Z "java/lang/String" "COMPACT_STRINGS" "Z" (.int 1) (fun q => B0 ≤ q) U H ∧
  (∃ v, am_rn v ∧ va_Z "jdk/internal/util/Preconditions" "SIOOBE_FORMATTER" "Ljava/util/function/BiFunction;" v (fun q => B0 ≤ q) U H)
theorem am_Str.moved {B0 : Nat} {ca : Nat → Nat} {u U : State} {H : Heap} (hv : u.vm.Alike U.vm) (h : am_Str B0 ca u H) : am_Str B0 ca U H := by
  obtain ⟨h1, h2, v, h3, h4⟩ := h
  exact ⟨fun i hi => ⟨va_O.moved hv (h1 i hi).1, va_OF.moved hv (h1 i hi).2.1, va_OF.moved hv (h1 i hi).2.2.1, va_T.moved hv (h1 i hi).2.2.2⟩, h2.moved hv, v, h3, h4.moved hv⟩
theorem am_Str.kept {B0 : Nat} {ca : Nat → Nat} {U : State} {H H' : Heap} (h : am_Str B0 ca U H) (ho : ∀ q, q < H.size → ¬ B0 ≤ q → H'[q]? = H[q]?) : am_Str B0 ca U H' := by
  obtain ⟨h1, h2, v, h3, h4⟩ := h
  exact ⟨fun i hi => ⟨(h1 i hi).1.kept ho, (h1 i hi).2.1.kept ho, (h1 i hi).2.2.1.kept ho, (h1 i hi).2.2.2.kept ho⟩, h2.kept ho, v, h3, h4.kept ho⟩
def am_Sta (B0 : Nat) (ca : Nat → Nat) (U : State) (H : Heap) : Prop :=
  (∀ k, 1 ≤ k → k ≤ 6 → va_Z (am_sts k).1 (am_sts k).2.1 (am_sts k).2.2 (.ref (ca k)) (fun q => B0 ≤ q) U H) ∧
  (∃ v, am_rn v ∧ va_Z "java/lang/Throwable" "UNASSIGNED_STACK" "[Ljava/lang/StackTraceElement;" v (fun q => B0 ≤ q) U H) ∧
  (∃ v, am_rn v ∧ va_Z "java/lang/Throwable" "SUPPRESSED_SENTINEL" "Ljava/util/List;" v (fun q => B0 ≤ q) U H) ∧ am_Str B0 ca U H
def am_isN (c : Cond) : Bool := match c with
  | .methodLinkNest .. => true
  | _ => false
def am_Tab (D : va_G) (dA : Nat → ClassId) (ca : Nat → Nat) (U : State) : Prop :=
  va_K D vwCl [] U ∧ (∀ tc, am_isA tc = true → ArrOfT U (dA tc) (am_aty tc) ∧ va_RA U (dA tc) (am_aty tc)) ∧ (∀ w, w ∈ lw_tbl → am_isN w = true → va_Nw w U) ∧ (∀ ci, am_isA (ci + 4) = true → va_AO (am_cn ci) U) ∧ ∀ q ∈ am_sRefs, vk_R q.1 q.2.1 (am_stx.getD q.2.2 "") (ca (7 + q.2.2)) U
theorem am_Tab.warm {D : va_G} {dA : Nat → ClassId} {ca : Nat → Nat} {s U : State} (hW : s.WarmedH U.vm) (h : am_Tab D dA ca s) : am_Tab D dA ca U := by
  obtain ⟨h1, h2, h3, h4, h5⟩ := h
  refine ⟨va_K.moved hW.alike h1, fun tc htc => ⟨arrOfT_moved hW.alike (h2 tc htc).1, (h2 tc htc).2.moved hW.alike⟩, fun w hw hn => ?_, fun ci hci => (h4 ci hci).moved hW.alike, fun q hq => (h5 q hq).warm hW⟩
  have h := h3 w hw hn
  cases w <;> first | (exact va_Nw.warmM hW h) | (exact absurd hn (by decide)) | (simp [am_isN] at hn)
theorem am_Con.warm {B0 : Nat} {ca : Nat → Nat} {h : am_H} {s U : State} {H : Heap} (hW : s.WarmedH U.vm) (hC : am_Con B0 ca h s H) : am_Con B0 ca h U H :=
  fun k hk => ⟨(hC k hk).1, (hC k hk).2.1, fun h2 => ⟨((hC k hk).2.2 h2).1, ((hC k hk).2.2 h2).2.moved hW.alike⟩⟩
theorem am_Sta.warm {B0 : Nat} {ca : Nat → Nat} {s U : State} {H : Heap} (hW : s.WarmedH U.vm) (hC : am_Sta B0 ca s H) : am_Sta B0 ca U H := by
  obtain ⟨h1, ⟨v, h2, h3⟩, ⟨w, h4, h5⟩, h6⟩ := hC
  exact ⟨fun k a b => (h1 k a b).moved hW.alike, ⟨v, h2, h3.moved hW.alike⟩, ⟨w, h4, h5.moved hW.alike⟩, h6.moved hW.alike⟩
/-- the cells that are there from the start stay -/
theorem am_Con.kept {B0 : Nat} {ca : Nat → Nat} {h h' : am_H} {U : State} {H H' : Heap} (hC : am_Con B0 ca h U H) (hs : ∀ k, k < am_n0 → h'.2.2.1 k = h.2.2.1 k ∧ h'.2.2.2 k = h.2.2.2 k) (ho : ∀ q, q < H.size → ¬ B0 ≤ q → H'[q]? = H[q]?) : am_Con B0 ca h' U H' := by
  intro k hk
  obtain ⟨a1, a2⟩ := hs k hk
  obtain ⟨b1, b2, b3⟩ := hC k hk
  rw [a1, a2]
  exact ⟨b1, b2, fun h2 => ⟨(b3 h2).1, (b3 h2).2.kept ho⟩⟩
theorem am_Sta.kept {B0 : Nat} {ca : Nat → Nat} {U : State} {H H' : Heap} (hC : am_Sta B0 ca U H) (ho : ∀ q, q < H.size → ¬ B0 ≤ q → H'[q]? = H[q]?) : am_Sta B0 ca U H' := by
  obtain ⟨h1, ⟨v, h2, h3⟩, ⟨w, h4, h5⟩, h6⟩ := hC
  exact ⟨fun k a b => (h1 k a b).kept ho, ⟨v, h2, h3.kept ho⟩, ⟨w, h4, h5.kept ho⟩, h6.kept ho⟩
theorem am_cellR.kept {D : va_G} {dA : Nat → ClassId} {ad : Nat → Nat} {h h' : am_H} {H H' : Heap} {k : Nat} (hc : am_cellR D dA ad h H k) (hs : h'.2.2.1 k = h.2.2.1 k) (hv : h'.2.2.2 k = h.2.2.2 k) (ho : H'[ad k]? = H[ad k]?) : am_cellR D dA ad h' H' k := by
  unfold am_cellR at hc ⊢
  rw [hs, hv]
  rcases hc with ⟨h1, r, h2, h3⟩ | ⟨h1, h2, h3⟩
  · exact Or.inl ⟨h1, r, h2, h3.kept ho⟩
  · exact Or.inr ⟨h1, h2, by rw [ho]; exact h3⟩
/-- one cell is written -/
theorem am_Rep.put {D : va_G} {dA : Nat → ClassId} {B0 : Nat} {ca : Nat → Nat} {h h' : am_H} {H H' : Heap} (hR : am_Rep D dA B0 ca h H) {k0 : Nat} (hk0 : am_n0 ≤ k0) (h1 : h'.1 = h.1) (hsh : h'.2.2.1 = h.2.2.1) (hV : ∀ k, k ≠ k0 → h'.2.2.2 k = h.2.2.2 k) (hz : H'.size = H.size) (ho : ∀ q, q ≠ am_ad B0 ca k0 → H'[q]? = H[q]?) (hc : am_cellR D dA (am_ad B0 ca) h' H' k0) : am_Rep D dA B0 ca h' H' := by
  obtain ⟨a1, a2, a3⟩ := hR
  refine ⟨by rw [h1]; exact a1, by rw [hz, h1]; exact a2, fun k hk hlt => ?_⟩
  by_cases e : k = k0
  · subst e
    exact hc
  · exact (a3 k hk (by rw [← h1]; exact hlt)).kept (by rw [hsh]) (hV k e) (ho _ (am_ad_ne hk hk0 e))
/-- one cell is new -/
theorem am_Rep.mk {D : va_G} {dA : Nat → ClassId} {B0 : Nat} {ca : Nat → Nat} {h : am_H} {H H' : Heap} (hR : am_Rep D dA B0 ca h H) {sh : am_Sh} {N : Nat} {d : Nat → Value} (hz : H'.size = H.size + 1) (ho : ∀ q, q < H.size → H'[q]? = H[q]?) (hc : am_cellR D dA (am_ad B0 ca) (am_mk h sh N d) H' h.1) : am_Rep D dA B0 ca (am_mk h sh N d) H' := by
  obtain ⟨a1, a2, a3⟩ := hR
  refine ⟨Nat.le_succ_of_le a1, by show H'.size = B0 + (h.1 + 1 - am_n0); omega, fun k hk hlt => ?_⟩
  by_cases e : k = h.1
  · subst e
    exact hc
  · have hlt' : k < h.1 := by
      have : k < h.1 + 1 := hlt
      omega
    refine (a3 k hk hlt').kept (by simp [am_mk, e]) (by funext j; simp [am_mk, am_row, e]) (ho _ ?_)
    rw [am_ad_hi hk]
    omega
theorem am_ad_new {D : va_G} {dA : Nat → ClassId} {B0 : Nat} {ca : Nat → Nat} {h : am_H} {H : Heap} (hR : am_Rep D dA B0 ca h H) : am_ad B0 ca h.1 = H.size := by
  rw [am_ad_hi hR.1, hR.2.1]
/-! the locals -/
def am_LR (ad : Nat → Nat) (rls : Array Slot) (nL : Nat) (ls : List Value) : Prop :=
  ls.length = nL ∧ rls.size = nL ∧ lv_wf rls ∧ ∀ (i : Nat) (v : Value), ls[i]? = some v → v ≠ am_ph → rls[i]? = some (Slot.val (am_ga ad v))
def am_pr (ad : Nat → Nat) (ls : List Value) : List (Nat × Value) := (List.range ls.length).filterMap fun i => match ls[i]? with
  | some v => if v = am_ph then none else some (i, am_ga ad v)
  | none => none
theorem am_pr_mem {ad : Nat → Nat} {ls : List Value} {i : Nat} {v : Value} (h : ls[i]? = some v) (hv : v ≠ am_ph) : (i, am_ga ad v) ∈ am_pr ad ls := by
  refine List.mem_filterMap.mpr ⟨i, List.mem_range.mpr (List.getElem?_eq_some_iff.mp h).1, ?_⟩
  rw [h]
  simp [hv]
theorem am_pr_of {ad : Nat → Nat} {ls : List Value} {q : Nat × Value} (h : q ∈ am_pr ad ls) : ∃ v, ls[q.1]? = some v ∧ v ≠ am_ph ∧ q.2 = am_ga ad v := by
  obtain ⟨i, -, hi⟩ := List.mem_filterMap.mp h
  cases hl : ls[i]? with
  | none => rw [hl] at hi; simp at hi
  | some v =>
    rw [hl] at hi
    by_cases hv : v = am_ph
    · simp [hv] at hi
    · simp only [hv, if_false, Option.some.injEq] at hi
      subst hi
      exact ⟨v, hl, hv, rfl⟩
theorem am_LR.has {ad : Nat → Nat} {rls : Array Slot} {nL : Nat} {ls : List Value} (h : am_LR ad rls nL ls) : lv_has rls nL (am_pr ad ls) := by
  refine ⟨h.2.1, h.2.2.1, fun q hq => ?_⟩
  obtain ⟨v, h1, h2, h3⟩ := am_pr_of hq
  rw [h3]
  exact h.2.2.2 q.1 v h1 h2
theorem am_kill_len (ls : List Value) (i : Nat) : (am_kill ls i).length = ls.length := by
  unfold am_kill
  split
  · rfl
  · split
    · rename_i v _
      cases Nat.beq v.category 2 <;> simp
    · rfl
theorem am_kill_get {ls : List Value} {i j : Nat} {v : Value} (h : (am_kill ls i)[j]? = some v) (hv : v ≠ am_ph) : ls[j]? = some v ∧ ¬ (j + 1 = i ∧ v.category = 2) := by
  unfold am_kill at h
  split at h
  · exact ⟨h, fun q => absurd q.1 (Nat.succ_ne_zero j)⟩
  · rename_i k
    split at h
    · rename_i w hw
      by_cases hc : w.category = 2
      · rw [hc] at h
        have h : (ls.set k am_ph)[j]? = some v := h
        by_cases e : k = j
        · subst e
          have hlt : k < ls.length := (List.getElem?_eq_some_iff.mp hw).1
          rw [List.getElem?_set_self hlt] at h
          exact absurd (Option.some.inj h).symm hv
        · rw [List.getElem?_set_ne e] at h
          exact ⟨h, fun q => e (by omega)⟩
      · have hb : Nat.beq w.category 2 = false := by
          rcases lv_cat w with q | q
          · rw [q]; rfl
          · exact absurd q hc
        rw [hb] at h
        simp only [cond_false] at h
        refine ⟨h, fun q => ?_⟩
        have e : k = j := by omega
        subst e
        rw [hw] at h
        cases h
        exact hc q.2
    · rename_i hw
      refine ⟨h, fun q => ?_⟩
      have e : k = j := by omega
      subst e
      rw [hw] at h
      cases h
theorem am_LR.set1 {ad : Nat → Nat} {rls rls' : Array Slot} {nL i : Nat} {ls : List Value} {v : Value} (h : am_LR ad rls nL ls) (h' : lv_has rls' nL ((i, am_ga ad v) :: (am_pr ad ls).filter (fun q => !(q.1 == i) && !(q.1 + 1 == i && q.2.category == 2)))) : am_LR ad rls' nL (am_set1 ls i v) := by
  refine ⟨by rw [am_set1, List.length_set, am_kill_len]; exact h.1, h'.1, h'.2.1, fun j w hj hw => ?_⟩
  unfold am_set1 at hj
  by_cases e : i = j
  · subst e
    have hlt : i < (am_kill ls i).length := by
      have := (List.getElem?_eq_some_iff.mp hj).1
      rwa [List.length_set] at this
    rw [List.getElem?_set_self hlt] at hj
    cases hj
    exact h'.2.2 _ List.mem_cons_self
  · rw [List.getElem?_set_ne e] at hj
    obtain ⟨h1, h2⟩ := am_kill_get hj hw
    refine h'.2.2 (j, am_ga ad w) (List.mem_cons_of_mem _ (List.mem_filter.mpr ⟨am_pr_mem h1 hw, ?_⟩))
    have e1 : (j == i) = false := by simp [Ne.symm e]
    simp only [e1, Bool.not_false, Bool.true_and, am_ga_cat]
    cases hh : (j + 1 == i && w.category == 2) with
    | false => rfl
    | true =>
      simp only [Bool.and_eq_true, beq_iff_eq] at hh
      exact absurd hh h2
theorem am_LR.set2 {ad : Nat → Nat} {rls rls' : Array Slot} {nL i : Nat} {ls : List Value} {v : Value} (h : am_LR ad rls nL ls) (h' : lv_has rls' nL ((i, am_ga ad v) :: (am_pr ad ls).filter (fun q => !(q.1 == i) && (!(q.1 == i + 1) && !(q.1 + 1 == i && q.2.category == 2))))) : am_LR ad rls' nL (am_set2 ls i v) := by
  refine ⟨by rw [am_set2, List.length_set, List.length_set, am_kill_len]; exact h.1, h'.1, h'.2.1, fun j w hj hw => ?_⟩
  unfold am_set2 at hj
  by_cases e2 : i + 1 = j
  · subst e2
    have hlt : i + 1 < ((am_kill ls i).set i v).length := by
      have := (List.getElem?_eq_some_iff.mp hj).1
      rwa [List.length_set] at this
    rw [List.getElem?_set_self hlt] at hj
    exact absurd (Option.some.inj hj).symm hw
  · rw [List.getElem?_set_ne e2] at hj
    by_cases e : i = j
    · subst e
      have hlt : i < (am_kill ls i).length := by
        have := (List.getElem?_eq_some_iff.mp hj).1
        rwa [List.length_set] at this
      rw [List.getElem?_set_self hlt] at hj
      cases hj
      exact h'.2.2 _ List.mem_cons_self
    · rw [List.getElem?_set_ne e] at hj
      obtain ⟨h1, h2⟩ := am_kill_get hj hw
      refine h'.2.2 (j, am_ga ad w) (List.mem_cons_of_mem _ (List.mem_filter.mpr ⟨am_pr_mem h1 hw, ?_⟩))
      have e1 : (j == i) = false := by simp [Ne.symm e]
      have e3 : (j == i + 1) = false := by simp [Ne.symm e2]
      simp only [e1, e3, Bool.not_false, Bool.true_and, am_ga_cat]
      cases hh : (j + 1 == i && w.category == 2) with
      | false => rfl
      | true =>
        simp only [Bool.and_eq_true, beq_iff_eq] at hh
        exact absurd hh h2
