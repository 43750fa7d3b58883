/-! A STEP OF THE PLAIN MACHINE IS A STEP OF THE MACHINE -/
theorem am_ph_i (x : Int32) : Value.int x ≠ am_ph := by
  unfold am_ph; intro q; cases q
theorem am_ph_l (x : Int64) : Value.long x ≠ am_ph := by
  unfold am_ph; intro q; cases q
theorem am_ph_r (x : Nat) : Value.ref x ≠ am_ph := by
  unfold am_ph; intro q; cases q
theorem am_ph_n : Value.null ≠ am_ph := by
  unfold am_ph; intro q; cases q
theorem am_cond {α : Type} {b : Bool} {x : Option α} {y : α} (h : (bif b then x else none) = some y) : b = true ∧ x = some y := by
  cases b
  · cases h
  · exact ⟨rfl, h⟩
theorem am_ifn {α : Type} {c : Prop} {x : Option α} {y : α} [inst : Decidable c] (h : (if c then none else x) = some y) : ¬ c ∧ x = some y := by
  by_cases hc : c
  · rw [if_pos hc] at h; cases h
  · rw [if_neg hc] at h; exact ⟨hc, h⟩
theorem am_blt {a b : Nat} (h : Nat.blt a b = true) : a < b := Nat.le_of_ble_eq_true h
theorem am_beq {a b : Nat} (h : Nat.beq a b = true) : a = b := Nat.eq_of_beq_eq_true h
def am_Cx (p : Program) (s : State) (m : MethodId) (args : Array Value) (meth : Method) (c : Code) (D : va_G) (dA : Nat → ClassId) (B0 : Nat) (ca : Nat → Nat) (y : Nat) : Prop :=
  p.tables.exec = Jvm.exec ∧ c.code = am_by y ∧ c.maxLocals = (am_in y).2.2.1 ∧ s.vm.findClass (am_cn (am_in y).1) = some m.cls ∧ (∀ w ∈ am_big, w.before args s = true) ∧ am_Tab D dA ca s ∧ ((am_in y).2.2.2 = 2 → meth.name = "<init>") ∧ B0 ≤ s.heap.size
def am_Ok (s : State) (D : va_G) (dA : Nat → ClassId) (B0 : Nat) (ca : Nat → Nat) (h : am_H) (H : Heap) (locs : List Loc) : Prop :=
  am_Rep D dA B0 ca h H ∧ am_Con B0 ca h s H ∧ am_Sta B0 ca s H ∧ ∀ q ∈ locs, B0 ≤ q.base
def am_Wp (p : Program) (l : Launch) (e : Env) (R : Room) (s : State) (m : MethodId) (args : Array Value) (below : List Frame) (meth : Method) (c : Code) (Q : State → Prop) (D : va_G) (dA : Nat → ClassId) (B0 : Nat) (ca : Nat → Nat) (y : Nat) (h0 : am_H) (pc : Nat) (ls st : List Value) (h : am_H) : Prop :=
  ∀ (H : Heap) (locs : List Loc) (rls : Array Slot), am_Ok s D dA B0 ca h H locs → am_LR (am_ad B0 ca) rls (am_in y).2.2.1 ls → W p l e R s m args below meth c H locs (h.1 - h0.1) (h.2.1 - h0.2.1) Q (F0 m pc rls (st.map (am_ga (am_ad B0 ca))))
/-! words out of the pools -/
theorem am_fl {w own idx a b : Nat} (h : am_pl w = (1, own, idx, a, b)) : Cond.fieldLink (am_cn own) idx (am_TT a b).1 (am_TT a b).2.1 (am_TT a b).2.2.1 ∈ am_big := by
  obtain ⟨h1, h2⟩ := am_kW (w := w) (by rw [h]; exact Nat.succ_ne_zero _)
  rw [h] at h1
  rw [h1] at h2
  exact am_big_of h2 rfl
theorem am_flS {w own idx a b : Nat} (h : am_pl w = (6, own, idx, a, b)) : Cond.fieldLink (am_cn own) idx (am_sts a).1 (am_sts a).2.1 (am_sts a).2.2 ∈ am_big := by
  obtain ⟨h1, h2⟩ := am_kW (w := w) (by rw [h]; exact Nat.succ_ne_zero _)
  rw [h] at h1
  rw [h1] at h2
  exact am_big_of h2 rfl
theorem am_clk {w own idx a b : Nat} (h : am_pl w = (2, own, idx, a, b)) : Cond.classLink (am_cn own) idx (am_cn a) ∈ am_big := by
  obtain ⟨h1, h2⟩ := am_kW (w := w) (by rw [h]; exact Nat.succ_ne_zero _)
  rw [h] at h1
  rw [h1] at h2
  exact am_big_of h2 rfl
theorem am_ci {w own idx a b : Nat} (h : am_pl w = (3, own, idx, a, b)) : Cond.constant (am_cn own) idx (Int32.ofNat a) ∈ am_big := by
  obtain ⟨h1, h2⟩ := am_kW (w := w) (by rw [h]; exact Nat.succ_ne_zero _)
  rw [h] at h1
  rw [h1] at h2
  exact am_big_of h2 rfl
theorem am_cL {w own idx a b : Nat} (h : am_pl w = (7, own, idx, a, b)) : Cond.constantLong (am_cn own) idx (Int64.ofNat a) ∈ am_big := by
  obtain ⟨h1, h2⟩ := am_kW (w := w) (by rw [h]; exact Nat.succ_ne_zero _)
  rw [h] at h1
  rw [h1] at h2
  exact am_big_of h2 rfl
theorem am_mlk {w own idx a b : Nat} (h : am_pl w = (4, own, idx, a, b)) : Cond.methodLink (am_cn own) idx (am_cnm a) ∈ am_big := by
  obtain ⟨h1, h2⟩ := am_kW (w := w) (by rw [h]; exact Nat.succ_ne_zero _)
  rw [h] at h1
  rw [h1] at h2
  exact am_big_of h2 rfl
theorem am_mln {w own idx a b : Nat} (h : am_pl w = (5, own, idx, a, b)) : Cond.methodLinkNest (am_cn own) idx (am_cnm a) "PoetsBook" ∈ lw_tbl := by
  obtain ⟨h1, h2⟩ := am_kW (w := w) (by rw [h]; exact Nat.succ_ne_zero _)
  rw [h] at h1
  rw [h1] at h2
  exact h2
/-! cells -/
def am_fs (ad : Nat → Nat) (h : am_H) (x ci : Nat) : List Value := (List.range (am_N ci)).map fun j => am_ga ad (h.2.2.2 x j)
theorem am_fs_get {ad : Nat → Nat} {h : am_H} {x ci j : Nat} (hj : j < am_N ci) : (am_fs ad h x ci)[j]? = some (am_ga ad (h.2.2.2 x j)) := by
  unfold am_fs
  rw [List.getElem?_map, List.getElem?_range hj]
  rfl
theorem am_isO_spec {h : am_H} {x ci : Nat} (hi : am_isO h x ci = true) : x < h.1 ∧ (h.2.2.1 x).1 = 0 ∧ (h.2.2.1 x).2.1 = ci := by
  unfold am_isO at hi
  simp only [Bool.and_eq_true] at hi
  exact ⟨am_blt hi.1.1, am_beq hi.1.2, am_beq hi.2⟩
theorem am_obj {s : State} {D : va_G} {dA : Nat → ClassId} {B0 : Nat} {ca : Nat → Nat} {h : am_H} {H : Heap} {locs : List Loc} {x ci : Nat} (hO : am_Ok s D dA B0 ca h H locs) (hi : am_isO h x ci = true) (hci : ci < 14) : am_n0 ≤ x ∧ t_OB (am_ad B0 ca x) (D.1 ci) (am_N ci) (D.2 ci) H (fun j => am_ga (am_ad B0 ca) (h.2.2.2 x j)) := by
  obtain ⟨h1, h2, h3⟩ := am_isO_spec hi
  have hx : am_n0 ≤ x := by
    rcases Nat.lt_or_ge x am_n0 with q | q
    · exact absurd h2 (hO.2.1 x q).1
    · exact q
  refine ⟨hx, ?_⟩
  rcases hO.1.2.2 x hx h1 with ⟨-, r, hr, ho⟩ | ⟨q, -⟩
  · rw [h3] at hr ho
    rw [am_cl ci hci] at hr
    cases hr
    exact ho
  · rw [h2] at q; cases q
theorem am_objP {s : State} {D : va_G} {dA : Nat → ClassId} {B0 : Nat} {ca : Nat → Nat} {h : am_H} {H : Heap} {locs : List Loc} {x ci : Nat} (hO : am_Ok s D dA B0 ca h H locs) (hi : am_isO h x ci = true) (hci : ci < 14) : va_P D vwCl [(am_ad B0 ca x, .inr (ci, am_fs (am_ad B0 ca) h x ci))] H := by
  intro k q hk
  have hz : k < 1 := (List.getElem?_eq_some_iff.mp hk).1
  rw [show k = 0 by omega] at hk
  cases hk
  refine ⟨_, am_cl ci hci, (am_obj hO hi hci).2.to (fun j hj => ?_)⟩
  show _ = (am_fs (am_ad B0 ca) h x ci).getD j .null
  rw [List.getD_eq_getElem?_getD, am_fs_get hj]
  rfl
theorem am_arr {s : State} {D : va_G} {dA : Nat → ClassId} {B0 : Nat} {ca : Nat → Nat} {h : am_H} {H : Heap} {locs : List Loc} {x : Nat} (hO : am_Ok s D dA B0 ca h H locs) (hx : x < h.1) (h1 : (h.2.2.1 x).1 = 1) : am_n0 ≤ x ∧ am_isA (h.2.2.1 x).2.1 = true ∧ H[am_ad B0 ca x]? = some (arrV (dA (h.2.2.1 x).2.1) (h.2.2.1 x).2.2 (fun j => am_ga (am_ad B0 ca) (h.2.2.2 x j))) := by
  have hx0 : am_n0 ≤ x := by
    rcases Nat.lt_or_ge x am_n0 with q | q
    · exact absurd h1 (hO.2.1 x q).2.1
    · exact q
  refine ⟨hx0, ?_⟩
  rcases hO.1.2.2 x hx0 hx with ⟨q, -⟩ | ⟨-, q2, q3⟩
  · rw [h1] at q; cases q
  · exact ⟨q2, q3⟩
theorem am_con {s : State} {D : va_G} {dA : Nat → ClassId} {B0 : Nat} {ca : Nat → Nat} {h : am_H} {H : Heap} {locs : List Loc} {x : Nat} (hO : am_Ok s D dA B0 ca h H locs) (hx : x < h.1) (h2 : (h.2.2.1 x).1 = 2) : x < am_n0 ∧ (h.2.2.1 x).2.1 = 0 ∧ va_T .int (am_ad B0 ca x) (h.2.2.1 x).2.2 (fun j => am_ga (am_ad B0 ca) (h.2.2.2 x j)) (fun q => B0 ≤ q) s H := by
  have hx0 : x < am_n0 := by
    rcases Nat.lt_or_ge x am_n0 with q | q
    · exact q
    · rcases hO.1.2.2 x q hx with ⟨q, -⟩ | ⟨q, -⟩ <;> (rw [h2] at q; cases q)
  obtain ⟨-, -, h3⟩ := hO.2.1 x hx0
  refine ⟨hx0, (h3 h2).1, ?_⟩
  rw [am_ad_lo hx0]
  exact (h3 h2).2
/-- a write into a cell of ours -/
theorem am_Ok.put {s : State} {D : va_G} {dA : Nat → ClassId} {B0 : Nat} {ca : Nat → Nat} {h h' : am_H} {H H' : Heap} {locs : List Loc} {x sl : Nat} (hO : am_Ok s D dA B0 ca h H locs) (hx : am_n0 ≤ x) (h1 : h'.1 = h.1) (hsh : h'.2.2.1 = h.2.2.1) (hV : ∀ k, k ≠ x → h'.2.2.2 k = h.2.2.2 k) (hz : H'.size = H.size) (ho : ∀ q, q ≠ am_ad B0 ca x → H'[q]? = H[q]?) (hc : am_cellR D dA (am_ad B0 ca) h' H' x) : am_Ok s D dA B0 ca h' H' (locs ++ [⟨am_ad B0 ca x, sl⟩]) := by
  obtain ⟨a1, a2, a3, a4⟩ := hO
  have hB : B0 ≤ am_ad B0 ca x := by rw [am_ad_hi hx]; omega
  have hk : ∀ q, q < H.size → ¬ B0 ≤ q → H'[q]? = H[q]? := fun q _ hq => ho q (fun e => hq (by rw [e]; exact hB))
  refine ⟨a1.put hx h1 hsh hV hz ho hc, a2.kept (fun k hk => ⟨by rw [hsh], hV k (by omega)⟩) hk, a3.kept hk, fun q hq => ?_⟩
  rcases List.mem_append.mp hq with q1 | q1
  · exact a4 q q1
  · cases List.mem_singleton.mp q1
    exact hB
theorem am_Ok.mk {s : State} {D : va_G} {dA : Nat → ClassId} {B0 : Nat} {ca : Nat → Nat} {h : am_H} {H H' : Heap} {locs : List Loc} {sh : am_Sh} {N : Nat} {d : Nat → Value} (hO : am_Ok s D dA B0 ca h H locs) (hz : H'.size = H.size + 1) (ho : ∀ q, q < H.size → H'[q]? = H[q]?) (hc : am_cellR D dA (am_ad B0 ca) (am_mk h sh N d) H' h.1) : am_Ok s D dA B0 ca (am_mk h sh N d) H' locs := by
  obtain ⟨a1, a2, a3, a4⟩ := hO
  have hk : ∀ q, q < H.size → ¬ B0 ≤ q → H'[q]? = H[q]? := fun q hq _ => ho q hq
  refine ⟨a1.mk hz ho hc, a2.kept (fun k hk => ?_) hk, a3.kept hk, a4⟩
  have e : k ≠ h.1 := by have := a1.1; omega
  exact ⟨by simp [am_mk, e], by funext j; simp [am_mk, am_row, e]⟩
theorem am_fok_spec {ad : Nat → Nat} {ty : FieldType} {v : Value} (h : am_fok ty v = true) : narrow ty (am_ga ad v) = am_ga ad v ∧ fits ty (am_ga ad v) = true := by
  cases ty <;> cases v <;> first | (exact ⟨rfl, rfl⟩) | (exact absurd h (by decide)) | skip
  all_goals first
    | (exfalso; revert h; simp [am_fok]; done)
    | (rename_i x
       have h : (x == 0 || x == 1) = true := h
       simp only [Bool.or_eq_true, beq_iff_eq] at h
       rcases h with rfl | rfl
       · exact ⟨(by decide : narrow .boolean (.int 0) = .int 0), (by decide : fits .boolean (.int 0) = true)⟩
       · exact ⟨(by decide : narrow .boolean (.int 1) = .int 1), (by decide : fits .boolean (.int 1) = true)⟩)
theorem am_fin_spec {y a b : Nat} (h1 : a < 14) (h2 : b < am_N a) (h5 : (Nat.beq (am_in y).2.2.2 2 && Nat.beq a (am_in y).1 && Nat.blt (am_in y).1 12 || Nat.beq (am_in y).2.2.2 2 && Nat.beq a 13 && Nat.beq (am_in y).1 13) = true) : (am_in y).2.2.2 = 2 ∧ (am_TT a b).1 = am_cn (am_in y).1 := by
  simp only [Bool.or_eq_true, Bool.and_eq_true] at h5
  rcases h5 with ⟨⟨q1, q2⟩, q3⟩ | ⟨⟨q1, q2⟩, q3⟩
  · have q2 := am_beq q2
    have q3 := am_blt q3
    refine ⟨am_beq q1, ?_⟩
    rw [← q2]
    exact am_decl a h1 (by omega) b h2
  · have q2 := am_beq q2
    have q3 := am_beq q3
    refine ⟨am_beq q1, ?_⟩
    rw [q3, ← q2]
    exact am_decl a h1 (by omega) b h2
section AMK
variable {p : Program} {l : Launch} {e : Env} {R : Room} {s : State} {m : MethodId} {args : Array Value} {below : List Frame} {meth : Method} {c : Code} {Q : State → Prop} {D : va_G} {dA : Nat → ClassId} {B0 : Nat} {ca : Nat → Nat} {y : Nat} {h0 : am_H} {pc pc' : Nat} {ls st ls' st' : List Value} {h h' : am_H} {n : Nat} {t : Int} {a b w : Nat}

theorem am_k_aconst_null (C : am_Cx p s m args meth c D dA B0 ca y) (hd : decode (am_by y) pc = .ok (.aconst_null, 1)) (hce : am_chE y (am_in y).1 pc (.aconst_null, n, t, a, b, w) = true) (hs : am_st (.aconst_null, n, t, a, b, w) pc ls st h = some (pc', ls', st', h')) (k : am_Wp p l e R s m args below meth c Q D dA B0 ca y h0 pc' ls' st' h') : am_Wp p l e R s m args below meth c Q D dA B0 ca y h0 pc ls st h := by
  simp only [am_st] at hs
  cases hs
  intro H locs rls hO hL
  exact lv_null C.1 C.2.1 hd (k H locs rls hO hL)
theorem am_k_iconst {i : Int} (C : am_Cx p s m args meth c D dA B0 ca y) (hd : decode (am_by y) pc = .ok (.iconst i, 1)) (hce : am_chE y (am_in y).1 pc (.iconst i, n, t, a, b, w) = true) (hs : am_st (.iconst i, n, t, a, b, w) pc ls st h = some (pc', ls', st', h')) (k : am_Wp p l e R s m args below meth c Q D dA B0 ca y h0 pc' ls' st' h') : am_Wp p l e R s m args below meth c Q D dA B0 ca y h0 pc ls st h := by
  simp only [am_st] at hs
  cases hs
  intro H locs rls hO hL
  exact lv_iconst C.1 C.2.1 hd rfl (k H locs rls hO hL)
theorem am_k_bipush {i : Int} (C : am_Cx p s m args meth c D dA B0 ca y) (hd : decode (am_by y) pc = .ok (.bipush i, 2)) (hce : am_chE y (am_in y).1 pc (.bipush i, n, t, a, b, w) = true) (hs : am_st (.bipush i, n, t, a, b, w) pc ls st h = some (pc', ls', st', h')) (k : am_Wp p l e R s m args below meth c Q D dA B0 ca y h0 pc' ls' st' h') : am_Wp p l e R s m args below meth c Q D dA B0 ca y h0 pc ls st h := by
  simp only [am_st] at hs
  cases hs
  intro H locs rls hO hL
  exact lv_bipush C.1 C.2.1 hd rfl (k H locs rls hO hL)
theorem am_k_sipush {i : Int} (C : am_Cx p s m args meth c D dA B0 ca y) (hd : decode (am_by y) pc = .ok (.sipush i, 3)) (hce : am_chE y (am_in y).1 pc (.sipush i, n, t, a, b, w) = true) (hs : am_st (.sipush i, n, t, a, b, w) pc ls st h = some (pc', ls', st', h')) (k : am_Wp p l e R s m args below meth c Q D dA B0 ca y h0 pc' ls' st' h') : am_Wp p l e R s m args below meth c Q D dA B0 ca y h0 pc ls st h := by
  simp only [am_st] at hs
  cases hs
  intro H locs rls hO hL
  exact lv_sipush C.1 C.2.1 hd rfl (k H locs rls hO hL)
theorem am_k_lconst {i : Fin 2} (C : am_Cx p s m args meth c D dA B0 ca y) (hd : decode (am_by y) pc = .ok (.lconst i, 1)) (hce : am_chE y (am_in y).1 pc (.lconst i, n, t, a, b, w) = true) (hs : am_st (.lconst i, n, t, a, b, w) pc ls st h = some (pc', ls', st', h')) (k : am_Wp p l e R s m args below meth c Q D dA B0 ca y h0 pc' ls' st' h') : am_Wp p l e R s m args below meth c Q D dA B0 ca y h0 pc ls st h := by
  simp only [am_st] at hs
  cases hs
  intro H locs rls hO hL
  exact lv_lconst C.1 C.2.1 hd rfl (k H locs rls hO hL)
theorem am_k_iload {i : Nat} (C : am_Cx p s m args meth c D dA B0 ca y) (hd : decode (am_by y) pc = .ok (.iload i, 2)) (hce : am_chE y (am_in y).1 pc (.iload i, n, t, a, b, w) = true) (hs : am_st (.iload i, n, t, a, b, w) pc ls st h = some (pc', ls', st', h')) (k : am_Wp p l e R s m args below meth c Q D dA B0 ca y h0 pc' ls' st' h') : am_Wp p l e R s m args below meth c Q D dA B0 ca y h0 pc ls st h := by
  simp only [am_st] at hs
  split at hs
  · rename_i x hq
    cases hs
    intro H locs rls hO hL
    exact lv_iload C.1 C.2.1 hd (hL.2.2.2 i _ hq (am_ph_i x)) (k H locs rls hO hL)
  · cases hs
theorem am_k_iload_n {i : Fin 4} (C : am_Cx p s m args meth c D dA B0 ca y) (hd : decode (am_by y) pc = .ok (.iload_n i, 1)) (hce : am_chE y (am_in y).1 pc (.iload_n i, n, t, a, b, w) = true) (hs : am_st (.iload_n i, n, t, a, b, w) pc ls st h = some (pc', ls', st', h')) (k : am_Wp p l e R s m args below meth c Q D dA B0 ca y h0 pc' ls' st' h') : am_Wp p l e R s m args below meth c Q D dA B0 ca y h0 pc ls st h := by
  simp only [am_st] at hs
  split at hs
  · rename_i x hq
    cases hs
    intro H locs rls hO hL
    exact lv_iload_n C.1 C.2.1 hd rfl (hL.2.2.2 i.val _ hq (am_ph_i x)) (k H locs rls hO hL)
  · cases hs
theorem am_k_lload {i : Nat} (C : am_Cx p s m args meth c D dA B0 ca y) (hd : decode (am_by y) pc = .ok (.lload i, 2)) (hce : am_chE y (am_in y).1 pc (.lload i, n, t, a, b, w) = true) (hs : am_st (.lload i, n, t, a, b, w) pc ls st h = some (pc', ls', st', h')) (k : am_Wp p l e R s m args below meth c Q D dA B0 ca y h0 pc' ls' st' h') : am_Wp p l e R s m args below meth c Q D dA B0 ca y h0 pc ls st h := by
  simp only [am_st] at hs
  split at hs
  · rename_i x hq
    cases hs
    intro H locs rls hO hL
    exact lv_lload C.1 C.2.1 hd (hL.2.2.2 i _ hq (am_ph_l x)) (k H locs rls hO hL)
  · cases hs
theorem am_k_lload_n {i : Fin 4} (C : am_Cx p s m args meth c D dA B0 ca y) (hd : decode (am_by y) pc = .ok (.lload_n i, 1)) (hce : am_chE y (am_in y).1 pc (.lload_n i, n, t, a, b, w) = true) (hs : am_st (.lload_n i, n, t, a, b, w) pc ls st h = some (pc', ls', st', h')) (k : am_Wp p l e R s m args below meth c Q D dA B0 ca y h0 pc' ls' st' h') : am_Wp p l e R s m args below meth c Q D dA B0 ca y h0 pc ls st h := by
  simp only [am_st] at hs
  split at hs
  · rename_i x hq
    cases hs
    intro H locs rls hO hL
    exact lv_lload_n C.1 C.2.1 hd rfl (hL.2.2.2 i.val _ hq (am_ph_l x)) (k H locs rls hO hL)
  · cases hs
theorem am_k_aload {i : Nat} (C : am_Cx p s m args meth c D dA B0 ca y) (hd : decode (am_by y) pc = .ok (.aload i, 2)) (hce : am_chE y (am_in y).1 pc (.aload i, n, t, a, b, w) = true) (hs : am_st (.aload i, n, t, a, b, w) pc ls st h = some (pc', ls', st', h')) (k : am_Wp p l e R s m args below meth c Q D dA B0 ca y h0 pc' ls' st' h') : am_Wp p l e R s m args below meth c Q D dA B0 ca y h0 pc ls st h := by
  simp only [am_st] at hs
  split at hs
  · rename_i x hq
    cases hs
    intro H locs rls hO hL
    exact lv_aload C.1 C.2.1 hd (hL.2.2.2 i _ hq (am_ph_r x)) (k H locs rls hO hL)
  · rename_i  hq
    cases hs
    intro H locs rls hO hL
    exact lv_aloadN C.1 C.2.1 hd (hL.2.2.2 i _ hq (am_ph_n)) (k H locs rls hO hL)
  · cases hs
theorem am_k_aload_n {i : Fin 4} (C : am_Cx p s m args meth c D dA B0 ca y) (hd : decode (am_by y) pc = .ok (.aload_n i, 1)) (hce : am_chE y (am_in y).1 pc (.aload_n i, n, t, a, b, w) = true) (hs : am_st (.aload_n i, n, t, a, b, w) pc ls st h = some (pc', ls', st', h')) (k : am_Wp p l e R s m args below meth c Q D dA B0 ca y h0 pc' ls' st' h') : am_Wp p l e R s m args below meth c Q D dA B0 ca y h0 pc ls st h := by
  simp only [am_st] at hs
  split at hs
  · rename_i x hq
    cases hs
    intro H locs rls hO hL
    exact lv_aload_n C.1 C.2.1 hd rfl (hL.2.2.2 i.val _ hq (am_ph_r x)) (k H locs rls hO hL)
  · rename_i  hq
    cases hs
    intro H locs rls hO hL
    exact lv_aload_nN C.1 C.2.1 hd rfl (hL.2.2.2 i.val _ hq (am_ph_n)) (k H locs rls hO hL)
  · cases hs
theorem am_k_istore {i : Nat} (C : am_Cx p s m args meth c D dA B0 ca y) (hd : decode (am_by y) pc = .ok (.istore i, 2)) (hce : am_chE y (am_in y).1 pc (.istore i, n, t, a, b, w) = true) (hs : am_st (.istore i, n, t, a, b, w) pc ls st h = some (pc', ls', st', h')) (k : am_Wp p l e R s m args below meth c Q D dA B0 ca y h0 pc' ls' st' h') : am_Wp p l e R s m args below meth c Q D dA B0 ca y h0 pc ls st h := by
  simp only [am_st] at hs
  split at hs
  · obtain ⟨h1, hs⟩ := am_cond hs
    cases hs
    intro H locs rls hO hL
    exact lv_istore C.1 C.2.1 hd hL.has (hL.1 ▸ am_blt h1) rfl (fun rls' hl' => k H locs rls' hO (hL.set1 hl'))
  · cases hs
theorem am_k_istore_n {i : Fin 4} (C : am_Cx p s m args meth c D dA B0 ca y) (hd : decode (am_by y) pc = .ok (.istore_n i, 1)) (hce : am_chE y (am_in y).1 pc (.istore_n i, n, t, a, b, w) = true) (hs : am_st (.istore_n i, n, t, a, b, w) pc ls st h = some (pc', ls', st', h')) (k : am_Wp p l e R s m args below meth c Q D dA B0 ca y h0 pc' ls' st' h') : am_Wp p l e R s m args below meth c Q D dA B0 ca y h0 pc ls st h := by
  simp only [am_st] at hs
  split at hs
  · obtain ⟨h1, hs⟩ := am_cond hs
    cases hs
    intro H locs rls hO hL
    exact lv_istore_n C.1 C.2.1 hd rfl hL.has (hL.1 ▸ am_blt h1) rfl (fun rls' hl' => k H locs rls' hO (hL.set1 hl'))
  · cases hs
theorem am_k_lstore {i : Nat} (C : am_Cx p s m args meth c D dA B0 ca y) (hd : decode (am_by y) pc = .ok (.lstore i, 2)) (hce : am_chE y (am_in y).1 pc (.lstore i, n, t, a, b, w) = true) (hs : am_st (.lstore i, n, t, a, b, w) pc ls st h = some (pc', ls', st', h')) (k : am_Wp p l e R s m args below meth c Q D dA B0 ca y h0 pc' ls' st' h') : am_Wp p l e R s m args below meth c Q D dA B0 ca y h0 pc ls st h := by
  simp only [am_st] at hs
  split at hs
  · obtain ⟨h1, hs⟩ := am_cond hs
    cases hs
    intro H locs rls hO hL
    exact lv_lstore C.1 C.2.1 hd hL.has (hL.1 ▸ am_blt h1) rfl (fun rls' hl' => k H locs rls' hO (hL.set2 hl'))
  · cases hs
theorem am_k_lstore_n {i : Fin 4} (C : am_Cx p s m args meth c D dA B0 ca y) (hd : decode (am_by y) pc = .ok (.lstore_n i, 1)) (hce : am_chE y (am_in y).1 pc (.lstore_n i, n, t, a, b, w) = true) (hs : am_st (.lstore_n i, n, t, a, b, w) pc ls st h = some (pc', ls', st', h')) (k : am_Wp p l e R s m args below meth c Q D dA B0 ca y h0 pc' ls' st' h') : am_Wp p l e R s m args below meth c Q D dA B0 ca y h0 pc ls st h := by
  simp only [am_st] at hs
  split at hs
  · obtain ⟨h1, hs⟩ := am_cond hs
    cases hs
    intro H locs rls hO hL
    exact lv_lstore_n C.1 C.2.1 hd rfl hL.has (hL.1 ▸ am_blt h1) rfl (fun rls' hl' => k H locs rls' hO (hL.set2 hl'))
  · cases hs
theorem am_k_astore {i : Nat} (C : am_Cx p s m args meth c D dA B0 ca y) (hd : decode (am_by y) pc = .ok (.astore i, 2)) (hce : am_chE y (am_in y).1 pc (.astore i, n, t, a, b, w) = true) (hs : am_st (.astore i, n, t, a, b, w) pc ls st h = some (pc', ls', st', h')) (k : am_Wp p l e R s m args below meth c Q D dA B0 ca y h0 pc' ls' st' h') : am_Wp p l e R s m args below meth c Q D dA B0 ca y h0 pc ls st h := by
  simp only [am_st] at hs
  split at hs
  · obtain ⟨h1, hs⟩ := am_cond hs
    cases hs
    intro H locs rls hO hL
    exact lv_astore C.1 C.2.1 hd hL.has (hL.1 ▸ am_blt h1) rfl (fun rls' hl' => k H locs rls' hO (hL.set1 hl'))
  · obtain ⟨h1, hs⟩ := am_cond hs
    cases hs
    intro H locs rls hO hL
    exact lv_astoreN C.1 C.2.1 hd hL.has (hL.1 ▸ am_blt h1) rfl (fun rls' hl' => k H locs rls' hO (hL.set1 hl'))
  · cases hs
theorem am_k_astore_n {i : Fin 4} (C : am_Cx p s m args meth c D dA B0 ca y) (hd : decode (am_by y) pc = .ok (.astore_n i, 1)) (hce : am_chE y (am_in y).1 pc (.astore_n i, n, t, a, b, w) = true) (hs : am_st (.astore_n i, n, t, a, b, w) pc ls st h = some (pc', ls', st', h')) (k : am_Wp p l e R s m args below meth c Q D dA B0 ca y h0 pc' ls' st' h') : am_Wp p l e R s m args below meth c Q D dA B0 ca y h0 pc ls st h := by
  simp only [am_st] at hs
  split at hs
  · obtain ⟨h1, hs⟩ := am_cond hs
    cases hs
    intro H locs rls hO hL
    exact lv_astore_n C.1 C.2.1 hd rfl hL.has (hL.1 ▸ am_blt h1) rfl (fun rls' hl' => k H locs rls' hO (hL.set1 hl'))
  · obtain ⟨h1, hs⟩ := am_cond hs
    cases hs
    intro H locs rls hO hL
    exact lv_astore_nN C.1 C.2.1 hd rfl hL.has (hL.1 ▸ am_blt h1) rfl (fun rls' hl' => k H locs rls' hO (hL.set1 hl'))
  · cases hs
theorem am_k_iinc {i : Nat} {d : Int} (C : am_Cx p s m args meth c D dA B0 ca y) (hd : decode (am_by y) pc = .ok (.iinc i d, 3)) (hce : am_chE y (am_in y).1 pc (.iinc i d, n, t, a, b, w) = true) (hs : am_st (.iinc i d, n, t, a, b, w) pc ls st h = some (pc', ls', st', h')) (k : am_Wp p l e R s m args below meth c Q D dA B0 ca y h0 pc' ls' st' h') : am_Wp p l e R s m args below meth c Q D dA B0 ca y h0 pc ls st h := by
  simp only [am_st] at hs
  split at hs
  · rename_i x hq
    cases hs
    intro H locs rls hO hL
    obtain ⟨k0, hk0⟩ := List.getElem?_of_mem (am_pr_mem (ad := am_ad B0 ca) hq (am_ph_i x))
    exact lv_iinc (k := k0) (x := x) C.1 C.2.1 hd hL.has hk0 rfl (hL.1 ▸ (List.getElem?_eq_some_iff.mp hq).1) rfl (fun rls' hl' => k H locs rls' hO (hL.set1 hl'))
  · cases hs
theorem am_k_iadd (C : am_Cx p s m args meth c D dA B0 ca y) (hd : decode (am_by y) pc = .ok (.iadd, 1)) (hce : am_chE y (am_in y).1 pc (.iadd, n, t, a, b, w) = true) (hs : am_st (.iadd, n, t, a, b, w) pc ls st h = some (pc', ls', st', h')) (k : am_Wp p l e R s m args below meth c Q D dA B0 ca y h0 pc' ls' st' h') : am_Wp p l e R s m args below meth c Q D dA B0 ca y h0 pc ls st h := by
  simp only [am_st] at hs
  split at hs
  · cases hs
    intro H locs rls hO hL
    exact lv_iadd C.1 C.2.1 hd (k H locs rls hO hL)
  · cases hs
theorem am_k_isub (C : am_Cx p s m args meth c D dA B0 ca y) (hd : decode (am_by y) pc = .ok (.isub, 1)) (hce : am_chE y (am_in y).1 pc (.isub, n, t, a, b, w) = true) (hs : am_st (.isub, n, t, a, b, w) pc ls st h = some (pc', ls', st', h')) (k : am_Wp p l e R s m args below meth c Q D dA B0 ca y h0 pc' ls' st' h') : am_Wp p l e R s m args below meth c Q D dA B0 ca y h0 pc ls st h := by
  simp only [am_st] at hs
  split at hs
  · cases hs
    intro H locs rls hO hL
    exact lv_isub C.1 C.2.1 hd (k H locs rls hO hL)
  · cases hs
theorem am_k_imul (C : am_Cx p s m args meth c D dA B0 ca y) (hd : decode (am_by y) pc = .ok (.imul, 1)) (hce : am_chE y (am_in y).1 pc (.imul, n, t, a, b, w) = true) (hs : am_st (.imul, n, t, a, b, w) pc ls st h = some (pc', ls', st', h')) (k : am_Wp p l e R s m args below meth c Q D dA B0 ca y h0 pc' ls' st' h') : am_Wp p l e R s m args below meth c Q D dA B0 ca y h0 pc ls st h := by
  simp only [am_st] at hs
  split at hs
  · cases hs
    intro H locs rls hO hL
    exact lv_imul C.1 C.2.1 hd (k H locs rls hO hL)
  · cases hs
theorem am_k_iand (C : am_Cx p s m args meth c D dA B0 ca y) (hd : decode (am_by y) pc = .ok (.iand, 1)) (hce : am_chE y (am_in y).1 pc (.iand, n, t, a, b, w) = true) (hs : am_st (.iand, n, t, a, b, w) pc ls st h = some (pc', ls', st', h')) (k : am_Wp p l e R s m args below meth c Q D dA B0 ca y h0 pc' ls' st' h') : am_Wp p l e R s m args below meth c Q D dA B0 ca y h0 pc ls st h := by
  simp only [am_st] at hs
  split at hs
  · cases hs
    intro H locs rls hO hL
    exact lv_iand C.1 C.2.1 hd (k H locs rls hO hL)
  · cases hs
theorem am_k_ior (C : am_Cx p s m args meth c D dA B0 ca y) (hd : decode (am_by y) pc = .ok (.ior, 1)) (hce : am_chE y (am_in y).1 pc (.ior, n, t, a, b, w) = true) (hs : am_st (.ior, n, t, a, b, w) pc ls st h = some (pc', ls', st', h')) (k : am_Wp p l e R s m args below meth c Q D dA B0 ca y h0 pc' ls' st' h') : am_Wp p l e R s m args below meth c Q D dA B0 ca y h0 pc ls st h := by
  simp only [am_st] at hs
  split at hs
  · cases hs
    intro H locs rls hO hL
    exact lv_ior C.1 C.2.1 hd (k H locs rls hO hL)
  · cases hs
theorem am_k_ixor (C : am_Cx p s m args meth c D dA B0 ca y) (hd : decode (am_by y) pc = .ok (.ixor, 1)) (hce : am_chE y (am_in y).1 pc (.ixor, n, t, a, b, w) = true) (hs : am_st (.ixor, n, t, a, b, w) pc ls st h = some (pc', ls', st', h')) (k : am_Wp p l e R s m args below meth c Q D dA B0 ca y h0 pc' ls' st' h') : am_Wp p l e R s m args below meth c Q D dA B0 ca y h0 pc ls st h := by
  simp only [am_st] at hs
  split at hs
  · cases hs
    intro H locs rls hO hL
    exact lv_ixor C.1 C.2.1 hd (k H locs rls hO hL)
  · cases hs
theorem am_k_ineg (C : am_Cx p s m args meth c D dA B0 ca y) (hd : decode (am_by y) pc = .ok (.ineg, 1)) (hce : am_chE y (am_in y).1 pc (.ineg, n, t, a, b, w) = true) (hs : am_st (.ineg, n, t, a, b, w) pc ls st h = some (pc', ls', st', h')) (k : am_Wp p l e R s m args below meth c Q D dA B0 ca y h0 pc' ls' st' h') : am_Wp p l e R s m args below meth c Q D dA B0 ca y h0 pc ls st h := by
  simp only [am_st] at hs
  split at hs
  · cases hs
    intro H locs rls hO hL
    exact lv_ineg C.1 C.2.1 hd (k H locs rls hO hL)
  · cases hs
theorem am_k_ishl (C : am_Cx p s m args meth c D dA B0 ca y) (hd : decode (am_by y) pc = .ok (.ishl, 1)) (hce : am_chE y (am_in y).1 pc (.ishl, n, t, a, b, w) = true) (hs : am_st (.ishl, n, t, a, b, w) pc ls st h = some (pc', ls', st', h')) (k : am_Wp p l e R s m args below meth c Q D dA B0 ca y h0 pc' ls' st' h') : am_Wp p l e R s m args below meth c Q D dA B0 ca y h0 pc ls st h := by
  simp only [am_st] at hs
  split at hs
  · cases hs
    intro H locs rls hO hL
    exact lv_ishl C.1 C.2.1 hd (k H locs rls hO hL)
  · cases hs
theorem am_k_ishr (C : am_Cx p s m args meth c D dA B0 ca y) (hd : decode (am_by y) pc = .ok (.ishr, 1)) (hce : am_chE y (am_in y).1 pc (.ishr, n, t, a, b, w) = true) (hs : am_st (.ishr, n, t, a, b, w) pc ls st h = some (pc', ls', st', h')) (k : am_Wp p l e R s m args below meth c Q D dA B0 ca y h0 pc' ls' st' h') : am_Wp p l e R s m args below meth c Q D dA B0 ca y h0 pc ls st h := by
  simp only [am_st] at hs
  split at hs
  · cases hs
    intro H locs rls hO hL
    exact lv_ishr C.1 C.2.1 hd (k H locs rls hO hL)
  · cases hs
theorem am_k_ladd (C : am_Cx p s m args meth c D dA B0 ca y) (hd : decode (am_by y) pc = .ok (.ladd, 1)) (hce : am_chE y (am_in y).1 pc (.ladd, n, t, a, b, w) = true) (hs : am_st (.ladd, n, t, a, b, w) pc ls st h = some (pc', ls', st', h')) (k : am_Wp p l e R s m args below meth c Q D dA B0 ca y h0 pc' ls' st' h') : am_Wp p l e R s m args below meth c Q D dA B0 ca y h0 pc ls st h := by
  simp only [am_st] at hs
  split at hs
  · cases hs
    intro H locs rls hO hL
    exact lv_ladd C.1 C.2.1 hd (k H locs rls hO hL)
  · cases hs
theorem am_k_lsub (C : am_Cx p s m args meth c D dA B0 ca y) (hd : decode (am_by y) pc = .ok (.lsub, 1)) (hce : am_chE y (am_in y).1 pc (.lsub, n, t, a, b, w) = true) (hs : am_st (.lsub, n, t, a, b, w) pc ls st h = some (pc', ls', st', h')) (k : am_Wp p l e R s m args below meth c Q D dA B0 ca y h0 pc' ls' st' h') : am_Wp p l e R s m args below meth c Q D dA B0 ca y h0 pc ls st h := by
  simp only [am_st] at hs
  split at hs
  · cases hs
    intro H locs rls hO hL
    exact lv_lsub C.1 C.2.1 hd (k H locs rls hO hL)
  · cases hs
theorem am_k_lmul (C : am_Cx p s m args meth c D dA B0 ca y) (hd : decode (am_by y) pc = .ok (.lmul, 1)) (hce : am_chE y (am_in y).1 pc (.lmul, n, t, a, b, w) = true) (hs : am_st (.lmul, n, t, a, b, w) pc ls st h = some (pc', ls', st', h')) (k : am_Wp p l e R s m args below meth c Q D dA B0 ca y h0 pc' ls' st' h') : am_Wp p l e R s m args below meth c Q D dA B0 ca y h0 pc ls st h := by
  simp only [am_st] at hs
  split at hs
  · cases hs
    intro H locs rls hO hL
    exact lv_lmul C.1 C.2.1 hd (k H locs rls hO hL)
  · cases hs
theorem am_k_lor (C : am_Cx p s m args meth c D dA B0 ca y) (hd : decode (am_by y) pc = .ok (.lor, 1)) (hce : am_chE y (am_in y).1 pc (.lor, n, t, a, b, w) = true) (hs : am_st (.lor, n, t, a, b, w) pc ls st h = some (pc', ls', st', h')) (k : am_Wp p l e R s m args below meth c Q D dA B0 ca y h0 pc' ls' st' h') : am_Wp p l e R s m args below meth c Q D dA B0 ca y h0 pc ls st h := by
  simp only [am_st] at hs
  split at hs
  · cases hs
    intro H locs rls hO hL
    exact lv_lor C.1 C.2.1 hd (k H locs rls hO hL)
  · cases hs
theorem am_k_land (C : am_Cx p s m args meth c D dA B0 ca y) (hd : decode (am_by y) pc = .ok (.land, 1)) (hce : am_chE y (am_in y).1 pc (.land, n, t, a, b, w) = true) (hs : am_st (.land, n, t, a, b, w) pc ls st h = some (pc', ls', st', h')) (k : am_Wp p l e R s m args below meth c Q D dA B0 ca y h0 pc' ls' st' h') : am_Wp p l e R s m args below meth c Q D dA B0 ca y h0 pc ls st h := by
  simp only [am_st] at hs
  split at hs
  · cases hs
    intro H locs rls hO hL
    exact lv_land C.1 C.2.1 hd (k H locs rls hO hL)
  · cases hs
theorem am_k_iushr (C : am_Cx p s m args meth c D dA B0 ca y) (hd : decode (am_by y) pc = .ok (.iushr, 1)) (hce : am_chE y (am_in y).1 pc (.iushr, n, t, a, b, w) = true) (hs : am_st (.iushr, n, t, a, b, w) pc ls st h = some (pc', ls', st', h')) (k : am_Wp p l e R s m args below meth c Q D dA B0 ca y h0 pc' ls' st' h') : am_Wp p l e R s m args below meth c Q D dA B0 ca y h0 pc ls st h := by
  simp only [am_st] at hs
  split at hs
  · cases hs
    intro H locs rls hO hL
    exact lv_iushr C.1 C.2.1 hd rfl (k H locs rls hO hL)
  · cases hs
theorem am_k_lshl (C : am_Cx p s m args meth c D dA B0 ca y) (hd : decode (am_by y) pc = .ok (.lshl, 1)) (hce : am_chE y (am_in y).1 pc (.lshl, n, t, a, b, w) = true) (hs : am_st (.lshl, n, t, a, b, w) pc ls st h = some (pc', ls', st', h')) (k : am_Wp p l e R s m args below meth c Q D dA B0 ca y h0 pc' ls' st' h') : am_Wp p l e R s m args below meth c Q D dA B0 ca y h0 pc ls st h := by
  simp only [am_st] at hs
  split at hs
  · cases hs
    intro H locs rls hO hL
    exact lv_lshl C.1 C.2.1 hd rfl (k H locs rls hO hL)
  · cases hs
theorem am_k_i2l (C : am_Cx p s m args meth c D dA B0 ca y) (hd : decode (am_by y) pc = .ok (.i2l, 1)) (hce : am_chE y (am_in y).1 pc (.i2l, n, t, a, b, w) = true) (hs : am_st (.i2l, n, t, a, b, w) pc ls st h = some (pc', ls', st', h')) (k : am_Wp p l e R s m args below meth c Q D dA B0 ca y h0 pc' ls' st' h') : am_Wp p l e R s m args below meth c Q D dA B0 ca y h0 pc ls st h := by
  simp only [am_st] at hs
  split at hs
  · cases hs
    intro H locs rls hO hL
    exact lv_i2l C.1 C.2.1 hd rfl (k H locs rls hO hL)
  · cases hs
theorem am_k_l2i (C : am_Cx p s m args meth c D dA B0 ca y) (hd : decode (am_by y) pc = .ok (.l2i, 1)) (hce : am_chE y (am_in y).1 pc (.l2i, n, t, a, b, w) = true) (hs : am_st (.l2i, n, t, a, b, w) pc ls st h = some (pc', ls', st', h')) (k : am_Wp p l e R s m args below meth c Q D dA B0 ca y h0 pc' ls' st' h') : am_Wp p l e R s m args below meth c Q D dA B0 ca y h0 pc ls st h := by
  simp only [am_st] at hs
  split at hs
  · cases hs
    intro H locs rls hO hL
    exact lv_l2i C.1 C.2.1 hd rfl (k H locs rls hO hL)
  · cases hs
theorem am_k_i2b (C : am_Cx p s m args meth c D dA B0 ca y) (hd : decode (am_by y) pc = .ok (.i2b, 1)) (hce : am_chE y (am_in y).1 pc (.i2b, n, t, a, b, w) = true) (hs : am_st (.i2b, n, t, a, b, w) pc ls st h = some (pc', ls', st', h')) (k : am_Wp p l e R s m args below meth c Q D dA B0 ca y h0 pc' ls' st' h') : am_Wp p l e R s m args below meth c Q D dA B0 ca y h0 pc ls st h := by
  simp only [am_st] at hs
  split at hs
  · cases hs
    intro H locs rls hO hL
    exact lv_i2b C.1 C.2.1 hd rfl (k H locs rls hO hL)
  · cases hs
theorem am_k_i2c (C : am_Cx p s m args meth c D dA B0 ca y) (hd : decode (am_by y) pc = .ok (.i2c, 1)) (hce : am_chE y (am_in y).1 pc (.i2c, n, t, a, b, w) = true) (hs : am_st (.i2c, n, t, a, b, w) pc ls st h = some (pc', ls', st', h')) (k : am_Wp p l e R s m args below meth c Q D dA B0 ca y h0 pc' ls' st' h') : am_Wp p l e R s m args below meth c Q D dA B0 ca y h0 pc ls st h := by
  simp only [am_st] at hs
  split at hs
  · cases hs
    intro H locs rls hO hL
    exact lv_i2c C.1 C.2.1 hd rfl (k H locs rls hO hL)
  · cases hs
theorem am_k_lcmp (C : am_Cx p s m args meth c D dA B0 ca y) (hd : decode (am_by y) pc = .ok (.lcmp, 1)) (hce : am_chE y (am_in y).1 pc (.lcmp, n, t, a, b, w) = true) (hs : am_st (.lcmp, n, t, a, b, w) pc ls st h = some (pc', ls', st', h')) (k : am_Wp p l e R s m args below meth c Q D dA B0 ca y h0 pc' ls' st' h') : am_Wp p l e R s m args below meth c Q D dA B0 ca y h0 pc ls st h := by
  simp only [am_st] at hs
  split at hs
  · cases hs
    intro H locs rls hO hL
    exact W.lcmp C.1 C.2.1 hd (k H locs rls hO hL)
  · cases hs
theorem am_k_idiv (C : am_Cx p s m args meth c D dA B0 ca y) (hd : decode (am_by y) pc = .ok (.idiv, 1)) (hce : am_chE y (am_in y).1 pc (.idiv, n, t, a, b, w) = true) (hs : am_st (.idiv, n, t, a, b, w) pc ls st h = some (pc', ls', st', h')) (k : am_Wp p l e R s m args below meth c Q D dA B0 ca y h0 pc' ls' st' h') : am_Wp p l e R s m args below meth c Q D dA B0 ca y h0 pc ls st h := by
  simp only [am_st] at hs
  split at hs
  · obtain ⟨h1, hs⟩ := am_ifn hs
    cases hs
    intro H locs rls hO hL
    exact lv_idiv C.1 C.2.1 hd h1 (k H locs rls hO hL)
  · cases hs
theorem am_k_irem (C : am_Cx p s m args meth c D dA B0 ca y) (hd : decode (am_by y) pc = .ok (.irem, 1)) (hce : am_chE y (am_in y).1 pc (.irem, n, t, a, b, w) = true) (hs : am_st (.irem, n, t, a, b, w) pc ls st h = some (pc', ls', st', h')) (k : am_Wp p l e R s m args below meth c Q D dA B0 ca y h0 pc' ls' st' h') : am_Wp p l e R s m args below meth c Q D dA B0 ca y h0 pc ls st h := by
  simp only [am_st] at hs
  split at hs
  · obtain ⟨h1, hs⟩ := am_ifn hs
    cases hs
    intro H locs rls hO hL
    exact lv_irem C.1 C.2.1 hd h1 (k H locs rls hO hL)
  · cases hs
theorem am_k_ldiv (C : am_Cx p s m args meth c D dA B0 ca y) (hd : decode (am_by y) pc = .ok (.ldiv, 1)) (hce : am_chE y (am_in y).1 pc (.ldiv, n, t, a, b, w) = true) (hs : am_st (.ldiv, n, t, a, b, w) pc ls st h = some (pc', ls', st', h')) (k : am_Wp p l e R s m args below meth c Q D dA B0 ca y h0 pc' ls' st' h') : am_Wp p l e R s m args below meth c Q D dA B0 ca y h0 pc ls st h := by
  simp only [am_st] at hs
  split at hs
  · obtain ⟨h1, hs⟩ := am_ifn hs
    cases hs
    intro H locs rls hO hL
    exact lv_ldiv C.1 C.2.1 hd h1 (k H locs rls hO hL)
  · cases hs
theorem am_k_lrem (C : am_Cx p s m args meth c D dA B0 ca y) (hd : decode (am_by y) pc = .ok (.lrem, 1)) (hce : am_chE y (am_in y).1 pc (.lrem, n, t, a, b, w) = true) (hs : am_st (.lrem, n, t, a, b, w) pc ls st h = some (pc', ls', st', h')) (k : am_Wp p l e R s m args below meth c Q D dA B0 ca y h0 pc' ls' st' h') : am_Wp p l e R s m args below meth c Q D dA B0 ca y h0 pc ls st h := by
  simp only [am_st] at hs
  split at hs
  · obtain ⟨h1, hs⟩ := am_ifn hs
    cases hs
    intro H locs rls hO hL
    exact lv_lrem C.1 C.2.1 hd h1 (k H locs rls hO hL)
  · cases hs
theorem am_k_dup (C : am_Cx p s m args meth c D dA B0 ca y) (hd : decode (am_by y) pc = .ok (.dup, 1)) (hce : am_chE y (am_in y).1 pc (.dup, n, t, a, b, w) = true) (hs : am_st (.dup, n, t, a, b, w) pc ls st h = some (pc', ls', st', h')) (k : am_Wp p l e R s m args below meth c Q D dA B0 ca y h0 pc' ls' st' h') : am_Wp p l e R s m args below meth c Q D dA B0 ca y h0 pc ls st h := by
  simp only [am_st] at hs
  split at hs
  · obtain ⟨h1, hs⟩ := am_cond hs
    cases hs
    intro H locs rls hO hL
    exact lv_dup C.1 C.2.1 hd ((am_ga_cat _ _).trans (am_beq h1)) (k H locs rls hO hL)
  · cases hs
theorem am_k_pop (C : am_Cx p s m args meth c D dA B0 ca y) (hd : decode (am_by y) pc = .ok (.pop, 1)) (hce : am_chE y (am_in y).1 pc (.pop, n, t, a, b, w) = true) (hs : am_st (.pop, n, t, a, b, w) pc ls st h = some (pc', ls', st', h')) (k : am_Wp p l e R s m args below meth c Q D dA B0 ca y h0 pc' ls' st' h') : am_Wp p l e R s m args below meth c Q D dA B0 ca y h0 pc ls st h := by
  simp only [am_st] at hs
  split at hs
  · obtain ⟨h1, hs⟩ := am_cond hs
    cases hs
    intro H locs rls hO hL
    exact lv_pop C.1 C.2.1 hd ((am_ga_cat _ _).trans (am_beq h1)) (k H locs rls hO hL)
  · cases hs
theorem am_k_dup2 (C : am_Cx p s m args meth c D dA B0 ca y) (hd : decode (am_by y) pc = .ok (.dup2, 1)) (hce : am_chE y (am_in y).1 pc (.dup2, n, t, a, b, w) = true) (hs : am_st (.dup2, n, t, a, b, w) pc ls st h = some (pc', ls', st', h')) (k : am_Wp p l e R s m args below meth c Q D dA B0 ca y h0 pc' ls' st' h') : am_Wp p l e R s m args below meth c Q D dA B0 ca y h0 pc ls st h := by
  simp only [am_st] at hs
  split at hs
  · obtain ⟨h1, hs⟩ := am_cond hs
    rw [Bool.and_eq_true] at h1
    cases hs
    intro H locs rls hO hL
    exact lv_dup2_11 C.1 C.2.1 hd ((am_ga_cat _ _).trans (am_beq h1.1)) ((am_ga_cat _ _).trans (am_beq h1.2)) (k H locs rls hO hL)
  · cases hs
theorem am_k_goto {off : Int} (C : am_Cx p s m args meth c D dA B0 ca y) (hd : decode (am_by y) pc = .ok (.goto off, 3)) (hce : am_chE y (am_in y).1 pc (.goto off, n, t, a, b, w) = true) (hs : am_st (.goto off, n, t, a, b, w) pc ls st h = some (pc', ls', st', h')) (k : am_Wp p l e R s m args below meth c Q D dA B0 ca y h0 pc' ls' st' h') : am_Wp p l e R s m args below meth c Q D dA B0 ca y h0 pc ls st h := by
  simp only [am_st] at hs
  cases hs
  intro H locs rls hO hL
  exact lv_goto C.1 C.2.1 hd (of_decide_eq_true hce) (k H locs rls hO hL)
theorem am_k_if_eq {off : Int} (C : am_Cx p s m args meth c D dA B0 ca y) (hd : decode (am_by y) pc = .ok (.ifCond .eq off, 3)) (hce : am_chE y (am_in y).1 pc (.ifCond .eq off, n, t, a, b, w) = true) (hs : am_st (.ifCond .eq off, n, t, a, b, w) pc ls st h = some (pc', ls', st', h')) (k : am_Wp p l e R s m args below meth c Q D dA B0 ca y h0 pc' ls' st' h') : am_Wp p l e R s m args below meth c Q D dA B0 ca y h0 pc ls st h := by
  simp only [am_st] at hs
  split at hs
  · rename_i x r
    by_cases hc : x = 0
    · rw [if_pos hc] at hs
      cases hs
      intro H locs rls hO hL
      exact lv_if_eq C.1 C.2.1 hd (of_decide_eq_true hce) (fun _ => k H locs rls hO hL) (fun q => absurd hc q)
    · rw [if_neg hc] at hs
      cases hs
      intro H locs rls hO hL
      exact lv_if_eq C.1 C.2.1 hd (of_decide_eq_true hce) (fun q => absurd q hc) (fun _ => k H locs rls hO hL)
  · cases hs
theorem am_k_if_lt {off : Int} (C : am_Cx p s m args meth c D dA B0 ca y) (hd : decode (am_by y) pc = .ok (.ifCond .lt off, 3)) (hce : am_chE y (am_in y).1 pc (.ifCond .lt off, n, t, a, b, w) = true) (hs : am_st (.ifCond .lt off, n, t, a, b, w) pc ls st h = some (pc', ls', st', h')) (k : am_Wp p l e R s m args below meth c Q D dA B0 ca y h0 pc' ls' st' h') : am_Wp p l e R s m args below meth c Q D dA B0 ca y h0 pc ls st h := by
  simp only [am_st] at hs
  split at hs
  · rename_i x r
    by_cases hc : x < 0
    · rw [if_pos hc] at hs
      cases hs
      intro H locs rls hO hL
      exact lv_if_lt C.1 C.2.1 hd (of_decide_eq_true hce) (fun _ => k H locs rls hO hL) (fun q => absurd hc q)
    · rw [if_neg hc] at hs
      cases hs
      intro H locs rls hO hL
      exact lv_if_lt C.1 C.2.1 hd (of_decide_eq_true hce) (fun q => absurd q hc) (fun _ => k H locs rls hO hL)
  · cases hs
theorem am_k_if_ge {off : Int} (C : am_Cx p s m args meth c D dA B0 ca y) (hd : decode (am_by y) pc = .ok (.ifCond .ge off, 3)) (hce : am_chE y (am_in y).1 pc (.ifCond .ge off, n, t, a, b, w) = true) (hs : am_st (.ifCond .ge off, n, t, a, b, w) pc ls st h = some (pc', ls', st', h')) (k : am_Wp p l e R s m args below meth c Q D dA B0 ca y h0 pc' ls' st' h') : am_Wp p l e R s m args below meth c Q D dA B0 ca y h0 pc ls st h := by
  simp only [am_st] at hs
  split at hs
  · rename_i x r
    by_cases hc : 0 ≤ x
    · rw [if_pos hc] at hs
      cases hs
      intro H locs rls hO hL
      exact lv_if_ge C.1 C.2.1 hd (of_decide_eq_true hce) (fun _ => k H locs rls hO hL) (fun q => absurd hc q)
    · rw [if_neg hc] at hs
      cases hs
      intro H locs rls hO hL
      exact lv_if_ge C.1 C.2.1 hd (of_decide_eq_true hce) (fun q => absurd q hc) (fun _ => k H locs rls hO hL)
  · cases hs
theorem am_k_if_gt {off : Int} (C : am_Cx p s m args meth c D dA B0 ca y) (hd : decode (am_by y) pc = .ok (.ifCond .gt off, 3)) (hce : am_chE y (am_in y).1 pc (.ifCond .gt off, n, t, a, b, w) = true) (hs : am_st (.ifCond .gt off, n, t, a, b, w) pc ls st h = some (pc', ls', st', h')) (k : am_Wp p l e R s m args below meth c Q D dA B0 ca y h0 pc' ls' st' h') : am_Wp p l e R s m args below meth c Q D dA B0 ca y h0 pc ls st h := by
  simp only [am_st] at hs
  split at hs
  · rename_i x r
    by_cases hc : 0 < x
    · rw [if_pos hc] at hs
      cases hs
      intro H locs rls hO hL
      exact lv_if_gt C.1 C.2.1 hd (of_decide_eq_true hce) (fun _ => k H locs rls hO hL) (fun q => absurd hc q)
    · rw [if_neg hc] at hs
      cases hs
      intro H locs rls hO hL
      exact lv_if_gt C.1 C.2.1 hd (of_decide_eq_true hce) (fun q => absurd q hc) (fun _ => k H locs rls hO hL)
  · cases hs
theorem am_k_if_le {off : Int} (C : am_Cx p s m args meth c D dA B0 ca y) (hd : decode (am_by y) pc = .ok (.ifCond .le off, 3)) (hce : am_chE y (am_in y).1 pc (.ifCond .le off, n, t, a, b, w) = true) (hs : am_st (.ifCond .le off, n, t, a, b, w) pc ls st h = some (pc', ls', st', h')) (k : am_Wp p l e R s m args below meth c Q D dA B0 ca y h0 pc' ls' st' h') : am_Wp p l e R s m args below meth c Q D dA B0 ca y h0 pc ls st h := by
  simp only [am_st] at hs
  split at hs
  · rename_i x r
    by_cases hc : x ≤ 0
    · rw [if_pos hc] at hs
      cases hs
      intro H locs rls hO hL
      exact lv_if_le C.1 C.2.1 hd (of_decide_eq_true hce) (fun _ => k H locs rls hO hL) (fun q => absurd hc q)
    · rw [if_neg hc] at hs
      cases hs
      intro H locs rls hO hL
      exact lv_if_le C.1 C.2.1 hd (of_decide_eq_true hce) (fun q => absurd q hc) (fun _ => k H locs rls hO hL)
  · cases hs
theorem am_k_if_ne {off : Int} (C : am_Cx p s m args meth c D dA B0 ca y) (hd : decode (am_by y) pc = .ok (.ifCond .ne off, 3)) (hce : am_chE y (am_in y).1 pc (.ifCond .ne off, n, t, a, b, w) = true) (hs : am_st (.ifCond .ne off, n, t, a, b, w) pc ls st h = some (pc', ls', st', h')) (k : am_Wp p l e R s m args below meth c Q D dA B0 ca y h0 pc' ls' st' h') : am_Wp p l e R s m args below meth c Q D dA B0 ca y h0 pc ls st h := by
  simp only [am_st] at hs
  split at hs
  · rename_i x r
    by_cases hc : x = 0
    · rw [if_pos hc] at hs
      cases hs
      intro H locs rls hO hL
      exact lv_if_ne C.1 C.2.1 hd (of_decide_eq_true hce) (fun q => absurd hc q) (fun _ => k H locs rls hO hL)
    · rw [if_neg hc] at hs
      cases hs
      intro H locs rls hO hL
      exact lv_if_ne C.1 C.2.1 hd (of_decide_eq_true hce) (fun _ => k H locs rls hO hL) (fun q => absurd q hc)
  · cases hs
theorem am_k_icmp_eq {off : Int} (C : am_Cx p s m args meth c D dA B0 ca y) (hd : decode (am_by y) pc = .ok (.if_icmp .eq off, 3)) (hce : am_chE y (am_in y).1 pc (.if_icmp .eq off, n, t, a, b, w) = true) (hs : am_st (.if_icmp .eq off, n, t, a, b, w) pc ls st h = some (pc', ls', st', h')) (k : am_Wp p l e R s m args below meth c Q D dA B0 ca y h0 pc' ls' st' h') : am_Wp p l e R s m args below meth c Q D dA B0 ca y h0 pc ls st h := by
  simp only [am_st] at hs
  split at hs
  · rename_i z x r
    by_cases hc : x = z
    · rw [if_pos hc] at hs
      cases hs
      intro H locs rls hO hL
      exact lv_icmp_eq C.1 C.2.1 hd (of_decide_eq_true hce) (fun _ => k H locs rls hO hL) (fun q => absurd hc q)
    · rw [if_neg hc] at hs
      cases hs
      intro H locs rls hO hL
      exact lv_icmp_eq C.1 C.2.1 hd (of_decide_eq_true hce) (fun q => absurd q hc) (fun _ => k H locs rls hO hL)
  · cases hs
theorem am_k_icmp_lt {off : Int} (C : am_Cx p s m args meth c D dA B0 ca y) (hd : decode (am_by y) pc = .ok (.if_icmp .lt off, 3)) (hce : am_chE y (am_in y).1 pc (.if_icmp .lt off, n, t, a, b, w) = true) (hs : am_st (.if_icmp .lt off, n, t, a, b, w) pc ls st h = some (pc', ls', st', h')) (k : am_Wp p l e R s m args below meth c Q D dA B0 ca y h0 pc' ls' st' h') : am_Wp p l e R s m args below meth c Q D dA B0 ca y h0 pc ls st h := by
  simp only [am_st] at hs
  split at hs
  · rename_i z x r
    by_cases hc : x < z
    · rw [if_pos hc] at hs
      cases hs
      intro H locs rls hO hL
      exact lv_icmp_lt C.1 C.2.1 hd (of_decide_eq_true hce) (fun _ => k H locs rls hO hL) (fun q => absurd hc q)
    · rw [if_neg hc] at hs
      cases hs
      intro H locs rls hO hL
      exact lv_icmp_lt C.1 C.2.1 hd (of_decide_eq_true hce) (fun q => absurd q hc) (fun _ => k H locs rls hO hL)
  · cases hs
theorem am_k_icmp_ge {off : Int} (C : am_Cx p s m args meth c D dA B0 ca y) (hd : decode (am_by y) pc = .ok (.if_icmp .ge off, 3)) (hce : am_chE y (am_in y).1 pc (.if_icmp .ge off, n, t, a, b, w) = true) (hs : am_st (.if_icmp .ge off, n, t, a, b, w) pc ls st h = some (pc', ls', st', h')) (k : am_Wp p l e R s m args below meth c Q D dA B0 ca y h0 pc' ls' st' h') : am_Wp p l e R s m args below meth c Q D dA B0 ca y h0 pc ls st h := by
  simp only [am_st] at hs
  split at hs
  · rename_i z x r
    by_cases hc : z ≤ x
    · rw [if_pos hc] at hs
      cases hs
      intro H locs rls hO hL
      exact lv_icmp_ge C.1 C.2.1 hd (of_decide_eq_true hce) (fun _ => k H locs rls hO hL) (fun q => absurd hc q)
    · rw [if_neg hc] at hs
      cases hs
      intro H locs rls hO hL
      exact lv_icmp_ge C.1 C.2.1 hd (of_decide_eq_true hce) (fun q => absurd q hc) (fun _ => k H locs rls hO hL)
  · cases hs
theorem am_k_icmp_gt {off : Int} (C : am_Cx p s m args meth c D dA B0 ca y) (hd : decode (am_by y) pc = .ok (.if_icmp .gt off, 3)) (hce : am_chE y (am_in y).1 pc (.if_icmp .gt off, n, t, a, b, w) = true) (hs : am_st (.if_icmp .gt off, n, t, a, b, w) pc ls st h = some (pc', ls', st', h')) (k : am_Wp p l e R s m args below meth c Q D dA B0 ca y h0 pc' ls' st' h') : am_Wp p l e R s m args below meth c Q D dA B0 ca y h0 pc ls st h := by
  simp only [am_st] at hs
  split at hs
  · rename_i z x r
    by_cases hc : z < x
    · rw [if_pos hc] at hs
      cases hs
      intro H locs rls hO hL
      exact lv_icmp_gt C.1 C.2.1 hd (of_decide_eq_true hce) (fun _ => k H locs rls hO hL) (fun q => absurd hc q)
    · rw [if_neg hc] at hs
      cases hs
      intro H locs rls hO hL
      exact lv_icmp_gt C.1 C.2.1 hd (of_decide_eq_true hce) (fun q => absurd q hc) (fun _ => k H locs rls hO hL)
  · cases hs
theorem am_k_icmp_le {off : Int} (C : am_Cx p s m args meth c D dA B0 ca y) (hd : decode (am_by y) pc = .ok (.if_icmp .le off, 3)) (hce : am_chE y (am_in y).1 pc (.if_icmp .le off, n, t, a, b, w) = true) (hs : am_st (.if_icmp .le off, n, t, a, b, w) pc ls st h = some (pc', ls', st', h')) (k : am_Wp p l e R s m args below meth c Q D dA B0 ca y h0 pc' ls' st' h') : am_Wp p l e R s m args below meth c Q D dA B0 ca y h0 pc ls st h := by
  simp only [am_st] at hs
  split at hs
  · rename_i z x r
    by_cases hc : x ≤ z
    · rw [if_pos hc] at hs
      cases hs
      intro H locs rls hO hL
      exact lv_icmp_le C.1 C.2.1 hd (of_decide_eq_true hce) (fun _ => k H locs rls hO hL) (fun q => absurd hc q)
    · rw [if_neg hc] at hs
      cases hs
      intro H locs rls hO hL
      exact lv_icmp_le C.1 C.2.1 hd (of_decide_eq_true hce) (fun q => absurd q hc) (fun _ => k H locs rls hO hL)
  · cases hs
theorem am_k_icmp_ne {off : Int} (C : am_Cx p s m args meth c D dA B0 ca y) (hd : decode (am_by y) pc = .ok (.if_icmp .ne off, 3)) (hce : am_chE y (am_in y).1 pc (.if_icmp .ne off, n, t, a, b, w) = true) (hs : am_st (.if_icmp .ne off, n, t, a, b, w) pc ls st h = some (pc', ls', st', h')) (k : am_Wp p l e R s m args below meth c Q D dA B0 ca y h0 pc' ls' st' h') : am_Wp p l e R s m args below meth c Q D dA B0 ca y h0 pc ls st h := by
  simp only [am_st] at hs
  split at hs
  · rename_i z x r
    by_cases hc : x = z
    · rw [if_pos hc] at hs
      cases hs
      intro H locs rls hO hL
      exact lv_icmp_ne C.1 C.2.1 hd (of_decide_eq_true hce) (fun q => absurd hc q) (fun _ => k H locs rls hO hL)
    · rw [if_neg hc] at hs
      cases hs
      intro H locs rls hO hL
      exact lv_icmp_ne C.1 C.2.1 hd (of_decide_eq_true hce) (fun _ => k H locs rls hO hL) (fun q => absurd q hc)
  · cases hs
theorem am_k_ifnull {off : Int} (C : am_Cx p s m args meth c D dA B0 ca y) (hd : decode (am_by y) pc = .ok (.ifnull off, 3)) (hce : am_chE y (am_in y).1 pc (.ifnull off, n, t, a, b, w) = true) (hs : am_st (.ifnull off, n, t, a, b, w) pc ls st h = some (pc', ls', st', h')) (k : am_Wp p l e R s m args below meth c Q D dA B0 ca y h0 pc' ls' st' h') : am_Wp p l e R s m args below meth c Q D dA B0 ca y h0 pc ls st h := by
  simp only [am_st] at hs
  split at hs
  · cases hs
    intro H locs rls hO hL
    exact lv_ifnullN C.1 C.2.1 hd (of_decide_eq_true hce) (k H locs rls hO hL)
  · cases hs
    intro H locs rls hO hL
    exact lv_ifnull C.1 C.2.1 hd (k H locs rls hO hL)
  · cases hs
theorem am_k_ifnonnull {off : Int} (C : am_Cx p s m args meth c D dA B0 ca y) (hd : decode (am_by y) pc = .ok (.ifnonnull off, 3)) (hce : am_chE y (am_in y).1 pc (.ifnonnull off, n, t, a, b, w) = true) (hs : am_st (.ifnonnull off, n, t, a, b, w) pc ls st h = some (pc', ls', st', h')) (k : am_Wp p l e R s m args below meth c Q D dA B0 ca y h0 pc' ls' st' h') : am_Wp p l e R s m args below meth c Q D dA B0 ca y h0 pc ls st h := by
  simp only [am_st] at hs
  split at hs
  · cases hs
    intro H locs rls hO hL
    exact lv_ifnonnullN C.1 C.2.1 hd (k H locs rls hO hL)
  · cases hs
    intro H locs rls hO hL
    exact lv_ifnonnull C.1 C.2.1 hd (of_decide_eq_true hce) (k H locs rls hO hL)
  · cases hs
theorem am_k_tableswitch {d lo hi : Int} {offs : Array Int} {len : Nat} (C : am_Cx p s m args meth c D dA B0 ca y) (hd : decode (am_by y) pc = .ok (.tableswitch d lo hi offs, len)) (hce : am_chE y (am_in y).1 pc (.tableswitch d lo hi offs, n, t, a, b, w) = true) (hs : am_st (.tableswitch d lo hi offs, n, t, a, b, w) pc ls st h = some (pc', ls', st', h')) (k : am_Wp p l e R s m args below meth c Q D dA B0 ca y h0 pc' ls' st' h') : am_Wp p l e R s m args below meth c Q D dA B0 ca y h0 pc ls st h := by
  simp only [am_chE, Bool.and_eq_true] at hce
  simp only [am_st] at hs
  split at hs
  · rename_i x r
    by_cases hc : x.toInt < lo ∨ hi < x.toInt
    · rw [if_pos hc] at hs
      cases hs
      intro H locs rls hO hL
      exact lv_tableOut C.1 C.2.1 hd hc (Int.toNat_of_nonneg (of_decide_eq_true hce.1)).symm (k H locs rls hO hL)
    · rw [if_neg hc] at hs
      split at hs
      · rename_i off ho
        cases hs
        intro H locs rls hO hL
        have hm : off ∈ offs.toList := by
          rw [← Array.getElem?_toList] at ho
          exact List.mem_of_getElem? ho
        exact lv_tableIn C.1 C.2.1 hd (fun q => hc (Or.inl q)) (fun q => hc (Or.inr q)) ho (Int.toNat_of_nonneg (of_decide_eq_true (List.all_eq_true.mp hce.2 off hm))).symm (k H locs rls hO hL)
      · cases hs
  · cases hs
theorem am_k_ldc {idx : Nat} (C : am_Cx p s m args meth c D dA B0 ca y) (hd : decode (am_by y) pc = .ok (.ldc idx, 2)) (hce : am_chE y (am_in y).1 pc (.ldc idx, n, t, a, b, w) = true) (hb0 : Nat.beq b 0 = true) (hs : am_st (.ldc idx, n, t, a, b, w) pc ls st h = some (pc', ls', st', h')) (k : am_Wp p l e R s m args below meth c Q D dA B0 ca y h0 pc' ls' st' h') : am_Wp p l e R s m args below meth c Q D dA B0 ca y h0 pc ls st h := by
  simp only [am_chE] at hce
  simp only [am_st] at hs
  rw [hb0] at hs hce
  simp only [cond_true] at hs hce
  cases hs
  intro H locs rls hO hL
  exact lv_ldc C.1 C.2.1 C.2.2.2.1 (C.2.2.2.2.1 _ (am_ci (of_decide_eq_true hce))) hd (k H locs rls hO hL)
theorem am_k_ldc_w {idx : Nat} (C : am_Cx p s m args meth c D dA B0 ca y) (hd : decode (am_by y) pc = .ok (.ldc_w idx, 3)) (hce : am_chE y (am_in y).1 pc (.ldc_w idx, n, t, a, b, w) = true) (hb0 : Nat.beq b 0 = true) (hs : am_st (.ldc_w idx, n, t, a, b, w) pc ls st h = some (pc', ls', st', h')) (k : am_Wp p l e R s m args below meth c Q D dA B0 ca y h0 pc' ls' st' h') : am_Wp p l e R s m args below meth c Q D dA B0 ca y h0 pc ls st h := by
  simp only [am_chE] at hce
  simp only [am_st] at hs
  rw [hb0] at hs hce
  simp only [cond_true] at hs hce
  cases hs
  intro H locs rls hO hL
  exact lv_ldcw C.1 C.2.1 C.2.2.2.1 (C.2.2.2.2.1 _ (am_ci (of_decide_eq_true hce))) hd (k H locs rls hO hL)
theorem am_k_ldc2_w {idx : Nat} (C : am_Cx p s m args meth c D dA B0 ca y) (hd : decode (am_by y) pc = .ok (.ldc2_w idx, 3)) (hce : am_chE y (am_in y).1 pc (.ldc2_w idx, n, t, a, b, w) = true) (hs : am_st (.ldc2_w idx, n, t, a, b, w) pc ls st h = some (pc', ls', st', h')) (k : am_Wp p l e R s m args below meth c Q D dA B0 ca y h0 pc' ls' st' h') : am_Wp p l e R s m args below meth c Q D dA B0 ca y h0 pc ls st h := by
  simp only [am_chE] at hce
  simp only [am_st] at hs
  cases hs
  intro H locs rls hO hL
  exact lv_ldc2 C.1 C.2.1 C.2.2.2.1 (C.2.2.2.2.1 _ (am_cL (of_decide_eq_true hce))) hd (k H locs rls hO hL)
theorem am_k_getstatic {idx : Nat} (C : am_Cx p s m args meth c D dA B0 ca y) (hd : decode (am_by y) pc = .ok (.getstatic idx, 3)) (hce : am_chE y (am_in y).1 pc (.getstatic idx, n, t, a, b, w) = true) (hs : am_st (.getstatic idx, n, t, a, b, w) pc ls st h = some (pc', ls', st', h')) (k : am_Wp p l e R s m args below meth c Q D dA B0 ca y h0 pc' ls' st' h') : am_Wp p l e R s m args below meth c Q D dA B0 ca y h0 pc ls st h := by
  simp only [am_chE, Bool.and_eq_true] at hce
  obtain ⟨⟨h1, h2⟩, h3⟩ := hce
  have h1 : 1 ≤ a := Nat.le_of_ble_eq_true h1
  have h2 : a ≤ 6 := Nat.le_of_ble_eq_true h2
  simp only [am_st] at hs
  cases hs
  intro H locs rls hO hL
  obtain ⟨cf, kf, fi, f, q, cell, z1, z2, z3, z4, z5, z6, z7, z8⟩ := hO.2.2.1.1 a h1 h2
  have e : am_ad B0 ca a = ca a := am_ad_lo (by unfold am_n0; omega)
  refine W.gets (v := .ref (ca a)) C.1 C.2.1 C.2.2.2.1 (C.2.2.2.2.1 _ (am_flS (of_decide_eq_true h3))) z1 z2 z3 z4 z5 (fun e => by rw [e] at z6; cases z6) z7 rfl hd ?_
  have hk := k H locs rls hO hL
  simp only [List.map_cons, am_ga, e] at hk
  exact hk
theorem am_k_getfield {idx : Nat} (C : am_Cx p s m args meth c D dA B0 ca y) (hd : decode (am_by y) pc = .ok (.getfield idx, 3)) (hce : am_chE y (am_in y).1 pc (.getfield idx, n, t, a, b, w) = true) (hs : am_st (.getfield idx, n, t, a, b, w) pc ls st h = some (pc', ls', st', h')) (k : am_Wp p l e R s m args below meth c Q D dA B0 ca y h0 pc' ls' st' h') : am_Wp p l e R s m args below meth c Q D dA B0 ca y h0 pc ls st h := by
  simp only [am_chE, Bool.and_eq_true] at hce
  obtain ⟨⟨h1, h2⟩, h3⟩ := hce
  have h1 := am_blt h1
  have h2 := am_blt h2
  simp only [am_st] at hs
  split at hs
  · obtain ⟨h4, hs⟩ := am_cond hs
    cases hs
    intro H locs rls hO hL
    exact va_get (D := D) (ci := a) (C := am_cn a) (T := am_TT a) (N := am_N a) C.1 C.2.1 C.2.2.2.2.1 (am_cls h1).1 C.2.2.2.1 C.2.2.2.2.2.1.1 (am_objP hO h4 h1) 0 rfl (am_cl a h1) b h2 (C.2.2.2.2.1 _ (am_fl (of_decide_eq_true h3))) (fun _ z => z) (am_fs_get h2) hd (k H locs rls hO hL)
  · cases hs
theorem am_k_putfield {idx : Nat} (C : am_Cx p s m args meth c D dA B0 ca y) (hd : decode (am_by y) pc = .ok (.putfield idx, 3)) (hce : am_chE y (am_in y).1 pc (.putfield idx, n, t, a, b, w) = true) (hs : am_st (.putfield idx, n, t, a, b, w) pc ls st h = some (pc', ls', st', h')) (k : am_Wp p l e R s m args below meth c Q D dA B0 ca y h0 pc' ls' st' h') : am_Wp p l e R s m args below meth c Q D dA B0 ca y h0 pc ls st h := by
  simp only [am_chE, Bool.and_eq_true] at hce
  obtain ⟨⟨⟨h1, h2⟩, h3⟩, h5⟩ := hce
  have h1 := am_blt h1
  have h2 := am_blt h2
  simp only [am_st] at hs
  split at hs
  · rename_i v x r
    obtain ⟨h4, hs⟩ := am_cond hs
    rw [Bool.and_eq_true] at h4
    obtain ⟨h4, h6⟩ := h4
    cases hs
    intro H locs rls hO hL
    obtain ⟨hx0, cell, q1, q2, q3, q4⟩ := am_obj hO h4 h1
    obtain ⟨hx, hb, hml, hown, hts, hT, hin, hB⟩ := C
    have hap := va_apart (own := am_cn (am_in y).1) hts (am_cls h1).1 (am_ty a) (am_cT a h1).1 (am_cT a h1).2 hT.1 (am_cl a h1)
    obtain ⟨hS, hfc, kC, hkC, hkind⟩ := hT.1.1 a _ (am_cl a h1)
    obtain ⟨cf, kf, fi, f, hi, hsl⟩ := hS b h2
    have hlay := hts _ ((am_cls h1).1 _ (u_in_lay h2))
    have hst := (u_facts hfc hkC (u_lays hts (am_cls h1).1 h2) hi).1
    have hnf : narrow (am_ty a b) (am_ga (am_ad B0 ca) v) = am_ga (am_ad B0 ca) v ∧ fits (am_ty a b) (am_ga (am_ad B0 ca) v) = true := am_fok_spec h6
    have hlink := hts _ (am_fl (of_decide_eq_true h3))
    have fin : ∀ H' : Heap, H'[am_ad B0 ca x]? = some (cell.setSlot f.slot (am_ga (am_ad B0 ca) v)) → H'.size = H.size → (∀ q, q ≠ am_ad B0 ca x → H'[q]? = H[q]?) → W p l e R s m args below meth c H' (locs ++ [⟨am_ad B0 ca x, f.slot⟩]) (h.1 - h0.1) (h.2.1 - h0.2.1) Q (F0 m (pc + 3) rls (st'.map (am_ga (am_ad B0 ca)))) := by
      intro H' e1 e2 e3
      refine k H' _ rls (hO.put hx0 rfl rfl (fun k hk => ?_) e2 e3 ?_) hL
      · funext j
        simp [am_put, am_up, hk]
      · obtain ⟨-, o1, o2⟩ := am_isO_spec h4
        refine Or.inl ⟨o1, (am_cn a, am_TT a, am_N a), ?_, ?_⟩
        · show vwCl[(h.2.2.1 x).2.1]? = _
          rw [o2]
          exact am_cl a h1
        · show t_OB _ (D.1 (h.2.2.1 x).2.1) _ (D.2 (h.2.2.1 x).2.1) H' _
          rw [o2]
          rw [hsl] at e1
          refine t_OB.to (V := updV (fun j => am_ga (am_ad B0 ca) (h.2.2.2 x j)) b (am_ga (am_ad B0 ca) v)) ⟨_, e1, q2, q3, t_set q4 hap h2 _⟩ (fun j _ => ?_)
          by_cases hj : j = b
          · subst hj
            simp [updV, am_put, am_up]
          · simp [updV, am_put, am_up, hj]
    unfold u_lay at hlay
    cases hfin : (am_TT a b).2.2.2 with
    | false =>
      rw [if_neg (by rw [hfin]; decide)] at hlay
      have h7 := u_store hfc hkC hkind hlay hi ((am_cT a h1).1 b h2) hnf.1 hnf.2
      exact W.putK hx hb (f := f) ⟨hown, hlink, ⟨_, _, _, hi⟩, hst⟩ (by rw [q2]; exact h7) q1 q3 (by rw [hsl]; exact k2_hasslot (q4 b h2)) rfl rfl hd fin
    | true =>
      rw [if_pos hfin] at hlay
      rw [hfin] at h5
      simp only [cond_true] at h5
      have h8 : (am_in y).2.2.2 = 2 ∧ (am_TT a b).1 = am_cn (am_in y).1 := am_fin_spec h1 h2 h5
      have hcf : m.cls = cf := by
        obtain ⟨_, _, c', _, _, _, -, -, hf', -, -, -, hown2, -⟩ := Cond.laysFinal_spec hlay
        have e1 : c' = cf := by have := hi.symm.trans hf'; simp at this; exact this.1.symm
        rw [h8.2] at hown2
        rw [← e1]; exact Option.some.inj (hown.symm.trans hown2)
      have h7 := u_fits hfc hkC hkind (Or.inr hlay) hi ((am_cT a h1).1 b h2) hnf.1 hnf.2
      exact W.putFinK hx hb hown hlink hi hst hcf (hin h8.1) (by rw [q2]; exact h7) q1 q3 (by rw [hsl]; exact k2_hasslot (q4 b h2)) rfl rfl hd fin
  · cases hs
end AMK
