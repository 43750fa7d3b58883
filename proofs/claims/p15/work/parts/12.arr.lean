/-! arrays and new cells -/
theorem am_rd_spec {h : am_H} {x : Nat} {i : Int32} {ok : Nat → Bool} {v : Value} (hr : am_rd h x i ok = some v) : x < h.1 ∧ ((h.2.2.1 x).1 = 1 ∨ (h.2.2.1 x).1 = 2) ∧ ok (h.2.2.1 x).2.1 = true ∧ vp_in i (h.2.2.1 x).2.2 ∧ v = h.2.2.2 x i.toNatClampNeg := by
  unfold am_rd at hr
  obtain ⟨h1, hr⟩ := am_cond hr
  obtain ⟨h2, hr⟩ := am_ifn hr
  simp only [Bool.and_eq_true, Bool.or_eq_true] at h1
  cases hr
  exact ⟨am_blt h1.1.1, h1.1.2.imp am_beq am_beq, h1.2, h2, rfl⟩
theorem am_wr_spec {h h' : am_H} {x tc : Nat} {i : Int32} {v : Value} (hr : am_wr h x i tc v = some h') : x < h.1 ∧ (h.2.2.1 x).1 = 1 ∧ (h.2.2.1 x).2.1 = tc ∧ vp_in i (h.2.2.1 x).2.2 ∧ h' = am_put h x i.toNatClampNeg v := by
  unfold am_wr at hr
  obtain ⟨h1, hr⟩ := am_cond hr
  obtain ⟨h2, hr⟩ := am_ifn hr
  simp only [Bool.and_eq_true] at h1
  cases hr
  exact ⟨am_blt h1.1.1, am_beq h1.1.2, am_beq h1.2, h2, rfl⟩
theorem am_lt_of {i : Int32} {n : Nat} (h : vp_in i n) : i.toNatClampNeg < n := Nat.not_le.mp fun q => h (Or.inr q)
theorem am_Ok.arr {s : State} {D : va_G} {dA : Nat → ClassId} {B0 : Nat} {ca : Nat → Nat} {h : am_H} {H H' : Heap} {locs : List Loc} {x j : Nat} {v : Value} (hO : am_Ok s D dA B0 ca h H locs) (hx : x < h.1) (h1 : (h.2.2.1 x).1 = 1) (e1 : H'[am_ad B0 ca x]? = some ((arrV (dA (h.2.2.1 x).2.1) (h.2.2.1 x).2.2 (fun j => am_ga (am_ad B0 ca) (h.2.2.2 x j))).setSlot j (am_ga (am_ad B0 ca) v))) (hz : H'.size = H.size) (ho : ∀ q, q ≠ am_ad B0 ca x → H'[q]? = H[q]?) : am_Ok s D dA B0 ca (am_put h x j v) H' (locs ++ [⟨am_ad B0 ca x, j⟩]) := by
  obtain ⟨hx0, hA, hc⟩ := am_arr hO hx h1
  refine hO.put hx0 rfl rfl (fun k hk => ?_) hz ho (Or.inr ⟨h1, hA, ?_⟩)
  · funext i
    simp [am_put, am_up, hk]
  · rw [e1, arrV_store]
    show some _ = some (arrV (dA (h.2.2.1 x).2.1) (h.2.2.1 x).2.2 _)
    congr 2
    funext q
    by_cases hq : q = j
    · subst hq
      simp [updV, am_put, am_up]
    · simp [updV, am_put, am_up, hq]
theorem am_ga_dv (ad : Nat → Nat) (ty : FieldType) : am_ga ad (defaultValue ty) = defaultValue ty := by cases ty <;> rfl
theorem am_isA_4 {c : Nat} (h : am_isA (c + 4) = true) : c < 14 := by
  unfold am_isA at h
  simp only [Bool.or_eq_true] at h
  rcases h with (((q | q) | q) | q) | q
  · have := am_blt q; omega
  · have := am_beq q; omega
  · have := am_beq q; omega
  · have := am_beq q; omega
  · have := am_beq q; omega
theorem am_hin {cA : ClassId} {n : Nat} {f : Nat → Value} {i : Int32} (h : vp_in i n) : ¬ (i < 0 ∨ (arrV cA n f).slots.size ≤ i.toNatClampNeg) := by
  rw [arrV_size]; exact h
theorem am_aty4 (c : Nat) : am_aty (c + 4) = .object (am_cn c) := rfl
theorem am_RA_prim {U : State} {cA : ClassId} {a : Nat} (h1 : a < 4) (hR : va_RA U cA (am_aty a)) : U.vm.findClass ("[" ++ (am_aty a).toString) = some cA := by
  rcases (show a = 0 ∨ a = 1 ∨ a = 2 ∨ a = 3 by omega) with rfl | rfl | rfl | rfl
  · exact hR
  · exact hR
  · exact hR
  · exact hR
theorem am_dv_eq {a : Nat} (h1 : a < 4) (ad : Nat → Nat) : am_ga ad (am_dv a) = defaultValue (am_aty a) := by
  rcases (show a = 0 ∨ a = 1 ∨ a = 2 ∨ a = 3 by omega) with rfl | rfl | rfl | rfl <;> rfl
section AMA
variable {p : Program} {l : Launch} {e : Env} {R : Room} {s : State} {m : MethodId} {args : Array Value} {below : List Frame} {meth : Method} {c : Code} {Q : State → Prop} {D : va_G} {dA : Nat → ClassId} {B0 : Nat} {ca : Nat → Nat} {y : Nat} {h0 : am_H} {pc pc' : Nat} {ls st ls' st' : List Value} {h h' : am_H} {n : Nat} {t : Int} {a b w : Nat}
theorem am_k_iaload (C : am_Cx p s m args meth c D dA B0 ca y) (hd : decode (am_by y) pc = .ok (.iaload, 1)) (hs : am_st (.iaload, n, t, a, b, w) pc ls st h = some (pc', ls', st', h')) (k : am_Wp p l e R s m args below meth c Q D dA B0 ca y h0 pc' ls' st' h') : am_Wp p l e R s m args below meth c Q D dA B0 ca y h0 pc ls st h := by
  simp only [am_st] at hs
  split at hs
  · rename_i i x r
    split at hs
    · rename_i v hv
      obtain ⟨h1, h2, h3, h4, rfl⟩ := am_rd_spec hv
      cases hs
      intro H locs rls hO hL
      rcases h2 with h2 | h2
      · obtain ⟨hx0, hA, hc⟩ := am_arr hO h1 h2
        have e0 := am_beq h3
        have hA2 := (C.2.2.2.2.2.1.2.1 _ hA).1
        rw [e0] at hA2
        rw [e0] at hc
        exact W.iald (v := am_ga (am_ad B0 ca) (h.2.2.2 x i.toNatClampNeg)) C.1 C.2.1 hc (hA2 _ _) (fun q => by cases q) (am_hin h4) (by rw [arrV_read _ _ (am_lt_of h4)]) rfl rfl hd (k H locs rls hO hL)
      · obtain ⟨-, -, cell, z1, z2, z3, z4, z5, z6, z7⟩ := am_con hO h1 h2
        have hlt := am_lt_of h4
        have hin' : ¬ (i < 0 ∨ cell.slots.size ≤ i.toNatClampNeg) := by
          intro q
          rcases q with q | q
          · exact h4 (Or.inl q)
          · omega
        exact W.iald (v := am_ga (am_ad B0 ca) (h.2.2.2 x i.toNatClampNeg)) C.1 C.2.1 z1 z2 z3 hin' (z6 _ hlt) rfl rfl hd (k H locs rls hO hL)
    · cases hs
  · cases hs
theorem am_k_baload (C : am_Cx p s m args meth c D dA B0 ca y) (hd : decode (am_by y) pc = .ok (.baload, 1)) (hs : am_st (.baload, n, t, a, b, w) pc ls st h = some (pc', ls', st', h')) (k : am_Wp p l e R s m args below meth c Q D dA B0 ca y h0 pc' ls' st' h') : am_Wp p l e R s m args below meth c Q D dA B0 ca y h0 pc ls st h := by
  simp only [am_st] at hs
  split at hs
  · rename_i i x r
    split at hs
    · rename_i v hv
      obtain ⟨h1, h2, h3, h4, rfl⟩ := am_rd_spec hv
      rw [Bool.or_eq_true] at h3
      cases hs
      intro H locs rls hO hL
      rcases h2 with h2 | h2
      · obtain ⟨hx0, hA, hc⟩ := am_arr hO h1 h2
        have hA2 := (C.2.2.2.2.2.1.2.1 _ hA).1
        rcases h3 with h3 | h3
        · have e0 := am_beq h3
          rw [e0] at hA2
          rw [e0] at hc
          exact W.bald (v := am_ga (am_ad B0 ca) (h.2.2.2 x i.toNatClampNeg)) C.1 C.2.1 hc (hA2 _ _) (fun q => by cases q) (am_hin h4) (by rw [arrV_read _ _ (am_lt_of h4)]) rfl rfl hd (k H locs rls hO hL)
        · have e0 := am_beq h3
          rw [e0] at hA2
          rw [e0] at hc
          exact W.zald (v := am_ga (am_ad B0 ca) (h.2.2.2 x i.toNatClampNeg)) C.1 C.2.1 hc (hA2 _ _) (fun q => by cases q) (am_hin h4) (by rw [arrV_read _ _ (am_lt_of h4)]) rfl rfl hd (k H locs rls hO hL)
      · obtain ⟨-, q, -⟩ := am_con hO h1 h2
        rw [q] at h3
        rcases h3 with h3 | h3 <;> cases h3
    · cases hs
  · cases hs
theorem am_k_laload (C : am_Cx p s m args meth c D dA B0 ca y) (hd : decode (am_by y) pc = .ok (.laload, 1)) (hs : am_st (.laload, n, t, a, b, w) pc ls st h = some (pc', ls', st', h')) (k : am_Wp p l e R s m args below meth c Q D dA B0 ca y h0 pc' ls' st' h') : am_Wp p l e R s m args below meth c Q D dA B0 ca y h0 pc ls st h := by
  simp only [am_st] at hs
  split at hs
  · rename_i i x r
    split at hs
    · rename_i v hv
      obtain ⟨h1, h2, h3, h4, rfl⟩ := am_rd_spec hv
      cases hs
      intro H locs rls hO hL
      rcases h2 with h2 | h2
      · obtain ⟨hx0, hA, hc⟩ := am_arr hO h1 h2
        have hA2 := (C.2.2.2.2.2.1.2.1 _ hA).1
        have e0 := am_beq h3
        rw [e0] at hA2
        rw [e0] at hc
        exact W.lald (v := am_ga (am_ad B0 ca) (h.2.2.2 x i.toNatClampNeg)) C.1 C.2.1 hc (hA2 _ _) (fun q => by cases q) (am_hin h4) (by rw [arrV_read _ _ (am_lt_of h4)]) rfl rfl hd (k H locs rls hO hL)
      · obtain ⟨-, q, -⟩ := am_con hO h1 h2
        rw [q] at h3
        cases h3
    · cases hs
  · cases hs
theorem am_k_aaload (C : am_Cx p s m args meth c D dA B0 ca y) (hd : decode (am_by y) pc = .ok (.aaload, 1)) (hs : am_st (.aaload, n, t, a, b, w) pc ls st h = some (pc', ls', st', h')) (k : am_Wp p l e R s m args below meth c Q D dA B0 ca y h0 pc' ls' st' h') : am_Wp p l e R s m args below meth c Q D dA B0 ca y h0 pc ls st h := by
  simp only [am_st] at hs
  split at hs
  · rename_i i x r
    split at hs
    · rename_i v hv
      obtain ⟨h1, h2, h3, h4, rfl⟩ := am_rd_spec hv
      rw [Bool.and_eq_true] at h3
      cases hs
      intro H locs rls hO hL
      rcases h2 with h2 | h2
      · obtain ⟨hx0, hA, hc⟩ := am_arr hO h1 h2
        have hA2 := (C.2.2.2.2.2.1.2.1 _ hA).1
        have e0 : (h.2.2.1 x).2.1 = ((h.2.2.1 x).2.1 - 4) + 4 := by
          have := Nat.le_of_ble_eq_true h3.1
          omega
        rw [e0, am_aty4] at hA2
        rw [e0] at hc
        exact W.aald (v := am_ga (am_ad B0 ca) (h.2.2.2 x i.toNatClampNeg)) C.1 C.2.1 hc (hA2 _ _) rfl (fun q => by cases q) (am_hin h4) (by rw [arrV_read _ _ (am_lt_of h4)]) rfl rfl hd (k H locs rls hO hL)
      · obtain ⟨-, q, -⟩ := am_con hO h1 h2
        rw [q] at h3
        exact absurd h3.1 (by decide)
    · cases hs
  · cases hs
theorem am_k_arraylength (C : am_Cx p s m args meth c D dA B0 ca y) (hd : decode (am_by y) pc = .ok (.arraylength, 1)) (hs : am_st (.arraylength, n, t, a, b, w) pc ls st h = some (pc', ls', st', h')) (k : am_Wp p l e R s m args below meth c Q D dA B0 ca y h0 pc' ls' st' h') : am_Wp p l e R s m args below meth c Q D dA B0 ca y h0 pc ls st h := by
  simp only [am_st] at hs
  split at hs
  · rename_i x r
    split at hs
    · rename_i N hN
      unfold am_len at hN
      obtain ⟨h1, hN⟩ := am_cond hN
      simp only [Bool.and_eq_true, Bool.or_eq_true] at h1
      cases hN
      cases hs
      intro H locs rls hO hL
      rcases h1.2 with h2 | h2
      · obtain ⟨hx0, hA, hc⟩ := am_arr hO (am_blt h1.1) (am_beq h2)
        exact W.alen (n := Int32.ofNat (h.2.2.1 x).2.2) C.1 C.2.1 hc ((C.2.2.2.2.2.1.2.1 _ hA).1 _ _) (by rw [arrV_size] <;> rfl) rfl rfl hd (k H locs rls hO hL)
      · obtain ⟨-, -, cell, z1, z2, z3, z4, z5, z6, z7⟩ := am_con hO (am_blt h1.1) (am_beq h2)
        exact W.alen (n := Int32.ofNat (h.2.2.1 x).2.2) C.1 C.2.1 z1 z2 z5 rfl rfl hd (k H locs rls hO hL)
    · cases hs
  · cases hs
theorem am_k_iastore (C : am_Cx p s m args meth c D dA B0 ca y) (hd : decode (am_by y) pc = .ok (.iastore, 1)) (hs : am_st (.iastore, n, t, a, b, w) pc ls st h = some (pc', ls', st', h')) (k : am_Wp p l e R s m args below meth c Q D dA B0 ca y h0 pc' ls' st' h') : am_Wp p l e R s m args below meth c Q D dA B0 ca y h0 pc ls st h := by
  simp only [am_st] at hs
  split at hs
  · rename_i z i x r
    split at hs
    · rename_i h1 hw
      obtain ⟨h1, h2, h3, h4, rfl⟩ := am_wr_spec hw
      cases hs
      intro H locs rls hO hL
      obtain ⟨hx0, hA, hc⟩ := am_arr hO h1 h2
      have hA2 := (C.2.2.2.2.2.1.2.1 _ hA).1
      rw [h3] at hA2
      exact W.iast C.1 C.2.1 hc (h3 ▸ hA2 _ _) (fun q => by cases q) (am_hin h4) rfl rfl hd fun H' e1 e2 e3 => k H' _ rls (hO.arr (v := .int z) h1 h2 e1 e2 e3) hL
    · cases hs
  · cases hs
theorem am_k_lastore (C : am_Cx p s m args meth c D dA B0 ca y) (hd : decode (am_by y) pc = .ok (.lastore, 1)) (hs : am_st (.lastore, n, t, a, b, w) pc ls st h = some (pc', ls', st', h')) (k : am_Wp p l e R s m args below meth c Q D dA B0 ca y h0 pc' ls' st' h') : am_Wp p l e R s m args below meth c Q D dA B0 ca y h0 pc ls st h := by
  simp only [am_st] at hs
  split at hs
  · rename_i z i x r
    split at hs
    · rename_i h1 hw
      obtain ⟨h1, h2, h3, h4, rfl⟩ := am_wr_spec hw
      cases hs
      intro H locs rls hO hL
      obtain ⟨hx0, hA, hc⟩ := am_arr hO h1 h2
      have hA2 := (C.2.2.2.2.2.1.2.1 _ hA).1
      rw [h3] at hA2
      exact W.last C.1 C.2.1 hc (h3 ▸ hA2 _ _) (fun q => by cases q) (am_hin h4) rfl rfl hd fun H' e1 e2 e3 => k H' _ rls (hO.arr (v := .long z) h1 h2 e1 e2 e3) hL
    · cases hs
  · cases hs
theorem am_k_bastore (C : am_Cx p s m args meth c D dA B0 ca y) (hd : decode (am_by y) pc = .ok (.bastore, 1)) (hs : am_st (.bastore, n, t, a, b, w) pc ls st h = some (pc', ls', st', h')) (k : am_Wp p l e R s m args below meth c Q D dA B0 ca y h0 pc' ls' st' h') : am_Wp p l e R s m args below meth c Q D dA B0 ca y h0 pc ls st h := by
  simp only [am_st] at hs
  split at hs
  · rename_i z i x r
    split at hs
    · rename_i h1 hw
      cases hb : Nat.beq (h.2.2.1 x).2.1 1 with
      | true =>
        rw [hb] at hw
        obtain ⟨h1, h2, h3, h4, rfl⟩ := am_wr_spec hw
        cases hs
        intro H locs rls hO hL
        obtain ⟨hx0, hA, hc⟩ := am_arr hO h1 h2
        have hA2 := (C.2.2.2.2.2.1.2.1 _ hA).1
        rw [h3] at hA2
        exact W.bast C.1 C.2.1 hc (h3 ▸ hA2 _ _) (fun q => by cases q) (am_hin h4) rfl rfl hd fun H' e1 e2 e3 => k H' _ rls (hO.arr (v := .int z.toInt8.toInt32) h1 h2 e1 e2 e3) hL
      | false =>
        rw [hb] at hw
        obtain ⟨h1, h2, h3, h4, rfl⟩ := am_wr_spec hw
        cases hs
        intro H locs rls hO hL
        obtain ⟨hx0, hA, hc⟩ := am_arr hO h1 h2
        have hA2 := (C.2.2.2.2.2.1.2.1 _ hA).1
        rw [h3] at hA2
        exact W.zast C.1 C.2.1 hc (h3 ▸ hA2 _ _) (fun q => by cases q) (am_hin h4) rfl rfl hd fun H' e1 e2 e3 => k H' _ rls (hO.arr (v := .int (z &&& 1)) h1 h2 e1 e2 e3) hL
    · cases hs
  · cases hs
theorem am_k_aastore (C : am_Cx p s m args meth c D dA B0 ca y) (hd : decode (am_by y) pc = .ok (.aastore, 1)) (hs : am_st (.aastore, n, t, a, b, w) pc ls st h = some (pc', ls', st', h')) (k : am_Wp p l e R s m args below meth c Q D dA B0 ca y h0 pc' ls' st' h') : am_Wp p l e R s m args below meth c Q D dA B0 ca y h0 pc ls st h := by
  simp only [am_st] at hs
  split at hs
  · rename_i v i x r
    obtain ⟨h5, hs⟩ := am_cond hs
    rw [Bool.and_eq_true] at h5
    split at hs
    · rename_i h1 hw
      obtain ⟨h1, h2, h3, h4, rfl⟩ := am_wr_spec hw
      cases hs
      intro H locs rls hO hL
      obtain ⟨hx0, hA, hc⟩ := am_arr hO h1 h2
      have hci := am_isA_4 h5.2
      obtain ⟨hv0, cv, g1, g2, g3, g4⟩ := am_obj hO h5.1 hci
      have hcls := (C.2.2.2.2.2.1.1.1 _ _ (am_cl _ hci)).2
      obtain ⟨kA, comp, k1, k2, k3, -⟩ := (C.2.2.2.2.2.1.2.1 _ h5.2).2
      have hcomp : comp = D.1 (h.2.2.1 v).2.1 := Option.some.inj (k3.symm.trans hcls.1)
      subst hcomp
      obtain ⟨kC, hkC, -⟩ := hcls.2
      refine W.aast C.1 C.2.1 hc (fun q h => by cases h) (fun h => by cases h) (k := kA) (by rw [h3]; exact k1) k2 rfl hkC ⟨fun q => h4 (Or.inl q), by show _ < (arrV _ _ _).slots.size; rw [arrV_size]; exact am_lt_of h4⟩ g1 (fun q h => by rw [g3] at h; cases h) (by rw [g2]; exact hkC) (by rw [g2]; exact va_assign hcls) rfl rfl hd fun H' e1 e2 e3 => k H' _ rls (hO.arr (v := .ref v) h1 h2 e1 e2 e3) hL
    · cases hs
  · cases hs
theorem am_k_new {idx : Nat} (C : am_Cx p s m args meth c D dA B0 ca y) (hd : decode (am_by y) pc = .ok (.new idx, 3)) (hce : am_chE y (am_in y).1 pc (.new idx, n, t, a, b, w) = true) (hs : am_st (.new idx, n, t, a, b, w) pc ls st h = some (pc', ls', st', h')) (hm : h0.1 ≤ h.1 ∧ h0.2.1 ≤ h.2.1) (hcap : h'.1 - h0.1 ≤ R.cells ∧ h'.2.1 - h0.2.1 ≤ R.slots) (k : am_Wp p l e R s m args below meth c Q D dA B0 ca y h0 pc' ls' st' h') : am_Wp p l e R s m args below meth c Q D dA B0 ca y h0 pc ls st h := by
  simp only [am_chE, Bool.and_eq_true] at hce
  obtain ⟨h1, h2⟩ := hce
  have h1 := am_blt h1
  simp only [am_st] at hs
  cases hs
  intro H locs rls hO hL
  obtain ⟨hx, hb, hml, hown, hts, hT, hin, hB⟩ := C
  have hKn := hT.1.1 a _ (am_cl a h1)
  have c1 : h.1 + 1 - h0.1 ≤ R.cells := hcap.1
  have c2 : h.2.1 + am_N a - h0.2.1 ≤ R.slots := hcap.2
  refine W.newcK (n := am_N a) hx hb hown (hts _ (am_clk (of_decide_eq_true h2))) (hts _ (am_cls h1).2.1) (hts _ (am_cls h1).2.2) rfl hd (by omega) (by omega) hKn.2.1 rfl fun H1 kC hkC e1 z1 o1 => ?_
  have hob := u_born (am_ty a) hts (am_cls h1).1 hKn hkC e1 (am_cT a h1).1
  have hk := k H1 locs rls (hO.mk (sh := (0, a, am_N a)) (N := am_N a) (d := fun j => defaultValue (am_ty a j)) z1 o1 (Or.inl ⟨by simp [am_mk], (am_cn a, am_TT a, am_N a), by simp only [am_mk, if_true]; exact am_cl a h1, ?_⟩)) hL
  · have e2 : (am_mk h (0, a, am_N a) (am_N a) (fun j => defaultValue (am_ty a j))).1 - h0.1 = h.1 - h0.1 + 1 := by
      show h.1 + 1 - h0.1 = _
      omega
    have e3 : (am_mk h (0, a, am_N a) (am_N a) (fun j => defaultValue (am_ty a j))).2.1 - h0.2.1 = h.2.1 - h0.2.1 + am_N a := by
      show h.2.1 + am_N a - h0.2.1 = _
      omega
    rw [e2, e3] at hk
    simp only [List.map_cons, am_ga, am_ad_new hO.1] at hk
    exact hk
  · simp only [am_mk, if_true, am_ad_new hO.1]
    refine hob.to (fun j hj => ?_)
    simp only [am_row, if_true]
    exact (am_ga_dv _ _).symm
theorem am_k_newarray {at0 : ArrayType} (C : am_Cx p s m args meth c D dA B0 ca y) (hd : decode (am_by y) pc = .ok (.newarray at0, 2)) (hce : am_chE y (am_in y).1 pc (.newarray at0, n, t, a, b, w) = true) (hs : am_st (.newarray at0, n, t, a, b, w) pc ls st h = some (pc', ls', st', h')) (hm : h0.1 ≤ h.1 ∧ h0.2.1 ≤ h.2.1) (hcap : h'.1 - h0.1 ≤ R.cells ∧ h'.2.1 - h0.2.1 ≤ R.slots) (k : am_Wp p l e R s m args below meth c Q D dA B0 ca y h0 pc' ls' st' h') : am_Wp p l e R s m args below meth c Q D dA B0 ca y h0 pc ls st h := by
  simp only [am_chE, Bool.and_eq_true] at hce
  obtain ⟨h1, h2⟩ := hce
  have h1 := am_blt h1
  have h2 : newarray.typeOf at0 = am_aty a := of_decide_eq_true h2
  simp only [am_st] at hs
  split at hs
  · rename_i N r
    obtain ⟨h3, hs⟩ := am_ifn hs
    cases hs
    intro H locs rls hO hL
    obtain ⟨hx, hb, hml, hown, hts, hT, hin, hB⟩ := C
    have hA : am_isA a = true := by
      unfold am_isA
      rw [show Nat.blt a 4 = true from Nat.ble_eq_true_of_le h1]
      rfl
    have hR := (hT.2.1 a hA).2
    have c1 : h.1 + 1 - h0.1 ≤ R.cells := hcap.1
    have c2 : h.2.1 + N.toNatClampNeg - h0.2.1 ≤ R.slots := hcap.2
    have hN0 : ¬ N < 0 := fun q => h3 (Or.inl q)
    have hN1 : N.toNatClampNeg ≤ 100000 := Nat.not_lt.mp fun q => h3 (Or.inr q)
    have hbytes : N.toNatClampNeg * componentBytes (newarray.typeOf at0) ≤ 536870912 := by
      have : componentBytes (newarray.typeOf at0) ≤ 8 := by cases at0 <;> decide
      calc N.toNatClampNeg * componentBytes (newarray.typeOf at0) ≤ 100000 * 8 := Nat.mul_le_mul hN1 this
        _ ≤ 536870912 := by decide
    refine va_newaK hx hb (h2 ▸ hts _ (am_arrC a h1)) rfl hd rfl hN0 rfl hbytes (by omega) (by omega) rfl fun H1 cA e1 z1 o1 hAr hNm => ?_
    have hcA : cA = dA a := by
      have q1 : s.vm.findClass ("[" ++ (am_aty a).toString) = some (dA a) := am_RA_prim h1 hR
      rw [h2] at hNm
      exact Option.some.inj (hNm.symm.trans q1)
    have hdv : ∀ ad : Nat → Nat, am_ga ad (am_dv a) = defaultValue (newarray.typeOf at0) := fun ad => by rw [h2]; exact am_dv_eq h1 ad
    have hk := k H1 locs rls (hO.mk (sh := (1, a, N.toNatClampNeg)) (N := N.toNatClampNeg) (d := fun _ => am_dv a) z1 o1 (Or.inr ⟨by simp [am_mk], by simp only [am_mk, if_true]; exact hA, ?_⟩)) hL
    · have e2 : (am_mk h (1, a, N.toNatClampNeg) N.toNatClampNeg (fun _ => am_dv a)).1 - h0.1 = h.1 - h0.1 + 1 := by
        show h.1 + 1 - h0.1 = _
        omega
      have e3 : (am_mk h (1, a, N.toNatClampNeg) N.toNatClampNeg (fun _ => am_dv a)).2.1 - h0.2.1 = h.2.1 - h0.2.1 + N.toNatClampNeg := by
        show h.2.1 + N.toNatClampNeg - h0.2.1 = _
        omega
      rw [e2, e3] at hk
      simp only [List.map_cons, am_ga, am_ad_new hO.1] at hk
      exact hk
    · simp only [am_mk, if_true, am_ad_new hO.1, am_row, hdv]
      rw [← hcA]
      exact e1
  · cases hs
theorem am_k_anewarray {idx : Nat} (C : am_Cx p s m args meth c D dA B0 ca y) (hd : decode (am_by y) pc = .ok (.anewarray idx, 3)) (hce : am_chE y (am_in y).1 pc (.anewarray idx, n, t, a, b, w) = true) (hs : am_st (.anewarray idx, n, t, a, b, w) pc ls st h = some (pc', ls', st', h')) (hm : h0.1 ≤ h.1 ∧ h0.2.1 ≤ h.2.1) (hcap : h'.1 - h0.1 ≤ R.cells ∧ h'.2.1 - h0.2.1 ≤ R.slots) (k : am_Wp p l e R s m args below meth c Q D dA B0 ca y h0 pc' ls' st' h') : am_Wp p l e R s m args below meth c Q D dA B0 ca y h0 pc ls st h := by
  simp only [am_chE, Bool.and_eq_true] at hce
  obtain ⟨⟨h1, hA⟩, h2⟩ := hce
  have h1 := Nat.le_of_ble_eq_true h1
  obtain ⟨ci, rfl⟩ : ∃ ci, a = ci + 4 := ⟨a - 4, by omega⟩
  simp only [am_st] at hs
  split at hs
  · rename_i N r
    obtain ⟨h3, hs⟩ := am_ifn hs
    cases hs
    intro H locs rls hO hL
    obtain ⟨hx, hb, hml, hown, hts, hT, hin, hB⟩ := C
    obtain ⟨kA0, comp0, r1, r2, r3, r4⟩ := (hT.2.1 (ci + 4) hA).2
    have c1 : h.1 + 1 - h0.1 ≤ R.cells := hcap.1
    have c2 : h.2.1 + N.toNatClampNeg - h0.2.1 ≤ R.slots := hcap.2
    have hN0 : ¬ N < 0 := fun q => h3 (Or.inl q)
    have hN1 : N.toNatClampNeg ≤ 100000 := Nat.not_lt.mp fun q => h3 (Or.inr q)
    have hlk : Cond.classLink (am_cn (am_in y).1) idx (am_cn ci) ∈ am_big := by
      have q := am_clk (of_decide_eq_true h2)
      rwa [show ci + 4 - 4 = ci from rfl] at q
    refine W.anew hx hb hown (hts _ hlk) (va_AO.use (hT.2.2.2.1 ci hA)) rfl hd rfl hN0 (by omega) (by omega) (by omega) fun cA kA comp f1 f2 f3 f4 => ?_
    generalize hH1 : H.push ({ cls := cA, slots := Array.replicate N.toNatClampNeg .null, vm := .none } : Cell) = H1
    have z1 : H1.size = H.size + 1 := by rw [← hH1, Array.size_push]
    have e1 : H1[H.size]? = some (arrV cA N.toNatClampNeg (fun _ => .null)) := by rw [← hH1, Array.getElem?_push_size, ← arrV_new]
    have o1 : ∀ q : Nat, q < H.size → H1[q]? = H[q]? := fun q hq => by rw [← hH1, Array.getElem?_push, if_neg (Nat.ne_of_lt hq)]
    have hcA : cA = dA (ci + 4) := Option.some.inj (f1.symm.trans r4)
    have hk := k H1 locs rls (hO.mk (sh := (1, ci + 4, N.toNatClampNeg)) (N := N.toNatClampNeg) (d := fun _ => .null) z1 o1 (Or.inr ⟨by simp [am_mk], by simp only [am_mk, if_true]; exact hA, ?_⟩)) hL
    · have e2 : (am_mk h (1, ci + 4, N.toNatClampNeg) N.toNatClampNeg (fun _ => Value.null)).1 - h0.1 = h.1 - h0.1 + 1 := by
        show h.1 + 1 - h0.1 = _
        omega
      have e3 : (am_mk h (1, ci + 4, N.toNatClampNeg) N.toNatClampNeg (fun _ => Value.null)).2.1 - h0.2.1 = h.2.1 - h0.2.1 + N.toNatClampNeg := by
        show h.2.1 + N.toNatClampNeg - h0.2.1 = _
        omega
      rw [e2, e3] at hk
      simp only [List.map_cons, am_ga, am_ad_new hO.1] at hk
      exact hk
    · simp only [am_mk, if_true, am_ad_new hO.1, am_row, am_ga]
      rw [← hcA]
      exact e1
  · cases hs
end AMA
