/-! BY HAND, 1: stores for contracts; mayBreak and findPages out of their stronger contracts -/
theorem cq_Md_s {m : cq_W} {h0 : am_H} {ρ : Nat → Int} {n : Nat} {B : cq_B} {G : List cq_F} {ac al : Nat} {h : am_H} (hP : cq_pOk ρ (B, G)) (I : cq_Inv none h) (F : cq_Fr m h0 h) (A : h.1 ≤ h0.1 + ac ∧ h.2.1 ≤ h0.2.1 + al) : cq_Md m h0 ρ (cq_mk n (B, G) [] [] [] [] [] [] none ac al) h := ⟨hP, fun _ z => (by cases z), fun _ z => (by cases z), fun _ z => (by cases z), fun _ z => (by cases z), fun _ z => (by cases z), fun _ z => (by cases z), I, F, A, fun _ z => (by cases z)⟩
theorem cq_Md_t {m : cq_W} {h0 : am_H} {ρ : Nat → Int} {n : Nat} {B : cq_B} {G : List cq_F} {T : List (cq_C × cq_F × cq_A)} {ac al : Nat} {h : am_H} (hP : cq_pOk ρ (B, G)) (hT : ∀ e ∈ T, cq_g ρ e.2.2 (h.2.2.2 (cq_ce ρ e.1) (cq_e ρ e.2.1).toNat)) (I : cq_Inv none h) (F : cq_Fr m h0 h) (A : h.1 ≤ h0.1 + ac ∧ h.2.1 ≤ h0.2.1 + al) : cq_Md m h0 ρ (cq_mk n (B, G) [] [] [] T [] [] none ac al) h := ⟨hP, fun _ z => (by cases z), fun _ z => (by cases z), fun _ z => (by cases z), hT, fun _ z => (by cases z), fun _ z => (by cases z), I, F, A, fun _ z => (by cases z)⟩
theorem cq_Fr_rf {m : cq_W} {h : am_H} : cq_Fr m h h := ⟨Nat.le_refl _, fun _ _ => rfl, fun _ _ _ _ => rfl⟩
theorem cq_Md_p {m : cq_W} {ρ : Nat → Int} {n : Nat} {B : cq_B} {G : List cq_F} {T : List (cq_C × cq_F × cq_A)} {M : List (cq_F × cq_F × cq_F)} {h : am_H} (hP : cq_pOk ρ (B, G)) (hT : ∀ e ∈ T, cq_g ρ e.2.2 (h.2.2.2 (cq_ce ρ e.1) (cq_e ρ e.2.1).toNat)) (hM : ∀ e ∈ M, cq_mOk h ρ e) (I : cq_Inv none h) : cq_Md m h ρ (cq_mk n (B, G) [] [] [] T [] M none 0 0) h := ⟨hP, fun _ z => (by cases z), fun _ z => (by cases z), fun _ z => (by cases z), hT, fun _ z => (by cases z), hM, I, cq_Fr_rf, ⟨Nat.le_refl _, Nat.le_refl _⟩, fun _ z => (by cases z)⟩
theorem cq_mOk_tag {h : am_H} {ρ : Nat → Int} {f g r : cq_F} (k : Nat) (hg : g = ((1000000000000 : Int) + (k : Int), [])) (e : cq_e ρ r = cq_U h k (cq_e ρ f)) : cq_mOk h ρ (f, g, r) := by
  refine ⟨fun x y _ ey => ?_, fun k' ek => ?_⟩
  · exfalso
    dsimp only at ey
    rw [hg] at ey
    have e3 : cq_e ρ (((1000000000000 : Int) + (k : Int), []) : cq_F) = 1000000000000 + (k : Int) := by simp [cq_e, cq_eT]
    rw [e3] at ey
    have := y.toInt_lt
    omega
  · dsimp only at ek ⊢
    rw [hg] at ek
    have := (Prod.mk.inj ek).1
    have : k' = k := by omega
    subst this
    exact e
theorem cq_mOk_un {h : am_H} {ρ : Nat → Int} {f g r : cq_F} (M : cq_mOk h ρ (f, g, r)) (k : Nat) (hg : g = ((1000000000000 : Int) + (k : Int), [])) : cq_e ρ r = cq_U h k (cq_e ρ f) := M.2 k hg
/-- the types of the reference's own places -/
theorem cq_t78 {h : am_H} (I : cq_Inv none h) {b : Nat} (hb : b < am_N 13) : cq_ht h b (cq_cl 13 b) (h.2.2.2 78 b) := by
  have fx := I.fx 78 (by decide) (by decide)
  have hlt : b < (h.2.2.1 78).2.2 := by
    rw [fx]
    exact hb
  have t := I.ty 78 (by decide) (by have := I.lo; omega) (fun z => by cases z) b hlt
  have et : cq_tyOf 78 (h.2.2.1 78) b = cq_cl 13 b := by
    unfold cq_tyOf cq_ty cq_isA cq_ob
    have e1 : Nat.blt 78 130 = true := by decide
    have e2 : Nat.beq (cq_fix 78).1 1 = false := by decide +kernel
    have e3 : (Nat.beq 78 54 && Nat.blt b 3) = false := by rw [show Nat.beq 78 54 = false by decide]; rfl
    have e4 : (cq_fix 78).2.1 = 13 := by decide +kernel
    rw [e1, e2, e3, e4]
    rfl
  rw [et] at t
  exact t
theorem cq_i78 {h : am_H} (I : cq_Inv none h) {b : Nat} (l u : Int) (hb : b < am_N 13) (ht : cq_cl 13 b = (1, l, u, 0, 0, 0)) : ∃ x : Int32, h.2.2.2 78 b = .int x ∧ l ≤ x.toInt ∧ x.toInt ≤ u := by
  have t := cq_t78 I hb
  rw [ht] at t
  exact t
theorem cq_o78 {h : am_H} (I : cq_Inv none h) : am_isO h 78 13 = true := by
  have fx := I.fx 78 (by decide) (by decide)
  unfold am_isO
  rw [fx, show Nat.blt 78 h.1 = true from Nat.ble_eq_true_of_le (by have := I.lo; omega)]
  decide +kernel
/-- the types of fixed arrays -/
theorem cq_tA {h : am_H} (I : cq_Inv none h) {c j : Nat} (h1 : 40 ≤ c) (h2 : c < 130) (hf : (cq_fix c).1 = 1) (hs : (Nat.beq c 81 || Nat.beq c 83) = false) (hj : j < (cq_fix c).2.2) : cq_ht h j (cq_ar c) (h.2.2.2 c j) := by
  have fx := I.fx c h1 h2
  have t := I.ty c h1 (Nat.lt_of_lt_of_le h2 I.lo) (fun z => by cases z) j (by rw [fx]; exact hj)
  have et : cq_tyOf c (h.2.2.1 c) j = cq_ar c := by
    unfold cq_tyOf cq_ty cq_isA
    rw [show Nat.blt c 130 = true from Nat.ble_eq_true_of_le h2, hf, hs]
    rfl
  rw [et] at t
  exact t
theorem cq_n_int {h : am_H} {c j : Nat} {x : Int32} (e : h.2.2.2 c j = .int x) : cq_n h c j = x.toInt := by
  unfold cq_n
  rw [e]
theorem cq_U_c (h : am_H) (k : Nat) (x : Int) (h1 : Nat.blt k 1000 = false) (h2 : Nat.blt k 2000 = true) : cq_U h k x = cq_n h (k - 1000) x.toNat := by
  unfold cq_U cq_U0
  rw [h1, h2]
  rfl
theorem ok_201g : cq_CT 201 ct_201g := by
  intro d h ρ as hd M g
  have I : cq_Inv none h := M.I
  have b0 : (0 : Int) ≤ ρ 0 ∧ ρ 0 ≤ 119 := M.P.1 (0, 0, 119) List.mem_cons_self
  have b1 : (0 : Int) ≤ ρ 1 ∧ ρ 1 ≤ 29 := M.P.1 (1, 0, 29) (List.mem_cons_of_mem _ List.mem_cons_self)
  have b2 : (1 : Int) ≤ ρ 2 ∧ ρ 2 ≤ 2147483647 := M.P.1 (2, 1, 2147483647) (List.mem_cons_of_mem _ (List.mem_cons_of_mem _ List.mem_cons_self))
  have mm := cq_mOk_un (M.M _ List.mem_cons_self) 1093 (by decide)
  have e0 : cq_e ρ ((0, [(0, 1)]) : cq_F) = ρ 0 := cq_s_e ρ 0
  have e2 : cq_e ρ ((0, [(2, 1)]) : cq_F) = ρ 2 := cq_s_e ρ 2
  rw [e0, e2, cq_U_c h 1093 _ (by decide) (by decide)] at mm
  have s4 := I.s4 (ρ 0).toNat (by omega) (by show 1 ≤ cq_n h (1093 - 1000) (ρ 0).toNat; rw [← mm]; exact b2.1)
  have M0 : cq_Md ct_201s.2.2.2.1 h ρ ct_201s.2.2.1 h := by
    refine cq_Md_p ⟨fun b hb => ?_, fun _ z => (by cases z)⟩ (fun e he => ?_) (fun _ z => (by cases z)) I
    · simp only [List.mem_cons, List.not_mem_nil, or_false] at hb
      rcases hb with rfl | rfl
      · exact b0
      · exact b1
    · rw [List.mem_singleton.1 he]
      have ej : (cq_e ρ ((0, [(0, 30)]) : cq_F)).toNat = 30 * (ρ 0).toNat := by
        simp only [cq_e, cq_eT]
        omega
      show cq_g ρ (1, (1, []), 0) (h.2.2.2 96 (cq_e ρ ((0, [(0, 30)]) : cq_F)).toNat)
      rw [ej, s4]
      exact ⟨1, rfl, by rw [show cq_e ρ ((1, []) : cq_F) = 1 from cq_c_e ρ 1]; decide⟩
  obtain ⟨r, h', ev, x, hx, ρ', a', Mx, hr⟩ := ok_201s d h ρ as hd M0 g
  have hx := List.mem_singleton.1 hx
  subst hx
  have bx : (0 : Int) ≤ ρ' 2 ∧ ρ' 2 ≤ 1 := Mx.P.1 (2, 0, 1) List.mem_cons_self
  refine ⟨r, h', ev, _, List.mem_cons_self, fun s => if s < 3 then ρ s else ρ' 2, fun s hs => if_pos hs, cq_Md_s ⟨fun b hb => ?_, fun _ z => (by cases z)⟩ Mx.I Mx.F Mx.A, ?_⟩
  · rw [List.mem_singleton.1 hb]
    exact bx
  · rcases hr with ⟨q1, q2, q3⟩ | ⟨q1, -⟩
    · refine Or.inl ⟨rfl, q2, ?_⟩
      obtain ⟨v, rr, e, g1, g2⟩ := cq_gs_cons q3
      rw [e, cq_gs_nil g2]
      obtain ⟨z, ez, hz⟩ := g1
      refine ⟨⟨z, ez, ?_⟩, trivial⟩
      rw [hz]
      rfl
    · cases q1
