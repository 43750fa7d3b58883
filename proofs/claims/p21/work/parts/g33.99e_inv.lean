section
/-! THE START, 4: the heap that the constructors leave -/
def dh_z (D : dh_D) (c i : Nat) : Bool := (dh_ls c D.2.2.1).isSome && (match dh_val D c i with
  | .int x => decide (x.toInt = 0)
  | _ => false)
/-- a value of a place's type; of every place up to n, if so many are meant -/
def dh_ht (D : dh_D) (t : cq_T) (n : Nat) (v : Value) : Bool := match t, v with
  | (0, _), _ => true
  | (1, l, u, _), .int x => decide (l ≤ x.toInt) && decide (x.toInt ≤ u)
  | (2, _), .long _ => true
  | (3, _, _, k, _), .ref a => Nat.beq a k
  | (5, _), .null => true
  | (7, _, _, k, k', _), .ref a => Nat.beq a k || Nat.beq a k'
  | (8, l, u, _), .int x => decide (l ≤ x.toInt) && decide (x.toInt ≤ u) && decide (x.toInt ≤ 0)
  | (9, l, u, _), .int x => decide (l ≤ x.toInt) && decide (x.toInt ≤ u) && decide (x.toInt = 0)
  | (10, l, u, _), .int x => decide (l ≤ x.toInt) && decide (x.toInt ≤ u - n)
  | (11, _, _, _, c, i), .null => dh_z D c i
  | _, _ => false
section CMD
variable {L : Nat} {xs : Nat → Int32} {D : dh_D}
theorem dh_z_ok {c i : Nat} (q : dh_z D c i = true) : cq_n (dh_h L xs D) c i = 0 := by
  have q := (Bool.and_eq_true _ _ ▸ q)
  obtain ⟨sh, hs⟩ := Option.isSome_iff_exists.1 q.1
  unfold cq_n
  rw [dh_val_ok hs]
  have q2 := q.2
  split at q2
  · rename_i x hx
    rw [hx]
    exact of_decide_eq_true q2
  · cases q2
theorem dh_ht_ok {t : cq_T} {n j : Nat} {v : Value} (c0 : cq_n (dh_h L xs D) 40 13 = 0) (hj : j ≤ n) (q : dh_ht D t n v = true) : cq_ht (dh_h L xs D) j t v := by
  unfold dh_ht at q
  split at q
  · trivial
  · have q := (Bool.and_eq_true _ _ ▸ q)
    exact ⟨_, rfl, of_decide_eq_true q.1, of_decide_eq_true q.2⟩
  · exact ⟨_, rfl⟩
  · rename_i k _ a
    exact congrArg Value.ref (am_beq q)
  · exact Or.inl rfl
  · rcases (Bool.or_eq_true _ _ ▸ q) with q | q
    · exact Or.inl (congrArg Value.ref (am_beq q))
    · exact Or.inr (congrArg Value.ref (am_beq q))
  · rename_i l u x0 x
    have q1 := (Bool.and_eq_true _ _ ▸ q)
    have q2 := (Bool.and_eq_true _ _ ▸ q1.1)
    refine ⟨_, rfl, of_decide_eq_true q2.1, of_decide_eq_true q2.2, ?_⟩
    rw [c0, Int.mul_zero]
    exact of_decide_eq_true q1.2
  · have q1 := (Bool.and_eq_true _ _ ▸ q)
    have q2 := (Bool.and_eq_true _ _ ▸ q1.1)
    exact ⟨_, rfl, of_decide_eq_true q2.1, of_decide_eq_true q2.2, Or.inr (of_decide_eq_true q1.2)⟩
  · have q1 := (Bool.and_eq_true _ _ ▸ q)
    have a1 := of_decide_eq_true q1.1
    have a2 := of_decide_eq_true q1.2
    exact ⟨_, rfl, a1, by omega⟩
  · refine Or.inl ⟨rfl, ?_⟩
    rw [dh_z_ok q]
    exact Int.natCast_nonneg j
  · cases q
def dh_cOk (D : dh_D) (c : Nat) : Bool := match dh_ls c D.2.2.1 with
  | none => false
  | some sh => Nat.beq sh.1 (cq_fix c).1 && Nat.beq sh.2.1 (cq_fix c).2.1 && Nat.beq sh.2.2 (cq_fix c).2.2 && (bif Nat.beq sh.1 1 then (dh_ht D (cq_ar c) (sh.2.2 - 1) (am_dv sh.2.1) && ((dh_lk c 1 D.2.2.2).isSome || dh_ht D (cq_ty c 1) 1 (am_dv sh.2.1)) && D.2.2.2.all (fun e => !Nat.beq e.1 c || dh_ht D (cq_ty c e.2.1) e.2.1 e.2.2)) else (List.range sh.2.2).all (fun j => dh_ht D (cq_ty c j) j (dh_val D c j)))
theorem dh_lk_mem {k j : Nat} {v : Value} : ∀ {l : List (Nat × Nat × Value)}, dh_lk k j l = some v → (k, j, v) ∈ l
  | [], h => by cases h
  | e :: r, h => by
    unfold dh_lk at h
    cases hb : Nat.beq e.1 k && Nat.beq e.2.1 j with
    | true =>
      rw [hb] at h
      have h1 := (Bool.and_eq_true _ _ ▸ hb)
      rw [← am_beq h1.1, ← am_beq h1.2, ← Option.some.inj h]
      exact List.mem_cons_self
    | false =>
      rw [hb] at h
      exact List.mem_cons_of_mem _ (dh_lk_mem h)
theorem dh_cOk_ok {c : Nat} (c0 : cq_n (dh_h L xs D) 40 13 = 0) (q : dh_cOk D c = true) : (dh_h L xs D).2.2.1 c = cq_fix c ∧ ∀ j, j < (cq_fix c).2.2 → cq_ht (dh_h L xs D) j (cq_ty c j) ((dh_h L xs D).2.2.2 c j) := by
  unfold dh_cOk at q
  split at q
  · cases q
  · rename_i sh hs
    have b1 := (Bool.and_eq_true _ _ ▸ q)
    have b2 := (Bool.and_eq_true _ _ ▸ b1.1)
    have b3 := (Bool.and_eq_true _ _ ▸ b2.1)
    have es : sh = cq_fix c := Prod.ext (am_beq b3.1) (Prod.ext (am_beq b3.2) (am_beq b2.2))
    have e1 : (dh_h L xs D).2.2.1 c = sh := by
      show (match dh_ls c D.2.2.1 with
        | some s => s
        | none => am_sh0 L c) = _
      rw [hs]
    rw [e1]
    refine ⟨es, fun j hj => ?_⟩
    rw [dh_val_ok hs]
    rw [← es] at hj
    have q2 := b1.2
    rw [cond_eq_ite] at q2
    split at q2
    · rename_i t1
      have d1 := (Bool.and_eq_true _ _ ▸ q2)
      have d2 := (Bool.and_eq_true _ _ ▸ d1.1)
      cases hl : dh_lk c j D.2.2.2 with
      | some v =>
        have z := List.all_eq_true.1 d1.2 _ (dh_lk_mem hl)
        dsimp only at z
        rw [Nat.beq_refl] at z
        have ev : dh_val D c j = v := by unfold dh_val; rw [hl]
        rw [ev]
        exact dh_ht_ok c0 (Nat.le_refl _) z
      | none =>
        have ev : dh_val D c j = am_dv sh.2.1 := by
          unfold dh_val
          rw [hl, hs]
          show dh_df sh j = _
          unfold dh_df
          rw [am_beq t1]
          rfl
        rw [ev]
        cases hz : (Nat.beq c 81 || Nat.beq c 83) && Nat.beq j 1 with
        | false =>
          have ety : cq_ty c j = cq_ar c := by
            unfold cq_ty cq_isA
            rw [← es, t1]
            simp only [cond_true]
            rw [hz]
            rfl
          rw [ety]
          exact dh_ht_ok c0 (by omega) d2.1
        | true =>
          have hz := (Bool.and_eq_true _ _ ▸ hz)
          have j1 := am_beq hz.2
          subst j1
          rcases (Bool.or_eq_true _ _ ▸ d2.2) with z | z
          · rw [hl] at z
            cases z
          · exact dh_ht_ok c0 (Nat.le_refl _) z
    · exact dh_ht_ok c0 (Nat.le_refl _) (List.all_eq_true.1 q2 j (List.mem_range.2 hj))
def dh_inv (D : dh_D) : Bool := Nat.beq D.1 130 && (List.range 130).all (fun c => Nat.blt c 40 || dh_cOk D c) && D.2.2.1.all (fun e => Nat.ble 40 e.1) && D.2.2.2.all (fun e => Nat.ble 40 e.1 && !Nat.beq e.1 92 && !Nat.beq e.1 93) && dh_z D 40 13
theorem dh_sv_ok : ∀ c, c < 7 → 1 ≤ c → ∀ j, j < 7 → am_sv c j = Int32.ofInt (cq_sv c j) := by decide +kernel
theorem dh_ls_none {k : Nat} : ∀ {l : List (Nat × am_Sh)}, (∀ e ∈ l, e.1 ≠ k) → dh_ls k l = none
  | [], _ => rfl
  | e :: r, h => by
    unfold dh_ls
    rw [dh_bne (h e List.mem_cons_self)]
    exact dh_ls_none fun x hx => h x (List.mem_cons_of_mem _ hx)
theorem dh_inv_ok (hL : L ≤ 100000) (q : dh_inv D = true) : cq_Inv none (dh_h L xs D) := by
  have b1 := (Bool.and_eq_true _ _ ▸ q)
  have b2 := (Bool.and_eq_true _ _ ▸ b1.1)
  have b3 := (Bool.and_eq_true _ _ ▸ b2.1)
  have b4 := (Bool.and_eq_true _ _ ▸ b3.1)
  have c0 := dh_z_ok (L := L) (xs := xs) b1.2
  have e1 : (dh_h L xs D).1 = 130 := am_beq b4.1
  have C : ∀ c, 40 ≤ c → c < 130 → _ := fun c h1 h2 => dh_cOk_ok (L := L) (xs := xs) c0 (by
    rcases Bool.or_eq_true _ _ ▸ List.all_eq_true.1 b4.2 c (List.mem_range.2 h2) with z | z
    · have : c < 40 := Nat.le_of_ble_eq_true z
      omega
    · exact z)
  have lo1 : ∀ c, c < 40 → dh_ls c D.2.2.1 = none := fun c hc => dh_ls_none fun e he => by
    have := Nat.le_of_ble_eq_true (List.all_eq_true.1 b3.2 e he)
    omega
  have lo2 : ∀ c j, c < 40 → dh_lk c j D.2.2.2 = none := fun c j hc => dh_lk_none fun e he => by
    have z := (Bool.and_eq_true _ _ ▸ List.all_eq_true.1 b2.2 e he)
    have z := (Bool.and_eq_true _ _ ▸ z.1)
    have := Nat.le_of_ble_eq_true z.1
    omega
  have sh0 : ∀ c, c < 40 → (dh_h L xs D).2.2.1 c = am_sh0 L c := fun c hc => by
    show (match dh_ls c D.2.2.1 with
      | some s => s
      | none => am_sh0 L c) = _
    rw [lo1 c hc]
  have v0 : ∀ c j, c < 40 → (dh_h L xs D).2.2.2 c j = am_V0 xs c j := fun c j hc => by
    show (match dh_lk c j D.2.2.2 with
      | some v => v
      | none => (match dh_ls c D.2.2.1 with
        | some s => dh_df s j
        | none => am_V0 xs c j)) = _
    rw [lo2 c j hc, lo1 c hc]
  have zr : ∀ c j, (c = 92 ∨ c = 93) → cq_n (dh_h L xs D) c j = 0 := fun c j hc => by
    have hn : dh_lk c j D.2.2.2 = none := dh_lk_none fun e he => by
      have z1 := (Bool.and_eq_true _ _ ▸ List.all_eq_true.1 b2.2 e he)
      have z2 := (Bool.and_eq_true _ _ ▸ z1.1)
      rcases hc with z | z
      · subst z
        intro w
        have := z2.2
        rw [w] at this
        cases this
      · subst z
        intro w
        have := z1.2
        rw [w] at this
        cases this
    have h1 : 40 ≤ c ∧ c < 130 := by omega
    have es := (C c h1.1 h1.2).1
    have hs : ∃ sh, dh_ls c D.2.2.1 = some sh := by
      cases hl : dh_ls c D.2.2.1 with
      | some sh => exact ⟨sh, rfl⟩
      | none =>
        exfalso
        rcases Bool.or_eq_true _ _ ▸ List.all_eq_true.1 b4.2 c (List.mem_range.2 h1.2) with z | z
        · have : c < 40 := Nat.le_of_ble_eq_true z
          omega
        · unfold dh_cOk at z
          rw [hl] at z
          cases z
    obtain ⟨sh, hs⟩ := hs
    have e2 : (dh_h L xs D).2.2.1 c = sh := by
      show (match dh_ls c D.2.2.1 with
        | some s => s
        | none => am_sh0 L c) = _
      rw [hs]
    rw [e2] at es
    unfold cq_n
    rw [dh_val_ok hs]
    unfold dh_val
    rw [hn, hs, es]
    rcases hc with z | z
    · subst z; rfl
    · subst z; rfl
  refine ⟨Nat.le_of_eq e1.symm, fun c h1 h2 => (C c h1 h2).1, fun c h1 h2 => ⟨?_, fun j hj => ?_⟩, ?_, fun c h1 h2 => ?_, fun c h1 h2 _ j hj => ?_, fun t ht => ⟨fun z => ?_, fun z => ?_⟩⟩
  · rw [sh0 c (by omega)]
    unfold am_sh0
    rw [dh_bne (by omega : c ≠ 0), show Nat.blt c 7 = true from Nat.ble_eq_true_of_le h2]
    rfl
  · rw [v0 c j (by omega)]
    unfold am_V0
    rw [dh_bne (by omega : c ≠ 0)]
    show Value.int (am_sv c j) = _
    rw [dh_sv_ok c h2 h1 j hj]
  · rw [sh0 0 (by decide)]
    exact ⟨rfl, rfl, hL, fun j _ => ⟨xs j, v0 0 j (by decide)⟩⟩
  · rw [e1] at h2
    omega
  · rw [e1] at h2
    obtain ⟨k1, k2⟩ := C c h1 h2
    rw [k1] at hj
    unfold cq_tyOf
    rw [show Nat.blt c 130 = true from Nat.ble_eq_true_of_le h2]
    exact k2 j hj
  · rw [zr 93 t (Or.inr rfl)] at z
    omega
  · rw [zr 92 (t / 3) (Or.inl rfl)] at z
    omega
end CMD
theorem dh_i2 : dh_inv (dh_get dh_r2) = true := by decide +kernel
theorem dh_t2 : (dh_z (dh_get dh_r2) 41 1 && dh_z (dh_get dh_r2) 78 2) = true := by decide +kernel
end
section
/-! CONTRACTS: 16u 164u 17u 166u 38u 185u 91u 90u 217u 99u 224u -/
def ct_16u : cq_Ct := (0, [(5, (0, []), 40), (1, (0, [(0, 1)]), 0)], cq_mk 2 ([(0, (-2147483648), 2147483647), (1, 0, 1600)], []) [] [] [] [((false, 41), (1, []), (1, (0, [(1, 1)]), 0))] [] [] none 0 0, [(false, 41, 2, 0)], [(false, [(1, ((-1), []), 0)], cq_mk 2 ([], [((-1), [(0, 1)]), ((-1), [(0, 1), (1, (-1))])]) [] [] [] [((false, 41), (1, []), (1, (0, [(1, 1)]), 0))] [] [] none 0 0), (false, [(1, (0, [(0, 1)]), 0)], cq_mk 2 ([], [(0, [(0, 1)]), (1600, [(0, (-1))]), (0, [(0, (-1)), (1, 1)])]) [] [] [] [((false, 41), (1, []), (1, (0, [(0, 1)]), 0))] [] [] none 0 0), (false, [(1, ((-1), []), 0)], cq_mk 2 ([], [((-1), [(0, (-1))])]) [] [] [] [((false, 41), (1, []), (1, (0, [(1, 1)]), 0))] [] [] none 0 0)])
theorem wf_16u : cq_wfC ct_16u = true := by decide +kernel
def lp_16u (pc : Nat) : Option (Option (Nat × Nat) × cq_Lp) := none
theorem ok_16u : cq_CT 16 ct_16u := cq_meth (f := 100000) (cts := cq_t0) (lps := lp_16u) cq_t0_ok wf_16u (by decide +kernel) (by decide +kernel)
def ct_164u : cq_Ct := (1, [(5, (0, []), 78), (1, (0, [(0, 1)]), 0)], cq_mk 2 ([(0, (-2147483648), 2147483647), (1, 0, 1600)], []) [] [] [] [((false, 78), (2, []), (1, (0, [(1, 1)]), 0))] [] [] none 0 0, [(false, 78, 3, 0)], [(false, [(1, (0, [(0, 1)]), 0)], cq_mk 2 ([], [(0, [(0, 1)]), (1600, [(0, (-1))]), (0, [(0, (-1)), (1, 1)])]) [] [] [] [((false, 78), (2, []), (1, (0, [(0, 1)]), 0))] [] [] none 0 0), (false, [(1, ((-1), []), 0)], cq_mk 2 ([], [((-1), [(0, 1)]), ((-1), [(0, 1), (1, (-1))])]) [] [] [] [((false, 78), (2, []), (1, (0, [(1, 1)]), 0))] [] [] none 0 0), (false, [(1, ((-1), []), 0)], cq_mk 2 ([], [((-1), [(0, (-1))])]) [] [] [] [((false, 78), (2, []), (1, (0, [(1, 1)]), 0))] [] [] none 0 0)])
theorem wf_164u : cq_wfC ct_164u = true := by decide +kernel
def lp_164u (pc : Nat) : Option (Option (Nat × Nat) × cq_Lp) := none
theorem ok_164u : cq_CT 164 ct_164u := cq_meth (f := 100000) (cts := cq_t0) (lps := lp_164u) cq_t0_ok wf_164u (by decide +kernel) (by decide +kernel)
def ct_17u : cq_Ct := (0, [(5, (0, []), 40), (1, (0, [(0, 1)]), 0)], cq_mk 2 ([(0, (-2147483648), 2147483647), (1, 0, 29999)], []) [] [] [] [((false, 40), (9, []), (1, (0, [(1, 1)]), 0))] [] [] none 0 0, [(false, 40, 10, 0)], [(false, [(1, ((-2), []), 0)], cq_mk 2 ([], [((-1), [(0, 1)]), (9999, [(0, (-1))]), ((-20001), [(1, 1)]), ((-30000), [(0, 1), (1, 1)])]) [] [] [] [((false, 40), (9, []), (1, (0, [(1, 1)]), 0))] [] [] none 0 0), (false, [(1, (0, [(0, 1), (1, 1)]), 0)], cq_mk 2 ([], [((-1), [(0, 1)]), (9999, [(0, (-1))]), (29998, [(1, (-1))]), (29999, [(0, (-1)), (1, (-1))])]) [] [] [] [((false, 40), (9, []), (1, (0, [(0, 1), (1, 1)]), 0))] [] [] none 0 0), (false, [(1, ((-2), []), 0)], cq_mk 2 ([], [((-10000), [(0, 1)])]) [] [] [] [((false, 40), (9, []), (1, (0, [(1, 1)]), 0))] [] [] none 0 0), (false, [(1, ((-2), []), 0)], cq_mk 2 ([], [(0, [(0, (-1))])]) [] [] [] [((false, 40), (9, []), (1, (0, [(1, 1)]), 0))] [] [] none 0 0)])
theorem wf_17u : cq_wfC ct_17u = true := by decide +kernel
def lp_17u (pc : Nat) : Option (Option (Nat × Nat) × cq_Lp) := none
theorem ok_17u : cq_CT 17 ct_17u := cq_meth (f := 100000) (cts := cq_t0) (lps := lp_17u) cq_t0_ok wf_17u (by decide +kernel) (by decide +kernel)
def ct_166u : cq_Ct := (1, [(5, (0, []), 78), (1, (0, [(0, 1)]), 0)], cq_mk 2 ([(0, (-2147483648), 2147483647), (1, 0, 29999)], []) [] [] [] [((false, 78), (15, []), (1, (0, [(1, 1)]), 0))] [] [] none 0 0, [(false, 78, 16, 0)], [(false, [(1, ((-2), []), 0)], cq_mk 2 ([], [((-1), [(0, 1)]), (9999, [(0, (-1))]), ((-20001), [(1, 1)]), ((-30000), [(0, 1), (1, 1)])]) [] [] [] [((false, 78), (15, []), (1, (0, [(1, 1)]), 0))] [] [] none 0 0), (false, [(1, (0, [(0, 1), (1, 1)]), 0)], cq_mk 2 ([], [((-1), [(0, 1)]), (9999, [(0, (-1))]), (29998, [(1, (-1))]), (29999, [(0, (-1)), (1, (-1))])]) [] [] [] [((false, 78), (15, []), (1, (0, [(0, 1), (1, 1)]), 0))] [] [] none 0 0), (false, [(1, ((-2), []), 0)], cq_mk 2 ([], [((-10000), [(0, 1)])]) [] [] [] [((false, 78), (15, []), (1, (0, [(1, 1)]), 0))] [] [] none 0 0), (false, [(1, ((-2), []), 0)], cq_mk 2 ([], [(0, [(0, (-1))])]) [] [] [] [((false, 78), (15, []), (1, (0, [(1, 1)]), 0))] [] [] none 0 0)])
theorem wf_166u : cq_wfC ct_166u = true := by decide +kernel
def lp_166u (pc : Nat) : Option (Option (Nat × Nat) × cq_Lp) := none
theorem ok_166u : cq_CT 166 ct_166u := cq_meth (f := 100000) (cts := cq_t0) (lps := lp_166u) cq_t0_ok wf_166u (by decide +kernel) (by decide +kernel)
def ct_38u : cq_Ct := (2, [(5, (0, []), 40), (1, (0, [(0, 1)]), 0), (1, (0, [(1, 1)]), 0), (1, (0, [(2, 1)]), 0), (1, (0, [(3, 1)]), 0)], cq_mk 5 ([(0, (-2147483648), 2147483647), (1, (-2147483648), 2147483647), (2, (-2147483648), 2147483647), (3, (-2147483648), 2147483647), (4, 0, 40)], []) [] [] [] [((false, 40), (8, []), (1, (0, [(4, 1)]), 0))] [] [] none 0 0, [(false, 40, 9, 0), (false, 73, 0, 0), (true, 0, 6, 1), (true, 0, 6, 2), (true, 0, 6, 3), (true, 0, 6, 4), (true, 1, 0, 0)], [(false, [(1, ((-3), []), 0)], cq_mk 5 ([], [(0, [(0, 1)]), (19, [(0, (-1))]), (0, [(1, 1)]), (2100, [(1, (-1))]), (0, [(2, 1)]), (19, [(2, (-1))]), (0, [(3, 1)]), (99, [(3, (-1))]), ((-40), [(4, 1)])]) [] [] [] [((false, 40), (8, []), (1, (0, [(4, 1)]), 0))] [] [] none 3 15), (false, [(1, (0, [(4, 1)]), 0)], cq_mk 5 ([], [(0, [(0, 1)]), (19, [(0, (-1))]), (0, [(1, 1)]), (2100, [(1, (-1))]), (0, [(2, 1)]), (19, [(2, (-1))]), (0, [(3, 1)]), (99, [(3, (-1))]), (39, [(4, (-1))])]) [] [] [] [((false, 40), (8, []), (1, (1, [(4, 1)]), 0))] [] [] none 3 15), (false, [(1, ((-2), []), 0)], cq_mk 5 ([], [(0, [(0, 1)]), (19, [(0, (-1))]), (0, [(1, 1)]), (2100, [(1, (-1))]), (0, [(2, 1)]), (19, [(2, (-1))]), ((-100), [(3, 1)])]) [] [] [] [((false, 40), (8, []), (1, (0, [(4, 1)]), 0))] [] [] none 3 15), (false, [(1, ((-2), []), 0)], cq_mk 5 ([], [(0, [(0, 1)]), (19, [(0, (-1))]), (0, [(1, 1)]), (2100, [(1, (-1))]), (0, [(2, 1)]), (19, [(2, (-1))]), ((-1), [(3, (-1))])]) [] [] [] [((false, 40), (8, []), (1, (0, [(4, 1)]), 0))] [] [] none 3 15), (false, [(1, ((-2), []), 0)], cq_mk 5 ([], [(0, [(0, 1)]), (19, [(0, (-1))]), (0, [(1, 1)]), (2100, [(1, (-1))]), ((-20), [(2, 1)])]) [] [] [] [((false, 40), (8, []), (1, (0, [(4, 1)]), 0))] [] [] none 3 15), (false, [(1, ((-2), []), 0)], cq_mk 5 ([], [(0, [(0, 1)]), (19, [(0, (-1))]), (0, [(1, 1)]), (2100, [(1, (-1))]), ((-1), [(2, (-1))])]) [] [] [] [((false, 40), (8, []), (1, (0, [(4, 1)]), 0))] [] [] none 3 15), (false, [(1, ((-2), []), 0)], cq_mk 5 ([], [(0, [(0, 1)]), (19, [(0, (-1))]), ((-2101), [(1, 1)])]) [] [] [] [((false, 40), (8, []), (1, (0, [(4, 1)]), 0))] [] [] none 3 15), (false, [(1, ((-2), []), 0)], cq_mk 5 ([], [(0, [(0, 1)]), (19, [(0, (-1))]), ((-1), [(1, (-1))])]) [] [] [] [((false, 40), (8, []), (1, (0, [(4, 1)]), 0))] [] [] none 3 15), (false, [(1, ((-2), []), 0)], cq_mk 5 ([], [((-20), [(0, 1)])]) [] [] [] [((false, 40), (8, []), (1, (0, [(4, 1)]), 0))] [] [] none 3 15), (false, [(1, ((-2), []), 0)], cq_mk 5 ([], [((-1), [(0, (-1))])]) [] [] [] [((false, 40), (8, []), (1, (0, [(4, 1)]), 0))] [] [] none 3 15)])
theorem wf_38u : cq_wfC ct_38u = true := by decide +kernel
def lp_38u (pc : Nat) : Option (Option (Nat × Nat) × cq_Lp) := none
theorem ok_38u : cq_CT 38 ct_38u := cq_meth (f := 100000) (cts := cq_t0) (lps := lp_38u) cq_t0_ok wf_38u (by decide +kernel) (by decide +kernel)
def ct_185u : cq_Ct := (2, [(5, (0, []), 78), (1, (0, [(0, 1)]), 0), (1, (0, [(1, 1)]), 0), (1, (0, [(2, 1)]), 0), (1, (0, [(3, 1)]), 0)], cq_mk 5 ([(0, (-2147483648), 2147483647), (1, (-2147483648), 2147483647), (2, (-2147483648), 2147483647), (3, (-2147483648), 2147483647), (4, 0, 40)], []) [] [] [] [((false, 78), (16, []), (1, (0, [(4, 1)]), 0))] [] [] none 0 0, [(false, 78, 17, 0), (false, 86, 0, 0), (false, 87, 0, 0), (false, 88, 0, 0), (false, 89, 0, 0), (false, 90, 0, 0)], [(false, [(1, ((-3), []), 0)], cq_mk 5 ([], [(0, [(0, 1)]), (19, [(0, (-1))]), (0, [(1, 1)]), (2100, [(1, (-1))]), (0, [(2, 1)]), (19, [(2, (-1))]), (0, [(3, 1)]), (99, [(3, (-1))]), ((-40), [(4, 1)])]) [] [] [] [((false, 78), (16, []), (1, (0, [(4, 1)]), 0))] [] [] none 0 0), (false, [(1, (0, [(4, 1)]), 0)], cq_mk 5 ([], [(0, [(0, 1)]), (19, [(0, (-1))]), (0, [(1, 1)]), (2100, [(1, (-1))]), (0, [(2, 1)]), (19, [(2, (-1))]), (0, [(3, 1)]), (99, [(3, (-1))]), (39, [(4, (-1))])]) [] [] [] [((false, 78), (16, []), (1, (1, [(4, 1)]), 0))] [] [] none 0 0), (false, [(1, ((-2), []), 0)], cq_mk 5 ([], [(0, [(0, 1)]), (19, [(0, (-1))]), (0, [(1, 1)]), (2100, [(1, (-1))]), (0, [(2, 1)]), (19, [(2, (-1))]), ((-100), [(3, 1)])]) [] [] [] [((false, 78), (16, []), (1, (0, [(4, 1)]), 0))] [] [] none 0 0), (false, [(1, ((-2), []), 0)], cq_mk 5 ([], [(0, [(0, 1)]), (19, [(0, (-1))]), (0, [(1, 1)]), (2100, [(1, (-1))]), (0, [(2, 1)]), (19, [(2, (-1))]), ((-1), [(3, (-1))])]) [] [] [] [((false, 78), (16, []), (1, (0, [(4, 1)]), 0))] [] [] none 0 0), (false, [(1, ((-2), []), 0)], cq_mk 5 ([], [(0, [(0, 1)]), (19, [(0, (-1))]), (0, [(1, 1)]), (2100, [(1, (-1))]), ((-20), [(2, 1)])]) [] [] [] [((false, 78), (16, []), (1, (0, [(4, 1)]), 0))] [] [] none 0 0), (false, [(1, ((-2), []), 0)], cq_mk 5 ([], [(0, [(0, 1)]), (19, [(0, (-1))]), (0, [(1, 1)]), (2100, [(1, (-1))]), ((-1), [(2, (-1))])]) [] [] [] [((false, 78), (16, []), (1, (0, [(4, 1)]), 0))] [] [] none 0 0), (false, [(1, ((-2), []), 0)], cq_mk 5 ([], [(0, [(0, 1)]), (19, [(0, (-1))]), ((-2101), [(1, 1)])]) [] [] [] [((false, 78), (16, []), (1, (0, [(4, 1)]), 0))] [] [] none 0 0), (false, [(1, ((-2), []), 0)], cq_mk 5 ([], [(0, [(0, 1)]), (19, [(0, (-1))]), ((-1), [(1, (-1))])]) [] [] [] [((false, 78), (16, []), (1, (0, [(4, 1)]), 0))] [] [] none 0 0), (false, [(1, ((-2), []), 0)], cq_mk 5 ([], [((-20), [(0, 1)])]) [] [] [] [((false, 78), (16, []), (1, (0, [(4, 1)]), 0))] [] [] none 0 0), (false, [(1, ((-2), []), 0)], cq_mk 5 ([], [((-1), [(0, (-1))])]) [] [] [] [((false, 78), (16, []), (1, (0, [(4, 1)]), 0))] [] [] none 0 0)])
theorem wf_185u : cq_wfC ct_185u = true := by decide +kernel
def lp_185u (pc : Nat) : Option (Option (Nat × Nat) × cq_Lp) := none
theorem ok_185u : cq_CT 185 ct_185u := cq_meth (f := 100000) (cts := cq_t0) (lps := lp_185u) cq_t0_ok wf_185u (by decide +kernel) (by decide +kernel)
def ct_91u : cq_Ct := (0, [(5, (0, []), 48), (1, (0, [(0, 1)]), 0), (1, (0, [(1, 1)]), 0), (1, (0, [(2, 1)]), 0)], cq_mk 4 ([(0, (-2147483648), 2147483647), (1, (-2147483648), 2147483647), (2, (-2147483648), 2147483647), (3, 0, 60)], []) [] [] [] [((false, 48), (5, []), (1, (0, [(3, 1)]), 0))] [] [] none 0 0, [(false, 48, 6, 0), (false, 50, 0, 0), (false, 51, 0, 0), (false, 52, 0, 0)], [(false, [(1, ((-3), []), 0)], cq_mk 4 ([], [((-60), [(3, 1)])]) [] [] [] [((false, 48), (5, []), (1, (0, [(3, 1)]), 0))] [] [] none 0 0), (false, [(1, (1, [(3, 1)]), 0)], cq_mk 4 ([], [(59, [(3, (-1))])]) [] [] [] [((false, 48), (5, []), (1, (1, [(3, 1)]), 0))] [] [] none 0 0)])
theorem wf_91u : cq_wfC ct_91u = true := by decide +kernel
def lp_91u (pc : Nat) : Option (Option (Nat × Nat) × cq_Lp) := none
theorem ok_91u : cq_CT 91 ct_91u := cq_meth (f := 100000) (cts := cq_t0) (lps := lp_91u) cq_t0_ok wf_91u (by decide +kernel) (by decide +kernel)
def ct_90u : cq_Ct := (1, [(5, (0, []), 40), (1, (0, [(0, 1)]), 0), (1, (0, [(1, 1)]), 0)], cq_mk 3 ([(0, (-2147483648), 2147483647), (1, (-2147483648), 2147483647), (2, 0, 60)], []) [] [] [] [((false, 48), (5, []), (1, (0, [(2, 1)]), 0))] [] [] none 0 0, [(false, 48, 6, 0), (false, 50, 0, 0), (false, 51, 0, 0), (false, 52, 0, 0)], [(false, [(1, (1, [(2, 1)]), 0)], cq_mk 3 ([], [(0, [(0, 1)]), (19, [(0, (-1))]), (0, [(1, 1)]), (29999, [(1, (-1))]), (59, [(2, (-1))])]) [] [] [] [((false, 48), (5, []), (1, (1, [(2, 1)]), 0))] [] [] none 0 0), (false, [(1, ((-3), []), 0)], cq_mk 3 ([], [(0, [(0, 1)]), (19, [(0, (-1))]), (0, [(1, 1)]), (29999, [(1, (-1))]), ((-60), [(2, 1)])]) [] [] [] [((false, 48), (5, []), (1, (0, [(2, 1)]), 0))] [] [] none 0 0), (false, [(1, ((-2), []), 0)], cq_mk 3 ([], [(0, [(0, 1)]), (19, [(0, (-1))]), ((-30000), [(1, 1)])]) [] [] [] [((false, 48), (5, []), (1, (0, [(2, 1)]), 0))] [] [] none 0 0), (false, [(1, ((-2), []), 0)], cq_mk 3 ([], [(0, [(0, 1)]), (19, [(0, (-1))]), ((-1), [(1, (-1))])]) [] [] [] [((false, 48), (5, []), (1, (0, [(2, 1)]), 0))] [] [] none 0 0), (false, [(1, ((-2), []), 0)], cq_mk 3 ([], [((-20), [(0, 1)])]) [] [] [] [((false, 48), (5, []), (1, (0, [(2, 1)]), 0))] [] [] none 0 0), (false, [(1, ((-2), []), 0)], cq_mk 3 ([], [((-1), [(0, (-1))])]) [] [] [] [((false, 48), (5, []), (1, (0, [(2, 1)]), 0))] [] [] none 0 0)])
theorem wf_90u : cq_wfC ct_90u = true := by decide +kernel
def lp_90u (pc : Nat) : Option (Option (Nat × Nat) × cq_Lp) := none
theorem ok_90u : cq_CT 90 ct_90u := cq_meth (f := 100000) (cts := (cq_tc 91 ct_91u cq_t0)) (lps := lp_90u) (cq_tc_ok wf_91u ok_91u cq_t0_ok) wf_90u (by decide +kernel) (by decide +kernel)
def ct_217u : cq_Ct := (2, [(5, (0, []), 78), (1, (0, [(0, 1)]), 0), (1, (0, [(1, 1)]), 0)], cq_mk 3 ([(0, (-2147483648), 2147483647), (1, (-2147483648), 2147483647), (2, 0, 60)], []) [] [] [] [((false, 78), (36, []), (1, (0, [(2, 1)]), 0))] [] [] none 0 0, [(false, 114, 0, 0), (false, 115, 0, 0), (false, 116, 0, 0), (false, 78, 37, 0)], [(false, [(1, ((-3), []), 0)], cq_mk 3 ([], [(0, [(0, 1)]), (19, [(0, (-1))]), (0, [(1, 1)]), (29999, [(1, (-1))]), ((-60), [(2, 1)])]) [] [] [] [((false, 78), (36, []), (1, (0, [(2, 1)]), 0))] [] [] none 0 0), (false, [(1, (1, [(2, 1)]), 0)], cq_mk 3 ([], [(0, [(0, 1)]), (19, [(0, (-1))]), (0, [(1, 1)]), (29999, [(1, (-1))]), (59, [(2, (-1))])]) [] [] [] [((false, 78), (36, []), (1, (1, [(2, 1)]), 0))] [] [] none 0 0), (false, [(1, ((-2), []), 0)], cq_mk 3 ([], [(0, [(0, 1)]), (19, [(0, (-1))]), ((-30000), [(1, 1)])]) [] [] [] [((false, 78), (36, []), (1, (0, [(2, 1)]), 0))] [] [] none 0 0), (false, [(1, ((-2), []), 0)], cq_mk 3 ([], [(0, [(0, 1)]), (19, [(0, (-1))]), ((-1), [(1, (-1))])]) [] [] [] [((false, 78), (36, []), (1, (0, [(2, 1)]), 0))] [] [] none 0 0), (false, [(1, ((-2), []), 0)], cq_mk 3 ([], [((-20), [(0, 1)])]) [] [] [] [((false, 78), (36, []), (1, (0, [(2, 1)]), 0))] [] [] none 0 0), (false, [(1, ((-2), []), 0)], cq_mk 3 ([], [((-1), [(0, (-1))])]) [] [] [] [((false, 78), (36, []), (1, (0, [(2, 1)]), 0))] [] [] none 0 0)])
theorem wf_217u : cq_wfC ct_217u = true := by decide +kernel
def lp_217u (pc : Nat) : Option (Option (Nat × Nat) × cq_Lp) := none
theorem ok_217u : cq_CT 217 ct_217u := cq_meth (f := 100000) (cts := cq_t0) (lps := lp_217u) cq_t0_ok wf_217u (by decide +kernel) (by decide +kernel)
def ct_99u : cq_Ct := (1, [(5, (0, []), 40), (1, (0, [(0, 1)]), 0), (1, (0, [(1, 1)]), 0)], cq_mk 2 ([(0, (-2147483648), 2147483647), (1, (-2147483648), 2147483647)], []) [] [] [] [] [] [] none 0 0, [(false, 40, 11, 0), (false, 40, 12, 0)], [(false, [(1, (1, []), 0)], cq_mk 2 ([], [((-1), [(0, 1)]), (63, [(0, (-1))]), (0, [(1, 1)]), (29999, [(1, (-1))])]) [] [] [] [] [] [] none 0 0), (false, [(1, ((-2), []), 0)], cq_mk 2 ([], [((-1), [(0, 1)]), (63, [(0, (-1))]), ((-30000), [(1, 1)])]) [] [] [] [] [] [] none 0 0), (false, [(1, ((-2), []), 0)], cq_mk 2 ([], [((-1), [(0, 1)]), (63, [(0, (-1))]), ((-1), [(1, (-1))])]) [] [] [] [] [] [] none 0 0), (false, [(1, ((-2), []), 0)], cq_mk 2 ([], [((-64), [(0, 1)])]) [] [] [] [] [] [] none 0 0), (false, [(1, ((-2), []), 0)], cq_mk 2 ([], [(0, [(0, (-1))])]) [] [] [] [] [] [] none 0 0)])
theorem wf_99u : cq_wfC ct_99u = true := by decide +kernel
def lp_99u (pc : Nat) : Option (Option (Nat × Nat) × cq_Lp) := none
theorem ok_99u : cq_CT 99 ct_99u := cq_meth (f := 100000) (cts := cq_t0) (lps := lp_99u) cq_t0_ok wf_99u (by decide +kernel) (by decide +kernel)
def ct_224u : cq_Ct := (2, [(5, (0, []), 78), (1, (0, [(0, 1)]), 0), (1, (0, [(1, 1)]), 0)], cq_mk 2 ([(0, (-2147483648), 2147483647), (1, (-2147483648), 2147483647)], []) [] [] [] [] [] [] none 0 0, [(false, 78, 52, 0), (false, 78, 53, 0)], [(false, [(1, (1, []), 0)], cq_mk 2 ([], [((-1), [(0, 1)]), (63, [(0, (-1))]), (0, [(1, 1)]), (29999, [(1, (-1))])]) [] [] [] [] [] [] none 0 0), (false, [(1, ((-2), []), 0)], cq_mk 2 ([], [((-1), [(0, 1)]), (63, [(0, (-1))]), ((-30000), [(1, 1)])]) [] [] [] [] [] [] none 0 0), (false, [(1, ((-2), []), 0)], cq_mk 2 ([], [((-1), [(0, 1)]), (63, [(0, (-1))]), ((-1), [(1, (-1))])]) [] [] [] [] [] [] none 0 0), (false, [(1, ((-2), []), 0)], cq_mk 2 ([], [((-64), [(0, 1)])]) [] [] [] [] [] [] none 0 0), (false, [(1, ((-2), []), 0)], cq_mk 2 ([], [(0, [(0, (-1))])]) [] [] [] [] [] [] none 0 0)])
theorem wf_224u : cq_wfC ct_224u = true := by decide +kernel
def lp_224u (pc : Nat) : Option (Option (Nat × Nat) × cq_Lp) := none
theorem ok_224u : cq_CT 224 ct_224u := cq_meth (f := 100000) (cts := cq_t0) (lps := lp_224u) cq_t0_ok wf_224u (by decide +kernel) (by decide +kernel)
end
