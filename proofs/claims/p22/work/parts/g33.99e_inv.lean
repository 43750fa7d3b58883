section
/-! THE START, 4: the heap that the constructors leave -/
def dh_z (D : dh_D) (c i : Nat) : Bool := (dh_ls c D.2.2.1).isSome && (match dh_val D c i with
  | .int x => decide (x.toInt = 0)
  | _ => false)
/-- a value of a place's type; of every place up to n, if so many are meant -/
def dh_ht (D : dh_D) (t : cq_T) (n : Nat) (v : Value) : Bool := match t, v with
  | (0, _), _ => true
  | (1, l, u, _), .int x => decide (l ≤ x.toInt) && decide (x.toInt ≤ u)
  | (2, _), .long _ => true
  | (3, _, _, k, _), .ref a => Nat.beq a k
  | (5, _), .null => true
  | (7, _, _, k, k', _), .ref a => Nat.beq a k || Nat.beq a k'
  | (8, l, u, _), .int x => decide (l ≤ x.toInt) && decide (x.toInt ≤ u) && decide (x.toInt ≤ 0)
  | (9, l, u, _), .int x => decide (l ≤ x.toInt) && decide (x.toInt ≤ u) && decide (x.toInt = 0)
  | (10, l, u, _), .int x => decide (l ≤ x.toInt) && decide (x.toInt ≤ u - n)
  | (11, _, _, _, c, i), .null => dh_z D c i
  | _, _ => false
section CMD
variable {L : Nat} {xs : Nat → Int32} {D : dh_D}
theorem dh_z_ok {c i : Nat} (q : dh_z D c i = true) : cq_n (dh_h L xs D) c i = 0 := by
  have q := (Bool.and_eq_true _ _ ▸ q)
  obtain ⟨sh, hs⟩ := Option.isSome_iff_exists.1 q.1
  unfold cq_n
  rw [dh_val_ok hs]
  have q2 := q.2
  split at q2
  · rename_i x hx
    rw [hx]
    exact of_decide_eq_true q2
  · cases q2
theorem dh_ht_ok {t : cq_T} {n j : Nat} {v : Value} (c0 : cq_n (dh_h L xs D) 40 13 = 0) (hj : j ≤ n) (q : dh_ht D t n v = true) : cq_ht (dh_h L xs D) j t v := by
  unfold dh_ht at q
  split at q
  · trivial
  · have q := (Bool.and_eq_true _ _ ▸ q)
    exact ⟨_, rfl, of_decide_eq_true q.1, of_decide_eq_true q.2⟩
  · exact ⟨_, rfl⟩
  · rename_i k _ a
    exact congrArg Value.ref (am_beq q)
  · exact Or.inl rfl
  · rcases (Bool.or_eq_true _ _ ▸ q) with q | q
    · exact Or.inl (congrArg Value.ref (am_beq q))
    · exact Or.inr (congrArg Value.ref (am_beq q))
  · rename_i l u x0 x
    have q1 := (Bool.and_eq_true _ _ ▸ q)
    have q2 := (Bool.and_eq_true _ _ ▸ q1.1)
    refine ⟨_, rfl, of_decide_eq_true q2.1, of_decide_eq_true q2.2, ?_⟩
    rw [c0, Int.mul_zero]
    exact of_decide_eq_true q1.2
  · have q1 := (Bool.and_eq_true _ _ ▸ q)
    have q2 := (Bool.and_eq_true _ _ ▸ q1.1)
    exact ⟨_, rfl, of_decide_eq_true q2.1, of_decide_eq_true q2.2, Or.inr (of_decide_eq_true q1.2)⟩
  · have q1 := (Bool.and_eq_true _ _ ▸ q)
    have a1 := of_decide_eq_true q1.1
    have a2 := of_decide_eq_true q1.2
    exact ⟨_, rfl, a1, by omega⟩
  · refine Or.inl ⟨rfl, ?_⟩
    rw [dh_z_ok q]
    exact Int.natCast_nonneg j
  · cases q
def dh_cOk (D : dh_D) (c : Nat) : Bool := match dh_ls c D.2.2.1 with
  | none => false
  | some sh => Nat.beq sh.1 (cq_fix c).1 && Nat.beq sh.2.1 (cq_fix c).2.1 && Nat.beq sh.2.2 (cq_fix c).2.2 && (bif Nat.beq sh.1 1 then (dh_ht D (cq_ar c) (sh.2.2 - 1) (am_dv sh.2.1) && ((dh_lk c 1 D.2.2.2).isSome || dh_ht D (cq_ty c 1) 1 (am_dv sh.2.1)) && D.2.2.2.all (fun e => !Nat.beq e.1 c || dh_ht D (cq_ty c e.2.1) e.2.1 e.2.2)) else (List.range sh.2.2).all (fun j => dh_ht D (cq_ty c j) j (dh_val D c j)))
theorem dh_lk_mem {k j : Nat} {v : Value} : ∀ {l : List (Nat × Nat × Value)}, dh_lk k j l = some v → (k, j, v) ∈ l
  | [], h => by cases h
  | e :: r, h => by
    unfold dh_lk at h
    cases hb : Nat.beq e.1 k && Nat.beq e.2.1 j with
    | true =>
      rw [hb] at h
      have h1 := (Bool.and_eq_true _ _ ▸ hb)
      rw [← am_beq h1.1, ← am_beq h1.2, ← Option.some.inj h]
      exact List.mem_cons_self
    | false =>
      rw [hb] at h
      exact List.mem_cons_of_mem _ (dh_lk_mem h)
theorem dh_cOk_ok {c : Nat} (c0 : cq_n (dh_h L xs D) 40 13 = 0) (q : dh_cOk D c = true) : (dh_h L xs D).2.2.1 c = cq_fix c ∧ ∀ j, j < (cq_fix c).2.2 → cq_ht (dh_h L xs D) j (cq_ty c j) ((dh_h L xs D).2.2.2 c j) := by
  unfold dh_cOk at q
  split at q
  · cases q
  · rename_i sh hs
    have b1 := (Bool.and_eq_true _ _ ▸ q)
    have b2 := (Bool.and_eq_true _ _ ▸ b1.1)
    have b3 := (Bool.and_eq_true _ _ ▸ b2.1)
    have es : sh = cq_fix c := Prod.ext (am_beq b3.1) (Prod.ext (am_beq b3.2) (am_beq b2.2))
    have e1 : (dh_h L xs D).2.2.1 c = sh := by
      show (match dh_ls c D.2.2.1 with
        | some s => s
        | none => am_sh0 L c) = _
      rw [hs]
    rw [e1]
    refine ⟨es, fun j hj => ?_⟩
    rw [dh_val_ok hs]
    rw [← es] at hj
    have q2 := b1.2
    rw [cond_eq_ite] at q2
    split at q2
    · rename_i t1
      have d1 := (Bool.and_eq_true _ _ ▸ q2)
      have d2 := (Bool.and_eq_true _ _ ▸ d1.1)
      cases hl : dh_lk c j D.2.2.2 with
      | some v =>
        have z := List.all_eq_true.1 d1.2 _ (dh_lk_mem hl)
        dsimp only at z
        rw [Nat.beq_refl] at z
        have ev : dh_val D c j = v := by unfold dh_val; rw [hl]
        rw [ev]
        exact dh_ht_ok c0 (Nat.le_refl _) z
      | none =>
        have ev : dh_val D c j = am_dv sh.2.1 := by
          unfold dh_val
          rw [hl, hs]
          show dh_df sh j = _
          unfold dh_df
          rw [am_beq t1]
          rfl
        rw [ev]
        cases hz : (Nat.beq c 81 || Nat.beq c 83) && Nat.beq j 1 with
        | false =>
          have ety : cq_ty c j = cq_ar c := by
            unfold cq_ty cq_isA
            rw [← es, t1]
            simp only [cond_true]
            rw [hz]
            rfl
          rw [ety]
          exact dh_ht_ok c0 (by omega) d2.1
        | true =>
          have hz := (Bool.and_eq_true _ _ ▸ hz)
          have j1 := am_beq hz.2
          subst j1
          rcases (Bool.or_eq_true _ _ ▸ d2.2) with z | z
          · rw [hl] at z
            cases z
          · exact dh_ht_ok c0 (Nat.le_refl _) z
    · exact dh_ht_ok c0 (Nat.le_refl _) (List.all_eq_true.1 q2 j (List.mem_range.2 hj))
def dh_inv (D : dh_D) : Bool := Nat.beq D.1 130 && (List.range 130).all (fun c => Nat.blt c 40 || dh_cOk D c) && D.2.2.1.all (fun e => Nat.ble 40 e.1) && D.2.2.2.all (fun e => Nat.ble 40 e.1 && !Nat.beq e.1 92 && !Nat.beq e.1 93) && dh_z D 40 13
theorem dh_sv_ok : ∀ c, c < 7 → 1 ≤ c → ∀ j, j < 7 → am_sv c j = Int32.ofInt (cq_sv c j) := by decide +kernel
theorem dh_ls_none {k : Nat} : ∀ {l : List (Nat × am_Sh)}, (∀ e ∈ l, e.1 ≠ k) → dh_ls k l = none
  | [], _ => rfl
  | e :: r, h => by
    unfold dh_ls
    rw [dh_bne (h e List.mem_cons_self)]
    exact dh_ls_none fun x hx => h x (List.mem_cons_of_mem _ hx)
theorem dh_inv_ok (hL : L ≤ 100000) (q : dh_inv D = true) : cq_Inv none (dh_h L xs D) := by
  have b1 := (Bool.and_eq_true _ _ ▸ q)
  have b2 := (Bool.and_eq_true _ _ ▸ b1.1)
  have b3 := (Bool.and_eq_true _ _ ▸ b2.1)
  have b4 := (Bool.and_eq_true _ _ ▸ b3.1)
  have c0 := dh_z_ok (L := L) (xs := xs) b1.2
  have e1 : (dh_h L xs D).1 = 130 := am_beq b4.1
  have C : ∀ c, 40 ≤ c → c < 130 → _ := fun c h1 h2 => dh_cOk_ok (L := L) (xs := xs) c0 (by
    rcases Bool.or_eq_true _ _ ▸ List.all_eq_true.1 b4.2 c (List.mem_range.2 h2) with z | z
    · have : c < 40 := Nat.le_of_ble_eq_true z
      omega
    · exact z)
  have lo1 : ∀ c, c < 40 → dh_ls c D.2.2.1 = none := fun c hc => dh_ls_none fun e he => by
    have := Nat.le_of_ble_eq_true (List.all_eq_true.1 b3.2 e he)
    omega
  have lo2 : ∀ c j, c < 40 → dh_lk c j D.2.2.2 = none := fun c j hc => dh_lk_none fun e he => by
    have z := (Bool.and_eq_true _ _ ▸ List.all_eq_true.1 b2.2 e he)
    have z := (Bool.and_eq_true _ _ ▸ z.1)
    have := Nat.le_of_ble_eq_true z.1
    omega
  have sh0 : ∀ c, c < 40 → (dh_h L xs D).2.2.1 c = am_sh0 L c := fun c hc => by
    show (match dh_ls c D.2.2.1 with
      | some s => s
      | none => am_sh0 L c) = _
    rw [lo1 c hc]
  have v0 : ∀ c j, c < 40 → (dh_h L xs D).2.2.2 c j = am_V0 xs c j := fun c j hc => by
    show (match dh_lk c j D.2.2.2 with
      | some v => v
      | none => (match dh_ls c D.2.2.1 with
        | some s => dh_df s j
        | none => am_V0 xs c j)) = _
    rw [lo2 c j hc, lo1 c hc]
  have zr : ∀ c j, (c = 92 ∨ c = 93) → cq_n (dh_h L xs D) c j = 0 := fun c j hc => by
    have hn : dh_lk c j D.2.2.2 = none := dh_lk_none fun e he => by
      have z1 := (Bool.and_eq_true _ _ ▸ List.all_eq_true.1 b2.2 e he)
      have z2 := (Bool.and_eq_true _ _ ▸ z1.1)
      rcases hc with z | z
      · subst z
        intro w
        have := z2.2
        rw [w] at this
        cases this
      · subst z
        intro w
        have := z1.2
        rw [w] at this
        cases this
    have h1 : 40 ≤ c ∧ c < 130 := by omega
    have es := (C c h1.1 h1.2).1
    have hs : ∃ sh, dh_ls c D.2.2.1 = some sh := by
      cases hl : dh_ls c D.2.2.1 with
      | some sh => exact ⟨sh, rfl⟩
      | none =>
        exfalso
        rcases Bool.or_eq_true _ _ ▸ List.all_eq_true.1 b4.2 c (List.mem_range.2 h1.2) with z | z
        · have : c < 40 := Nat.le_of_ble_eq_true z
          omega
        · unfold dh_cOk at z
          rw [hl] at z
          cases z
    obtain ⟨sh, hs⟩ := hs
    have e2 : (dh_h L xs D).2.2.1 c = sh := by
      show (match dh_ls c D.2.2.1 with
        | some s => s
        | none => am_sh0 L c) = _
      rw [hs]
    rw [e2] at es
    unfold cq_n
    rw [dh_val_ok hs]
    unfold dh_val
    rw [hn, hs, es]
    rcases hc with z | z
    · subst z; rfl
    · subst z; rfl
  refine ⟨Nat.le_of_eq e1.symm, fun c h1 h2 => (C c h1 h2).1, fun c h1 h2 => ⟨?_, fun j hj => ?_⟩, ?_, fun c h1 h2 => ?_, fun c h1 h2 _ j hj => ?_, fun t ht => ⟨fun z => ?_, fun z => ?_⟩⟩
  · rw [sh0 c (by omega)]
    unfold am_sh0
    rw [dh_bne (by omega : c ≠ 0), show Nat.blt c 7 = true from Nat.ble_eq_true_of_le h2]
    rfl
  · rw [v0 c j (by omega)]
    unfold am_V0
    rw [dh_bne (by omega : c ≠ 0)]
    show Value.int (am_sv c j) = _
    rw [dh_sv_ok c h2 h1 j hj]
  · rw [sh0 0 (by decide)]
    exact ⟨rfl, rfl, hL, fun j _ => ⟨xs j, v0 0 j (by decide)⟩⟩
  · rw [e1] at h2
    omega
  · rw [e1] at h2
    obtain ⟨k1, k2⟩ := C c h1 h2
    rw [k1] at hj
    unfold cq_tyOf
    rw [show Nat.blt c 130 = true from Nat.ble_eq_true_of_le h2]
    exact k2 j hj
  · rw [zr 93 t (Or.inr rfl)] at z
    omega
  · rw [zr 92 (t / 3) (Or.inl rfl)] at z
    omega
end CMD
theorem dh_i2 : dh_inv (dh_get dh_r2) = true := by decide +kernel
theorem dh_t2 : (dh_z (dh_get dh_r2) 41 1 && dh_z (dh_get dh_r2) 78 2) = true := by decide +kernel
end
section
/-! CONTRACTS: 16u 164u 17u 166u 38u 185u 91u 90u 217u 99u 224u -/
def ct_16u : cq_Ct := (0, [(5, (0, []), 40), (1, (0, [(0, 1)]), 0)], cq_mk 2 ([(0, (-2147483648), 2147483647), (1, 0, 1600)], []) [] [] [] [((false, 41), (1, []), (1, (0, [(1, 1)]), 0))] [] [] none 0 0, [(false, 41, 2, 0)], [(false, [(1, ((-1), []), 0)], cq_mk 2 ([], [((-1), [(0, 1)]), ((-1), [(0, 1), (1, (-1))])]) [] [] [] [((false, 41), (1, []), (1, (0, [(1, 1)]), 0))] [] [] none 0 0), (false, [(1, (0, [(0, 1)]), 0)], cq_mk 2 ([], [(0, [(0, 1)]), (1600, [(0, (-1))]), (0, [(0, (-1)), (1, 1)])]) [] [] [] [((false, 41), (1, []), (1, (0, [(0, 1)]), 0))] [] [] none 0 0), (false, [(1, ((-1), []), 0)], cq_mk 2 ([], [((-1), [(0, (-1))])]) [] [] [] [((false, 41), (1, []), (1, (0, [(1, 1)]), 0))] [] [] none 0 0)])
theorem wf_16u : cq_wfC ct_16u = true := by decide +kernel
def lp_16u (pc : Nat) : Option (Option (Nat × Nat) × cq_Lp) := none
theorem ok_16u : cq_CT 16 ct_16u := cq_meth (f := 100000) (cts := cq_t0) (lps := lp_16u) cq_t0_ok wf_16u (by decide +kernel) (by decide +kernel)
def ct_164u : cq_Ct := (1, [(5, (0, []), 78), (1, (0, [(0, 1)]), 0)], cq_mk 2 ([(0, (-2147483648), 2147483647), (1, 0, 1600)], []) [] [] [] [((false, 78), (2, []), (1, (0, [(1, 1)]), 0))] [] [] none 0 0, [(false, 78, 3, 0)], [(false, [(1, (0, [(0, 1)]), 0)], cq_mk 2 ([], [(0, [(0, 1)]), (1600, [(0, (-1))]), (0, [(0, (-1)), (1, 1)])]) [] [] [] [((false, 78), (2, []), (1, (0, [(0, 1)]), 0))] [] [] none 0 0), (false, [(1, ((-1), []), 0)], cq_mk 2 ([], [((-1), [(0, 1)]), ((-1), [(0, 1), (1, (-1))])]) [] [] [] [((false, 78), (2, []), (1, (0, [(1, 1)]), 0))] [] [] none 0 0), (false, [(1, ((-1), []), 0)], cq_mk 2 ([], [((-1), [(0, (-1))])]) [] [] [] [((false, 78), (2, []), (1, (0, [(1, 1)]), 0))] [] [] none 0 0)])
theorem wf_164u : cq_wfC ct_164u = true := by decide +kernel
def lp_164u (pc : Nat) : Option (Option (Nat × Nat) × cq_Lp) := none
theorem ok_164u : cq_CT 164 ct_164u := cq_meth (f := 100000) (cts := cq_t0) (lps := lp_164u) cq_t0_ok wf_164u (by decide +kernel) (by decide +kernel)
def ct_17u : cq_Ct := (0, [(5, (0, []), 40), (1, (0, [(0, 1)]), 0)], cq_mk 2 ([(0, (-2147483648), 2147483647), (1, 0, 29999)], []) [] [] [] [((false, 40), (9, []), (1, (0, [(1, 1)]), 0))] [] [] none 0 0, [(false, 40, 10, 0)], [(false, [(1, ((-2), []), 0)], cq_mk 2 ([], [((-1), [(0, 1)]), (9999, [(0, (-1))]), ((-20001), [(1, 1)]), ((-30000), [(0, 1), (1, 1)])]) [] [] [] [((false, 40), (9, []), (1, (0, [(1, 1)]), 0))] [] [] none 0 0), (false, [(1, (0, [(0, 1), (1, 1)]), 0)], cq_mk 2 ([], [((-1), [(0, 1)]), (9999, [(0, (-1))]), (29998, [(1, (-1))]), (29999, [(0, (-1)), (1, (-1))])]) [] [] [] [((false, 40), (9, []), (1, (0, [(0, 1), (1, 1)]), 0))] [] [] none 0 0), (false, [(1, ((-2), []), 0)], cq_mk 2 ([], [((-10000), [(0, 1)])]) [] [] [] [((false, 40), (9, []), (1, (0, [(1, 1)]), 0))] [] [] none 0 0), (false, [(1, ((-2), []), 0)], cq_mk 2 ([], [(0, [(0, (-1))])]) [] [] [] [((false, 40), (9, []), (1, (0, [(1, 1)]), 0))] [] [] none 0 0)])
theorem wf_17u : cq_wfC ct_17u = true := by decide +kernel
def lp_17u (pc : Nat) : Option (Option (Nat × Nat) × cq_Lp) := none
theorem ok_17u : cq_CT 17 ct_17u := cq_meth (f := 100000) (cts := cq_t0) (lps := lp_17u) cq_t0_ok wf_17u (by decide +kernel) (by decide +kernel)
def ct_166u : cq_Ct := (1, [(5, (0, []), 78), (1, (0, [(0, 1)]), 0)], cq_mk 2 ([(0, (-2147483648), 2147483647), (1, 0, 29999)], []) [] [] [] [((false, 78), (15, []), (1, (0, [(1, 1)]), 0))] [] [] none 0 0, [(false, 78, 16, 0)], [(false, [(1, ((-2), []), 0)], cq_mk 2 ([], [((-1), [(0, 1)]), (9999, [(0, (-1))]), ((-20001), [(1, 1)]), ((-30000), [(0, 1), (1, 1)])]) [] [] [] [((false, 78), (15, []), (1, (0, [(1, 1)]), 0))] [] [] none 0 0), (false, [(1, (0, [(0, 1), (1, 1)]), 0)], cq_mk 2 ([], [((-1), [(0, 1)]), (9999, [(0, (-1))]), (29998, [(1, (-1))]), (29999, [(0, (-1)), (1, (-1))])]) [] [] [] [((false, 78), (15, []), (1, (0, [(0, 1), (1, 1)]), 0))] [] [] none 0 0), (false, [(1, ((-2), []), 0)], cq_mk 2 ([], [((-10000), [(0, 1)])]) [] [] [] [((false, 78), (15, []), (1, (0, [(1, 1)]), 0))] [] [] none 0 0), (false, [(1, ((-2), []), 0)], cq_mk 2 ([], [(0, [(0, (-1))])]) [] [] [] [((false, 78), (15, []), (1, (0, [(1, 1)]), 0))] [] [] none 0 0)])
theorem wf_166u : cq_wfC ct_166u = true := by decide +kernel
def lp_166u (pc : Nat) : Option (Option (Nat × Nat) × cq_Lp) := none
theorem ok_166u : cq_CT 166 ct_166u := cq_meth (f := 100000) (cts := cq_t0) (lps := lp_166u) cq_t0_ok wf_166u (by decide +kernel) (by decide +kernel)
def ct_38u : cq_Ct := (2, [(5, (0, []), 40), (1, (0, [(0, 1)]), 0), (1, (0, [(1, 1)]), 0), (1, (0, [(2, 1)]), 0), (1, (0, [(3, 1)]), 0)], cq_mk 5 ([(0, (-2147483648), 2147483647), (1, (-2147483648), 2147483647), (2, (-2147483648), 2147483647), (3, (-2147483648), 2147483647), (4, 0, 40)], []) [] [] [] [((false, 40), (8, []), (1, (0, [(4, 1)]), 0))] [] [] none 0 0, [(false, 40, 9, 0), (false, 73, 0, 0), (true, 0, 6, 1), (true, 0, 6, 2), (true, 0, 6, 3), (true, 0, 6, 4), (true, 1, 0, 0)], [(false, [(1, ((-3), []), 0)], cq_mk 5 ([], [(0, [(0, 1)]), (19, [(0, (-1))]), (0, [(1, 1)]), (2100, [(1, (-1))]), (0, [(2, 1)]), (19, [(2, (-1))]), (0, [(3, 1)]), (99, [(3, (-1))]), ((-40), [(4, 1)])]) [] [] [] [((false, 40), (8, []), (1, (0, [(4, 1)]), 0))] [] [] none 3 15), (false, [(1, (0, [(4, 1)]), 0)], cq_mk 5 ([], [(0, [(0, 1)]), (19, [(0, (-1))]), (0, [(1, 1)]), (2100, [(1, (-1))]), (0, [(2, 1)]), (19, [(2, (-1))]), (0, [(3, 1)]), (99, [(3, (-1))]), (39, [(4, (-1))])]) [] [] [] [((false, 40), (8, []), (1, (1, [(4, 1)]), 0))] [] [] none 3 15), (false, [(1, ((-2), []), 0)], cq_mk 5 ([], [(0, [(0, 1)]), (19, [(0, (-1))]), (0, [(1, 1)]), (2100, [(1, (-1))]), (0, [(2, 1)]), (19, [(2, (-1))]), ((-100), [(3, 1)])]) [] [] [] [((false, 40), (8, []), (1, (0, [(4, 1)]), 0))] [] [] none 3 15), (false, [(1, ((-2), []), 0)], cq_mk 5 ([], [(0, [(0, 1)]), (19, [(0, (-1))]), (0, [(1, 1)]), (2100, [(1, (-1))]), (0, [(2, 1)]), (19, [(2, (-1))]), ((-1), [(3, (-1))])]) [] [] [] [((false, 40), (8, []), (1, (0, [(4, 1)]), 0))] [] [] none 3 15), (false, [(1, ((-2), []), 0)], cq_mk 5 ([], [(0, [(0, 1)]), (19, [(0, (-1))]), (0, [(1, 1)]), (2100, [(1, (-1))]), ((-20), [(2, 1)])]) [] [] [] [((false, 40), (8, []), (1, (0, [(4, 1)]), 0))] [] [] none 3 15), (false, [(1, ((-2), []), 0)], cq_mk 5 ([], [(0, [(0, 1)]), (19, [(0, (-1))]), (0, [(1, 1)]), (2100, [(1, (-1))]), ((-1), [(2, (-1))])]) [] [] [] [((false, 40), (8, []), (1, (0, [(4, 1)]), 0))] [] [] none 3 15), (false, [(1, ((-2), []), 0)], cq_mk 5 ([], [(0, [(0, 1)]), (19, [(0, (-1))]), ((-2101), [(1, 1)])]) [] [] [] [((false, 40), (8, []), (1, (0, [(4, 1)]), 0))] [] [] none 3 15), (false, [(1, ((-2), []), 0)], cq_mk 5 ([], [(0, [(0, 1)]), (19, [(0, (-1))]), ((-1), [(1, (-1))])]) [] [] [] [((false, 40), (8, []), (1, (0, [(4, 1)]), 0))] [] [] none 3 15), (false, [(1, ((-2), []), 0)], cq_mk 5 ([], [((-20), [(0, 1)])]) [] [] [] [((false, 40), (8, []), (1, (0, [(4, 1)]), 0))] [] [] none 3 15), (false, [(1, ((-2), []), 0)], cq_mk 5 ([], [((-1), [(0, (-1))])]) [] [] [] [((false, 40), (8, []), (1, (0, [(4, 1)]), 0))] [] [] none 3 15)])
theorem wf_38u : cq_wfC ct_38u = true := by decide +kernel
def lp_38u (pc : Nat) : Option (Option (Nat × Nat) × cq_Lp) := none
theorem ok_38u : cq_CT 38 ct_38u := cq_meth (f := 100000) (cts := cq_t0) (lps := lp_38u) cq_t0_ok wf_38u (by decide +kernel) (by decide +kernel)
def ct_185u : cq_Ct := (2, [(5, (0, []), 78), (1, (0, [(0, 1)]), 0), (1, (0, [(1, 1)]), 0), (1, (0, [(2, 1)]), 0), (1, (0, [(3, 1)]), 0)], cq_mk 5 ([(0, (-2147483648), 2147483647), (1, (-2147483648), 2147483647), (2, (-2147483648), 2147483647), (3, (-2147483648), 2147483647), (4, 0, 40)], []) [] [] [] [((false, 78), (16, []), (1, (0, [(4, 1)]), 0))] [] [] none 0 0, [(false, 78, 17, 0), (false, 86, 0, 0), (false, 87, 0, 0), (false, 88, 0, 0), (false, 89, 0, 0), (false, 90, 0, 0)], [(false, [(1, ((-3), []), 0)], cq_mk 5 ([], [(0, [(0, 1)]), (19, [(0, (-1))]), (0, [(1, 1)]), (2100, [(1, (-1))]), (0, [(2, 1)]), (19, [(2, (-1))]), (0, [(3, 1)]), (99, [(3, (-1))]), ((-40), [(4, 1)])]) [] [] [] [((false, 78), (16, []), (1, (0, [(4, 1)]), 0))] [] [] none 0 0), (false, [(1, (0, [(4, 1)]), 0)], cq_mk 5 ([], [(0, [(0, 1)]), (19, [(0, (-1))]), (0, [(1, 1)]), (2100, [(1, (-1))]), (0, [(2, 1)]), (19, [(2, (-1))]), (0, [(3, 1)]), (99, [(3, (-1))]), (39, [(4, (-1))])]) [] [] [] [((false, 78), (16, []), (1, (1, [(4, 1)]), 0))] [] [] none 0 0), (false, [(1, ((-2), []), 0)], cq_mk 5 ([], [(0, [(0, 1)]), (19, [(0, (-1))]), (0, [(1, 1)]), (2100, [(1, (-1))]), (0, [(2, 1)]), (19, [(2, (-1))]), ((-100), [(3, 1)])]) [] [] [] [((false, 78), (16, []), (1, (0, [(4, 1)]), 0))] [] [] none 0 0), (false, [(1, ((-2), []), 0)], cq_mk 5 ([], [(0, [(0, 1)]), (19, [(0, (-1))]), (0, [(1, 1)]), (2100, [(1, (-1))]), (0, [(2, 1)]), (19, [(2, (-1))]), ((-1), [(3, (-1))])]) [] [] [] [((false, 78), (16, []), (1, (0, [(4, 1)]), 0))] [] [] none 0 0), (false, [(1, ((-2), []), 0)], cq_mk 5 ([], [(0, [(0, 1)]), (19, [(0, (-1))]), (0, [(1, 1)]), (2100, [(1, (-1))]), ((-20), [(2, 1)])]) [] [] [] [((false, 78), (16, []), (1, (0, [(4, 1)]), 0))] [] [] none 0 0), (false, [(1, ((-2), []), 0)], cq_mk 5 ([], [(0, [(0, 1)]), (19, [(0, (-1))]), (0, [(1, 1)]), (2100, [(1, (-1))]), ((-1), [(2, (-1))])]) [] [] [] [((false, 78), (16, []), (1, (0, [(4, 1)]), 0))] [] [] none 0 0), (false, [(1, ((-2), []), 0)], cq_mk 5 ([], [(0, [(0, 1)]), (19, [(0, (-1))]), ((-2101), [(1, 1)])]) [] [] [] [((false, 78), (16, []), (1, (0, [(4, 1)]), 0))] [] [] none 0 0), (false, [(1, ((-2), []), 0)], cq_mk 5 ([], [(0, [(0, 1)]), (19, [(0, (-1))]), ((-1), [(1, (-1))])]) [] [] [] [((false, 78), (16, []), (1, (0, [(4, 1)]), 0))] [] [] none 0 0), (false, [(1, ((-2), []), 0)], cq_mk 5 ([], [((-20), [(0, 1)])]) [] [] [] [((false, 78), (16, []), (1, (0, [(4, 1)]), 0))] [] [] none 0 0), (false, [(1, ((-2), []), 0)], cq_mk 5 ([], [((-1), [(0, (-1))])]) [] [] [] [((false, 78), (16, []), (1, (0, [(4, 1)]), 0))] [] [] none 0 0)])
theorem wf_185u : cq_wfC ct_185u = true := by decide +kernel
def lp_185u (pc : Nat) : Option (Option (Nat × Nat) × cq_Lp) := none
theorem ok_185u : cq_CT 185 ct_185u := cq_meth (f := 100000) (cts := cq_t0) (lps := lp_185u) cq_t0_ok wf_185u (by decide +kernel) (by decide +kernel)
def ct_91u : cq_Ct := (0, [(5, (0, []), 48), (1, (0, [(0, 1)]), 0), (1, (0, [(1, 1)]), 0), (1, (0, [(2, 1)]), 0)], cq_mk 4 ([(0, (-2147483648), 2147483647), (1, (-2147483648), 2147483647), (2, (-2147483648), 2147483647), (3, 0, 60)], []) [] [] [] [((false, 48), (5, []), (1, (0, [(3, 1)]), 0))] [] [] none 0 0, [(false, 48, 6, 0), (false, 50, 0, 0), (false, 51, 0, 0), (false, 52, 0, 0)], [(false, [(1, ((-3), []), 0)], cq_mk 4 ([], [((-60), [(3, 1)])]) [] [] [] [((false, 48), (5, []), (1, (0, [(3, 1)]), 0))] [] [] none 0 0), (false, [(1, (1, [(3, 1)]), 0)], cq_mk 4 ([], [(59, [(3, (-1))])]) [] [] [] [((false, 48), (5, []), (1, (1, [(3, 1)]), 0))] [] [] none 0 0)])
theorem wf_91u : cq_wfC ct_91u = true := by decide +kernel
def lp_91u (pc : Nat) : Option (Option (Nat × Nat) × cq_Lp) := none
theorem ok_91u : cq_CT 91 ct_91u := cq_meth (f := 100000) (cts := cq_t0) (lps := lp_91u) cq_t0_ok wf_91u (by decide +kernel) (by decide +kernel)
def ct_90u : cq_Ct := (1, [(5, (0, []), 40), (1, (0, [(0, 1)]), 0), (1, (0, [(1, 1)]), 0)], cq_mk 3 ([(0, (-2147483648), 2147483647), (1, (-2147483648), 2147483647), (2, 0, 60)], []) [] [] [] [((false, 48), (5, []), (1, (0, [(2, 1)]), 0))] [] [] none 0 0, [(false, 48, 6, 0), (false, 50, 0, 0), (false, 51, 0, 0), (false, 52, 0, 0)], [(false, [(1, (1, [(2, 1)]), 0)], cq_mk 3 ([], [(0, [(0, 1)]), (19, [(0, (-1))]), (0, [(1, 1)]), (29999, [(1, (-1))]), (59, [(2, (-1))])]) [] [] [] [((false, 48), (5, []), (1, (1, [(2, 1)]), 0))] [] [] none 0 0), (false, [(1, ((-3), []), 0)], cq_mk 3 ([], [(0, [(0, 1)]), (19, [(0, (-1))]), (0, [(1, 1)]), (29999, [(1, (-1))]), ((-60), [(2, 1)])]) [] [] [] [((false, 48), (5, []), (1, (0, [(2, 1)]), 0))] [] [] none 0 0), (false, [(1, ((-2), []), 0)], cq_mk 3 ([], [(0, [(0, 1)]), (19, [(0, (-1))]), ((-30000), [(1, 1)])]) [] [] [] [((false, 48), (5, []), (1, (0, [(2, 1)]), 0))] [] [] none 0 0), (false, [(1, ((-2), []), 0)], cq_mk 3 ([], [(0, [(0, 1)]), (19, [(0, (-1))]), ((-1), [(1, (-1))])]) [] [] [] [((false, 48), (5, []), (1, (0, [(2, 1)]), 0))] [] [] none 0 0), (false, [(1, ((-2), []), 0)], cq_mk 3 ([], [((-20), [(0, 1)])]) [] [] [] [((false, 48), (5, []), (1, (0, [(2, 1)]), 0))] [] [] none 0 0), (false, [(1, ((-2), []), 0)], cq_mk 3 ([], [((-1), [(0, (-1))])]) [] [] [] [((false, 48), (5, []), (1, (0, [(2, 1)]), 0))] [] [] none 0 0)])
theorem wf_90u : cq_wfC ct_90u = true := by decide +kernel
def lp_90u (pc : Nat) : Option (Option (Nat × Nat) × cq_Lp) := none
theorem ok_90u : cq_CT 90 ct_90u := cq_meth (f := 100000) (cts := (cq_tc 91 ct_91u cq_t0)) (lps := lp_90u) (cq_tc_ok wf_91u ok_91u cq_t0_ok) wf_90u (by decide +kernel) (by decide +kernel)
def ct_217u : cq_Ct := (2, [(5, (0, []), 78), (1, (0, [(0, 1)]), 0), (1, (0, [(1, 1)]), 0)], cq_mk 3 ([(0, (-2147483648), 2147483647), (1, (-2147483648), 2147483647), (2, 0, 60)], []) [] [] [] [((false, 78), (36, []), (1, (0, [(2, 1)]), 0))] [] [] none 0 0, [(false, 114, 0, 0), (false, 115, 0, 0), (false, 116, 0, 0), (false, 78, 37, 0)], [(false, [(1, ((-3), []), 0)], cq_mk 3 ([], [(0, [(0, 1)]), (19, [(0, (-1))]), (0, [(1, 1)]), (29999, [(1, (-1))]), ((-60), [(2, 1)])]) [] [] [] [((false, 78), (36, []), (1, (0, [(2, 1)]), 0))] [] [] none 0 0), (false, [(1, (1, [(2, 1)]), 0)], cq_mk 3 ([], [(0, [(0, 1)]), (19, [(0, (-1))]), (0, [(1, 1)]), (29999, [(1, (-1))]), (59, [(2, (-1))])]) [] [] [] [((false, 78), (36, []), (1, (1, [(2, 1)]), 0))] [] [] none 0 0), (false, [(1, ((-2), []), 0)], cq_mk 3 ([], [(0, [(0, 1)]), (19, [(0, (-1))]), ((-30000), [(1, 1)])]) [] [] [] [((false, 78), (36, []), (1, (0, [(2, 1)]), 0))] [] [] none 0 0), (false, [(1, ((-2), []), 0)], cq_mk 3 ([], [(0, [(0, 1)]), (19, [(0, (-1))]), ((-1), [(1, (-1))])]) [] [] [] [((false, 78), (36, []), (1, (0, [(2, 1)]), 0))] [] [] none 0 0), (false, [(1, ((-2), []), 0)], cq_mk 3 ([], [((-20), [(0, 1)])]) [] [] [] [((false, 78), (36, []), (1, (0, [(2, 1)]), 0))] [] [] none 0 0), (false, [(1, ((-2), []), 0)], cq_mk 3 ([], [((-1), [(0, (-1))])]) [] [] [] [((false, 78), (36, []), (1, (0, [(2, 1)]), 0))] [] [] none 0 0)])
theorem wf_217u : cq_wfC ct_217u = true := by decide +kernel
def lp_217u (pc : Nat) : Option (Option (Nat × Nat) × cq_Lp) := none
theorem ok_217u : cq_CT 217 ct_217u := cq_meth (f := 100000) (cts := cq_t0) (lps := lp_217u) cq_t0_ok wf_217u (by decide +kernel) (by decide +kernel)
def ct_99u : cq_Ct := (1, [(5, (0, []), 40), (1, (0, [(0, 1)]), 0), (1, (0, [(1, 1)]), 0)], cq_mk 2 ([(0, (-2147483648), 2147483647), (1, (-2147483648), 2147483647)], []) [] [] [] [] [] [] none 0 0, [(false, 40, 11, 0), (false, 40, 12, 0)], [(false, [(1, (1, []), 0)], cq_mk 2 ([], [((-1), [(0, 1)]), (63, [(0, (-1))]), (0, [(1, 1)]), (29999, [(1, (-1))])]) [] [] [] [] [] [] none 0 0), (false, [(1, ((-2), []), 0)], cq_mk 2 ([], [((-1), [(0, 1)]), (63, [(0, (-1))]), ((-30000), [(1, 1)])]) [] [] [] [] [] [] none 0 0), (false, [(1, ((-2), []), 0)], cq_mk 2 ([], [((-1), [(0, 1)]), (63, [(0, (-1))]), ((-1), [(1, (-1))])]) [] [] [] [] [] [] none 0 0), (false, [(1, ((-2), []), 0)], cq_mk 2 ([], [((-64), [(0, 1)])]) [] [] [] [] [] [] none 0 0), (false, [(1, ((-2), []), 0)], cq_mk 2 ([], [(0, [(0, (-1))])]) [] [] [] [] [] [] none 0 0)])
theorem wf_99u : cq_wfC ct_99u = true := by decide +kernel
def lp_99u (pc : Nat) : Option (Option (Nat × Nat) × cq_Lp) := none
theorem ok_99u : cq_CT 99 ct_99u := cq_meth (f := 100000) (cts := cq_t0) (lps := lp_99u) cq_t0_ok wf_99u (by decide +kernel) (by decide +kernel)
def ct_224u : cq_Ct := (2, [(5, (0, []), 78), (1, (0, [(0, 1)]), 0), (1, (0, [(1, 1)]), 0)], cq_mk 2 ([(0, (-2147483648), 2147483647), (1, (-2147483648), 2147483647)], []) [] [] [] [] [] [] none 0 0, [(false, 78, 52, 0), (false, 78, 53, 0)], [(false, [(1, (1, []), 0)], cq_mk 2 ([], [((-1), [(0, 1)]), (63, [(0, (-1))]), (0, [(1, 1)]), (29999, [(1, (-1))])]) [] [] [] [] [] [] none 0 0), (false, [(1, ((-2), []), 0)], cq_mk 2 ([], [((-1), [(0, 1)]), (63, [(0, (-1))]), ((-30000), [(1, 1)])]) [] [] [] [] [] [] none 0 0), (false, [(1, ((-2), []), 0)], cq_mk 2 ([], [((-1), [(0, 1)]), (63, [(0, (-1))]), ((-1), [(1, (-1))])]) [] [] [] [] [] [] none 0 0), (false, [(1, ((-2), []), 0)], cq_mk 2 ([], [((-64), [(0, 1)])]) [] [] [] [] [] [] none 0 0), (false, [(1, ((-2), []), 0)], cq_mk 2 ([], [(0, [(0, (-1))])]) [] [] [] [] [] [] none 0 0)])
theorem wf_224u : cq_wfC ct_224u = true := by decide +kernel
def lp_224u (pc : Nat) : Option (Option (Nat × Nat) × cq_Lp) := none
theorem ok_224u : cq_CT 224 ct_224u := cq_meth (f := 100000) (cts := cq_t0) (lps := lp_224u) cq_t0_ok wf_224u (by decide +kernel) (by decide +kernel)
end
section
/-! RUNS STEP BY STEP: a rule for each kind of step that asks something -/
section AXR
variable {d y pc p' : Nat} {ls r : List Value} {h : am_H} {x : Option Value × am_H} {k l a b w : Nat} {t : Int}
theorem ax_gf {i : Nat} {v : Value} (hc : am_at y pc (.getfield k, l, t, a, b, w)) (hp : pc + 3 = p') (O : am_isO h i a = true) (hv : h.2.2.2 i b = v) (q : am_ev d y p' ls (v :: r) h x) : am_ev d y pc ls (.ref i :: r) h x := by
  subst hp
  exact am_ev.step hc (by dsimp only [am_st]; rw [O, hv]; rfl) q
theorem ax_pf {i : Nat} {v : Value} (hc : am_at y pc (.putfield k, l, t, a, b, w)) (hp : pc + 3 = p') (O : am_isO h i a = true) (F : am_fok (am_ty a b) v = true) (q : am_ev d y p' ls r (am_put h i b v) x) : am_ev d y pc ls (v :: .ref i :: r) h x := by
  subst hp
  exact am_ev.step hc (by dsimp only [am_st]; rw [O, F]; rfl) q
theorem ax_iaload {i : Nat} {j : Int32} {v : Value} (hc : am_at y pc (.iaload, l, t, a, b, w)) (hp : pc + 1 = p') (R : am_rd h i j (fun c => Nat.beq c 0) = some v) (q : am_ev d y p' ls (v :: r) h x) : am_ev d y pc ls (.int j :: .ref i :: r) h x := by
  subst hp
  exact am_ev.step hc (by dsimp only [am_st]; rw [R]) q
theorem ax_baload {i : Nat} {j : Int32} {v : Value} (hc : am_at y pc (.baload, l, t, a, b, w)) (hp : pc + 1 = p') (R : am_rd h i j (fun c => Nat.beq c 1 || Nat.beq c 2) = some v) (q : am_ev d y p' ls (v :: r) h x) : am_ev d y pc ls (.int j :: .ref i :: r) h x := by
  subst hp
  exact am_ev.step hc (by dsimp only [am_st]; rw [R]) q
theorem ax_laload {i : Nat} {j : Int32} {v : Value} (hc : am_at y pc (.laload, l, t, a, b, w)) (hp : pc + 1 = p') (R : am_rd h i j (fun c => Nat.beq c 3) = some v) (q : am_ev d y p' ls (v :: r) h x) : am_ev d y pc ls (.int j :: .ref i :: r) h x := by
  subst hp
  exact am_ev.step hc (by dsimp only [am_st]; rw [R]) q
theorem ax_aaload {i : Nat} {j : Int32} {v : Value} (hc : am_at y pc (.aaload, l, t, a, b, w)) (hp : pc + 1 = p') (R : am_rd h i j (fun c => Nat.ble 4 c && am_isA c) = some v) (q : am_ev d y p' ls (v :: r) h x) : am_ev d y pc ls (.int j :: .ref i :: r) h x := by
  subst hp
  exact am_ev.step hc (by dsimp only [am_st]; rw [R]) q
theorem ax_iastore {i : Nat} {j u : Int32} {h' : am_H} (hc : am_at y pc (.iastore, l, t, a, b, w)) (hp : pc + 1 = p') (W : am_wr h i j 0 (.int u) = some h') (q : am_ev d y p' ls r h' x) : am_ev d y pc ls (.int u :: .int j :: .ref i :: r) h x := by
  subst hp
  exact am_ev.step hc (by dsimp only [am_st]; rw [W]) q
theorem ax_aastore {i u : Nat} {j : Int32} {h' : am_H} (hc : am_at y pc (.aastore, l, t, a, b, w)) (hp : pc + 1 = p') (W : am_isO h u (h.2.2.1 u).2.1 = true ∧ am_isA ((h.2.2.1 u).2.1 + 4) = true ∧ am_wr h i j ((h.2.2.1 u).2.1 + 4) (.ref u) = some h') (q : am_ev d y p' ls r h' x) : am_ev d y pc ls (.ref u :: .int j :: .ref i :: r) h x := by
  subst hp
  exact am_ev.step hc (by dsimp only [am_st]; rw [W.1, W.2.1, W.2.2]; rfl) q
theorem ax_len {i n : Nat} (hc : am_at y pc (.arraylength, l, t, a, b, w)) (hp : pc + 1 = p') (N : am_len h i = some n) (q : am_ev d y p' ls (.int (Int32.ofNat n) :: r) h x) : am_ev d y pc ls (.ref i :: r) h x := by
  subst hp
  exact am_ev.step hc (by dsimp only [am_st]; rw [N]) q
theorem ax_c_lt_T {u v : Int32} (hc : am_at y pc (.if_icmp .lt k, l, t, a, b, w)) (hp : t.toNat = p') (c : u < v) (q : am_ev d y p' ls r h x) : am_ev d y pc ls (.int v :: .int u :: r) h x := by
  subst hp
  exact am_ev.step hc (if_pos c) q
theorem ax_c_lt_N {u v : Int32} (hc : am_at y pc (.if_icmp .lt k, l, t, a, b, w)) (hp : pc + 3 = p') (c : ¬ u < v) (q : am_ev d y p' ls r h x) : am_ev d y pc ls (.int v :: .int u :: r) h x := by
  subst hp
  exact am_ev.step hc (if_neg c) q
theorem ax_z_lt_T {u : Int32} (hc : am_at y pc (.ifCond .lt k, l, t, a, b, w)) (hp : t.toNat = p') (c : u < 0) (q : am_ev d y p' ls r h x) : am_ev d y pc ls (.int u :: r) h x := by
  subst hp
  exact am_ev.step hc (if_pos c) q
theorem ax_z_lt_N {u : Int32} (hc : am_at y pc (.ifCond .lt k, l, t, a, b, w)) (hp : pc + 3 = p') (c : ¬ u < 0) (q : am_ev d y p' ls r h x) : am_ev d y pc ls (.int u :: r) h x := by
  subst hp
  exact am_ev.step hc (if_neg c) q
theorem ax_c_ge_T {u v : Int32} (hc : am_at y pc (.if_icmp .ge k, l, t, a, b, w)) (hp : t.toNat = p') (c : v ≤ u) (q : am_ev d y p' ls r h x) : am_ev d y pc ls (.int v :: .int u :: r) h x := by
  subst hp
  exact am_ev.step hc (if_pos c) q
theorem ax_c_ge_N {u v : Int32} (hc : am_at y pc (.if_icmp .ge k, l, t, a, b, w)) (hp : pc + 3 = p') (c : ¬ v ≤ u) (q : am_ev d y p' ls r h x) : am_ev d y pc ls (.int v :: .int u :: r) h x := by
  subst hp
  exact am_ev.step hc (if_neg c) q
theorem ax_z_ge_T {u : Int32} (hc : am_at y pc (.ifCond .ge k, l, t, a, b, w)) (hp : t.toNat = p') (c : 0 ≤ u) (q : am_ev d y p' ls r h x) : am_ev d y pc ls (.int u :: r) h x := by
  subst hp
  exact am_ev.step hc (if_pos c) q
theorem ax_z_ge_N {u : Int32} (hc : am_at y pc (.ifCond .ge k, l, t, a, b, w)) (hp : pc + 3 = p') (c : ¬ 0 ≤ u) (q : am_ev d y p' ls r h x) : am_ev d y pc ls (.int u :: r) h x := by
  subst hp
  exact am_ev.step hc (if_neg c) q
theorem ax_c_gt_T {u v : Int32} (hc : am_at y pc (.if_icmp .gt k, l, t, a, b, w)) (hp : t.toNat = p') (c : v < u) (q : am_ev d y p' ls r h x) : am_ev d y pc ls (.int v :: .int u :: r) h x := by
  subst hp
  exact am_ev.step hc (if_pos c) q
theorem ax_c_gt_N {u v : Int32} (hc : am_at y pc (.if_icmp .gt k, l, t, a, b, w)) (hp : pc + 3 = p') (c : ¬ v < u) (q : am_ev d y p' ls r h x) : am_ev d y pc ls (.int v :: .int u :: r) h x := by
  subst hp
  exact am_ev.step hc (if_neg c) q
theorem ax_z_gt_T {u : Int32} (hc : am_at y pc (.ifCond .gt k, l, t, a, b, w)) (hp : t.toNat = p') (c : 0 < u) (q : am_ev d y p' ls r h x) : am_ev d y pc ls (.int u :: r) h x := by
  subst hp
  exact am_ev.step hc (if_pos c) q
theorem ax_z_gt_N {u : Int32} (hc : am_at y pc (.ifCond .gt k, l, t, a, b, w)) (hp : pc + 3 = p') (c : ¬ 0 < u) (q : am_ev d y p' ls r h x) : am_ev d y pc ls (.int u :: r) h x := by
  subst hp
  exact am_ev.step hc (if_neg c) q
theorem ax_c_le_T {u v : Int32} (hc : am_at y pc (.if_icmp .le k, l, t, a, b, w)) (hp : t.toNat = p') (c : u ≤ v) (q : am_ev d y p' ls r h x) : am_ev d y pc ls (.int v :: .int u :: r) h x := by
  subst hp
  exact am_ev.step hc (if_pos c) q
theorem ax_c_le_N {u v : Int32} (hc : am_at y pc (.if_icmp .le k, l, t, a, b, w)) (hp : pc + 3 = p') (c : ¬ u ≤ v) (q : am_ev d y p' ls r h x) : am_ev d y pc ls (.int v :: .int u :: r) h x := by
  subst hp
  exact am_ev.step hc (if_neg c) q
theorem ax_z_le_T {u : Int32} (hc : am_at y pc (.ifCond .le k, l, t, a, b, w)) (hp : t.toNat = p') (c : u ≤ 0) (q : am_ev d y p' ls r h x) : am_ev d y pc ls (.int u :: r) h x := by
  subst hp
  exact am_ev.step hc (if_pos c) q
theorem ax_z_le_N {u : Int32} (hc : am_at y pc (.ifCond .le k, l, t, a, b, w)) (hp : pc + 3 = p') (c : ¬ u ≤ 0) (q : am_ev d y p' ls r h x) : am_ev d y pc ls (.int u :: r) h x := by
  subst hp
  exact am_ev.step hc (if_neg c) q
theorem ax_c_eq_T {u v : Int32} (hc : am_at y pc (.if_icmp .eq k, l, t, a, b, w)) (hp : t.toNat = p') (c : u = v) (q : am_ev d y p' ls r h x) : am_ev d y pc ls (.int v :: .int u :: r) h x := by
  subst hp
  exact am_ev.step hc (if_pos c) q
theorem ax_c_eq_N {u v : Int32} (hc : am_at y pc (.if_icmp .eq k, l, t, a, b, w)) (hp : pc + 3 = p') (c : ¬ u = v) (q : am_ev d y p' ls r h x) : am_ev d y pc ls (.int v :: .int u :: r) h x := by
  subst hp
  exact am_ev.step hc (if_neg c) q
theorem ax_z_eq_T {u : Int32} (hc : am_at y pc (.ifCond .eq k, l, t, a, b, w)) (hp : t.toNat = p') (c : u = 0) (q : am_ev d y p' ls r h x) : am_ev d y pc ls (.int u :: r) h x := by
  subst hp
  exact am_ev.step hc (if_pos c) q
theorem ax_z_eq_N {u : Int32} (hc : am_at y pc (.ifCond .eq k, l, t, a, b, w)) (hp : pc + 3 = p') (c : ¬ u = 0) (q : am_ev d y p' ls r h x) : am_ev d y pc ls (.int u :: r) h x := by
  subst hp
  exact am_ev.step hc (if_neg c) q
theorem ax_c_ne_T {u v : Int32} (hc : am_at y pc (.if_icmp .ne k, l, t, a, b, w)) (hp : t.toNat = p') (c : ¬ u = v) (q : am_ev d y p' ls r h x) : am_ev d y pc ls (.int v :: .int u :: r) h x := by
  subst hp
  exact am_ev.step hc (if_neg c) q
theorem ax_c_ne_N {u v : Int32} (hc : am_at y pc (.if_icmp .ne k, l, t, a, b, w)) (hp : pc + 3 = p') (c : u = v) (q : am_ev d y p' ls r h x) : am_ev d y pc ls (.int v :: .int u :: r) h x := by
  subst hp
  exact am_ev.step hc (if_pos c) q
theorem ax_z_ne_T {u : Int32} (hc : am_at y pc (.ifCond .ne k, l, t, a, b, w)) (hp : t.toNat = p') (c : ¬ u = 0) (q : am_ev d y p' ls r h x) : am_ev d y pc ls (.int u :: r) h x := by
  subst hp
  exact am_ev.step hc (if_neg c) q
theorem ax_z_ne_N {u : Int32} (hc : am_at y pc (.ifCond .ne k, l, t, a, b, w)) (hp : pc + 3 = p') (c : u = 0) (q : am_ev d y p' ls r h x) : am_ev d y pc ls (.int u :: r) h x := by
  subst hp
  exact am_ev.step hc (if_pos c) q
theorem ax_obj {e : am_E} {i : Nat} (hc : am_at y pc e) (hi : am_isC e.1) (hz : e.2.2.2.1 = 1000) (hcs : Nat.ble (am_cs r) 8 = true) (hp : pc + 3 = p') (q : am_ev (d + 1) y p' ls r h x) : am_ev (d + 1) y pc ls (.ref i :: r) h x := by
  subst hp
  exact am_ev.obj hc hi hz (Nat.le_of_ble_eq_true hcs) q
theorem ax_call {e : am_E} {z : Nat} {as rr st : List Value} {v : Option Value} {h2 : am_H} (hc : am_at y pc e) (hi : am_isC e.1) (hz : e.2.2.2.1 = z) (nz : (Nat.blt 0 z && Nat.blt z 264 && !Nat.beq z 10 && !Nat.beq z 57) = true) (hst : st = as.reverse ++ rr) (hlen : as.length = (am_in z).2.1) (hcs : Nat.ble (am_cs rr) 8 = true) (hw : Nat.ble (am_wid as).length (am_in z).2.2.1 = true) (hrcv : am_rcv z as h = true) (hp : pc + 3 = p') (q1 : am_ev d z 0 (am_ent as (am_in z).2.2.1) [] h (v, h2)) (hv : am_isT v = none) (q2 : am_ev (d + 1) y p' ls (v.toList ++ rr) h2 x) : am_ev (d + 1) y pc ls st h x := by
  subst hz hp
  have n1 := (Bool.and_eq_true _ _ ▸ nz)
  have n2 := (Bool.and_eq_true _ _ ▸ n1.1)
  have n3 := (Bool.and_eq_true _ _ ▸ n2.1)
  refine am_ev.call hc hi ⟨Nat.le_of_ble_eq_true n3.1, Nat.le_of_ble_eq_true n3.2, fun z => ?_, fun z => ?_⟩ hst hlen (Nat.le_of_ble_eq_true hcs) hrcv (Nat.le_of_ble_eq_true hw) q1 hv q2
  · have := n2.2
    rw [z] at this
    cases this
  · have := n1.2
    rw [z] at this
    cases this
end AXR
section AXF
variable {h : am_H}
theorem ax_rdv {a n tc kd : Nat} {i : Int32} {ok : Nat → Bool} (l1 : a < h.1) (s1 : h.2.2.1 a = (kd, tc, n)) (k1 : (Nat.beq kd 1 || Nat.beq kd 2) = true) (o1 : ok tc = true) (i0 : 0 ≤ i.toInt) (i1 : i.toInt < n) : am_rd h a i ok = some (h.2.2.2 a i.toInt.toNat) := by
  unfold am_rd
  rw [s1]
  dsimp only
  rw [show Nat.blt a h.1 = true from Nat.ble_eq_true_of_le l1, k1, o1]
  have e : i.toNatClampNeg = i.toInt.toNat := rfl
  rw [e]
  show (if i < 0 ∨ n ≤ i.toInt.toNat then none else some (h.2.2.2 a i.toInt.toNat)) = _
  rw [if_neg]
  rintro (z | z)
  · have := Int32.lt_iff_toInt_lt.1 z
    rw [show (0 : Int32).toInt = 0 by decide] at this
    omega
  · omega
theorem ax_wrv {a n tc : Nat} {i : Int32} {v : Value} (l1 : a < h.1) (s1 : h.2.2.1 a = (1, tc, n)) (i0 : 0 ≤ i.toInt) (i1 : i.toInt < n) : am_wr h a i tc v = some (am_put h a i.toInt.toNat v) := by
  unfold am_wr
  rw [s1]
  dsimp only
  rw [show Nat.blt a h.1 = true from Nat.ble_eq_true_of_le l1, show Nat.beq tc tc = true from Nat.beq_refl tc]
  have e : i.toNatClampNeg = i.toInt.toNat := rfl
  rw [e]
  show (if i < 0 ∨ n ≤ i.toInt.toNat then none else some (am_put h a i.toInt.toNat v)) = _
  rw [if_neg]
  rintro (z | z)
  · have := Int32.lt_iff_toInt_lt.1 z
    rw [show (0 : Int32).toInt = 0 by decide] at this
    omega
  · omega
theorem ax_put_s (k j : Nat) (v : Value) : (am_put h k j v).2.2.2 k j = v := by
  show (if k = k then (if j = j then v else h.2.2.2 k j) else h.2.2.2 k j) = v
  rw [if_pos rfl, if_pos rfl]
theorem ax_put_o {k j a b : Nat} {v w : Value} (n : a ≠ k ∨ b ≠ j) (q : h.2.2.2 a b = w) : (am_put h k j v).2.2.2 a b = w := by
  show (if a = k then (if b = j then v else h.2.2.2 a b) else h.2.2.2 a b) = w
  by_cases e1 : a = k
  · rw [if_pos e1]
    by_cases e2 : b = j
    · rcases n with z | z
      · exact absurd e1 z
      · exact absurd e2 z
    · rw [if_neg e2]
      exact q
  · rw [if_neg e1]
    exact q
/-- one run has one end -/
theorem ax_det {d y pc : Nat} {ls st : List Value} {x x' : Option Value × am_H} (q : am_ev d y pc ls st h x) (q' : am_ev d y pc ls st h x') : x = x' := by
  obtain ⟨n, q⟩ := q
  obtain ⟨n', q'⟩ := q'
  have a := am_run_le (Nat.le_max_left n n') q
  have b := am_run_le (Nat.le_max_right n n') q'
  rw [a] at b
  exact Option.some.inj b
end AXF
/-! VALUES BY INTEGERS: rules for steps -/
abbrev iv (e : Int) : Value := .int (Int32.ofInt e)
theorem fx_ti {e : Int} (h : -2147483648 ≤ e ∧ e ≤ 2147483647) : (Int32.ofInt e).toInt = e := Int32.toInt_ofInt_of_le (by omega) (by omega)
theorem iv_add (x1 x2 : Int) : iv (x1 + x2) = .int (Int32.ofInt x1 + Int32.ofInt x2) := congrArg Value.int (Int32.ofInt_add x1 x2)
theorem iv_sub (x1 x2 : Int) : iv (x1 - x2) = .int (Int32.ofInt x1 - Int32.ofInt x2) := congrArg Value.int (Int32.ofInt_sub x1 x2)
theorem iv_mul (x1 x2 : Int) : iv (x1 * x2) = .int (Int32.ofInt x1 * Int32.ofInt x2) := congrArg Value.int (Int32.ofInt_mul x1 x2)
theorem fx_of (x : Int32) : Value.int x = iv x.toInt := by
  show Value.int x = Value.int (Int32.ofInt x.toInt)
  rw [Int32.ofInt_toInt]
section FXS
variable {d y pc p' : Nat} {ls ls' r : List Value} {h : am_H} {x : Option Value × am_H} {k l a b w : Nat} {t ko : Int} {x1 x2 e : Int}
theorem fx_add (hc : am_at y pc (.iadd, l, t, a, b, w)) (hp : pc + 1 = p') (he : x1 + x2 = e) (q : am_ev d y p' ls (iv e :: r) h x) : am_ev d y pc ls (iv x2 :: iv x1 :: r) h x := by
  subst hp he
  rw [iv_add] at q
  exact am_ev.step hc rfl q
theorem fx_sub (hc : am_at y pc (.isub, l, t, a, b, w)) (hp : pc + 1 = p') (he : x1 - x2 = e) (q : am_ev d y p' ls (iv e :: r) h x) : am_ev d y pc ls (iv x2 :: iv x1 :: r) h x := by
  subst hp he
  rw [iv_sub] at q
  exact am_ev.step hc rfl q
theorem fx_mul (hc : am_at y pc (.imul, l, t, a, b, w)) (hp : pc + 1 = p') (he : x1 * x2 = e) (q : am_ev d y p' ls (iv e :: r) h x) : am_ev d y pc ls (iv x2 :: iv x1 :: r) h x := by
  subst hp he
  rw [iv_mul] at q
  exact am_ev.step hc rfl q
theorem fx_bip {n : Int} (hc : am_at y pc (.bipush n, l, t, a, b, w)) (hp : pc + 2 = p') (hv : (Int8.ofInt n).toInt32 = Int32.ofInt n) (q : am_ev d y p' ls (iv n :: r) h x) : am_ev d y pc ls r h x := by
  subst hp
  refine am_ev.step hc rfl ?_
  rw [hv]
  exact q
theorem fx_sip {n : Int} (hc : am_at y pc (.sipush n, l, t, a, b, w)) (hp : pc + 3 = p') (hv : (Int16.ofInt n).toInt32 = Int32.ofInt n) (q : am_ev d y p' ls (iv n :: r) h x) : am_ev d y pc ls r h x := by
  subst hp
  refine am_ev.step hc rfl ?_
  rw [hv]
  exact q
theorem fx_inc {i : Nat} {n : Int} (hc : am_at y pc (.iinc i n, l, t, a, b, w)) (hp : pc + 3 = p') (hl : ls[i]? = some (iv x1)) (he : x1 + n = e) (hs : am_set1 ls i (iv e) = ls') (q : am_ev d y p' ls' r h x) : am_ev d y pc ls r h x := by
  subst hp he hs
  rw [iv_add] at q
  exact am_ev.step hc (by dsimp only [am_st]; rw [hl]) q
theorem fx_reti {v : Int32} (hc : am_at y pc (.ireturn, l, t, a, b, w)) (hv : am_rok (am_rt y) v = true) (hx : x = (some (.int v), h)) : am_ev d y pc ls [.int v] h x := by
  subst hx
  exact am_ev.reti hc rfl hv
theorem fx_cast {x' : Option Value × am_H} (q : am_ev d y pc ls r h x') (hx : x = x') : am_ev d y pc ls r h x := by
  subst hx
  exact q

theorem fx_cJ_lt {x1 x2 : Int} (b1 : -2147483648 ≤ x1 ∧ x1 ≤ 2147483647) (b2 : -2147483648 ≤ x2 ∧ x2 ≤ 2147483647) : (Int32.ofInt x1 < Int32.ofInt x2) ↔ x1 < x2 := by
  rw [Int32.lt_iff_toInt_lt, fx_ti b1, fx_ti b2]
theorem fx_c_lt {pT pF : Nat} (hc : am_at y pc (.if_icmp .lt ko, l, t, a, b, w)) (b1 : -2147483648 ≤ x1 ∧ x1 ≤ 2147483647) (b2 : -2147483648 ≤ x2 ∧ x2 ≤ 2147483647) (hT : t.toNat = pT) (hF : pc + 3 = pF) (qT : x1 < x2 → am_ev d y pT ls r h x) (qF : x2 ≤ x1 → am_ev d y pF ls r h x) : am_ev d y pc ls (iv x2 :: iv x1 :: r) h x := by
  subst hT hF
  by_cases c : x1 < x2
  · exact am_ev.step hc (if_pos ((fx_cJ_lt b1 b2).2 c)) (qT c)
  · exact am_ev.step hc (if_neg (mt (fx_cJ_lt b1 b2).1 c)) (qF (by omega))
theorem fx_c_lt_T {pT : Nat} (hc : am_at y pc (.if_icmp .lt ko, l, t, a, b, w)) (b1 : -2147483648 ≤ x1 ∧ x1 ≤ 2147483647) (b2 : -2147483648 ≤ x2 ∧ x2 ≤ 2147483647) (hT : t.toNat = pT) (c : x1 < x2) (q : am_ev d y pT ls r h x) : am_ev d y pc ls (iv x2 :: iv x1 :: r) h x := fx_c_lt hc b1 b2 hT rfl (fun _ => q) (fun z => absurd z (by omega))
theorem fx_c_lt_F {pF : Nat} (hc : am_at y pc (.if_icmp .lt ko, l, t, a, b, w)) (b1 : -2147483648 ≤ x1 ∧ x1 ≤ 2147483647) (b2 : -2147483648 ≤ x2 ∧ x2 ≤ 2147483647) (hF : pc + 3 = pF) (c : x2 ≤ x1) (q : am_ev d y pF ls r h x) : am_ev d y pc ls (iv x2 :: iv x1 :: r) h x := fx_c_lt hc b1 b2 rfl hF (fun z => absurd z (by omega)) (fun _ => q)
theorem fx_cJ_ge {x1 x2 : Int} (b1 : -2147483648 ≤ x1 ∧ x1 ≤ 2147483647) (b2 : -2147483648 ≤ x2 ∧ x2 ≤ 2147483647) : (Int32.ofInt x2 ≤ Int32.ofInt x1) ↔ x2 ≤ x1 := by
  rw [Int32.le_iff_toInt_le, fx_ti b1, fx_ti b2]
theorem fx_c_ge {pT pF : Nat} (hc : am_at y pc (.if_icmp .ge ko, l, t, a, b, w)) (b1 : -2147483648 ≤ x1 ∧ x1 ≤ 2147483647) (b2 : -2147483648 ≤ x2 ∧ x2 ≤ 2147483647) (hT : t.toNat = pT) (hF : pc + 3 = pF) (qT : x2 ≤ x1 → am_ev d y pT ls r h x) (qF : x1 < x2 → am_ev d y pF ls r h x) : am_ev d y pc ls (iv x2 :: iv x1 :: r) h x := by
  subst hT hF
  by_cases c : x2 ≤ x1
  · exact am_ev.step hc (if_pos ((fx_cJ_ge b1 b2).2 c)) (qT c)
  · exact am_ev.step hc (if_neg (mt (fx_cJ_ge b1 b2).1 c)) (qF (by omega))
theorem fx_c_ge_T {pT : Nat} (hc : am_at y pc (.if_icmp .ge ko, l, t, a, b, w)) (b1 : -2147483648 ≤ x1 ∧ x1 ≤ 2147483647) (b2 : -2147483648 ≤ x2 ∧ x2 ≤ 2147483647) (hT : t.toNat = pT) (c : x2 ≤ x1) (q : am_ev d y pT ls r h x) : am_ev d y pc ls (iv x2 :: iv x1 :: r) h x := fx_c_ge hc b1 b2 hT rfl (fun _ => q) (fun z => absurd z (by omega))
theorem fx_c_ge_F {pF : Nat} (hc : am_at y pc (.if_icmp .ge ko, l, t, a, b, w)) (b1 : -2147483648 ≤ x1 ∧ x1 ≤ 2147483647) (b2 : -2147483648 ≤ x2 ∧ x2 ≤ 2147483647) (hF : pc + 3 = pF) (c : x1 < x2) (q : am_ev d y pF ls r h x) : am_ev d y pc ls (iv x2 :: iv x1 :: r) h x := fx_c_ge hc b1 b2 rfl hF (fun z => absurd z (by omega)) (fun _ => q)
theorem fx_cJ_gt {x1 x2 : Int} (b1 : -2147483648 ≤ x1 ∧ x1 ≤ 2147483647) (b2 : -2147483648 ≤ x2 ∧ x2 ≤ 2147483647) : (Int32.ofInt x2 < Int32.ofInt x1) ↔ x2 < x1 := by
  rw [Int32.lt_iff_toInt_lt, fx_ti b1, fx_ti b2]
theorem fx_c_gt {pT pF : Nat} (hc : am_at y pc (.if_icmp .gt ko, l, t, a, b, w)) (b1 : -2147483648 ≤ x1 ∧ x1 ≤ 2147483647) (b2 : -2147483648 ≤ x2 ∧ x2 ≤ 2147483647) (hT : t.toNat = pT) (hF : pc + 3 = pF) (qT : x2 < x1 → am_ev d y pT ls r h x) (qF : x1 ≤ x2 → am_ev d y pF ls r h x) : am_ev d y pc ls (iv x2 :: iv x1 :: r) h x := by
  subst hT hF
  by_cases c : x2 < x1
  · exact am_ev.step hc (if_pos ((fx_cJ_gt b1 b2).2 c)) (qT c)
  · exact am_ev.step hc (if_neg (mt (fx_cJ_gt b1 b2).1 c)) (qF (by omega))
theorem fx_c_gt_T {pT : Nat} (hc : am_at y pc (.if_icmp .gt ko, l, t, a, b, w)) (b1 : -2147483648 ≤ x1 ∧ x1 ≤ 2147483647) (b2 : -2147483648 ≤ x2 ∧ x2 ≤ 2147483647) (hT : t.toNat = pT) (c : x2 < x1) (q : am_ev d y pT ls r h x) : am_ev d y pc ls (iv x2 :: iv x1 :: r) h x := fx_c_gt hc b1 b2 hT rfl (fun _ => q) (fun z => absurd z (by omega))
theorem fx_c_gt_F {pF : Nat} (hc : am_at y pc (.if_icmp .gt ko, l, t, a, b, w)) (b1 : -2147483648 ≤ x1 ∧ x1 ≤ 2147483647) (b2 : -2147483648 ≤ x2 ∧ x2 ≤ 2147483647) (hF : pc + 3 = pF) (c : x1 ≤ x2) (q : am_ev d y pF ls r h x) : am_ev d y pc ls (iv x2 :: iv x1 :: r) h x := fx_c_gt hc b1 b2 rfl hF (fun z => absurd z (by omega)) (fun _ => q)
theorem fx_cJ_le {x1 x2 : Int} (b1 : -2147483648 ≤ x1 ∧ x1 ≤ 2147483647) (b2 : -2147483648 ≤ x2 ∧ x2 ≤ 2147483647) : (Int32.ofInt x1 ≤ Int32.ofInt x2) ↔ x1 ≤ x2 := by
  rw [Int32.le_iff_toInt_le, fx_ti b1, fx_ti b2]
theorem fx_c_le {pT pF : Nat} (hc : am_at y pc (.if_icmp .le ko, l, t, a, b, w)) (b1 : -2147483648 ≤ x1 ∧ x1 ≤ 2147483647) (b2 : -2147483648 ≤ x2 ∧ x2 ≤ 2147483647) (hT : t.toNat = pT) (hF : pc + 3 = pF) (qT : x1 ≤ x2 → am_ev d y pT ls r h x) (qF : x2 < x1 → am_ev d y pF ls r h x) : am_ev d y pc ls (iv x2 :: iv x1 :: r) h x := by
  subst hT hF
  by_cases c : x1 ≤ x2
  · exact am_ev.step hc (if_pos ((fx_cJ_le b1 b2).2 c)) (qT c)
  · exact am_ev.step hc (if_neg (mt (fx_cJ_le b1 b2).1 c)) (qF (by omega))
theorem fx_c_le_T {pT : Nat} (hc : am_at y pc (.if_icmp .le ko, l, t, a, b, w)) (b1 : -2147483648 ≤ x1 ∧ x1 ≤ 2147483647) (b2 : -2147483648 ≤ x2 ∧ x2 ≤ 2147483647) (hT : t.toNat = pT) (c : x1 ≤ x2) (q : am_ev d y pT ls r h x) : am_ev d y pc ls (iv x2 :: iv x1 :: r) h x := fx_c_le hc b1 b2 hT rfl (fun _ => q) (fun z => absurd z (by omega))
theorem fx_c_le_F {pF : Nat} (hc : am_at y pc (.if_icmp .le ko, l, t, a, b, w)) (b1 : -2147483648 ≤ x1 ∧ x1 ≤ 2147483647) (b2 : -2147483648 ≤ x2 ∧ x2 ≤ 2147483647) (hF : pc + 3 = pF) (c : x2 < x1) (q : am_ev d y pF ls r h x) : am_ev d y pc ls (iv x2 :: iv x1 :: r) h x := fx_c_le hc b1 b2 rfl hF (fun z => absurd z (by omega)) (fun _ => q)
theorem fx_cJ_eq {x1 x2 : Int} (b1 : -2147483648 ≤ x1 ∧ x1 ≤ 2147483647) (b2 : -2147483648 ≤ x2 ∧ x2 ≤ 2147483647) : (Int32.ofInt x1 = Int32.ofInt x2) ↔ x1 = x2 := by
  refine ⟨fun z => ?_, fun z => ?_⟩
  · have z := congrArg Int32.toInt z
    rw [fx_ti b1, fx_ti b2] at z
    exact z
  · apply Int32.toInt_inj.1
    rw [fx_ti b1, fx_ti b2]
    exact z
theorem fx_c_eq {pT pF : Nat} (hc : am_at y pc (.if_icmp .eq ko, l, t, a, b, w)) (b1 : -2147483648 ≤ x1 ∧ x1 ≤ 2147483647) (b2 : -2147483648 ≤ x2 ∧ x2 ≤ 2147483647) (hT : t.toNat = pT) (hF : pc + 3 = pF) (qT : x1 = x2 → am_ev d y pT ls r h x) (qF : x1 ≠ x2 → am_ev d y pF ls r h x) : am_ev d y pc ls (iv x2 :: iv x1 :: r) h x := by
  subst hT hF
  by_cases c : x1 = x2
  · exact am_ev.step hc (if_pos ((fx_cJ_eq b1 b2).2 c)) (qT c)
  · exact am_ev.step hc (if_neg (mt (fx_cJ_eq b1 b2).1 c)) (qF (by omega))
theorem fx_c_eq_T {pT : Nat} (hc : am_at y pc (.if_icmp .eq ko, l, t, a, b, w)) (b1 : -2147483648 ≤ x1 ∧ x1 ≤ 2147483647) (b2 : -2147483648 ≤ x2 ∧ x2 ≤ 2147483647) (hT : t.toNat = pT) (c : x1 = x2) (q : am_ev d y pT ls r h x) : am_ev d y pc ls (iv x2 :: iv x1 :: r) h x := fx_c_eq hc b1 b2 hT rfl (fun _ => q) (fun z => absurd z (by omega))
theorem fx_c_eq_F {pF : Nat} (hc : am_at y pc (.if_icmp .eq ko, l, t, a, b, w)) (b1 : -2147483648 ≤ x1 ∧ x1 ≤ 2147483647) (b2 : -2147483648 ≤ x2 ∧ x2 ≤ 2147483647) (hF : pc + 3 = pF) (c : x1 ≠ x2) (q : am_ev d y pF ls r h x) : am_ev d y pc ls (iv x2 :: iv x1 :: r) h x := fx_c_eq hc b1 b2 rfl hF (fun z => absurd z (by omega)) (fun _ => q)
theorem fx_cJ_ne {x1 x2 : Int} (b1 : -2147483648 ≤ x1 ∧ x1 ≤ 2147483647) (b2 : -2147483648 ≤ x2 ∧ x2 ≤ 2147483647) : (Int32.ofInt x1 = Int32.ofInt x2) ↔ x1 = x2 := by
  refine ⟨fun z => ?_, fun z => ?_⟩
  · have z := congrArg Int32.toInt z
    rw [fx_ti b1, fx_ti b2] at z
    exact z
  · apply Int32.toInt_inj.1
    rw [fx_ti b1, fx_ti b2]
    exact z
theorem fx_c_ne {pT pF : Nat} (hc : am_at y pc (.if_icmp .ne ko, l, t, a, b, w)) (b1 : -2147483648 ≤ x1 ∧ x1 ≤ 2147483647) (b2 : -2147483648 ≤ x2 ∧ x2 ≤ 2147483647) (hT : t.toNat = pT) (hF : pc + 3 = pF) (qT : x1 ≠ x2 → am_ev d y pT ls r h x) (qF : x1 = x2 → am_ev d y pF ls r h x) : am_ev d y pc ls (iv x2 :: iv x1 :: r) h x := by
  subst hT hF
  by_cases c : x1 = x2
  · exact am_ev.step hc (if_pos ((fx_cJ_ne b1 b2).2 c)) (qF c)
  · exact am_ev.step hc (if_neg (mt (fx_cJ_ne b1 b2).1 c)) (qT c)
theorem fx_c_ne_T {pT : Nat} (hc : am_at y pc (.if_icmp .ne ko, l, t, a, b, w)) (b1 : -2147483648 ≤ x1 ∧ x1 ≤ 2147483647) (b2 : -2147483648 ≤ x2 ∧ x2 ≤ 2147483647) (hT : t.toNat = pT) (c : x1 ≠ x2) (q : am_ev d y pT ls r h x) : am_ev d y pc ls (iv x2 :: iv x1 :: r) h x := fx_c_ne hc b1 b2 hT rfl (fun _ => q) (fun z => absurd z (by omega))
theorem fx_c_ne_F {pF : Nat} (hc : am_at y pc (.if_icmp .ne ko, l, t, a, b, w)) (b1 : -2147483648 ≤ x1 ∧ x1 ≤ 2147483647) (b2 : -2147483648 ≤ x2 ∧ x2 ≤ 2147483647) (hF : pc + 3 = pF) (c : x1 = x2) (q : am_ev d y pF ls r h x) : am_ev d y pc ls (iv x2 :: iv x1 :: r) h x := fx_c_ne hc b1 b2 rfl hF (fun z => absurd z (by omega)) (fun _ => q)
theorem fx_zJ_lt {x1 : Int} (b1 : -2147483648 ≤ x1 ∧ x1 ≤ 2147483647) : (Int32.ofInt x1 < 0) ↔ x1 < 0 := by
  rw [Int32.lt_iff_toInt_lt, fx_ti b1, show (0 : Int32).toInt = 0 by decide]
theorem fx_z_lt {pT pF : Nat} (hc : am_at y pc (.ifCond .lt ko, l, t, a, b, w)) (b1 : -2147483648 ≤ x1 ∧ x1 ≤ 2147483647) (hT : t.toNat = pT) (hF : pc + 3 = pF) (qT : x1 < 0 → am_ev d y pT ls r h x) (qF : 0 ≤ x1 → am_ev d y pF ls r h x) : am_ev d y pc ls (iv x1 :: r) h x := by
  subst hT hF
  by_cases c : x1 < 0
  · exact am_ev.step hc (if_pos ((fx_zJ_lt b1).2 c)) (qT c)
  · exact am_ev.step hc (if_neg (mt (fx_zJ_lt b1).1 c)) (qF (by omega))
theorem fx_z_lt_T {pT : Nat} (hc : am_at y pc (.ifCond .lt ko, l, t, a, b, w)) (b1 : -2147483648 ≤ x1 ∧ x1 ≤ 2147483647) (hT : t.toNat = pT) (c : x1 < 0) (q : am_ev d y pT ls r h x) : am_ev d y pc ls (iv x1 :: r) h x := fx_z_lt hc b1 hT rfl (fun _ => q) (fun z => absurd z (by omega))
theorem fx_z_lt_F {pF : Nat} (hc : am_at y pc (.ifCond .lt ko, l, t, a, b, w)) (b1 : -2147483648 ≤ x1 ∧ x1 ≤ 2147483647) (hF : pc + 3 = pF) (c : 0 ≤ x1) (q : am_ev d y pF ls r h x) : am_ev d y pc ls (iv x1 :: r) h x := fx_z_lt hc b1 rfl hF (fun z => absurd z (by omega)) (fun _ => q)
theorem fx_zJ_ge {x1 : Int} (b1 : -2147483648 ≤ x1 ∧ x1 ≤ 2147483647) : (0 ≤ Int32.ofInt x1) ↔ 0 ≤ x1 := by
  rw [Int32.le_iff_toInt_le, fx_ti b1, show (0 : Int32).toInt = 0 by decide]
theorem fx_z_ge {pT pF : Nat} (hc : am_at y pc (.ifCond .ge ko, l, t, a, b, w)) (b1 : -2147483648 ≤ x1 ∧ x1 ≤ 2147483647) (hT : t.toNat = pT) (hF : pc + 3 = pF) (qT : 0 ≤ x1 → am_ev d y pT ls r h x) (qF : x1 < 0 → am_ev d y pF ls r h x) : am_ev d y pc ls (iv x1 :: r) h x := by
  subst hT hF
  by_cases c : 0 ≤ x1
  · exact am_ev.step hc (if_pos ((fx_zJ_ge b1).2 c)) (qT c)
  · exact am_ev.step hc (if_neg (mt (fx_zJ_ge b1).1 c)) (qF (by omega))
theorem fx_z_ge_T {pT : Nat} (hc : am_at y pc (.ifCond .ge ko, l, t, a, b, w)) (b1 : -2147483648 ≤ x1 ∧ x1 ≤ 2147483647) (hT : t.toNat = pT) (c : 0 ≤ x1) (q : am_ev d y pT ls r h x) : am_ev d y pc ls (iv x1 :: r) h x := fx_z_ge hc b1 hT rfl (fun _ => q) (fun z => absurd z (by omega))
theorem fx_z_ge_F {pF : Nat} (hc : am_at y pc (.ifCond .ge ko, l, t, a, b, w)) (b1 : -2147483648 ≤ x1 ∧ x1 ≤ 2147483647) (hF : pc + 3 = pF) (c : x1 < 0) (q : am_ev d y pF ls r h x) : am_ev d y pc ls (iv x1 :: r) h x := fx_z_ge hc b1 rfl hF (fun z => absurd z (by omega)) (fun _ => q)
theorem fx_zJ_gt {x1 : Int} (b1 : -2147483648 ≤ x1 ∧ x1 ≤ 2147483647) : (0 < Int32.ofInt x1) ↔ 0 < x1 := by
  rw [Int32.lt_iff_toInt_lt, fx_ti b1, show (0 : Int32).toInt = 0 by decide]
theorem fx_z_gt {pT pF : Nat} (hc : am_at y pc (.ifCond .gt ko, l, t, a, b, w)) (b1 : -2147483648 ≤ x1 ∧ x1 ≤ 2147483647) (hT : t.toNat = pT) (hF : pc + 3 = pF) (qT : 0 < x1 → am_ev d y pT ls r h x) (qF : x1 ≤ 0 → am_ev d y pF ls r h x) : am_ev d y pc ls (iv x1 :: r) h x := by
  subst hT hF
  by_cases c : 0 < x1
  · exact am_ev.step hc (if_pos ((fx_zJ_gt b1).2 c)) (qT c)
  · exact am_ev.step hc (if_neg (mt (fx_zJ_gt b1).1 c)) (qF (by omega))
theorem fx_z_gt_T {pT : Nat} (hc : am_at y pc (.ifCond .gt ko, l, t, a, b, w)) (b1 : -2147483648 ≤ x1 ∧ x1 ≤ 2147483647) (hT : t.toNat = pT) (c : 0 < x1) (q : am_ev d y pT ls r h x) : am_ev d y pc ls (iv x1 :: r) h x := fx_z_gt hc b1 hT rfl (fun _ => q) (fun z => absurd z (by omega))
theorem fx_z_gt_F {pF : Nat} (hc : am_at y pc (.ifCond .gt ko, l, t, a, b, w)) (b1 : -2147483648 ≤ x1 ∧ x1 ≤ 2147483647) (hF : pc + 3 = pF) (c : x1 ≤ 0) (q : am_ev d y pF ls r h x) : am_ev d y pc ls (iv x1 :: r) h x := fx_z_gt hc b1 rfl hF (fun z => absurd z (by omega)) (fun _ => q)
theorem fx_zJ_le {x1 : Int} (b1 : -2147483648 ≤ x1 ∧ x1 ≤ 2147483647) : (Int32.ofInt x1 ≤ 0) ↔ x1 ≤ 0 := by
  rw [Int32.le_iff_toInt_le, fx_ti b1, show (0 : Int32).toInt = 0 by decide]
theorem fx_z_le {pT pF : Nat} (hc : am_at y pc (.ifCond .le ko, l, t, a, b, w)) (b1 : -2147483648 ≤ x1 ∧ x1 ≤ 2147483647) (hT : t.toNat = pT) (hF : pc + 3 = pF) (qT : x1 ≤ 0 → am_ev d y pT ls r h x) (qF : 0 < x1 → am_ev d y pF ls r h x) : am_ev d y pc ls (iv x1 :: r) h x := by
  subst hT hF
  by_cases c : x1 ≤ 0
  · exact am_ev.step hc (if_pos ((fx_zJ_le b1).2 c)) (qT c)
  · exact am_ev.step hc (if_neg (mt (fx_zJ_le b1).1 c)) (qF (by omega))
theorem fx_z_le_T {pT : Nat} (hc : am_at y pc (.ifCond .le ko, l, t, a, b, w)) (b1 : -2147483648 ≤ x1 ∧ x1 ≤ 2147483647) (hT : t.toNat = pT) (c : x1 ≤ 0) (q : am_ev d y pT ls r h x) : am_ev d y pc ls (iv x1 :: r) h x := fx_z_le hc b1 hT rfl (fun _ => q) (fun z => absurd z (by omega))
theorem fx_z_le_F {pF : Nat} (hc : am_at y pc (.ifCond .le ko, l, t, a, b, w)) (b1 : -2147483648 ≤ x1 ∧ x1 ≤ 2147483647) (hF : pc + 3 = pF) (c : 0 < x1) (q : am_ev d y pF ls r h x) : am_ev d y pc ls (iv x1 :: r) h x := fx_z_le hc b1 rfl hF (fun z => absurd z (by omega)) (fun _ => q)
theorem fx_zJ_eq {x1 : Int} (b1 : -2147483648 ≤ x1 ∧ x1 ≤ 2147483647) : (Int32.ofInt x1 = 0) ↔ x1 = 0 := by
  refine ⟨fun z => ?_, fun z => ?_⟩
  · have z := congrArg Int32.toInt z
    rw [fx_ti b1, show (0 : Int32).toInt = 0 by decide] at z
    exact z
  · apply Int32.toInt_inj.1
    rw [fx_ti b1, show (0 : Int32).toInt = 0 by decide]
    exact z
theorem fx_z_eq {pT pF : Nat} (hc : am_at y pc (.ifCond .eq ko, l, t, a, b, w)) (b1 : -2147483648 ≤ x1 ∧ x1 ≤ 2147483647) (hT : t.toNat = pT) (hF : pc + 3 = pF) (qT : x1 = 0 → am_ev d y pT ls r h x) (qF : x1 ≠ 0 → am_ev d y pF ls r h x) : am_ev d y pc ls (iv x1 :: r) h x := by
  subst hT hF
  by_cases c : x1 = 0
  · exact am_ev.step hc (if_pos ((fx_zJ_eq b1).2 c)) (qT c)
  · exact am_ev.step hc (if_neg (mt (fx_zJ_eq b1).1 c)) (qF (by omega))
theorem fx_z_eq_T {pT : Nat} (hc : am_at y pc (.ifCond .eq ko, l, t, a, b, w)) (b1 : -2147483648 ≤ x1 ∧ x1 ≤ 2147483647) (hT : t.toNat = pT) (c : x1 = 0) (q : am_ev d y pT ls r h x) : am_ev d y pc ls (iv x1 :: r) h x := fx_z_eq hc b1 hT rfl (fun _ => q) (fun z => absurd z (by omega))
theorem fx_z_eq_F {pF : Nat} (hc : am_at y pc (.ifCond .eq ko, l, t, a, b, w)) (b1 : -2147483648 ≤ x1 ∧ x1 ≤ 2147483647) (hF : pc + 3 = pF) (c : x1 ≠ 0) (q : am_ev d y pF ls r h x) : am_ev d y pc ls (iv x1 :: r) h x := fx_z_eq hc b1 rfl hF (fun z => absurd z (by omega)) (fun _ => q)
theorem fx_zJ_ne {x1 : Int} (b1 : -2147483648 ≤ x1 ∧ x1 ≤ 2147483647) : (Int32.ofInt x1 = 0) ↔ x1 = 0 := by
  refine ⟨fun z => ?_, fun z => ?_⟩
  · have z := congrArg Int32.toInt z
    rw [fx_ti b1, show (0 : Int32).toInt = 0 by decide] at z
    exact z
  · apply Int32.toInt_inj.1
    rw [fx_ti b1, show (0 : Int32).toInt = 0 by decide]
    exact z
theorem fx_z_ne {pT pF : Nat} (hc : am_at y pc (.ifCond .ne ko, l, t, a, b, w)) (b1 : -2147483648 ≤ x1 ∧ x1 ≤ 2147483647) (hT : t.toNat = pT) (hF : pc + 3 = pF) (qT : x1 ≠ 0 → am_ev d y pT ls r h x) (qF : x1 = 0 → am_ev d y pF ls r h x) : am_ev d y pc ls (iv x1 :: r) h x := by
  subst hT hF
  by_cases c : x1 = 0
  · exact am_ev.step hc (if_pos ((fx_zJ_ne b1).2 c)) (qF c)
  · exact am_ev.step hc (if_neg (mt (fx_zJ_ne b1).1 c)) (qT c)
theorem fx_z_ne_T {pT : Nat} (hc : am_at y pc (.ifCond .ne ko, l, t, a, b, w)) (b1 : -2147483648 ≤ x1 ∧ x1 ≤ 2147483647) (hT : t.toNat = pT) (c : x1 ≠ 0) (q : am_ev d y pT ls r h x) : am_ev d y pc ls (iv x1 :: r) h x := fx_z_ne hc b1 hT rfl (fun _ => q) (fun z => absurd z (by omega))
theorem fx_z_ne_F {pF : Nat} (hc : am_at y pc (.ifCond .ne ko, l, t, a, b, w)) (b1 : -2147483648 ≤ x1 ∧ x1 ≤ 2147483647) (hF : pc + 3 = pF) (c : x1 = 0) (q : am_ev d y pF ls r h x) : am_ev d y pc ls (iv x1 :: r) h x := fx_z_ne hc b1 rfl hF (fun z => absurd z (by omega)) (fun _ => q)
end FXS
/-! WHAT NO CALL CHANGES: kinds of the fixed cells, the static rows, the references -/
def fS (h : am_H) : Prop := 130 ≤ h.1 ∧ (∀ c, 40 ≤ c → c < 130 → h.2.2.1 c = cq_fix c) ∧ (∀ c, 1 ≤ c → c < 7 → h.2.2.1 c = (2, 0, 7) ∧ ∀ j, j < 7 → h.2.2.2 c j = .int (Int32.ofInt (cq_sv c j))) ∧ (∀ c j k, 40 ≤ c → c < 130 → j < (cq_fix c).2.2 → cq_ty c j = (3, 0, 0, k, 0, 0) → h.2.2.2 c j = .ref k)
section FSS
variable {h : am_H}
theorem fS.of (I : cq_Inv none h) : fS h := ⟨I.lo, I.fx, I.sv, fun c j k h1 h2 h3 e => by
  have q := I.ty c h1 (Nat.lt_of_lt_of_le h2 I.lo) (fun z => by cases z) j (by rw [I.fx c h1 h2]; exact h3)
  unfold cq_tyOf at q
  rw [show Nat.blt c 130 = true from Nat.ble_eq_true_of_le h2] at q
  have q : cq_ht h j (cq_ty c j) (h.2.2.2 c j) := q
  rw [e] at q
  exact q⟩
theorem fS.po (S : fS h) {c j : Nat} {v : Value} (h7 : Nat.ble 7 c = true) (n : Nat.beq (cq_ty c j).1 3 = false) : fS (am_put h c j v) := by
  have h7 := Nat.le_of_ble_eq_true h7
  refine ⟨S.1, S.2.1, fun c' a1 a2 => ⟨(S.2.2.1 c' a1 a2).1, fun j' hj => ax_put_o (Or.inl (by omega)) ((S.2.2.1 c' a1 a2).2 j' hj)⟩, fun c' j' k a1 a2 a3 e => ax_put_o ?_ (S.2.2.2 c' j' k a1 a2 a3 e)⟩
  by_cases e1 : c' = c
  · by_cases e2 : j' = j
    · subst e1 e2
      rw [e] at n
      cases n
    · exact Or.inr e2
  · exact Or.inl e1
theorem fS.pa (S : fS h) {c j : Nat} {v : Value} (q : (Nat.ble 7 c && cq_isA c && !Nat.beq (cq_ar c).1 3) = true) : fS (am_put h c j v) := by
  have b1 := (Bool.and_eq_true _ _ ▸ q)
  have b2 := (Bool.and_eq_true _ _ ▸ b1.1)
  refine S.po b2.1 ?_
  have b3 := b1.2
  unfold cq_ty
  rw [b2.2]
  cases z : (Nat.beq c 81 || Nat.beq c 83) && Nat.beq j 1 with
  | true => rfl
  | false =>
    show Nat.beq (cq_ar c).1 3 = false
    simpa using b3
theorem fS.pd (S : fS h) {c j : Nat} {v : Value} (q : 130 ≤ c) : fS (am_put h c j v) := ⟨S.1, S.2.1, fun c' a1 a2 => ⟨(S.2.2.1 c' a1 a2).1, fun j' hj => ax_put_o (Or.inl (by omega)) ((S.2.2.1 c' a1 a2).2 j' hj)⟩, fun c' j' k a1 a2 a3 e => ax_put_o (Or.inl (by omega)) (S.2.2.2 c' j' k a1 a2 a3 e)⟩
theorem fS.mk (S : fS h) {sh : am_Sh} {N : Nat} {dv : Nat → Value} : fS (am_mk h sh N dv) := by
  have lo := S.1
  refine ⟨Nat.le_succ_of_le lo, fun c a1 a2 => ?_, fun c a1 a2 => ⟨?_, fun j hj => ?_⟩, fun c j k a1 a2 a3 e => ?_⟩
  · show (if c = h.1 then sh else h.2.2.1 c) = _
    rw [if_neg (by omega)]
    exact S.2.1 c a1 a2
  · show (if c = h.1 then sh else h.2.2.1 c) = _
    rw [if_neg (by omega)]
    exact (S.2.2.1 c a1 a2).1
  · show (if c = h.1 then dv j else h.2.2.2 c j) = _
    rw [if_neg (by omega)]
    exact (S.2.2.1 c a1 a2).2 j hj
  · show (if c = h.1 then dv j else h.2.2.2 c j) = _
    rw [if_neg (by omega)]
    exact S.2.2.2 c j k a1 a2 a3 e
theorem fS.ob (S : fS h) {c k : Nat} (q : (Nat.ble 40 c && Nat.blt c 130 && Nat.beq (cq_fix c).1 0 && Nat.beq (cq_fix c).2.1 k) = true) : am_isO h c k = true := by
  have b1 := (Bool.and_eq_true _ _ ▸ q)
  have b2 := (Bool.and_eq_true _ _ ▸ b1.1)
  have b3 := (Bool.and_eq_true _ _ ▸ b2.1)
  have hc : c < 130 := Nat.le_of_ble_eq_true b3.2
  unfold am_isO
  rw [S.2.1 c (Nat.le_of_ble_eq_true b3.1) hc, show Nat.blt c h.1 = true from Nat.ble_eq_true_of_le (Nat.lt_of_lt_of_le hc S.1), b2.2, b1.2]
  rfl
theorem fS.rf (S : fS h) {c j k : Nat} (q : (Nat.ble 40 c && Nat.blt c 130 && Nat.blt j (cq_fix c).2.2) = true) (e : cq_ty c j = (3, 0, 0, k, 0, 0)) : h.2.2.2 c j = .ref k := by
  have b2 := (Bool.and_eq_true _ _ ▸ q)
  have b3 := (Bool.and_eq_true _ _ ▸ b2.1)
  exact S.2.2.2 c j k (Nat.le_of_ble_eq_true b3.1) (Nat.le_of_ble_eq_true b3.2) (Nat.le_of_ble_eq_true b2.2) e
theorem fO {h : am_H} {c j a k : Nat} {v : Value} (q : am_isO h a k = true) : am_isO (am_put h c j v) a k = true := q
theorem fx_rng {k n : Nat} (hk : k < n) (hn : Nat.ble n 100000 = true) : (Int32.ofInt (k : Int)).toInt = (k : Int) := by
  have := Nat.le_of_ble_eq_true hn
  exact fx_ti (by omega)
theorem fS.rd (S : fS h) {c tc n k : Nat} {e : Int} {ok : Nat → Bool} {v : Value} (q : (Nat.ble 40 c && Nat.blt c 130) = true) (fx : cq_fix c = (1, tc, n)) (o : ok tc = true) (hn : Nat.ble n 100000 = true) (he : e = (k : Int)) (hk : k < n) (hv : h.2.2.2 c k = v) : am_rd h c (Int32.ofInt e) ok = some v := by
  subst he
  have b3 := (Bool.and_eq_true _ _ ▸ q)
  have hc : c < 130 := Nat.le_of_ble_eq_true b3.2
  have r := fx_rng hk hn
  rw [ax_rdv (n := n) (tc := tc) (kd := 1) (Nat.lt_of_lt_of_le hc S.1) (by rw [S.2.1 c (Nat.le_of_ble_eq_true b3.1) hc, fx]) rfl o (by omega) (by omega), r, Int.toNat_natCast, hv]
theorem fS.wr (S : fS h) {c tc n k : Nat} {e : Int} {v : Value} (q : (Nat.ble 40 c && Nat.blt c 130) = true) (fx : cq_fix c = (1, tc, n)) (hn : Nat.ble n 100000 = true) (he : e = (k : Int)) (hk : k < n) : am_wr h c (Int32.ofInt e) tc v = some (am_put h c k v) := by
  subst he
  have b3 := (Bool.and_eq_true _ _ ▸ q)
  have hc : c < 130 := Nat.le_of_ble_eq_true b3.2
  have r := fx_rng hk hn
  rw [ax_wrv (n := n) (tc := tc) (Nat.lt_of_lt_of_le hc S.1) (by rw [S.2.1 c (Nat.le_of_ble_eq_true b3.1) hc, fx]) (by omega) (by omega), r, Int.toNat_natCast]
theorem fS.rs (S : fS h) {c k : Nat} {e : Int} (q : (Nat.ble 1 c && Nat.blt c 7) = true) (he : e = (k : Int)) (hk : k < 7) : am_rd h c (Int32.ofInt e) (fun c => Nat.beq c 0) = some (iv (cq_sv c k)) := by
  subst he
  have b3 := (Bool.and_eq_true _ _ ▸ q)
  have h1 := Nat.le_of_ble_eq_true b3.1
  have h2 : c < 7 := Nat.le_of_ble_eq_true b3.2
  have lo := S.1
  have r : (Int32.ofInt (k : Int)).toInt = (k : Int) := fx_ti (by omega)
  rw [ax_rdv (n := 7) (tc := 0) (kd := 2) (by omega) (S.2.2.1 c h1 h2).1 rfl rfl (by omega) (by omega), r, Int.toNat_natCast, (S.2.2.1 c h1 h2).2 k hk]
theorem fS.sb (S : fS h) {c : Nat} (q : (Nat.ble 40 c && Nat.blt c 130) = true) (n : Nat.beq (cq_fix c).2.1 1 = false) : Nat.beq (h.2.2.1 c).2.1 1 = false := by
  have b3 := (Bool.and_eq_true _ _ ▸ q)
  have hc : c < 130 := Nat.le_of_ble_eq_true b3.2
  rw [S.2.1 c (Nat.le_of_ble_eq_true b3.1) hc]
  exact n
theorem fS.sb1 (S : fS h) {c : Nat} (q : (Nat.ble 40 c && Nat.blt c 130) = true) (n : Nat.beq (cq_fix c).2.1 1 = true) : Nat.beq (h.2.2.1 c).2.1 1 = true := by
  have b3 := (Bool.and_eq_true _ _ ▸ q)
  have hc : c < 130 := Nat.le_of_ble_eq_true b3.2
  rw [S.2.1 c (Nat.le_of_ble_eq_true b3.1) hc]
  exact n
theorem fS.al (S : fS h) {c tc n : Nat} (q : (Nat.ble 40 c && Nat.blt c 130) = true) (fx : cq_fix c = (1, tc, n)) : am_len h c = some n := by
  have b3 := (Bool.and_eq_true _ _ ▸ q)
  have hc : c < 130 := Nat.le_of_ble_eq_true b3.2
  unfold am_len
  rw [S.2.1 c (Nat.le_of_ble_eq_true b3.1) hc, fx, show Nat.blt c h.1 = true from Nat.ble_eq_true_of_le (Nat.lt_of_lt_of_le hc S.1)]
  rfl
theorem fx_alen {d y pc p' i n : Nat} {ls r : List Value} {x : Option Value × am_H} {l a b w : Nat} {t : Int} (hc : am_at y pc (.arraylength, l, t, a, b, w)) (hp : pc + 1 = p') (N : am_len h i = some n) (q : am_ev d y p' ls (iv (n : Int) :: r) h x) : am_ev d y pc ls (.ref i :: r) h x := by
  refine ax_len hc hp N ?_
  rw [← Int32.ofInt_eq_ofNat]
  exact q
end FSS
theorem ax_callT {d y pc a z : Nat} {ls as rr st : List Value} {h h2 : am_H} {e : am_E} (hc : am_at y pc e) (hi : am_isC e.1) (hz : e.2.2.2.1 = z) (nz : (Nat.blt 0 z && Nat.blt z 264 && !Nat.beq z 10 && !Nat.beq z 57) = true) (hst : st = as.reverse ++ rr) (hlen : as.length = (am_in z).2.1) (hcs : Nat.ble (am_cs rr) 8 = true) (hw : Nat.ble (am_wid as).length (am_in z).2.2.1 = true) (hrcv : am_rcv z as h = true) (q1 : am_ev d z 0 (am_ent as (am_in z).2.2.1) [] h (some (.retAddr (a + 1)), h2)) (hk : (am_in z).2.2.2 = 0) (hy : Nat.blt 0 y = true) (ha : am_isO h2 a 12 = true) (hh : am_ctc (am_hh y) pc = none) : am_ev (d + 1) y pc ls st h (some (.retAddr (a + 1)), h2) := by
  subst hz
  have n1 := (Bool.and_eq_true _ _ ▸ nz)
  have n2 := (Bool.and_eq_true _ _ ▸ n1.1)
  have n3 := (Bool.and_eq_true _ _ ▸ n2.1)
  refine am_ev.callT hc hi ⟨Nat.le_of_ble_eq_true n3.1, Nat.le_of_ble_eq_true n3.2, fun z => ?_, fun z => ?_⟩ hst hlen (Nat.le_of_ble_eq_true hcs) hrcv (Nat.le_of_ble_eq_true hw) q1 hk (Nat.le_of_ble_eq_true hy) ha hh
  · have := n2.2
    rw [z] at this
    cases this
  · have := n1.2
    rw [z] at this
    cases this
theorem ax_callC {d y pc a z p' : Nat} {ls as rr st : List Value} {h h2 : am_H} {x : Option Value × am_H} {e : am_E} (hc : am_at y pc e) (hi : am_isC e.1) (hz : e.2.2.2.1 = z) (nz : (Nat.blt 0 z && Nat.blt z 264 && !Nat.beq z 10 && !Nat.beq z 57) = true) (hst : st = as.reverse ++ rr) (hlen : as.length = (am_in z).2.1) (hcs : Nat.ble (am_cs rr) 8 = true) (hw : Nat.ble (am_wid as).length (am_in z).2.2.1 = true) (hrcv : am_rcv z as h = true) (q1 : am_ev d z 0 (am_ent as (am_in z).2.2.1) [] h (some (.retAddr (a + 1)), h2)) (hk : (am_in z).2.2.2 = 0) (hy : Nat.blt 0 y = true) (ha : am_isO h2 a 12 = true) (hh : am_ctc (am_hh y) pc = some p') (q2 : am_ev (d + 1) y p' ls [.ref a] h2 x) : am_ev (d + 1) y pc ls st h x := by
  subst hz
  have n1 := (Bool.and_eq_true _ _ ▸ nz)
  have n2 := (Bool.and_eq_true _ _ ▸ n1.1)
  have n3 := (Bool.and_eq_true _ _ ▸ n2.1)
  refine am_ev.callC hc hi ⟨Nat.le_of_ble_eq_true n3.1, Nat.le_of_ble_eq_true n3.2, fun z => ?_, fun z => ?_⟩ hst hlen (Nat.le_of_ble_eq_true hcs) hrcv (Nat.le_of_ble_eq_true hw) q1 hk (Nat.le_of_ble_eq_true hy) ha hh q2
  · have := n2.2
    rw [z] at this
    cases this
  · have := n1.2
    rw [z] at this
    cases this
theorem b_88 (x : Int8) : x.toInt32.toInt8.toInt32 = x.toInt32 := by rw [Int8.toInt8_toInt32]
theorem ax_bas1 {d y pc p' i l a b w : Nat} {t : Int} {ls r : List Value} {h h' : am_H} {x : Option Value × am_H} {j u : Int32} (hc : am_at y pc (.bastore, l, t, a, b, w)) (hp : pc + 1 = p') (W : am_wr h i j 1 (.int u) = some h') (s : Nat.beq (h.2.2.1 i).2.1 1 = true) (hu : u.toInt8.toInt32 = u) (q : am_ev d y p' ls r h' x) : am_ev d y pc ls (.int u :: .int j :: .ref i :: r) h x := by
  subst hp
  refine am_ev.step hc ?_ q
  dsimp only [am_st]
  rw [s, hu]
  show (match am_wr h i j 1 (.int u) with
    | some h' => some (pc + 1, ls, r, h')
    | none => none) = _
  rw [W]
theorem ax_bas2 {d y pc p' i l a b w : Nat} {t : Int} {ls r : List Value} {h h' : am_H} {x : Option Value × am_H} {j u : Int32} (hc : am_at y pc (.bastore, l, t, a, b, w)) (hp : pc + 1 = p') (W : am_wr h i j 2 (.int u) = some h') (s : Nat.beq (h.2.2.1 i).2.1 1 = false) (hu : u &&& 1 = u) (q : am_ev d y p' ls r h' x) : am_ev d y pc ls (.int u :: .int j :: .ref i :: r) h x := by
  subst hp
  refine am_ev.step hc ?_ q
  dsimp only [am_st]
  rw [s, hu]
  show (match am_wr h i j 2 (.int u) with
    | some h' => some (pc + 1, ls, r, h')
    | none => none) = _
  rw [W]
theorem fx_heq {h g : am_H} (h1 : h.1 = g.1) (h2 : h.2.1 = g.2.1) (h3 : h.2.2.1 = g.2.2.1) (h4 : ∀ c j, h.2.2.2 c j = g.2.2.2 c j) : h = g := Prod.ext h1 (Prod.ext h2 (Prod.ext h3 (funext fun c => funext fun j => h4 c j)))
def fx_cpl (h : am_H) (a b : Nat) : Nat → am_H
  | 0 => h
  | n + 1 => am_put (fx_cpl h a b n) b n (h.2.2.2 a n)
theorem fx_cpl_v {h : am_H} {a b : Nat} : ∀ (n c j : Nat), (fx_cpl h a b n).2.2.2 c j = if c = b ∧ j < n then h.2.2.2 a j else h.2.2.2 c j
  | 0, c, j => by
    rw [if_neg (by omega)]
    rfl
  | n + 1, c, j => by
    show (if c = b then (if j = n then h.2.2.2 a n else (fx_cpl h a b n).2.2.2 c j) else (fx_cpl h a b n).2.2.2 c j) = _
    rw [fx_cpl_v n c j]
    by_cases e1 : c = b
    · by_cases e2 : j = n
      · rw [if_pos e1, if_pos e2, if_pos ⟨e1, by omega⟩, e2]
      · rw [if_pos e1, if_neg e2]
        by_cases e3 : j < n
        · rw [if_pos ⟨e1, e3⟩, if_pos ⟨e1, by omega⟩]
        · rw [if_neg (fun z => e3 z.2), if_neg (fun z => by omega)]
    · rw [if_neg e1, if_neg (fun z => e1 z.1), if_neg (fun z => e1 z.1)]
theorem fx_cpl_s {h : am_H} {a b : Nat} : ∀ n, (fx_cpl h a b n).1 = h.1 ∧ (fx_cpl h a b n).2.1 = h.2.1 ∧ (fx_cpl h a b n).2.2.1 = h.2.2.1
  | 0 => ⟨rfl, rfl, rfl⟩
  | n + 1 => fx_cpl_s n
def fx_cpv (h : am_H) (b : Nat) (V : Nat → Value) : Nat → am_H
  | 0 => h
  | n + 1 => am_put (fx_cpv h b V n) b n (V n)
theorem fx_cpe {h : am_H} {a b : Nat} {V : Nat → Value} : ∀ n, (∀ i, i < n → h.2.2.2 a i = V i) → fx_cpl h a b n = fx_cpv h b V n
  | 0, _ => rfl
  | n + 1, q => by
    show am_put (fx_cpl h a b n) b n (h.2.2.2 a n) = am_put (fx_cpv h b V n) b n (V n)
    rw [fx_cpe n (fun i hi => q i (by omega)), q n (by omega)]
/-- a copy between arrays of ints, from place 0 to place 0 -/
theorem fx_cp {h : am_H} {a b n ka na nb : Nat} (la : a < h.1) (lb : b < h.1) (sa : h.2.2.1 a = (ka, 0, na)) (hka : (Nat.beq ka 1 || Nat.beq ka 2) = true) (sb : h.2.2.1 b = (1, 0, nb)) (n1 : n ≤ na) (n2 : n ≤ nb) (hn : n ≤ 1000) (vi : ∀ i, i < n → ∃ x : Int32, h.2.2.2 a i = .int x) : am_cp h a (Int32.ofInt 0) b (Int32.ofInt 0) (Int32.ofInt (n : Int)) = some (fx_cpl h a b n) := by
  have e0 : (Int32.ofInt 0).toNatClampNeg = 0 := by decide
  have en : (Int32.ofInt (n : Int)).toInt = (n : Int) := fx_ti (by omega)
  have en2 : (Int32.ofInt (n : Int)).toNatClampNeg = n := by
    show (Int32.ofInt (n : Int)).toInt.toNat = n
    rw [en, Int.toNat_natCast]
  unfold am_cp
  rw [sa, sb, show Nat.blt a h.1 = true from Nat.ble_eq_true_of_le la, show Nat.blt b h.1 = true from Nat.ble_eq_true_of_le lb]
  dsimp only
  rw [hka, e0, en2]
  have c1 : ¬ (Int32.ofInt 0 < 0 ∨ Int32.ofInt 0 < 0 ∨ Int32.ofInt (n : Int) < 0 ∨ na < 0 + n ∨ nb < 0 + n) := by
    rintro (z | z | z | z | z)
    · exact absurd z (by decide)
    · exact absurd z (by decide)
    · have z := Int32.lt_iff_toInt_lt.1 z
      rw [en, show (0 : Int32).toInt = 0 by decide] at z
      omega
    · omega
    · omega
  have c2 : (List.range n).all (fun i => am_isI (h.2.2.2 a (0 + i))) = true := List.all_eq_true.2 fun i hi => by
    obtain ⟨x, hx⟩ := vi i (List.mem_range.1 hi)
    rw [Nat.zero_add, hx]
    rfl
  rw [if_neg c1, c2]
  show some _ = some _
  congr 1
  obtain ⟨q1, q2, q3⟩ := fx_cpl_s (h := h) (a := a) (b := b) n
  refine fx_heq q1.symm q2.symm q3.symm fun c j => ?_
  rw [fx_cpl_v]
  show (if c = b then (if 0 ≤ j ∧ j < 0 + n then h.2.2.2 a (0 + (j - 0)) else h.2.2.2 b j) else h.2.2.2 c j) = _
  by_cases e1 : c = b
  · by_cases e2 : j < n
    · rw [if_pos e1, if_pos ⟨Nat.zero_le _, by omega⟩, if_pos ⟨e1, e2⟩, Nat.sub_zero, Nat.zero_add]
    · rw [if_pos e1, if_neg (fun z => e2 (by omega)), if_neg (fun z => e2 z.2), e1]
  · rw [if_neg e1, if_neg (fun z => e1 z.1)]
theorem fx_cpy {d y pc p' : Nat} {ls r : List Value} {x : Option Value × am_H} {e : am_E} {h : am_H} {a b n ka na nb : Nat} {V : Nat → Int} (hc : am_at y pc e) (hi : am_isC e.1) (hz : e.2.2.2.1 = 1001) (hcs : Nat.ble (am_cs r) 8 = true) (hp : pc + 3 = p') (la : a < h.1) (lb : b < h.1) (sa : h.2.2.1 a = (ka, 0, na)) (hka : (Nat.beq ka 1 || Nat.beq ka 2) = true) (sb : h.2.2.1 b = (1, 0, nb)) (hn : (Nat.ble n na && Nat.ble n nb && Nat.ble n 1000) = true) (vi : ∀ i, i < n → h.2.2.2 a i = iv (V i)) (q : am_ev (d + 1) y p' ls r (fx_cpv h b (fun i => iv (V i)) n) x) : am_ev (d + 1) y pc ls (iv (n : Int) :: iv 0 :: .ref b :: iv 0 :: .ref a :: r) h x := by
  subst hp
  have b1 := (Bool.and_eq_true _ _ ▸ hn)
  have b2 := (Bool.and_eq_true _ _ ▸ b1.1)
  refine am_ev.copy hc hi hz (Nat.le_of_ble_eq_true hcs) (fx_cp la lb sa hka sb (Nat.le_of_ble_eq_true b2.1) (Nat.le_of_ble_eq_true b2.2) (Nat.le_of_ble_eq_true b1.2) fun i hi => ⟨_, vi i hi⟩) ?_
  rw [fx_cpe n vi]
  exact q
theorem fx_cpy7 {d y pc p' : Nat} {ls r : List Value} {x : Option Value × am_H} {e : am_E} {h : am_H} {a b ka na nb : Nat} (V : Nat → Int) (hc : am_at y pc e) (hi : am_isC e.1) (hz : e.2.2.2.1 = 1001) (hcs : Nat.ble (am_cs r) 8 = true) (hp : pc + 3 = p') (la : a < h.1) (lb : b < h.1) (sa : h.2.2.1 a = (ka, 0, na)) (hka : (Nat.beq ka 1 || Nat.beq ka 2) = true) (sb : h.2.2.1 b = (1, 0, nb)) (hn : (Nat.ble 7 na && Nat.ble 7 nb && Nat.ble 7 1000) = true) (vi : ∀ i, i < 7 → h.2.2.2 a i = iv (V i)) (q : am_ev (d + 1) y p' ls r (am_put (am_put (am_put (am_put (am_put (am_put (am_put h b 0 (iv (V 0))) b 1 (iv (V 1))) b 2 (iv (V 2))) b 3 (iv (V 3))) b 4 (iv (V 4))) b 5 (iv (V 5))) b 6 (iv (V 6))) x) : am_ev (d + 1) y pc ls (iv 7 :: iv 0 :: .ref b :: iv 0 :: .ref a :: r) h x := fx_cpy (n := 7) (V := V) hc hi hz hcs hp la lb sa hka sb hn vi q
theorem fx_cpy6 {d y pc p' : Nat} {ls r : List Value} {x : Option Value × am_H} {e : am_E} {h : am_H} {a b ka na nb : Nat} (V : Nat → Int) (hc : am_at y pc e) (hi : am_isC e.1) (hz : e.2.2.2.1 = 1001) (hcs : Nat.ble (am_cs r) 8 = true) (hp : pc + 3 = p') (la : a < h.1) (lb : b < h.1) (sa : h.2.2.1 a = (ka, 0, na)) (hka : (Nat.beq ka 1 || Nat.beq ka 2) = true) (sb : h.2.2.1 b = (1, 0, nb)) (hn : (Nat.ble 6 na && Nat.ble 6 nb && Nat.ble 6 1000) = true) (vi : ∀ i, i < 6 → h.2.2.2 a i = iv (V i)) (q : am_ev (d + 1) y p' ls r (am_put (am_put (am_put (am_put (am_put (am_put h b 0 (iv (V 0))) b 1 (iv (V 1))) b 2 (iv (V 2))) b 3 (iv (V 3))) b 4 (iv (V 4))) b 5 (iv (V 5))) x) : am_ev (d + 1) y pc ls (iv 6 :: iv 0 :: .ref b :: iv 0 :: .ref a :: r) h x := fx_cpy (n := 6) (V := V) hc hi hz hcs hp la lb sa hka sb hn vi q
theorem fS.lt {h : am_H} (S : fS h) {c : Nat} (q : Nat.blt c 130 = true) : c < h.1 := Nat.lt_of_lt_of_le (Nat.le_of_ble_eq_true q) S.1
theorem fS.sh {h : am_H} (S : fS h) {c : Nat} {s : am_Sh} (q : (Nat.ble 40 c && Nat.blt c 130) = true) (e : cq_fix c = s) : h.2.2.1 c = s := by
  have b3 := (Bool.and_eq_true _ _ ▸ q)
  rw [S.2.1 c (Nat.le_of_ble_eq_true b3.1) (Nat.le_of_ble_eq_true b3.2), e]
theorem fS.ss {h : am_H} (S : fS h) {c : Nat} (q : (Nat.ble 1 c && Nat.blt c 7) = true) : h.2.2.1 c = (2, 0, 7) := by
  have b3 := (Bool.and_eq_true _ _ ▸ q)
  exact (S.2.2.1 c (Nat.le_of_ble_eq_true b3.1) (Nat.le_of_ble_eq_true b3.2)).1
theorem fS.sv {h : am_H} (S : fS h) {c : Nat} (q : (Nat.ble 1 c && Nat.blt c 7) = true) (i : Nat) (hi : i < 7) : h.2.2.2 c i = iv (cq_sv c i) := by
  have b3 := (Bool.and_eq_true _ _ ▸ q)
  exact (S.2.2.1 c (Nat.le_of_ble_eq_true b3.1) (Nat.le_of_ble_eq_true b3.2)).2 i hi
theorem fx_pp {h : am_H} {c j : Nat} {v u : Value} : am_put (am_put h c j v) c j u = am_put h c j u := fx_heq rfl rfl rfl fun a b => by
  show (if a = c then (if b = j then u else (if a = c then (if b = j then v else h.2.2.2 a b) else h.2.2.2 a b)) else (if a = c then (if b = j then v else h.2.2.2 a b) else h.2.2.2 a b)) = (if a = c then (if b = j then u else h.2.2.2 a b) else h.2.2.2 a b)
  by_cases e1 : a = c
  · by_cases e2 : b = j
    · simp only [if_pos e1, if_pos e2]
    · simp only [if_pos e1, if_neg e2]
  · simp only [if_neg e1]
theorem fx_pc {h : am_H} {c j i : Nat} {v u : Value} (n : j ≠ i) : am_put (am_put h c j v) c i u = am_put (am_put h c i u) c j v := fx_heq rfl rfl rfl fun a b => by
  show (if a = c then (if b = i then u else (if a = c then (if b = j then v else h.2.2.2 a b) else h.2.2.2 a b)) else (if a = c then (if b = j then v else h.2.2.2 a b) else h.2.2.2 a b)) = (if a = c then (if b = j then v else (if a = c then (if b = i then u else h.2.2.2 a b) else h.2.2.2 a b)) else (if a = c then (if b = i then u else h.2.2.2 a b) else h.2.2.2 a b))
  by_cases e1 : a = c
  · by_cases e2 : b = j
    · have e3 : b ≠ i := fun z => n (by rw [← e2, z])
      simp only [if_pos e1, if_pos e2, if_neg e3]
    · simp only [if_pos e1, if_neg e2]
  · simp only [if_neg e1]
theorem fx_pi {h : am_H} {c j : Nat} {v : Value} (e : h.2.2.2 c j = v) : am_put h c j v = h := fx_heq rfl rfl rfl fun a b => by
  show (if a = c then (if b = j then v else h.2.2.2 a b) else h.2.2.2 a b) = h.2.2.2 a b
  by_cases e1 : a = c
  · by_cases e2 : b = j
    · rw [if_pos e1, if_pos e2, e1, e2, e]
    · rw [if_pos e1, if_neg e2]
  · rw [if_neg e1]
end
section
/-! CALLS AS THE LAW NEEDS THEM -/
theorem dh_blt {a : Nat} (q : 130 ≤ a) : Nat.blt a 130 = false := by
  cases z : Nat.blt a 130 with
  | false => rfl
  | true =>
    have : a < 130 := Nat.le_of_ble_eq_true z
    omega
section AXI
variable {h : am_H} (I : cq_Inv none h)
theorem ax_o (I : cq_Inv none h) {c k : Nat} (q : (Nat.ble 40 c && Nat.blt c 130 && Nat.beq (cq_fix c).1 0 && Nat.beq (cq_fix c).2.1 k) = true) : am_isO h c k = true := by
  have b1 := (Bool.and_eq_true _ _ ▸ q)
  have b2 := (Bool.and_eq_true _ _ ▸ b1.1)
  have b3 := (Bool.and_eq_true _ _ ▸ b2.1)
  have hc : c < 130 := Nat.le_of_ble_eq_true b3.2
  have fx := I.fx c (Nat.le_of_ble_eq_true b3.1) hc
  unfold am_isO
  rw [fx, show Nat.blt c h.1 = true from Nat.ble_eq_true_of_le (Nat.lt_of_lt_of_le hc I.lo), b2.2, b1.2]
  rfl
theorem ax_ty (I : cq_Inv none h) {c j : Nat} {t : cq_T} (q : (Nat.ble 40 c && Nat.blt c 130 && Nat.blt j (cq_fix c).2.2) = true) (e : cq_ty c j = t) : cq_ht h j t (h.2.2.2 c j) := by
  have b2 := (Bool.and_eq_true _ _ ▸ q)
  have b3 := (Bool.and_eq_true _ _ ▸ b2.1)
  have hc : c < 130 := Nat.le_of_ble_eq_true b3.2
  have h40 := Nat.le_of_ble_eq_true b3.1
  have fx := I.fx c h40 hc
  have k := I.ty c h40 (Nat.lt_of_lt_of_le hc I.lo) (fun z => by cases z) j (by rw [fx]; exact Nat.le_of_ble_eq_true b2.2)
  unfold cq_tyOf at k
  rw [show Nat.blt c 130 = true from Nat.ble_eq_true_of_le hc] at k
  rw [← e]
  exact k
theorem ax_in (I : cq_Inv none h) {c j : Nat} {l u : Int} (q : (Nat.ble 40 c && Nat.blt c 130 && Nat.blt j (cq_fix c).2.2) = true) (e : cq_ty c j = (1, l, u, 0, 0, 0)) : ∃ x : Int32, h.2.2.2 c j = .int x ∧ l ≤ x.toInt ∧ x.toInt ≤ u := ax_ty I q e
theorem ax_rf (I : cq_Inv none h) {c j k : Nat} (q : (Nat.ble 40 c && Nat.blt c 130 && Nat.blt j (cq_fix c).2.2) = true) (e : cq_ty c j = (3, 0, 0, k, 0, 0)) : h.2.2.2 c j = .ref k := ax_ty I q e
theorem ax_ar (I : cq_Inv none h) {c tc n : Nat} (q : (Nat.ble 40 c && Nat.blt c 130) = true) (e : cq_fix c = (1, tc, n)) : c < h.1 ∧ h.2.2.1 c = (1, tc, n) := by
  have b3 := (Bool.and_eq_true _ _ ▸ q)
  have hc : c < 130 := Nat.le_of_ble_eq_true b3.2
  exact ⟨Nat.lt_of_lt_of_le hc I.lo, by rw [I.fx c (Nat.le_of_ble_eq_true b3.1) hc, e]⟩
theorem ax_kO {a k : Nat} (q : cq_kOk h a (0, k, 0)) : am_isO h a k = true := by
  obtain ⟨q1, q2, q3⟩ := q
  unfold am_isO
  rw [q3, show Nat.blt a h.1 = true from Nat.ble_eq_true_of_le q2]
  dsimp only
  rw [Nat.beq_refl, Nat.beq_refl]
  rfl
/-- a field of an object that was made -/
theorem ax_fd (I : cq_Inv none h) {a k j : Nat} {t : cq_T} (q : cq_kOk h a (0, k, 0)) (hj : j < am_N k) (e : cq_cl k j = t) : cq_ht h j t (h.2.2.2 a j) := by
  obtain ⟨q1, q2, q3⟩ := q
  have w := I.ty a (by omega) q2 (fun z => by cases z) j (by rw [q3]; exact hj)
  unfold cq_tyOf at w
  rw [dh_blt q1, q3] at w
  rw [← e]
  exact w
end AXI
theorem ax_1 {c : Int32} (h1 : c.toInt < 2147483647) : (c + Int32.ofInt 1).toInt = c.toInt + 1 := by
  have := c.le_toInt
  rw [Int32.toInt_add, show (Int32.ofInt 1).toInt = 1 by decide, Int.bmod_eq_of_le (by omega) (by omega)]
def ax_m (n : Int) : Value := .int (Int8.ofInt n).toInt32
theorem sp_ap0 {y k : Nat} {c : cq_Ct} (ok : cq_CT y c) (e1 : c.2.1 = [(5, (0, []), k)]) (e2 : c.2.2.1 = cq_mk 0 ([], []) [] [] [] [] [] [] none 0 0) {A B : Nat} (e3 : (c.2.2.2.2.all fun x => !x.1 && x.2.2.U.isNone && Nat.ble x.2.2.ac A && Nat.ble x.2.2.al B) = true) {h : am_H} (I : cq_Inv none h) {d : Nat} (hd : c.1 ≤ d) : ∃ r h', am_ev d y 0 (am_ent [.ref k] (am_in y).2.2.1) [] h (r, h') ∧ am_isT r = none ∧ cq_Inv none h' ∧ cq_Fr c.2.2.2.1 h h' ∧ h'.1 ≤ h.1 + A ∧ h'.2.1 ≤ h.2.1 + B := by
  let ρ : Nat → Int := fun _ => 0
  have gg : cq_gs ρ c.2.1 [.ref k] := by
    rw [e1]
    exact ⟨rfl, trivial⟩
  have M0 : cq_Md c.2.2.2.1 h ρ c.2.2.1 h := by
    rw [e2]
    exact cq_Md_p ⟨fun b hb => (by cases hb), fun _ z => (by cases z)⟩ (fun _ z => (by cases z)) (fun _ z => (by cases z)) I
  obtain ⟨r, h', ev, x, hx, ρ', a', Mx, hr⟩ := ok d h ρ _ hd M0 gg
  have b1 := (Bool.and_eq_true _ _ ▸ List.all_eq_true.1 e3 x hx)
  have b2 := (Bool.and_eq_true _ _ ▸ b1.1)
  have b3 := (Bool.and_eq_true _ _ ▸ b2.1)
  have IX := Mx.I
  rw [Option.isNone_iff_eq_none.1 b3.2] at IX
  refine ⟨r, h', ev, ?_, IX, Mx.F, Nat.le_trans Mx.A.1 (Nat.add_le_add_left (Nat.le_of_ble_eq_true b2.2) _), Nat.le_trans Mx.A.2 (Nat.add_le_add_left (Nat.le_of_ble_eq_true b1.2) _)⟩
  rcases hr with ⟨_, z, _⟩ | ⟨z, _⟩
  · exact z
  · have := b3.1
    rw [z] at this
    cases this
theorem sp_ap1 {y k : Nat} {c : cq_Ct} (ok : cq_CT y c) (e1 : c.2.1 = [(5, (0, []), k), (1, (0, [(0, 1)]), 0)]) (e2 : c.2.2.1 = cq_mk 1 ([(0, (-2147483648), 2147483647)], []) [] [] [] [] [] [] none 0 0) {A B : Nat} (e3 : (c.2.2.2.2.all fun x => !x.1 && x.2.2.U.isNone && Nat.ble x.2.2.ac A && Nat.ble x.2.2.al B) = true) {h : am_H} (I : cq_Inv none h) {d : Nat} (hd : c.1 ≤ d) (p0 : Int32) : ∃ r h', am_ev d y 0 (am_ent [.ref k, .int p0] (am_in y).2.2.1) [] h (r, h') ∧ am_isT r = none ∧ cq_Inv none h' ∧ cq_Fr c.2.2.2.1 h h' ∧ h'.1 ≤ h.1 + A ∧ h'.2.1 ≤ h.2.1 + B := by
  let ρ : Nat → Int := fun s => match s with
    | 0 => p0.toInt
    | _ => p0.toInt
  have gg : cq_gs ρ c.2.1 [.ref k, .int p0] := by
    rw [e1]
    exact ⟨rfl, ⟨p0, rfl, (cq_s_e ρ 0).symm⟩, trivial⟩
  have M0 : cq_Md c.2.2.2.1 h ρ c.2.2.1 h := by
    rw [e2]
    refine cq_Md_p ⟨fun b hb => ?_, fun _ z => (by cases z)⟩ (fun _ z => (by cases z)) (fun _ z => (by cases z)) I
    have full : ∀ v : Int32, -2147483648 ≤ v.toInt ∧ v.toInt ≤ 2147483647 := fun v => by
      have r1 := v.le_toInt
      have r2 := v.toInt_lt
      omega
    simp only [List.mem_cons, List.not_mem_nil, or_false] at hb
    rcases hb with rfl
    exact full p0
  obtain ⟨r, h', ev, x, hx, ρ', a', Mx, hr⟩ := ok d h ρ _ hd M0 gg
  have b1 := (Bool.and_eq_true _ _ ▸ List.all_eq_true.1 e3 x hx)
  have b2 := (Bool.and_eq_true _ _ ▸ b1.1)
  have b3 := (Bool.and_eq_true _ _ ▸ b2.1)
  have IX := Mx.I
  rw [Option.isNone_iff_eq_none.1 b3.2] at IX
  refine ⟨r, h', ev, ?_, IX, Mx.F, Nat.le_trans Mx.A.1 (Nat.add_le_add_left (Nat.le_of_ble_eq_true b2.2) _), Nat.le_trans Mx.A.2 (Nat.add_le_add_left (Nat.le_of_ble_eq_true b1.2) _)⟩
  rcases hr with ⟨_, z, _⟩ | ⟨z, _⟩
  · exact z
  · have := b3.1
    rw [z] at this
    cases this
theorem sp_ap2 {y k : Nat} {c : cq_Ct} (ok : cq_CT y c) (e1 : c.2.1 = [(5, (0, []), k), (1, (0, [(0, 1)]), 0), (1, (0, [(1, 1)]), 0)]) (e2 : c.2.2.1 = cq_mk 2 ([(0, (-2147483648), 2147483647), (1, (-2147483648), 2147483647)], []) [] [] [] [] [] [] none 0 0) {A B : Nat} (e3 : (c.2.2.2.2.all fun x => !x.1 && x.2.2.U.isNone && Nat.ble x.2.2.ac A && Nat.ble x.2.2.al B) = true) {h : am_H} (I : cq_Inv none h) {d : Nat} (hd : c.1 ≤ d) (p0 p1 : Int32) : ∃ r h', am_ev d y 0 (am_ent [.ref k, .int p0, .int p1] (am_in y).2.2.1) [] h (r, h') ∧ am_isT r = none ∧ cq_Inv none h' ∧ cq_Fr c.2.2.2.1 h h' ∧ h'.1 ≤ h.1 + A ∧ h'.2.1 ≤ h.2.1 + B := by
  let ρ : Nat → Int := fun s => match s with
    | 0 => p0.toInt
    | _ => p1.toInt
  have gg : cq_gs ρ c.2.1 [.ref k, .int p0, .int p1] := by
    rw [e1]
    exact ⟨rfl, ⟨p0, rfl, (cq_s_e ρ 0).symm⟩, ⟨p1, rfl, (cq_s_e ρ 1).symm⟩, trivial⟩
  have M0 : cq_Md c.2.2.2.1 h ρ c.2.2.1 h := by
    rw [e2]
    refine cq_Md_p ⟨fun b hb => ?_, fun _ z => (by cases z)⟩ (fun _ z => (by cases z)) (fun _ z => (by cases z)) I
    have full : ∀ v : Int32, -2147483648 ≤ v.toInt ∧ v.toInt ≤ 2147483647 := fun v => by
      have r1 := v.le_toInt
      have r2 := v.toInt_lt
      omega
    simp only [List.mem_cons, List.not_mem_nil, or_false] at hb
    rcases hb with rfl | rfl
    · exact full p0
    · exact full p1
  obtain ⟨r, h', ev, x, hx, ρ', a', Mx, hr⟩ := ok d h ρ _ hd M0 gg
  have b1 := (Bool.and_eq_true _ _ ▸ List.all_eq_true.1 e3 x hx)
  have b2 := (Bool.and_eq_true _ _ ▸ b1.1)
  have b3 := (Bool.and_eq_true _ _ ▸ b2.1)
  have IX := Mx.I
  rw [Option.isNone_iff_eq_none.1 b3.2] at IX
  refine ⟨r, h', ev, ?_, IX, Mx.F, Nat.le_trans Mx.A.1 (Nat.add_le_add_left (Nat.le_of_ble_eq_true b2.2) _), Nat.le_trans Mx.A.2 (Nat.add_le_add_left (Nat.le_of_ble_eq_true b1.2) _)⟩
  rcases hr with ⟨_, z, _⟩ | ⟨z, _⟩
  · exact z
  · have := b3.1
    rw [z] at this
    cases this
theorem sp_ap3 {y k : Nat} {c : cq_Ct} (ok : cq_CT y c) (e1 : c.2.1 = [(5, (0, []), k), (1, (0, [(0, 1)]), 0), (1, (0, [(1, 1)]), 0), (1, (0, [(2, 1)]), 0)]) (e2 : c.2.2.1 = cq_mk 3 ([(0, (-2147483648), 2147483647), (1, (-2147483648), 2147483647), (2, (-2147483648), 2147483647)], []) [] [] [] [] [] [] none 0 0) {A B : Nat} (e3 : (c.2.2.2.2.all fun x => !x.1 && x.2.2.U.isNone && Nat.ble x.2.2.ac A && Nat.ble x.2.2.al B) = true) {h : am_H} (I : cq_Inv none h) {d : Nat} (hd : c.1 ≤ d) (p0 p1 p2 : Int32) : ∃ r h', am_ev d y 0 (am_ent [.ref k, .int p0, .int p1, .int p2] (am_in y).2.2.1) [] h (r, h') ∧ am_isT r = none ∧ cq_Inv none h' ∧ cq_Fr c.2.2.2.1 h h' ∧ h'.1 ≤ h.1 + A ∧ h'.2.1 ≤ h.2.1 + B := by
  let ρ : Nat → Int := fun s => match s with
    | 0 => p0.toInt
    | 1 => p1.toInt
    | _ => p2.toInt
  have gg : cq_gs ρ c.2.1 [.ref k, .int p0, .int p1, .int p2] := by
    rw [e1]
    exact ⟨rfl, ⟨p0, rfl, (cq_s_e ρ 0).symm⟩, ⟨p1, rfl, (cq_s_e ρ 1).symm⟩, ⟨p2, rfl, (cq_s_e ρ 2).symm⟩, trivial⟩
  have M0 : cq_Md c.2.2.2.1 h ρ c.2.2.1 h := by
    rw [e2]
    refine cq_Md_p ⟨fun b hb => ?_, fun _ z => (by cases z)⟩ (fun _ z => (by cases z)) (fun _ z => (by cases z)) I
    have full : ∀ v : Int32, -2147483648 ≤ v.toInt ∧ v.toInt ≤ 2147483647 := fun v => by
      have r1 := v.le_toInt
      have r2 := v.toInt_lt
      omega
    simp only [List.mem_cons, List.not_mem_nil, or_false] at hb
    rcases hb with rfl | rfl | rfl
    · exact full p0
    · exact full p1
    · exact full p2
  obtain ⟨r, h', ev, x, hx, ρ', a', Mx, hr⟩ := ok d h ρ _ hd M0 gg
  have b1 := (Bool.and_eq_true _ _ ▸ List.all_eq_true.1 e3 x hx)
  have b2 := (Bool.and_eq_true _ _ ▸ b1.1)
  have b3 := (Bool.and_eq_true _ _ ▸ b2.1)
  have IX := Mx.I
  rw [Option.isNone_iff_eq_none.1 b3.2] at IX
  refine ⟨r, h', ev, ?_, IX, Mx.F, Nat.le_trans Mx.A.1 (Nat.add_le_add_left (Nat.le_of_ble_eq_true b2.2) _), Nat.le_trans Mx.A.2 (Nat.add_le_add_left (Nat.le_of_ble_eq_true b1.2) _)⟩
  rcases hr with ⟨_, z, _⟩ | ⟨z, _⟩
  · exact z
  · have := b3.1
    rw [z] at this
    cases this
theorem sp_ap4 {y k : Nat} {c : cq_Ct} (ok : cq_CT y c) (e1 : c.2.1 = [(5, (0, []), k), (1, (0, [(0, 1)]), 0), (1, (0, [(1, 1)]), 0), (1, (0, [(2, 1)]), 0), (1, (0, [(3, 1)]), 0)]) (e2 : c.2.2.1 = cq_mk 4 ([(0, (-2147483648), 2147483647), (1, (-2147483648), 2147483647), (2, (-2147483648), 2147483647), (3, (-2147483648), 2147483647)], []) [] [] [] [] [] [] none 0 0) {A B : Nat} (e3 : (c.2.2.2.2.all fun x => !x.1 && x.2.2.U.isNone && Nat.ble x.2.2.ac A && Nat.ble x.2.2.al B) = true) {h : am_H} (I : cq_Inv none h) {d : Nat} (hd : c.1 ≤ d) (p0 p1 p2 p3 : Int32) : ∃ r h', am_ev d y 0 (am_ent [.ref k, .int p0, .int p1, .int p2, .int p3] (am_in y).2.2.1) [] h (r, h') ∧ am_isT r = none ∧ cq_Inv none h' ∧ cq_Fr c.2.2.2.1 h h' ∧ h'.1 ≤ h.1 + A ∧ h'.2.1 ≤ h.2.1 + B := by
  let ρ : Nat → Int := fun s => match s with
    | 0 => p0.toInt
    | 1 => p1.toInt
    | 2 => p2.toInt
    | _ => p3.toInt
  have gg : cq_gs ρ c.2.1 [.ref k, .int p0, .int p1, .int p2, .int p3] := by
    rw [e1]
    exact ⟨rfl, ⟨p0, rfl, (cq_s_e ρ 0).symm⟩, ⟨p1, rfl, (cq_s_e ρ 1).symm⟩, ⟨p2, rfl, (cq_s_e ρ 2).symm⟩, ⟨p3, rfl, (cq_s_e ρ 3).symm⟩, trivial⟩
  have M0 : cq_Md c.2.2.2.1 h ρ c.2.2.1 h := by
    rw [e2]
    refine cq_Md_p ⟨fun b hb => ?_, fun _ z => (by cases z)⟩ (fun _ z => (by cases z)) (fun _ z => (by cases z)) I
    have full : ∀ v : Int32, -2147483648 ≤ v.toInt ∧ v.toInt ≤ 2147483647 := fun v => by
      have r1 := v.le_toInt
      have r2 := v.toInt_lt
      omega
    simp only [List.mem_cons, List.not_mem_nil, or_false] at hb
    rcases hb with rfl | rfl | rfl | rfl
    · exact full p0
    · exact full p1
    · exact full p2
    · exact full p3
  obtain ⟨r, h', ev, x, hx, ρ', a', Mx, hr⟩ := ok d h ρ _ hd M0 gg
  have b1 := (Bool.and_eq_true _ _ ▸ List.all_eq_true.1 e3 x hx)
  have b2 := (Bool.and_eq_true _ _ ▸ b1.1)
  have b3 := (Bool.and_eq_true _ _ ▸ b2.1)
  have IX := Mx.I
  rw [Option.isNone_iff_eq_none.1 b3.2] at IX
  refine ⟨r, h', ev, ?_, IX, Mx.F, Nat.le_trans Mx.A.1 (Nat.add_le_add_left (Nat.le_of_ble_eq_true b2.2) _), Nat.le_trans Mx.A.2 (Nat.add_le_add_left (Nat.le_of_ble_eq_true b1.2) _)⟩
  rcases hr with ⟨_, z, _⟩ | ⟨z, _⟩
  · exact z
  · have := b3.1
    rw [z] at this
    cases this
theorem sp_ap5 {y k : Nat} {c : cq_Ct} (ok : cq_CT y c) (e1 : c.2.1 = [(5, (0, []), k), (1, (0, [(0, 1)]), 0), (1, (0, [(1, 1)]), 0), (1, (0, [(2, 1)]), 0), (1, (0, [(3, 1)]), 0), (1, (0, [(4, 1)]), 0)]) (e2 : c.2.2.1 = cq_mk 5 ([(0, (-2147483648), 2147483647), (1, (-2147483648), 2147483647), (2, (-2147483648), 2147483647), (3, (-2147483648), 2147483647), (4, (-2147483648), 2147483647)], []) [] [] [] [] [] [] none 0 0) {A B : Nat} (e3 : (c.2.2.2.2.all fun x => !x.1 && x.2.2.U.isNone && Nat.ble x.2.2.ac A && Nat.ble x.2.2.al B) = true) {h : am_H} (I : cq_Inv none h) {d : Nat} (hd : c.1 ≤ d) (p0 p1 p2 p3 p4 : Int32) : ∃ r h', am_ev d y 0 (am_ent [.ref k, .int p0, .int p1, .int p2, .int p3, .int p4] (am_in y).2.2.1) [] h (r, h') ∧ am_isT r = none ∧ cq_Inv none h' ∧ cq_Fr c.2.2.2.1 h h' ∧ h'.1 ≤ h.1 + A ∧ h'.2.1 ≤ h.2.1 + B := by
  let ρ : Nat → Int := fun s => match s with
    | 0 => p0.toInt
    | 1 => p1.toInt
    | 2 => p2.toInt
    | 3 => p3.toInt
    | _ => p4.toInt
  have gg : cq_gs ρ c.2.1 [.ref k, .int p0, .int p1, .int p2, .int p3, .int p4] := by
    rw [e1]
    exact ⟨rfl, ⟨p0, rfl, (cq_s_e ρ 0).symm⟩, ⟨p1, rfl, (cq_s_e ρ 1).symm⟩, ⟨p2, rfl, (cq_s_e ρ 2).symm⟩, ⟨p3, rfl, (cq_s_e ρ 3).symm⟩, ⟨p4, rfl, (cq_s_e ρ 4).symm⟩, trivial⟩
  have M0 : cq_Md c.2.2.2.1 h ρ c.2.2.1 h := by
    rw [e2]
    refine cq_Md_p ⟨fun b hb => ?_, fun _ z => (by cases z)⟩ (fun _ z => (by cases z)) (fun _ z => (by cases z)) I
    have full : ∀ v : Int32, -2147483648 ≤ v.toInt ∧ v.toInt ≤ 2147483647 := fun v => by
      have r1 := v.le_toInt
      have r2 := v.toInt_lt
      omega
    simp only [List.mem_cons, List.not_mem_nil, or_false] at hb
    rcases hb with rfl | rfl | rfl | rfl | rfl
    · exact full p0
    · exact full p1
    · exact full p2
    · exact full p3
    · exact full p4
  obtain ⟨r, h', ev, x, hx, ρ', a', Mx, hr⟩ := ok d h ρ _ hd M0 gg
  have b1 := (Bool.and_eq_true _ _ ▸ List.all_eq_true.1 e3 x hx)
  have b2 := (Bool.and_eq_true _ _ ▸ b1.1)
  have b3 := (Bool.and_eq_true _ _ ▸ b2.1)
  have IX := Mx.I
  rw [Option.isNone_iff_eq_none.1 b3.2] at IX
  refine ⟨r, h', ev, ?_, IX, Mx.F, Nat.le_trans Mx.A.1 (Nat.add_le_add_left (Nat.le_of_ble_eq_true b2.2) _), Nat.le_trans Mx.A.2 (Nat.add_le_add_left (Nat.le_of_ble_eq_true b1.2) _)⟩
  rcases hr with ⟨_, z, _⟩ | ⟨z, _⟩
  · exact z
  · have := b3.1
    rw [z] at this
    cases this
/-- what may not be written stays -/
def lw_nF (m : cq_W) (c j : Nat) : Bool := m.all fun w => w.1 || !(Nat.beq w.2.1 c && (Nat.beq w.2.2.1 0 || Nat.beq w.2.2.1 (j + 1)))
def lw_nA (m : cq_W) (c : Nat) : Bool := m.all fun w => w.1 || !Nat.beq w.2.1 c
def lw_nO (m : cq_W) (k j : Nat) : Bool := m.all fun w => bif w.1 then !(Nat.beq w.2.1 0 && Nat.beq w.2.2.1 k && (Nat.beq w.2.2.2 0 || Nat.beq w.2.2.2 (j + 1))) else Nat.blt w.2.1 130
section FRX
variable {m : cq_W} {h h2 : am_H}
theorem lw_frF (F : cq_Fr m h h2) (lo : 130 ≤ h.1) {c j : Nat} (hc : c < 130) (q : lw_nF m c j = true) : h2.2.2.2 c j = h.2.2.2 c j := by
  refine F.vl c (Nat.lt_of_lt_of_le hc lo) j ?_
  unfold cq_inW
  rw [List.any_eq_false]
  intro w hw
  have z := List.all_eq_true.1 q w hw
  cases w1 : w.1 with
  | true =>
    rw [show Nat.ble 130 c = false by cases y : Nat.ble 130 c with
      | false => rfl
      | true => have := Nat.le_of_ble_eq_true y; omega]
    simp
  | false =>
    rw [w1] at z
    simp only [Bool.false_or, Bool.not_eq_true'] at z
    rw [z]
    simp
theorem lw_frA (F : cq_Fr m h h2) (lo : 130 ≤ h.1) {c : Nat} (hc : c < 130) (q : lw_nA m c = true) (j : Nat) : h2.2.2.2 c j = h.2.2.2 c j := by
  refine lw_frF F lo hc ?_
  unfold lw_nF
  rw [List.all_eq_true]
  intro w hw
  have z := List.all_eq_true.1 q w hw
  cases w1 : w.1 with
  | true => rfl
  | false =>
    rw [w1] at z
    simp only [Bool.false_or, Bool.not_eq_true'] at z
    rw [z]
    rfl
theorem lw_frO (F : cq_Fr m h h2) {s k j n : Nat} (h1 : 130 ≤ s) (h3 : s < h.1) (sh : h.2.2.1 s = (0, k, n)) (q : lw_nO m k j = true) : h2.2.2.2 s j = h.2.2.2 s j := by
  refine F.vl s h3 j ?_
  unfold cq_inW
  rw [List.any_eq_false]
  intro w hw
  have z := List.all_eq_true.1 q w hw
  cases w1 : w.1 with
  | true =>
    rw [w1] at z
    simp only [cond_true, Bool.not_eq_true'] at z
    rw [sh]
    dsimp only
    have : (Nat.ble 130 s && Nat.beq w.2.1 0 && Nat.beq w.2.2.1 k && (Nat.beq w.2.2.2 0 || Nat.beq w.2.2.2 (j + 1))) = false := by
      rw [Bool.and_assoc, Bool.and_assoc, ← Bool.and_assoc (Nat.beq w.2.1 0), z, Bool.and_false]
    rw [this]
    simp
  | false =>
    rw [w1] at z
    have hz : w.2.1 < 130 := Nat.le_of_ble_eq_true z
    rw [dh_bne (show w.2.1 ≠ s by omega)]
    simp
end FRX
/-- two places hold the same number -/
def tT (h : am_H) (q : Nat × Nat × Nat × Nat) : Prop := ∃ t : Int32, h.2.2.2 q.1 q.2.1 = .int t ∧ h.2.2.2 q.2.2.1 q.2.2.2 = .int t
section OPB
variable {h : am_H}
/-- a tie of numbers within bounds, as a natural number -/
theorem tT_nat (I : cq_Inv none h) (T : tT h (41, 1, 78, 2)) : ∃ L : Nat, L ≤ 1600 ∧ h.2.2.2 41 1 = iv L ∧ h.2.2.2 78 2 = iv L := by
  obtain ⟨t, t1, t2⟩ := T
  obtain ⟨y, ey, a, c⟩ := ax_in I (c := 41) (j := 1) (l := 0) (u := 1600) (by decide +kernel) (by decide +kernel)
  have t1 : h.2.2.2 41 1 = .int t := t1
  have t2 : h.2.2.2 78 2 = .int t := t2
  rw [t1] at ey
  cases ey
  have e : Value.int t = iv (t.toInt.toNat : Int) := by
    rw [fx_of t]
    exact congrArg iv (by omega)
  exact ⟨t.toInt.toNat, by omega, t1.trans e, t2.trans e⟩
theorem tT_of (I : cq_Inv none h) {c j c' j' : Nat} {l u : Int} (q : (Nat.ble 40 c && Nat.blt c 130 && Nat.blt j (cq_fix c).2.2) = true) (e : cq_ty c j = (1, l, u, 0, 0, 0)) (v : h.2.2.2 c j = h.2.2.2 c' j') : tT h (c, j, c', j') := by
  obtain ⟨y, ey, -⟩ := ax_in I q e
  exact ⟨y, ey, v ▸ ey⟩
theorem ct_nil {m : cq_W} : cq_Fr m h h := ⟨Nat.le_refl _, fun _ _ => rfl, fun _ _ _ _ => rfl⟩
end OPB
end
section
/-! CANDIDATE, on both sides -/
theorem ca_101 {h : am_H} {n p : Int32} {pm d : Nat} {ν : Nat → Int32} (O : am_isO h 40 11 = true) (v13 : h.2.2.2 40 13 = .int n) (v12 : h.2.2.2 40 12 = .ref 74) (A : 74 < h.1 ∧ h.2.2.1 74 = (1, 5, 14)) (n14 : n.toInt ≤ 14) (C : ∀ c : Nat, (c : Int) < n.toInt → ∃ s, h.2.2.2 74 c = .ref s ∧ am_isO h s 1 = true ∧ h.2.2.2 s 0 = .int (ν c)) : ∀ (k : Nat) (c : Int32), 0 ≤ c.toInt → c.toInt ≤ n.toInt → n.toInt - c.toInt ≤ k →
    ((∃ j : Nat, c.toInt ≤ j ∧ (j : Int) < n.toInt ∧ ν j = p) → am_ev d 101 15 [.ref 40, .int p, .ref pm, .int c] [] h (some (ax_m (-4)), h)) ∧ (∀ x, (∀ j : Nat, c.toInt ≤ j → (j : Int) < n.toInt → ν j ≠ p) → am_ev d 101 45 [.ref 40, .int p, .ref pm, .int n] [] h x → am_ev d 101 15 [.ref 40, .int p, .ref pm, .int c] [] h x) := by
  intro k
  induction k with
  | zero =>
    intro c c0 c1 ck
    have e : c = n := Int32.toInt_inj.1 (by omega)
    subst e
    have le : c ≤ c := Int32.le_iff_toInt_le.2 (Int.le_refl _)
    refine ⟨fun ⟨j, j1, j2, _⟩ => by omega, fun x _ q => ?_⟩
    refine am_ev.step (pc' := 16) rfl rfl ?_
    refine am_ev.step (pc' := 17) rfl rfl ?_
    refine ax_gf (p' := 20) rfl rfl O v13 ?_
    refine ax_c_ge_T (p' := 45) rfl rfl le ?_
    exact q
  | succ k ih =>
    intro c c0 c1 ck
    by_cases hc : n ≤ c
    · have hc' := Int32.le_iff_toInt_le.1 hc
      have e : c = n := Int32.toInt_inj.1 (by omega)
      subst e
      refine ⟨fun ⟨j, j1, j2, _⟩ => by omega, fun x _ q => ?_⟩
      refine am_ev.step (pc' := 16) rfl rfl ?_
      refine am_ev.step (pc' := 17) rfl rfl ?_
      refine ax_gf (p' := 20) rfl rfl O v13 ?_
      refine ax_c_ge_T (p' := 45) rfl rfl hc ?_
      exact q
    · have hc' : c.toInt < n.toInt := by
        have := mt Int32.le_iff_toInt_le.2 hc
        omega
      obtain ⟨s, a1, a2, a3⟩ := C c.toInt.toNat (by omega)
      have rd : am_rd h 74 c (fun c => Nat.ble 4 c && am_isA c) = some (.ref s) := by
        rw [ax_rdv A.1 A.2 (by decide) (by decide +kernel) c0 (by omega), a1]
      by_cases hp : ν c.toInt.toNat = p
      · refine ⟨fun _ => ?_, fun x hn q => absurd hp (hn c.toInt.toNat (by omega) (by omega))⟩
        refine am_ev.step (pc' := 16) rfl rfl ?_
        refine am_ev.step (pc' := 17) rfl rfl ?_
        refine ax_gf (p' := 20) rfl rfl O v13 ?_
        refine ax_c_ge_N (p' := 23) rfl rfl hc ?_
        refine am_ev.step (pc' := 24) rfl rfl ?_
        refine ax_gf (p' := 27) rfl rfl O v12 ?_
        refine am_ev.step (pc' := 28) rfl rfl ?_
        refine ax_aaload (p' := 29) rfl rfl rd ?_
        refine ax_gf (p' := 32) rfl rfl a2 a3 ?_
        refine am_ev.step (pc' := 33) rfl rfl ?_
        refine ax_c_ne_N (p' := 36) rfl rfl hp ?_
        refine am_ev.step (pc' := 38) rfl rfl ?_
        exact am_ev.reti rfl rfl rfl
      · have e1 := ax_1 (c := c) (by omega)
        obtain ⟨i1, i2⟩ := ih (c + Int32.ofInt 1) (by omega) (by omega) (by omega)
        have stp : ∀ x, am_ev d 101 15 [.ref 40, .int p, .ref pm, .int (c + Int32.ofInt 1)] [] h x → am_ev d 101 15 [.ref 40, .int p, .ref pm, .int c] [] h x := fun x q => by
          refine am_ev.step (pc' := 16) rfl rfl ?_
          refine am_ev.step (pc' := 17) rfl rfl ?_
          refine ax_gf (p' := 20) rfl rfl O v13 ?_
          refine ax_c_ge_N (p' := 23) rfl rfl hc ?_
          refine am_ev.step (pc' := 24) rfl rfl ?_
          refine ax_gf (p' := 27) rfl rfl O v12 ?_
          refine am_ev.step (pc' := 28) rfl rfl ?_
          refine ax_aaload (p' := 29) rfl rfl rd ?_
          refine ax_gf (p' := 32) rfl rfl a2 a3 ?_
          refine am_ev.step (pc' := 33) rfl rfl ?_
          refine ax_c_ne_T (p' := 39) rfl rfl hp ?_
          refine am_ev.step (pc' := 42) rfl rfl ?_
          refine am_ev.step (pc' := 15) rfl rfl ?_
          exact q
        refine ⟨fun ⟨j, j1, j2, j3⟩ => stp _ (i1 ⟨j, ?_, j2, j3⟩), fun x hn q => stp _ (i2 x (fun j j1 j2 => hn j (by omega) j2) q)⟩
        by_cases ej : (j : Int) = c.toInt
        · have : c.toInt.toNat = j := by omega
          rw [this] at hp
          exact absurd j3 hp
        · omega
theorem ca_225 {h : am_H} {n p : Int32} {d : Nat} {ν : Nat → Int32} (O : am_isO h 78 13 = true) (v53 : h.2.2.2 78 53 = .int n) (v56 : h.2.2.2 78 56 = .ref 117) (A : 117 < h.1 ∧ h.2.2.1 117 = (1, 0, 14)) (n14 : n.toInt ≤ 14) (C : ∀ c : Nat, (c : Int) < n.toInt → h.2.2.2 117 c = .int (ν c)) : ∀ (k : Nat) (c : Int32), 0 ≤ c.toInt → c.toInt ≤ n.toInt → n.toInt - c.toInt ≤ k →
    ((∃ j : Nat, c.toInt ≤ j ∧ (j : Int) < n.toInt ∧ ν j = p) → am_ev d 225 13 [.ref 78, .int p, .int c] [] h (some (ax_m (-4)), h)) ∧ (∀ x, (∀ j : Nat, c.toInt ≤ j → (j : Int) < n.toInt → ν j ≠ p) → am_ev d 225 40 [.ref 78, .int p, .int n] [] h x → am_ev d 225 13 [.ref 78, .int p, .int c] [] h x) := by
  intro k
  induction k with
  | zero =>
    intro c c0 c1 ck
    have e : c = n := Int32.toInt_inj.1 (by omega)
    subst e
    have le : c ≤ c := Int32.le_iff_toInt_le.2 (Int.le_refl _)
    refine ⟨fun ⟨j, j1, j2, _⟩ => by omega, fun x _ q => ?_⟩
    refine am_ev.step (pc' := 14) rfl rfl ?_
    refine am_ev.step (pc' := 15) rfl rfl ?_
    refine ax_gf (p' := 18) rfl rfl O v53 ?_
    refine ax_c_ge_T (p' := 40) rfl rfl le ?_
    exact q
  | succ k ih =>
    intro c c0 c1 ck
    by_cases hc : n ≤ c
    · have hc' := Int32.le_iff_toInt_le.1 hc
      have e : c = n := Int32.toInt_inj.1 (by omega)
      subst e
      refine ⟨fun ⟨j, j1, j2, _⟩ => by omega, fun x _ q => ?_⟩
      refine am_ev.step (pc' := 14) rfl rfl ?_
      refine am_ev.step (pc' := 15) rfl rfl ?_
      refine ax_gf (p' := 18) rfl rfl O v53 ?_
      refine ax_c_ge_T (p' := 40) rfl rfl hc ?_
      exact q
    · have hc' : c.toInt < n.toInt := by
        have := mt Int32.le_iff_toInt_le.2 hc
        omega
      have rd : am_rd h 117 c (fun c => Nat.beq c 0) = some (.int (ν c.toInt.toNat)) := by
        rw [ax_rdv A.1 A.2 (by decide) (by decide) c0 (by omega), C _ (by omega)]
      by_cases hp : ν c.toInt.toNat = p
      · refine ⟨fun _ => ?_, fun x hn q => absurd hp (hn c.toInt.toNat (by omega) (by omega))⟩
        refine am_ev.step (pc' := 14) rfl rfl ?_
        refine am_ev.step (pc' := 15) rfl rfl ?_
        refine ax_gf (p' := 18) rfl rfl O v53 ?_
        refine ax_c_ge_N (p' := 21) rfl rfl hc ?_
        refine am_ev.step (pc' := 22) rfl rfl ?_
        refine ax_gf (p' := 25) rfl rfl O v56 ?_
        refine am_ev.step (pc' := 26) rfl rfl ?_
        refine ax_iaload (p' := 27) rfl rfl rd ?_
        refine am_ev.step (pc' := 28) rfl rfl ?_
        refine ax_c_ne_N (p' := 31) rfl rfl hp ?_
        refine am_ev.step (pc' := 33) rfl rfl ?_
        exact am_ev.reti rfl rfl rfl
      · have e1 := ax_1 (c := c) (by omega)
        obtain ⟨i1, i2⟩ := ih (c + Int32.ofInt 1) (by omega) (by omega) (by omega)
        have stp : ∀ x, am_ev d 225 13 [.ref 78, .int p, .int (c + Int32.ofInt 1)] [] h x → am_ev d 225 13 [.ref 78, .int p, .int c] [] h x := fun x q => by
          refine am_ev.step (pc' := 14) rfl rfl ?_
          refine am_ev.step (pc' := 15) rfl rfl ?_
          refine ax_gf (p' := 18) rfl rfl O v53 ?_
          refine ax_c_ge_N (p' := 21) rfl rfl hc ?_
          refine am_ev.step (pc' := 22) rfl rfl ?_
          refine ax_gf (p' := 25) rfl rfl O v56 ?_
          refine am_ev.step (pc' := 26) rfl rfl ?_
          refine ax_iaload (p' := 27) rfl rfl rd ?_
          refine am_ev.step (pc' := 28) rfl rfl ?_
          refine ax_c_ne_T (p' := 34) rfl rfl hp ?_
          refine am_ev.step (pc' := 37) rfl rfl ?_
          refine am_ev.step (pc' := 13) rfl rfl ?_
          exact q
        refine ⟨fun ⟨j, j1, j2, j3⟩ => stp _ (i1 ⟨j, ?_, j2, j3⟩), fun x hn q => stp _ (i2 x (fun j j1 j2 => hn j (by omega) j2) q)⟩
        by_cases ej : (j : Int) = c.toInt
        · have : c.toInt.toNat = j := by omega
          rw [this] at hp
          exact absurd j3 hp
        · omega
section CAN
variable {h : am_H} {d : Nat} {p m n : Int32}
theorem in_165t {a b c : Int64} (q : b.toInt ≤ a.toInt ∧ a.toInt ≤ c.toInt) : am_ev d 165 0 (am_ent [.long a, .long b, .long c] 6) [] h (some (.int (Int32.ofInt 1)), h) := by
  have c1 : ¬ lg_cmp a b < 0 := fun z => by
    have := (cq_cmp_s a b).1.1 (Int32.lt_iff_toInt_lt.1 z)
    omega
  have c2 : ¬ 0 < lg_cmp a c := fun z => by
    have z := Int32.lt_iff_toInt_lt.1 z
    rw [show (0 : Int32).toInt = 0 by decide] at z
    have k1 := (cq_cmp_s a c).1
    have k2 := (cq_cmp_s a c).2
    omega
  refine am_ev.step (pc' := 1) rfl rfl ?_
  refine am_ev.step (pc' := 2) rfl rfl ?_
  refine am_ev.step (pc' := 3) rfl rfl ?_
  refine ax_z_lt_N (p' := 6) rfl rfl c1 ?_
  refine am_ev.step (pc' := 7) rfl rfl ?_
  refine am_ev.step (pc' := 9) rfl rfl ?_
  refine am_ev.step (pc' := 10) rfl rfl ?_
  refine ax_z_gt_N (p' := 13) rfl rfl c2 ?_
  refine am_ev.step (pc' := 14) rfl rfl ?_
  refine am_ev.step (pc' := 18) rfl rfl ?_
  exact am_ev.reti rfl rfl rfl
theorem in_165f {a b c : Int64} (q : ¬ (b.toInt ≤ a.toInt ∧ a.toInt ≤ c.toInt)) : am_ev d 165 0 (am_ent [.long a, .long b, .long c] 6) [] h (some (.int (Int32.ofInt 0)), h) := by
  by_cases c1 : lg_cmp a b < 0
  · refine am_ev.step (pc' := 1) rfl rfl ?_
    refine am_ev.step (pc' := 2) rfl rfl ?_
    refine am_ev.step (pc' := 3) rfl rfl ?_
    refine ax_z_lt_T (p' := 17) rfl rfl c1 ?_
    refine am_ev.step (pc' := 18) rfl rfl ?_
    exact am_ev.reti rfl rfl rfl
  · have c2 : 0 < lg_cmp a c := Int32.lt_iff_toInt_lt.2 (by
      rw [show (0 : Int32).toInt = 0 by decide]
      have k0 := mt Int32.lt_iff_toInt_lt.2 c1
      rw [show (0 : Int32).toInt = 0 by decide] at k0
      have k1 := (cq_cmp_s a c).1
      have k2 := (cq_cmp_s a c).2
      have k3 := (cq_cmp_s a b).1
      omega)
    refine am_ev.step (pc' := 1) rfl rfl ?_
    refine am_ev.step (pc' := 2) rfl rfl ?_
    refine am_ev.step (pc' := 3) rfl rfl ?_
    refine ax_z_lt_N (p' := 6) rfl rfl c1 ?_
    refine am_ev.step (pc' := 7) rfl rfl ?_
    refine am_ev.step (pc' := 9) rfl rfl ?_
    refine am_ev.step (pc' := 10) rfl rfl ?_
    refine ax_z_gt_T (p' := 17) rfl rfl c2 ?_
    refine am_ev.step (pc' := 18) rfl rfl ?_
    exact am_ev.reti rfl rfl rfl
/-- isPoem -/
theorem po_188 (O : am_isO h 78 13 = true) (v : h.2.2.2 78 16 = .int m) (hm : 0 ≤ m.toInt ∧ m.toInt ≤ 40) : (0 ≤ p.toInt ∧ p.toInt < m.toInt → am_ev (d + 1) 188 0 (am_ent [.ref 78, .int p] 2) [] h (some (.int (Int32.ofInt 1)), h)) ∧ (¬ (0 ≤ p.toInt ∧ p.toInt < m.toInt) → am_ev (d + 1) 188 0 (am_ent [.ref 78, .int p] 2) [] h (some (.int (Int32.ofInt 0)), h)) := by
  have e0 : p.toInt64.toInt = p.toInt := Int32.toInt_toInt64 p
  have e1 : (m.toInt64 - Int64.ofNat 1).toInt = m.toInt - 1 := by
    rw [Int64.toInt_sub, Int32.toInt_toInt64, show (Int64.ofNat 1).toInt = 1 by decide, Int.bmod_eq_of_le (by omega) (by omega)]
  have e2 : (Int64.ofNat 0).toInt = 0 := by decide
  refine ⟨fun q => ?_, fun q => ?_⟩
  · have H := in_165t (h := h) (d := d) (a := p.toInt64) (b := Int64.ofNat 0) (c := m.toInt64 - Int64.ofNat 1) (by omega)
    refine am_ev.step (pc' := 1) rfl rfl ?_
    refine am_ev.step (pc' := 2) rfl rfl ?_
    refine am_ev.step (pc' := 3) rfl rfl ?_
    refine am_ev.step (pc' := 4) rfl rfl ?_
    refine ax_gf (p' := 7) rfl rfl O v ?_
    refine am_ev.step (pc' := 8) rfl rfl ?_
    refine am_ev.step (pc' := 9) rfl rfl ?_
    refine am_ev.step (pc' := 10) rfl rfl ?_
    refine ax_call (z := 165) (p' := 13) (as := [_, _, _]) rfl (Or.inl ⟨_, rfl⟩) rfl rfl rfl rfl rfl rfl rfl rfl H rfl ?_
    exact am_ev.reti rfl rfl rfl
  · have H := in_165f (h := h) (d := d) (a := p.toInt64) (b := Int64.ofNat 0) (c := m.toInt64 - Int64.ofNat 1) (by omega)
    refine am_ev.step (pc' := 1) rfl rfl ?_
    refine am_ev.step (pc' := 2) rfl rfl ?_
    refine am_ev.step (pc' := 3) rfl rfl ?_
    refine am_ev.step (pc' := 4) rfl rfl ?_
    refine ax_gf (p' := 7) rfl rfl O v ?_
    refine am_ev.step (pc' := 8) rfl rfl ?_
    refine am_ev.step (pc' := 9) rfl rfl ?_
    refine am_ev.step (pc' := 10) rfl rfl ?_
    refine ax_call (z := 165) (p' := 13) (as := [_, _, _]) rfl (Or.inl ⟨_, rfl⟩) rfl rfl rfl rfl rfl rfl rfl rfl H rfl ?_
    exact am_ev.reti rfl rfl rfl
/-- poemAt -/
theorem po_42 (I : cq_Inv none h) (v : h.2.2.2 40 8 = .int m) (hm : 0 ≤ m.toInt ∧ m.toInt ≤ 40) : (0 ≤ p.toInt ∧ p.toInt < m.toInt → am_ev d 42 0 (am_ent [.ref 40, .int p] 2) [] h (some (h.2.2.2 73 p.toInt.toNat), h)) ∧ (¬ (0 ≤ p.toInt ∧ p.toInt < m.toInt) → am_ev d 42 0 (am_ent [.ref 40, .int p] 2) [] h (some .null, h)) := by
  have O := ax_o I (c := 40) (k := 11) (by decide +kernel)
  have v7 := ax_rf I (c := 40) (j := 7) (k := 73) (by decide +kernel) (by decide +kernel)
  have A := ax_ar I (c := 73) (tc := 10) (n := 40) (by decide) (by decide +kernel)
  have z0 : (0 : Int32).toInt = 0 := by decide
  refine ⟨fun q => ?_, fun q => ?_⟩
  · have c1 : ¬ p < 0 := fun z => by
      have := Int32.lt_iff_toInt_lt.1 z
      omega
    have c2 : p < m := Int32.lt_iff_toInt_lt.2 q.2
    have t := ax_ty I (c := 73) (j := p.toInt.toNat) (t := (5, 0, 0, 6, 0, 0)) ?_ ?_
    · rcases t with t | ⟨s, t, -⟩
      · have rd : am_rd h 73 p (fun c => Nat.ble 4 c && am_isA c) = some .null := by
          rw [ax_rdv A.1 A.2 (by decide) (by decide +kernel) q.1 (by omega), t]
        rw [t]
        refine am_ev.step (pc' := 1) rfl rfl ?_
        refine ax_z_lt_N (p' := 4) rfl rfl c1 ?_
        refine am_ev.step (pc' := 5) rfl rfl ?_
        refine am_ev.step (pc' := 6) rfl rfl ?_
        refine ax_gf (p' := 9) rfl rfl O v ?_
        refine ax_c_lt_T (p' := 16) rfl rfl c2 ?_
        refine am_ev.step (pc' := 17) rfl rfl ?_
        refine ax_gf (p' := 20) rfl rfl O v7 ?_
        refine am_ev.step (pc' := 21) rfl rfl ?_
        refine ax_aaload (p' := 22) rfl rfl rd ?_
        first | exact am_ev.reta rfl rfl | exact am_ev.retn rfl rfl
      · have rd : am_rd h 73 p (fun c => Nat.ble 4 c && am_isA c) = some (.ref s) := by
          rw [ax_rdv A.1 A.2 (by decide) (by decide +kernel) q.1 (by omega), t]
        rw [t]
        refine am_ev.step (pc' := 1) rfl rfl ?_
        refine ax_z_lt_N (p' := 4) rfl rfl c1 ?_
        refine am_ev.step (pc' := 5) rfl rfl ?_
        refine am_ev.step (pc' := 6) rfl rfl ?_
        refine ax_gf (p' := 9) rfl rfl O v ?_
        refine ax_c_lt_T (p' := 16) rfl rfl c2 ?_
        refine am_ev.step (pc' := 17) rfl rfl ?_
        refine ax_gf (p' := 20) rfl rfl O v7 ?_
        refine am_ev.step (pc' := 21) rfl rfl ?_
        refine ax_aaload (p' := 22) rfl rfl rd ?_
        first | exact am_ev.reta rfl rfl | exact am_ev.retn rfl rfl
    · have : p.toInt.toNat < 40 := by omega
      rw [show Nat.blt p.toInt.toNat (cq_fix 73).2.2 = true from Nat.ble_eq_true_of_le this]
      decide +kernel
    · unfold cq_ty
      rw [show cq_isA 73 = true by decide +kernel, show ((Nat.beq 73 81 || Nat.beq 73 83) && Nat.beq p.toInt.toNat 1) = false from rfl]
      show cq_ar 73 = _
      decide +kernel
  · by_cases c1 : p < 0
    · refine am_ev.step (pc' := 1) rfl rfl ?_
      refine ax_z_lt_T (p' := 12) rfl rfl c1 ?_
      refine am_ev.step (pc' := 13) rfl rfl ?_
      refine am_ev.step (pc' := 22) rfl rfl ?_
      first | exact am_ev.reta rfl rfl | exact am_ev.retn rfl rfl
    · have c2 : ¬ p < m := fun z => by
        have k1 := Int32.lt_iff_toInt_lt.1 z
        have k2 := mt Int32.lt_iff_toInt_lt.2 c1
        omega
      refine am_ev.step (pc' := 1) rfl rfl ?_
      refine ax_z_lt_N (p' := 4) rfl rfl c1 ?_
      refine am_ev.step (pc' := 5) rfl rfl ?_
      refine am_ev.step (pc' := 6) rfl rfl ?_
      refine ax_gf (p' := 9) rfl rfl O v ?_
      refine ax_c_lt_N (p' := 12) rfl rfl c2 ?_
      refine am_ev.step (pc' := 13) rfl rfl ?_
      refine am_ev.step (pc' := 22) rfl rfl ?_
      first | exact am_ev.reta rfl rfl | exact am_ev.retn rfl rfl
/-- Candidate's constructor -/
theorem co_102 {a pm : Nat} (O : am_isO h a 1 = true) : ∃ g : am_H, am_ev (d + 1) 102 0 (am_ent [.ref a, .int p, .ref pm] 3) [] h (none, g) ∧ g.1 = h.1 ∧ g.2.2.1 = h.2.2.1 ∧ g.2.2.2 a 0 = .int p ∧ ∀ c j, c ≠ a → g.2.2.2 c j = h.2.2.2 c j := by
  refine ⟨am_put (am_put (am_put (am_put (am_put (am_put (am_put (am_put h a 2 (.int (Int32.ofInt 0))) a 3 (.int (Int32.ofInt (-1)))) a 4 .null) a 5 (.int (Int32.ofInt (-1)))) a 6 (.int (Int32.ofInt 0))) a 7 (.int (Int32.ofInt 0))) a 0 (.int p)) a 1 (.ref pm), ?_, rfl, rfl, ax_put_o (Or.inr (by decide)) (ax_put_s _ _ _), fun c j hc => ?_⟩
  · refine am_ev.step (pc' := 1) rfl rfl ?_
    refine ax_obj (p' := 4) rfl ?_ rfl rfl rfl ?_
    · exact Or.inr (Or.inr ⟨_, rfl⟩)
    refine am_ev.step (pc' := 5) rfl rfl ?_
    refine am_ev.step (pc' := 6) rfl rfl ?_
    refine ax_pf (p' := 9) rfl rfl O rfl ?_
    refine am_ev.step (pc' := 10) rfl rfl ?_
    refine am_ev.step (pc' := 11) rfl rfl ?_
    refine ax_pf (p' := 14) rfl rfl O rfl ?_
    refine am_ev.step (pc' := 15) rfl rfl ?_
    refine am_ev.step (pc' := 16) rfl rfl ?_
    refine ax_pf (p' := 19) rfl rfl O rfl ?_
    refine am_ev.step (pc' := 20) rfl rfl ?_
    refine am_ev.step (pc' := 21) rfl rfl ?_
    refine ax_pf (p' := 24) rfl rfl O rfl ?_
    refine am_ev.step (pc' := 25) rfl rfl ?_
    refine am_ev.step (pc' := 26) rfl rfl ?_
    refine ax_pf (p' := 29) rfl rfl O rfl ?_
    refine am_ev.step (pc' := 30) rfl rfl ?_
    refine am_ev.step (pc' := 31) rfl rfl ?_
    refine ax_pf (p' := 34) rfl rfl O rfl ?_
    refine am_ev.step (pc' := 35) rfl rfl ?_
    refine am_ev.step (pc' := 36) rfl rfl ?_
    refine ax_pf (p' := 39) rfl rfl O rfl ?_
    refine am_ev.step (pc' := 40) rfl rfl ?_
    refine am_ev.step (pc' := 41) rfl rfl ?_
    refine ax_pf (p' := 44) rfl rfl O rfl ?_
    exact am_ev.retv rfl rfl
  · refine ax_put_o (Or.inl hc) (ax_put_o (Or.inl hc) (ax_put_o (Or.inl hc) (ax_put_o (Or.inl hc) (ax_put_o (Or.inl hc) (ax_put_o (Or.inl hc) (ax_put_o (Or.inl hc) (ax_put_o (Or.inl hc) rfl)))))))
/-- the class's last part: one more -/
theorem ca_101d {pm : Nat} (I : cq_Inv none h) (v13 : h.2.2.2 40 13 = .int n) (hn : 0 ≤ n.toInt ∧ n.toInt < 14) : ∃ g : am_H, am_ev (d + 2) 101 45 [.ref 40, .int p, .ref pm, .int n] [] h (some (.int (n + Int32.ofInt 1 - Int32.ofInt 1)), g) ∧ g.2.2.2 40 13 = .int (n + Int32.ofInt 1) ∧ g.2.2.2 74 n.toInt.toNat = .ref h.1 ∧ g.2.2.2 h.1 0 = .int p ∧ ∀ c, c ≠ n.toInt.toNat → g.2.2.2 74 c = h.2.2.2 74 c := by
  have lo := I.lo
  have O := ax_o I (c := 40) (k := 11) (by decide +kernel)
  have O63 := ax_o I (c := 63) (k := 2) (by decide +kernel)
  have O72 := ax_o I (c := 72) (k := 10) (by decide +kernel)
  have v12 := ax_rf I (c := 40) (j := 12) (k := 74) (by decide +kernel) (by decide +kernel)
  have v4 := ax_rf I (c := 40) (j := 4) (k := 63) (by decide +kernel) (by decide +kernel)
  have v6 := ax_rf I (c := 40) (j := 6) (k := 72) (by decide +kernel) (by decide +kernel)
  have A := ax_ar I (c := 74) (tc := 5) (n := 14) (by decide) (by decide +kernel)
  have lt : n < (Int8.ofInt 14).toInt32 := Int32.lt_iff_toInt_lt.2 (by
    rw [show (Int8.ofInt 14).toInt32.toInt = 14 by decide]
    exact hn.2)
  obtain ⟨k, hk⟩ : ∃ k : am_H, k = am_mk h (0, 1, am_N 1) (am_N 1) (fun j => defaultValue (am_ty 1 j)) := ⟨_, rfl⟩
  have k1 : k.1 = h.1 + 1 := by rw [hk]; rfl
  have ks : ∀ c, c ≠ h.1 → k.2.2.1 c = h.2.2.1 c := fun c hc => by
    rw [hk]
    exact if_neg hc
  have ka : k.2.2.1 h.1 = (0, 1, am_N 1) := by
    rw [hk]
    exact if_pos rfl
  have kv : ∀ c j, c ≠ h.1 → k.2.2.2 c j = h.2.2.2 c j := fun c j hc => by
    rw [hk]
    exact if_neg hc
  have Ok : am_isO k h.1 1 = true := by
    unfold am_isO
    rw [ka, k1, show Nat.blt h.1 (h.1 + 1) = true from Nat.ble_eq_true_of_le (Nat.le_refl _)]
    rfl
  obtain ⟨g, ev, g1, gs, ga, gv⟩ := co_102 (d := d) (p := p) (pm := pm) Ok
  have tr : ∀ c : Nat, c < 130 → c ≠ h.1 := fun c hc => by omega
  have isO : ∀ c x : Nat, c < 130 → am_isO h c x = true → am_isO g c x = true := fun c x hc q => by
    unfold am_isO at q ⊢
    have q1 := (Bool.and_eq_true _ _ ▸ q)
    have q2 := (Bool.and_eq_true _ _ ▸ q1.1)
    rw [g1, gs, ks c (tr c hc), k1, q2.2, q1.2, show Nat.blt c (h.1 + 1) = true from Nat.ble_eq_true_of_le (by omega)]
    rfl
  have val : ∀ c j, c < 130 → g.2.2.2 c j = h.2.2.2 c j := fun c j hc => by rw [gv c j (tr c hc), kv c j (tr c hc)]
  have sa : g.2.2.1 h.1 = (0, 1, am_N 1) := by rw [gs, ka]
  have Oa : am_isO g h.1 1 = true := by
    unfold am_isO
    rw [sa, g1, k1, show Nat.blt h.1 (h.1 + 1) = true from Nat.ble_eq_true_of_le (Nat.le_refl _)]
    rfl
  have WR : am_isO g h.1 (g.2.2.1 h.1).2.1 = true ∧ am_isA ((g.2.2.1 h.1).2.1 + 4) = true ∧ am_wr g 74 n ((g.2.2.1 h.1).2.1 + 4) (.ref h.1) = some (am_put g 74 n.toInt.toNat (.ref h.1)) := by
    rw [sa]
    exact ⟨Oa, by decide +kernel, ax_wrv (by rw [g1, k1]; omega) (by rw [gs, ks 74 (tr 74 (by decide)), A.2]) hn.1 (by omega)⟩
  have Og := isO 40 11 (by decide) O
  have Og63 := isO 63 2 (by decide) O63
  have Og72 := isO 72 10 (by decide) O72
  obtain ⟨g2, e2⟩ : ∃ g2 : am_H, g2 = am_put g 74 n.toInt.toNat (.ref h.1) := ⟨_, rfl⟩
  rw [← e2] at WR
  have f13 : g2.2.2.2 40 13 = .int n := by
    rw [e2]
    exact ax_put_o (Or.inl (by decide)) (by rw [val 40 13 (by decide), v13])
  have f4 : g2.2.2.2 40 4 = .ref 63 := by
    rw [e2]
    exact ax_put_o (Or.inl (by decide)) (by rw [val 40 4 (by decide), v4])
  have f6 : g2.2.2.2 40 6 = .ref 72 := by
    rw [e2]
    exact ax_put_o (Or.inl (by decide)) (by rw [val 40 6 (by decide), v6])
  have O2 : am_isO g2 40 11 = true := by rw [e2]; exact Og
  have O263 : am_isO g2 63 2 = true := by rw [e2]; exact Og63
  have O272 : am_isO g2 72 10 = true := by rw [e2]; exact Og72
  refine ⟨am_put (am_put (am_put g2 40 13 (.int (n + Int32.ofInt 1))) 63 0 (.int (Int32.ofInt 0))) 72 0 (.int (Int32.ofInt 0)), ?_, ?_, ?_, ?_, fun c hc => ?_⟩
  · refine am_ev.step (pc' := 46) rfl rfl ?_
    refine ax_gf (p' := 49) rfl rfl O v13 ?_
    refine am_ev.step (pc' := 51) rfl rfl ?_
    refine ax_c_lt_T (p' := 57) rfl rfl lt ?_
    refine am_ev.step (pc' := 58) rfl rfl ?_
    refine ax_gf (p' := 61) rfl rfl O v12 ?_
    refine am_ev.step (pc' := 62) rfl rfl ?_
    refine ax_gf (p' := 65) rfl rfl O v13 ?_
    refine am_ev.step (pc' := 68) rfl rfl ?_
    refine am_ev.step (pc' := 69) rfl rfl ?_
    refine am_ev.step (pc' := 70) rfl rfl ?_
    refine am_ev.step (pc' := 71) rfl rfl ?_
    refine ax_call (z := 102) (p' := 74) (as := [_, _, _]) rfl (Or.inr (Or.inr ⟨_, rfl⟩)) rfl rfl rfl rfl rfl rfl rfl rfl (by rw [← hk]; exact ev) rfl ?_
    refine ax_aastore (p' := 75) rfl rfl WR ?_
    refine am_ev.step (pc' := 76) rfl rfl ?_
    refine am_ev.step (pc' := 77) rfl rfl ?_
    refine ax_gf (p' := 80) rfl rfl O2 f13 ?_
    refine am_ev.step (pc' := 81) rfl rfl ?_
    refine am_ev.step (pc' := 82) rfl rfl ?_
    refine ax_pf (p' := 85) rfl rfl O2 rfl ?_
    refine am_ev.step (pc' := 86) rfl rfl ?_
    refine ax_gf (p' := 89) rfl rfl O2 (ax_put_o (Or.inr (by decide)) f4) ?_
    refine am_ev.step (pc' := 90) rfl rfl ?_
    refine ax_pf (p' := 93) rfl rfl O263 rfl ?_
    refine am_ev.step (pc' := 94) rfl rfl ?_
    refine ax_gf (p' := 97) rfl rfl O2 (ax_put_o (Or.inl (by decide)) (ax_put_o (Or.inr (by decide)) f6)) ?_
    refine am_ev.step (pc' := 98) rfl rfl ?_
    refine ax_pf (p' := 101) rfl rfl O272 rfl ?_
    refine am_ev.step (pc' := 102) rfl rfl ?_
    refine ax_gf (p' := 105) rfl rfl O2 (ax_put_o (Or.inl (by decide)) (ax_put_o (Or.inl (by decide)) (ax_put_s _ _ _))) ?_
    refine am_ev.step (pc' := 106) rfl rfl ?_
    refine am_ev.step (pc' := 107) rfl rfl ?_
    exact am_ev.reti rfl rfl rfl
  · exact ax_put_o (Or.inl (by decide)) (ax_put_o (Or.inl (by decide)) (ax_put_s _ _ _))
  · refine ax_put_o (Or.inl (by decide)) (ax_put_o (Or.inl (by decide)) (ax_put_o (Or.inl (by decide)) ?_))
    rw [e2]
    exact ax_put_s _ _ _
  · refine ax_put_o (Or.inl (by omega)) (ax_put_o (Or.inl (by omega)) (ax_put_o (Or.inl (by omega)) ?_))
    rw [e2]
    exact ax_put_o (Or.inl (by omega)) ga
  · refine ax_put_o (Or.inl (by decide)) (ax_put_o (Or.inl (by decide)) (ax_put_o (Or.inl (by decide)) ?_))
    rw [e2]
    exact ax_put_o (Or.inr hc) (val 74 c (by decide))
/-- the reference's last part -/
theorem ca_225d (I : cq_Inv none h) (v53 : h.2.2.2 78 53 = .int n) (hn : 0 ≤ n.toInt ∧ n.toInt < 14) : ∃ g : am_H, am_ev d 225 40 [.ref 78, .int p, .int n] [] h (some (.int (n + Int32.ofInt 1 - Int32.ofInt 1)), g) ∧ g.2.2.2 78 53 = .int (n + Int32.ofInt 1) ∧ g.2.2.2 117 n.toInt.toNat = .int p ∧ ∀ c, c ≠ n.toInt.toNat → g.2.2.2 117 c = h.2.2.2 117 c := by
  have O := ax_o I (c := 78) (k := 13) (by decide +kernel)
  have v56 := ax_rf I (c := 78) (j := 56) (k := 117) (by decide +kernel) (by decide +kernel)
  have A := ax_ar I (c := 117) (tc := 0) (n := 14) (by decide) (by decide +kernel)
  have ne : ¬ n = (Int8.ofInt 14).toInt32 := fun z => by
    rw [z, show (Int8.ofInt 14).toInt32.toInt = 14 by decide] at hn
    omega
  have WR : am_wr h 117 n 0 (.int p) = some (am_put h 117 n.toInt.toNat (.int p)) := ax_wrv A.1 A.2 hn.1 (by omega)
  obtain ⟨g2, e2⟩ : ∃ g2 : am_H, g2 = am_put h 117 n.toInt.toNat (.int p) := ⟨_, rfl⟩
  rw [← e2] at WR
  have f53 : g2.2.2.2 78 53 = .int n := by
    rw [e2]
    exact ax_put_o (Or.inl (by decide)) v53
  have O2 : am_isO g2 78 13 = true := by rw [e2]; exact O
  refine ⟨am_put (am_put (am_put g2 78 53 (.int (n + Int32.ofInt 1))) 78 54 (.int (Int32.ofInt 0))) 78 75 (.int (Int32.ofInt 0)), ?_, ?_, ?_, fun c hc => ?_⟩
  · refine am_ev.step (pc' := 41) rfl rfl ?_
    refine ax_gf (p' := 44) rfl rfl O v53 ?_
    refine am_ev.step (pc' := 46) rfl rfl ?_
    refine ax_c_ne_T (p' := 52) rfl rfl ne ?_
    refine am_ev.step (pc' := 53) rfl rfl ?_
    refine ax_gf (p' := 56) rfl rfl O v56 ?_
    refine am_ev.step (pc' := 57) rfl rfl ?_
    refine ax_gf (p' := 60) rfl rfl O v53 ?_
    refine am_ev.step (pc' := 61) rfl rfl ?_
    refine ax_iastore (p' := 62) rfl rfl WR ?_
    refine am_ev.step (pc' := 63) rfl rfl ?_
    refine am_ev.step (pc' := 64) rfl rfl ?_
    refine ax_gf (p' := 67) rfl rfl O2 f53 ?_
    refine am_ev.step (pc' := 68) rfl rfl ?_
    refine am_ev.step (pc' := 69) rfl rfl ?_
    refine ax_pf (p' := 72) rfl rfl O2 rfl ?_
    refine am_ev.step (pc' := 73) rfl rfl ?_
    refine am_ev.step (pc' := 74) rfl rfl ?_
    refine ax_pf (p' := 77) rfl rfl O2 rfl ?_
    refine am_ev.step (pc' := 78) rfl rfl ?_
    refine am_ev.step (pc' := 79) rfl rfl ?_
    refine ax_pf (p' := 82) rfl rfl O2 rfl ?_
    refine am_ev.step (pc' := 83) rfl rfl ?_
    refine ax_gf (p' := 86) rfl rfl O2 (ax_put_o (Or.inr (by decide)) (ax_put_o (Or.inr (by decide)) (ax_put_s _ _ _))) ?_
    refine am_ev.step (pc' := 87) rfl rfl ?_
    refine am_ev.step (pc' := 88) rfl rfl ?_
    exact am_ev.reti rfl rfl rfl
  · exact ax_put_o (Or.inr (by decide)) (ax_put_o (Or.inr (by decide)) (ax_put_s _ _ _))
  · refine ax_put_o (Or.inl (by decide)) (ax_put_o (Or.inl (by decide)) (ax_put_o (Or.inl (by decide)) ?_))
    rw [e2]
    exact ax_put_s _ _ _
  · refine ax_put_o (Or.inl (by decide)) (ax_put_o (Or.inl (by decide)) (ax_put_o (Or.inl (by decide)) ?_))
    rw [e2]
    exact ax_put_o (Or.inr hc) rfl
end CAN
end
