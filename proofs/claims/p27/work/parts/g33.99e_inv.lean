section
/-! THE START, 4: the heap that the constructors leave -/
def dh_z (D : dh_D) (c i : Nat) : Bool := (dh_ls c D.2.2.1).isSome && (match dh_val D c i with
  | .int x => decide (x.toInt = 0)
  | _ => false)
/-- a value of a place's type; of every place up to n, if so many are meant -/
def dh_ht (D : dh_D) (t : cq_T) (n : Nat) (v : Value) : Bool := match t, v with
  | (0, _), _ => true
  | (1, l, u, _), .int x => decide (l ≤ x.toInt) && decide (x.toInt ≤ u)
  | (2, _), .long _ => true
  | (3, _, _, k, _), .ref a => Nat.beq a k
  | (5, _), .null => true
  | (7, _, _, k, k', _), .ref a => Nat.beq a k || Nat.beq a k'
  | (8, l, u, _), .int x => decide (l ≤ x.toInt) && decide (x.toInt ≤ u) && decide (x.toInt ≤ 0)
  | (9, l, u, _), .int x => decide (l ≤ x.toInt) && decide (x.toInt ≤ u) && decide (x.toInt = 0)
  | (10, l, u, _), .int x => decide (l ≤ x.toInt) && decide (x.toInt ≤ u - n)
  | (11, _, _, _, c, i), .null => dh_z D c i
  | _, _ => false
section CMD
variable {L : Nat} {xs : Nat → Int32} {D : dh_D}
theorem dh_z_ok {c i : Nat} (q : dh_z D c i = true) : cq_n (dh_h L xs D) c i = 0 := by
  have q := (Bool.and_eq_true _ _ ▸ q)
  obtain ⟨sh, hs⟩ := Option.isSome_iff_exists.1 q.1
  unfold cq_n
  rw [dh_val_ok hs]
  have q2 := q.2
  split at q2
  · rename_i x hx
    rw [hx]
    exact of_decide_eq_true q2
  · cases q2
theorem dh_ht_ok {t : cq_T} {n j : Nat} {v : Value} (c0 : cq_n (dh_h L xs D) 40 13 = 0) (hj : j ≤ n) (q : dh_ht D t n v = true) : cq_ht (dh_h L xs D) j t v := by
  unfold dh_ht at q
  split at q
  · trivial
  · have q := (Bool.and_eq_true _ _ ▸ q)
    exact ⟨_, rfl, of_decide_eq_true q.1, of_decide_eq_true q.2⟩
  · exact ⟨_, rfl⟩
  · rename_i k _ a
    exact congrArg Value.ref (am_beq q)
  · exact Or.inl rfl
  · rcases (Bool.or_eq_true _ _ ▸ q) with q | q
    · exact Or.inl (congrArg Value.ref (am_beq q))
    · exact Or.inr (congrArg Value.ref (am_beq q))
  · rename_i l u x0 x
    have q1 := (Bool.and_eq_true _ _ ▸ q)
    have q2 := (Bool.and_eq_true _ _ ▸ q1.1)
    refine ⟨_, rfl, of_decide_eq_true q2.1, of_decide_eq_true q2.2, ?_⟩
    rw [c0, Int.mul_zero]
    exact of_decide_eq_true q1.2
  · have q1 := (Bool.and_eq_true _ _ ▸ q)
    have q2 := (Bool.and_eq_true _ _ ▸ q1.1)
    exact ⟨_, rfl, of_decide_eq_true q2.1, of_decide_eq_true q2.2, Or.inr (of_decide_eq_true q1.2)⟩
  · have q1 := (Bool.and_eq_true _ _ ▸ q)
    have a1 := of_decide_eq_true q1.1
    have a2 := of_decide_eq_true q1.2
    exact ⟨_, rfl, a1, by omega⟩
  · refine Or.inl ⟨rfl, ?_⟩
    rw [dh_z_ok q]
    exact Int.natCast_nonneg j
  · cases q
def dh_cOk (D : dh_D) (c : Nat) : Bool := match dh_ls c D.2.2.1 with
  | none => false
  | some sh => Nat.beq sh.1 (cq_fix c).1 && Nat.beq sh.2.1 (cq_fix c).2.1 && Nat.beq sh.2.2 (cq_fix c).2.2 && (bif Nat.beq sh.1 1 then (dh_ht D (cq_ar c) (sh.2.2 - 1) (am_dv sh.2.1) && ((dh_lk c 1 D.2.2.2).isSome || dh_ht D (cq_ty c 1) 1 (am_dv sh.2.1)) && D.2.2.2.all (fun e => !Nat.beq e.1 c || dh_ht D (cq_ty c e.2.1) e.2.1 e.2.2)) else (List.range sh.2.2).all (fun j => dh_ht D (cq_ty c j) j (dh_val D c j)))
theorem dh_lk_mem {k j : Nat} {v : Value} : ∀ {l : List (Nat × Nat × Value)}, dh_lk k j l = some v → (k, j, v) ∈ l
  | [], h => by cases h
  | e :: r, h => by
    unfold dh_lk at h
    cases hb : Nat.beq e.1 k && Nat.beq e.2.1 j with
    | true =>
      rw [hb] at h
      have h1 := (Bool.and_eq_true _ _ ▸ hb)
      rw [← am_beq h1.1, ← am_beq h1.2, ← Option.some.inj h]
      exact List.mem_cons_self
    | false =>
      rw [hb] at h
      exact List.mem_cons_of_mem _ (dh_lk_mem h)
theorem dh_cOk_ok {c : Nat} (c0 : cq_n (dh_h L xs D) 40 13 = 0) (q : dh_cOk D c = true) : (dh_h L xs D).2.2.1 c = cq_fix c ∧ ∀ j, j < (cq_fix c).2.2 → cq_ht (dh_h L xs D) j (cq_ty c j) ((dh_h L xs D).2.2.2 c j) := by
  unfold dh_cOk at q
  split at q
  · cases q
  · rename_i sh hs
    have b1 := (Bool.and_eq_true _ _ ▸ q)
    have b2 := (Bool.and_eq_true _ _ ▸ b1.1)
    have b3 := (Bool.and_eq_true _ _ ▸ b2.1)
    have es : sh = cq_fix c := Prod.ext (am_beq b3.1) (Prod.ext (am_beq b3.2) (am_beq b2.2))
    have e1 : (dh_h L xs D).2.2.1 c = sh := by
      show (match dh_ls c D.2.2.1 with
        | some s => s
        | none => am_sh0 L c) = _
      rw [hs]
    rw [e1]
    refine ⟨es, fun j hj => ?_⟩
    rw [dh_val_ok hs]
    rw [← es] at hj
    have q2 := b1.2
    rw [cond_eq_ite] at q2
    split at q2
    · rename_i t1
      have d1 := (Bool.and_eq_true _ _ ▸ q2)
      have d2 := (Bool.and_eq_true _ _ ▸ d1.1)
      cases hl : dh_lk c j D.2.2.2 with
      | some v =>
        have z := List.all_eq_true.1 d1.2 _ (dh_lk_mem hl)
        dsimp only at z
        rw [Nat.beq_refl] at z
        have ev : dh_val D c j = v := by unfold dh_val; rw [hl]
        rw [ev]
        exact dh_ht_ok c0 (Nat.le_refl _) z
      | none =>
        have ev : dh_val D c j = am_dv sh.2.1 := by
          unfold dh_val
          rw [hl, hs]
          show dh_df sh j = _
          unfold dh_df
          rw [am_beq t1]
          rfl
        rw [ev]
        cases hz : (Nat.beq c 81 || Nat.beq c 83) && Nat.beq j 1 with
        | false =>
          have ety : cq_ty c j = cq_ar c := by
            unfold cq_ty cq_isA
            rw [← es, t1]
            simp only [cond_true]
            rw [hz]
            rfl
          rw [ety]
          exact dh_ht_ok c0 (by omega) d2.1
        | true =>
          have hz := (Bool.and_eq_true _ _ ▸ hz)
          have j1 := am_beq hz.2
          subst j1
          rcases (Bool.or_eq_true _ _ ▸ d2.2) with z | z
          · rw [hl] at z
            cases z
          · exact dh_ht_ok c0 (Nat.le_refl _) z
    · exact dh_ht_ok c0 (Nat.le_refl _) (List.all_eq_true.1 q2 j (List.mem_range.2 hj))
def dh_inv (D : dh_D) : Bool := Nat.beq D.1 130 && (List.range 130).all (fun c => Nat.blt c 40 || dh_cOk D c) && D.2.2.1.all (fun e => Nat.ble 40 e.1) && D.2.2.2.all (fun e => Nat.ble 40 e.1 && !Nat.beq e.1 92 && !Nat.beq e.1 93) && dh_z D 40 13
theorem dh_sv_ok : ∀ c, c < 7 → 1 ≤ c → ∀ j, j < 7 → am_sv c j = Int32.ofInt (cq_sv c j) := by decide +kernel
theorem dh_ls_none {k : Nat} : ∀ {l : List (Nat × am_Sh)}, (∀ e ∈ l, e.1 ≠ k) → dh_ls k l = none
  | [], _ => rfl
  | e :: r, h => by
    unfold dh_ls
    rw [dh_bne (h e List.mem_cons_self)]
    exact dh_ls_none fun x hx => h x (List.mem_cons_of_mem _ hx)
theorem dh_inv_ok (hL : L ≤ 100000) (q : dh_inv D = true) : cq_Inv none (dh_h L xs D) := by
  have b1 := (Bool.and_eq_true _ _ ▸ q)
  have b2 := (Bool.and_eq_true _ _ ▸ b1.1)
  have b3 := (Bool.and_eq_true _ _ ▸ b2.1)
  have b4 := (Bool.and_eq_true _ _ ▸ b3.1)
  have c0 := dh_z_ok (L := L) (xs := xs) b1.2
  have e1 : (dh_h L xs D).1 = 130 := am_beq b4.1
  have C : ∀ c, 40 ≤ c → c < 130 → _ := fun c h1 h2 => dh_cOk_ok (L := L) (xs := xs) c0 (by
    rcases Bool.or_eq_true _ _ ▸ List.all_eq_true.1 b4.2 c (List.mem_range.2 h2) with z | z
    · have : c < 40 := Nat.le_of_ble_eq_true z
      omega
    · exact z)
  have lo1 : ∀ c, c < 40 → dh_ls c D.2.2.1 = none := fun c hc => dh_ls_none fun e he => by
    have := Nat.le_of_ble_eq_true (List.all_eq_true.1 b3.2 e he)
    omega
  have lo2 : ∀ c j, c < 40 → dh_lk c j D.2.2.2 = none := fun c j hc => dh_lk_none fun e he => by
    have z := (Bool.and_eq_true _ _ ▸ List.all_eq_true.1 b2.2 e he)
    have z := (Bool.and_eq_true _ _ ▸ z.1)
    have := Nat.le_of_ble_eq_true z.1
    omega
  have sh0 : ∀ c, c < 40 → (dh_h L xs D).2.2.1 c = am_sh0 L c := fun c hc => by
    show (match dh_ls c D.2.2.1 with
      | some s => s
      | none => am_sh0 L c) = _
    rw [lo1 c hc]
  have v0 : ∀ c j, c < 40 → (dh_h L xs D).2.2.2 c j = am_V0 xs c j := fun c j hc => by
    show (match dh_lk c j D.2.2.2 with
      | some v => v
      | none => (match dh_ls c D.2.2.1 with
        | some s => dh_df s j
        | none => am_V0 xs c j)) = _
    rw [lo2 c j hc, lo1 c hc]
  have zr : ∀ c j, (c = 92 ∨ c = 93) → cq_n (dh_h L xs D) c j = 0 := fun c j hc => by
    have hn : dh_lk c j D.2.2.2 = none := dh_lk_none fun e he => by
      have z1 := (Bool.and_eq_true _ _ ▸ List.all_eq_true.1 b2.2 e he)
      have z2 := (Bool.and_eq_true _ _ ▸ z1.1)
      rcases hc with z | z
      · subst z
        intro w
        have := z2.2
        rw [w] at this
        cases this
      · subst z
        intro w
        have := z1.2
        rw [w] at this
        cases this
    have h1 : 40 ≤ c ∧ c < 130 := by omega
    have es := (C c h1.1 h1.2).1
    have hs : ∃ sh, dh_ls c D.2.2.1 = some sh := by
      cases hl : dh_ls c D.2.2.1 with
      | some sh => exact ⟨sh, rfl⟩
      | none =>
        exfalso
        rcases Bool.or_eq_true _ _ ▸ List.all_eq_true.1 b4.2 c (List.mem_range.2 h1.2) with z | z
        · have : c < 40 := Nat.le_of_ble_eq_true z
          omega
        · unfold dh_cOk at z
          rw [hl] at z
          cases z
    obtain ⟨sh, hs⟩ := hs
    have e2 : (dh_h L xs D).2.2.1 c = sh := by
      show (match dh_ls c D.2.2.1 with
        | some s => s
        | none => am_sh0 L c) = _
      rw [hs]
    rw [e2] at es
    unfold cq_n
    rw [dh_val_ok hs]
    unfold dh_val
    rw [hn, hs, es]
    rcases hc with z | z
    · subst z; rfl
    · subst z; rfl
  refine ⟨Nat.le_of_eq e1.symm, fun c h1 h2 => (C c h1 h2).1, fun c h1 h2 => ⟨?_, fun j hj => ?_⟩, ?_, fun c h1 h2 => ?_, fun c h1 h2 _ j hj => ?_, fun t ht => ⟨fun z => ?_, fun z => ?_⟩⟩
  · rw [sh0 c (by omega)]
    unfold am_sh0
    rw [dh_bne (by omega : c ≠ 0), show Nat.blt c 7 = true from Nat.ble_eq_true_of_le h2]
    rfl
  · rw [v0 c j (by omega)]
    unfold am_V0
    rw [dh_bne (by omega : c ≠ 0)]
    show Value.int (am_sv c j) = _
    rw [dh_sv_ok c h2 h1 j hj]
  · rw [sh0 0 (by decide)]
    exact ⟨rfl, rfl, hL, fun j _ => ⟨xs j, v0 0 j (by decide)⟩⟩
  · rw [e1] at h2
    omega
  · rw [e1] at h2
    obtain ⟨k1, k2⟩ := C c h1 h2
    rw [k1] at hj
    unfold cq_tyOf
    rw [show Nat.blt c 130 = true from Nat.ble_eq_true_of_le h2]
    exact k2 j hj
  · rw [zr 93 t (Or.inr rfl)] at z
    omega
  · rw [zr 92 (t / 3) (Or.inl rfl)] at z
    omega
end CMD
theorem dh_i2 : dh_inv (dh_get dh_r2) = true := by decide +kernel
theorem dh_t2 : (dh_z (dh_get dh_r2) 41 1 && dh_z (dh_get dh_r2) 78 2) = true := by decide +kernel
end
section
/-! CONTRACTS: 16u 164u 17u 166u 38u 185u 91u 90u 217u 99u 224u -/
def ct_16u : cq_Ct := (0, [(5, (0, []), 40), (1, (0, [(0, 1)]), 0)], cq_mk 2 ([(0, (-2147483648), 2147483647), (1, 0, 1600)], []) [] [] [] [((false, 41), (1, []), (1, (0, [(1, 1)]), 0))] [] [] none 0 0, [(false, 41, 2, 0)], [(false, [(1, ((-1), []), 0)], cq_mk 2 ([], [((-1), [(0, 1)]), ((-1), [(0, 1), (1, (-1))])]) [] [] [] [((false, 41), (1, []), (1, (0, [(1, 1)]), 0))] [] [] none 0 0), (false, [(1, (0, [(0, 1)]), 0)], cq_mk 2 ([], [(0, [(0, 1)]), (1600, [(0, (-1))]), (0, [(0, (-1)), (1, 1)])]) [] [] [] [((false, 41), (1, []), (1, (0, [(0, 1)]), 0))] [] [] none 0 0), (false, [(1, ((-1), []), 0)], cq_mk 2 ([], [((-1), [(0, (-1))])]) [] [] [] [((false, 41), (1, []), (1, (0, [(1, 1)]), 0))] [] [] none 0 0)])
theorem wf_16u : cq_wfC ct_16u = true := by decide +kernel
def lp_16u (pc : Nat) : Option (Option (Nat × Nat) × cq_Lp) := none
theorem ok_16u : cq_CT 16 ct_16u := cq_meth (f := 100000) (cts := cq_t0) (lps := lp_16u) cq_t0_ok wf_16u (by decide +kernel) (by decide +kernel)
def ct_164u : cq_Ct := (1, [(5, (0, []), 78), (1, (0, [(0, 1)]), 0)], cq_mk 2 ([(0, (-2147483648), 2147483647), (1, 0, 1600)], []) [] [] [] [((false, 78), (2, []), (1, (0, [(1, 1)]), 0))] [] [] none 0 0, [(false, 78, 3, 0)], [(false, [(1, (0, [(0, 1)]), 0)], cq_mk 2 ([], [(0, [(0, 1)]), (1600, [(0, (-1))]), (0, [(0, (-1)), (1, 1)])]) [] [] [] [((false, 78), (2, []), (1, (0, [(0, 1)]), 0))] [] [] none 0 0), (false, [(1, ((-1), []), 0)], cq_mk 2 ([], [((-1), [(0, 1)]), ((-1), [(0, 1), (1, (-1))])]) [] [] [] [((false, 78), (2, []), (1, (0, [(1, 1)]), 0))] [] [] none 0 0), (false, [(1, ((-1), []), 0)], cq_mk 2 ([], [((-1), [(0, (-1))])]) [] [] [] [((false, 78), (2, []), (1, (0, [(1, 1)]), 0))] [] [] none 0 0)])
theorem wf_164u : cq_wfC ct_164u = true := by decide +kernel
def lp_164u (pc : Nat) : Option (Option (Nat × Nat) × cq_Lp) := none
theorem ok_164u : cq_CT 164 ct_164u := cq_meth (f := 100000) (cts := cq_t0) (lps := lp_164u) cq_t0_ok wf_164u (by decide +kernel) (by decide +kernel)
def ct_17u : cq_Ct := (0, [(5, (0, []), 40), (1, (0, [(0, 1)]), 0)], cq_mk 2 ([(0, (-2147483648), 2147483647), (1, 0, 29999)], []) [] [] [] [((false, 40), (9, []), (1, (0, [(1, 1)]), 0))] [] [] none 0 0, [(false, 40, 10, 0)], [(false, [(1, ((-2), []), 0)], cq_mk 2 ([], [((-1), [(0, 1)]), (9999, [(0, (-1))]), ((-20001), [(1, 1)]), ((-30000), [(0, 1), (1, 1)])]) [] [] [] [((false, 40), (9, []), (1, (0, [(1, 1)]), 0))] [] [] none 0 0), (false, [(1, (0, [(0, 1), (1, 1)]), 0)], cq_mk 2 ([], [((-1), [(0, 1)]), (9999, [(0, (-1))]), (29998, [(1, (-1))]), (29999, [(0, (-1)), (1, (-1))])]) [] [] [] [((false, 40), (9, []), (1, (0, [(0, 1), (1, 1)]), 0))] [] [] none 0 0), (false, [(1, ((-2), []), 0)], cq_mk 2 ([], [((-10000), [(0, 1)])]) [] [] [] [((false, 40), (9, []), (1, (0, [(1, 1)]), 0))] [] [] none 0 0), (false, [(1, ((-2), []), 0)], cq_mk 2 ([], [(0, [(0, (-1))])]) [] [] [] [((false, 40), (9, []), (1, (0, [(1, 1)]), 0))] [] [] none 0 0)])
theorem wf_17u : cq_wfC ct_17u = true := by decide +kernel
def lp_17u (pc : Nat) : Option (Option (Nat × Nat) × cq_Lp) := none
theorem ok_17u : cq_CT 17 ct_17u := cq_meth (f := 100000) (cts := cq_t0) (lps := lp_17u) cq_t0_ok wf_17u (by decide +kernel) (by decide +kernel)
def ct_166u : cq_Ct := (1, [(5, (0, []), 78), (1, (0, [(0, 1)]), 0)], cq_mk 2 ([(0, (-2147483648), 2147483647), (1, 0, 29999)], []) [] [] [] [((false, 78), (15, []), (1, (0, [(1, 1)]), 0))] [] [] none 0 0, [(false, 78, 16, 0)], [(false, [(1, ((-2), []), 0)], cq_mk 2 ([], [((-1), [(0, 1)]), (9999, [(0, (-1))]), ((-20001), [(1, 1)]), ((-30000), [(0, 1), (1, 1)])]) [] [] [] [((false, 78), (15, []), (1, (0, [(1, 1)]), 0))] [] [] none 0 0), (false, [(1, (0, [(0, 1), (1, 1)]), 0)], cq_mk 2 ([], [((-1), [(0, 1)]), (9999, [(0, (-1))]), (29998, [(1, (-1))]), (29999, [(0, (-1)), (1, (-1))])]) [] [] [] [((false, 78), (15, []), (1, (0, [(0, 1), (1, 1)]), 0))] [] [] none 0 0), (false, [(1, ((-2), []), 0)], cq_mk 2 ([], [((-10000), [(0, 1)])]) [] [] [] [((false, 78), (15, []), (1, (0, [(1, 1)]), 0))] [] [] none 0 0), (false, [(1, ((-2), []), 0)], cq_mk 2 ([], [(0, [(0, (-1))])]) [] [] [] [((false, 78), (15, []), (1, (0, [(1, 1)]), 0))] [] [] none 0 0)])
theorem wf_166u : cq_wfC ct_166u = true := by decide +kernel
def lp_166u (pc : Nat) : Option (Option (Nat × Nat) × cq_Lp) := none
theorem ok_166u : cq_CT 166 ct_166u := cq_meth (f := 100000) (cts := cq_t0) (lps := lp_166u) cq_t0_ok wf_166u (by decide +kernel) (by decide +kernel)
def ct_38u : cq_Ct := (2, [(5, (0, []), 40), (1, (0, [(0, 1)]), 0), (1, (0, [(1, 1)]), 0), (1, (0, [(2, 1)]), 0), (1, (0, [(3, 1)]), 0)], cq_mk 5 ([(0, (-2147483648), 2147483647), (1, (-2147483648), 2147483647), (2, (-2147483648), 2147483647), (3, (-2147483648), 2147483647), (4, 0, 40)], []) [] [] [] [((false, 40), (8, []), (1, (0, [(4, 1)]), 0))] [] [] none 0 0, [(false, 40, 9, 0), (false, 73, 0, 0), (true, 0, 6, 1), (true, 0, 6, 2), (true, 0, 6, 3), (true, 0, 6, 4), (true, 1, 0, 0)], [(false, [(1, ((-3), []), 0)], cq_mk 5 ([], [(0, [(0, 1)]), (19, [(0, (-1))]), (0, [(1, 1)]), (2100, [(1, (-1))]), (0, [(2, 1)]), (19, [(2, (-1))]), (0, [(3, 1)]), (99, [(3, (-1))]), ((-40), [(4, 1)])]) [] [] [] [((false, 40), (8, []), (1, (0, [(4, 1)]), 0))] [] [] none 3 15), (false, [(1, (0, [(4, 1)]), 0)], cq_mk 5 ([], [(0, [(0, 1)]), (19, [(0, (-1))]), (0, [(1, 1)]), (2100, [(1, (-1))]), (0, [(2, 1)]), (19, [(2, (-1))]), (0, [(3, 1)]), (99, [(3, (-1))]), (39, [(4, (-1))])]) [] [] [] [((false, 40), (8, []), (1, (1, [(4, 1)]), 0))] [] [] none 3 15), (false, [(1, ((-2), []), 0)], cq_mk 5 ([], [(0, [(0, 1)]), (19, [(0, (-1))]), (0, [(1, 1)]), (2100, [(1, (-1))]), (0, [(2, 1)]), (19, [(2, (-1))]), ((-100), [(3, 1)])]) [] [] [] [((false, 40), (8, []), (1, (0, [(4, 1)]), 0))] [] [] none 3 15), (false, [(1, ((-2), []), 0)], cq_mk 5 ([], [(0, [(0, 1)]), (19, [(0, (-1))]), (0, [(1, 1)]), (2100, [(1, (-1))]), (0, [(2, 1)]), (19, [(2, (-1))]), ((-1), [(3, (-1))])]) [] [] [] [((false, 40), (8, []), (1, (0, [(4, 1)]), 0))] [] [] none 3 15), (false, [(1, ((-2), []), 0)], cq_mk 5 ([], [(0, [(0, 1)]), (19, [(0, (-1))]), (0, [(1, 1)]), (2100, [(1, (-1))]), ((-20), [(2, 1)])]) [] [] [] [((false, 40), (8, []), (1, (0, [(4, 1)]), 0))] [] [] none 3 15), (false, [(1, ((-2), []), 0)], cq_mk 5 ([], [(0, [(0, 1)]), (19, [(0, (-1))]), (0, [(1, 1)]), (2100, [(1, (-1))]), ((-1), [(2, (-1))])]) [] [] [] [((false, 40), (8, []), (1, (0, [(4, 1)]), 0))] [] [] none 3 15), (false, [(1, ((-2), []), 0)], cq_mk 5 ([], [(0, [(0, 1)]), (19, [(0, (-1))]), ((-2101), [(1, 1)])]) [] [] [] [((false, 40), (8, []), (1, (0, [(4, 1)]), 0))] [] [] none 3 15), (false, [(1, ((-2), []), 0)], cq_mk 5 ([], [(0, [(0, 1)]), (19, [(0, (-1))]), ((-1), [(1, (-1))])]) [] [] [] [((false, 40), (8, []), (1, (0, [(4, 1)]), 0))] [] [] none 3 15), (false, [(1, ((-2), []), 0)], cq_mk 5 ([], [((-20), [(0, 1)])]) [] [] [] [((false, 40), (8, []), (1, (0, [(4, 1)]), 0))] [] [] none 3 15), (false, [(1, ((-2), []), 0)], cq_mk 5 ([], [((-1), [(0, (-1))])]) [] [] [] [((false, 40), (8, []), (1, (0, [(4, 1)]), 0))] [] [] none 3 15)])
theorem wf_38u : cq_wfC ct_38u = true := by decide +kernel
def lp_38u (pc : Nat) : Option (Option (Nat × Nat) × cq_Lp) := none
theorem ok_38u : cq_CT 38 ct_38u := cq_meth (f := 100000) (cts := cq_t0) (lps := lp_38u) cq_t0_ok wf_38u (by decide +kernel) (by decide +kernel)
def ct_185u : cq_Ct := (2, [(5, (0, []), 78), (1, (0, [(0, 1)]), 0), (1, (0, [(1, 1)]), 0), (1, (0, [(2, 1)]), 0), (1, (0, [(3, 1)]), 0)], cq_mk 5 ([(0, (-2147483648), 2147483647), (1, (-2147483648), 2147483647), (2, (-2147483648), 2147483647), (3, (-2147483648), 2147483647), (4, 0, 40)], []) [] [] [] [((false, 78), (16, []), (1, (0, [(4, 1)]), 0))] [] [] none 0 0, [(false, 78, 17, 0), (false, 86, 0, 0), (false, 87, 0, 0), (false, 88, 0, 0), (false, 89, 0, 0), (false, 90, 0, 0)], [(false, [(1, ((-3), []), 0)], cq_mk 5 ([], [(0, [(0, 1)]), (19, [(0, (-1))]), (0, [(1, 1)]), (2100, [(1, (-1))]), (0, [(2, 1)]), (19, [(2, (-1))]), (0, [(3, 1)]), (99, [(3, (-1))]), ((-40), [(4, 1)])]) [] [] [] [((false, 78), (16, []), (1, (0, [(4, 1)]), 0))] [] [] none 0 0), (false, [(1, (0, [(4, 1)]), 0)], cq_mk 5 ([], [(0, [(0, 1)]), (19, [(0, (-1))]), (0, [(1, 1)]), (2100, [(1, (-1))]), (0, [(2, 1)]), (19, [(2, (-1))]), (0, [(3, 1)]), (99, [(3, (-1))]), (39, [(4, (-1))])]) [] [] [] [((false, 78), (16, []), (1, (1, [(4, 1)]), 0))] [] [] none 0 0), (false, [(1, ((-2), []), 0)], cq_mk 5 ([], [(0, [(0, 1)]), (19, [(0, (-1))]), (0, [(1, 1)]), (2100, [(1, (-1))]), (0, [(2, 1)]), (19, [(2, (-1))]), ((-100), [(3, 1)])]) [] [] [] [((false, 78), (16, []), (1, (0, [(4, 1)]), 0))] [] [] none 0 0), (false, [(1, ((-2), []), 0)], cq_mk 5 ([], [(0, [(0, 1)]), (19, [(0, (-1))]), (0, [(1, 1)]), (2100, [(1, (-1))]), (0, [(2, 1)]), (19, [(2, (-1))]), ((-1), [(3, (-1))])]) [] [] [] [((false, 78), (16, []), (1, (0, [(4, 1)]), 0))] [] [] none 0 0), (false, [(1, ((-2), []), 0)], cq_mk 5 ([], [(0, [(0, 1)]), (19, [(0, (-1))]), (0, [(1, 1)]), (2100, [(1, (-1))]), ((-20), [(2, 1)])]) [] [] [] [((false, 78), (16, []), (1, (0, [(4, 1)]), 0))] [] [] none 0 0), (false, [(1, ((-2), []), 0)], cq_mk 5 ([], [(0, [(0, 1)]), (19, [(0, (-1))]), (0, [(1, 1)]), (2100, [(1, (-1))]), ((-1), [(2, (-1))])]) [] [] [] [((false, 78), (16, []), (1, (0, [(4, 1)]), 0))] [] [] none 0 0), (false, [(1, ((-2), []), 0)], cq_mk 5 ([], [(0, [(0, 1)]), (19, [(0, (-1))]), ((-2101), [(1, 1)])]) [] [] [] [((false, 78), (16, []), (1, (0, [(4, 1)]), 0))] [] [] none 0 0), (false, [(1, ((-2), []), 0)], cq_mk 5 ([], [(0, [(0, 1)]), (19, [(0, (-1))]), ((-1), [(1, (-1))])]) [] [] [] [((false, 78), (16, []), (1, (0, [(4, 1)]), 0))] [] [] none 0 0), (false, [(1, ((-2), []), 0)], cq_mk 5 ([], [((-20), [(0, 1)])]) [] [] [] [((false, 78), (16, []), (1, (0, [(4, 1)]), 0))] [] [] none 0 0), (false, [(1, ((-2), []), 0)], cq_mk 5 ([], [((-1), [(0, (-1))])]) [] [] [] [((false, 78), (16, []), (1, (0, [(4, 1)]), 0))] [] [] none 0 0)])
theorem wf_185u : cq_wfC ct_185u = true := by decide +kernel
def lp_185u (pc : Nat) : Option (Option (Nat × Nat) × cq_Lp) := none
theorem ok_185u : cq_CT 185 ct_185u := cq_meth (f := 100000) (cts := cq_t0) (lps := lp_185u) cq_t0_ok wf_185u (by decide +kernel) (by decide +kernel)
def ct_91u : cq_Ct := (0, [(5, (0, []), 48), (1, (0, [(0, 1)]), 0), (1, (0, [(1, 1)]), 0), (1, (0, [(2, 1)]), 0)], cq_mk 4 ([(0, (-2147483648), 2147483647), (1, (-2147483648), 2147483647), (2, (-2147483648), 2147483647), (3, 0, 60)], []) [] [] [] [((false, 48), (5, []), (1, (0, [(3, 1)]), 0))] [] [] none 0 0, [(false, 48, 6, 0), (false, 50, 0, 0), (false, 51, 0, 0), (false, 52, 0, 0)], [(false, [(1, ((-3), []), 0)], cq_mk 4 ([], [((-60), [(3, 1)])]) [] [] [] [((false, 48), (5, []), (1, (0, [(3, 1)]), 0))] [] [] none 0 0), (false, [(1, (1, [(3, 1)]), 0)], cq_mk 4 ([], [(59, [(3, (-1))])]) [] [] [] [((false, 48), (5, []), (1, (1, [(3, 1)]), 0))] [] [] none 0 0)])
theorem wf_91u : cq_wfC ct_91u = true := by decide +kernel
def lp_91u (pc : Nat) : Option (Option (Nat × Nat) × cq_Lp) := none
theorem ok_91u : cq_CT 91 ct_91u := cq_meth (f := 100000) (cts := cq_t0) (lps := lp_91u) cq_t0_ok wf_91u (by decide +kernel) (by decide +kernel)
def ct_90u : cq_Ct := (1, [(5, (0, []), 40), (1, (0, [(0, 1)]), 0), (1, (0, [(1, 1)]), 0)], cq_mk 3 ([(0, (-2147483648), 2147483647), (1, (-2147483648), 2147483647), (2, 0, 60)], []) [] [] [] [((false, 48), (5, []), (1, (0, [(2, 1)]), 0))] [] [] none 0 0, [(false, 48, 6, 0), (false, 50, 0, 0), (false, 51, 0, 0), (false, 52, 0, 0)], [(false, [(1, (1, [(2, 1)]), 0)], cq_mk 3 ([], [(0, [(0, 1)]), (19, [(0, (-1))]), (0, [(1, 1)]), (29999, [(1, (-1))]), (59, [(2, (-1))])]) [] [] [] [((false, 48), (5, []), (1, (1, [(2, 1)]), 0))] [] [] none 0 0), (false, [(1, ((-3), []), 0)], cq_mk 3 ([], [(0, [(0, 1)]), (19, [(0, (-1))]), (0, [(1, 1)]), (29999, [(1, (-1))]), ((-60), [(2, 1)])]) [] [] [] [((false, 48), (5, []), (1, (0, [(2, 1)]), 0))] [] [] none 0 0), (false, [(1, ((-2), []), 0)], cq_mk 3 ([], [(0, [(0, 1)]), (19, [(0, (-1))]), ((-30000), [(1, 1)])]) [] [] [] [((false, 48), (5, []), (1, (0, [(2, 1)]), 0))] [] [] none 0 0), (false, [(1, ((-2), []), 0)], cq_mk 3 ([], [(0, [(0, 1)]), (19, [(0, (-1))]), ((-1), [(1, (-1))])]) [] [] [] [((false, 48), (5, []), (1, (0, [(2, 1)]), 0))] [] [] none 0 0), (false, [(1, ((-2), []), 0)], cq_mk 3 ([], [((-20), [(0, 1)])]) [] [] [] [((false, 48), (5, []), (1, (0, [(2, 1)]), 0))] [] [] none 0 0), (false, [(1, ((-2), []), 0)], cq_mk 3 ([], [((-1), [(0, (-1))])]) [] [] [] [((false, 48), (5, []), (1, (0, [(2, 1)]), 0))] [] [] none 0 0)])
theorem wf_90u : cq_wfC ct_90u = true := by decide +kernel
def lp_90u (pc : Nat) : Option (Option (Nat × Nat) × cq_Lp) := none
theorem ok_90u : cq_CT 90 ct_90u := cq_meth (f := 100000) (cts := (cq_tc 91 ct_91u cq_t0)) (lps := lp_90u) (cq_tc_ok wf_91u ok_91u cq_t0_ok) wf_90u (by decide +kernel) (by decide +kernel)
def ct_217u : cq_Ct := (2, [(5, (0, []), 78), (1, (0, [(0, 1)]), 0), (1, (0, [(1, 1)]), 0)], cq_mk 3 ([(0, (-2147483648), 2147483647), (1, (-2147483648), 2147483647), (2, 0, 60)], []) [] [] [] [((false, 78), (36, []), (1, (0, [(2, 1)]), 0))] [] [] none 0 0, [(false, 114, 0, 0), (false, 115, 0, 0), (false, 116, 0, 0), (false, 78, 37, 0)], [(false, [(1, ((-3), []), 0)], cq_mk 3 ([], [(0, [(0, 1)]), (19, [(0, (-1))]), (0, [(1, 1)]), (29999, [(1, (-1))]), ((-60), [(2, 1)])]) [] [] [] [((false, 78), (36, []), (1, (0, [(2, 1)]), 0))] [] [] none 0 0), (false, [(1, (1, [(2, 1)]), 0)], cq_mk 3 ([], [(0, [(0, 1)]), (19, [(0, (-1))]), (0, [(1, 1)]), (29999, [(1, (-1))]), (59, [(2, (-1))])]) [] [] [] [((false, 78), (36, []), (1, (1, [(2, 1)]), 0))] [] [] none 0 0), (false, [(1, ((-2), []), 0)], cq_mk 3 ([], [(0, [(0, 1)]), (19, [(0, (-1))]), ((-30000), [(1, 1)])]) [] [] [] [((false, 78), (36, []), (1, (0, [(2, 1)]), 0))] [] [] none 0 0), (false, [(1, ((-2), []), 0)], cq_mk 3 ([], [(0, [(0, 1)]), (19, [(0, (-1))]), ((-1), [(1, (-1))])]) [] [] [] [((false, 78), (36, []), (1, (0, [(2, 1)]), 0))] [] [] none 0 0), (false, [(1, ((-2), []), 0)], cq_mk 3 ([], [((-20), [(0, 1)])]) [] [] [] [((false, 78), (36, []), (1, (0, [(2, 1)]), 0))] [] [] none 0 0), (false, [(1, ((-2), []), 0)], cq_mk 3 ([], [((-1), [(0, (-1))])]) [] [] [] [((false, 78), (36, []), (1, (0, [(2, 1)]), 0))] [] [] none 0 0)])
theorem wf_217u : cq_wfC ct_217u = true := by decide +kernel
def lp_217u (pc : Nat) : Option (Option (Nat × Nat) × cq_Lp) := none
theorem ok_217u : cq_CT 217 ct_217u := cq_meth (f := 100000) (cts := cq_t0) (lps := lp_217u) cq_t0_ok wf_217u (by decide +kernel) (by decide +kernel)
def ct_99u : cq_Ct := (1, [(5, (0, []), 40), (1, (0, [(0, 1)]), 0), (1, (0, [(1, 1)]), 0)], cq_mk 2 ([(0, (-2147483648), 2147483647), (1, (-2147483648), 2147483647)], []) [] [] [] [] [] [] none 0 0, [(false, 40, 11, 0), (false, 40, 12, 0)], [(false, [(1, (1, []), 0)], cq_mk 2 ([], [((-1), [(0, 1)]), (63, [(0, (-1))]), (0, [(1, 1)]), (29999, [(1, (-1))])]) [] [] [] [] [] [] none 0 0), (false, [(1, ((-2), []), 0)], cq_mk 2 ([], [((-1), [(0, 1)]), (63, [(0, (-1))]), ((-30000), [(1, 1)])]) [] [] [] [] [] [] none 0 0), (false, [(1, ((-2), []), 0)], cq_mk 2 ([], [((-1), [(0, 1)]), (63, [(0, (-1))]), ((-1), [(1, (-1))])]) [] [] [] [] [] [] none 0 0), (false, [(1, ((-2), []), 0)], cq_mk 2 ([], [((-64), [(0, 1)])]) [] [] [] [] [] [] none 0 0), (false, [(1, ((-2), []), 0)], cq_mk 2 ([], [(0, [(0, (-1))])]) [] [] [] [] [] [] none 0 0)])
theorem wf_99u : cq_wfC ct_99u = true := by decide +kernel
def lp_99u (pc : Nat) : Option (Option (Nat × Nat) × cq_Lp) := none
theorem ok_99u : cq_CT 99 ct_99u := cq_meth (f := 100000) (cts := cq_t0) (lps := lp_99u) cq_t0_ok wf_99u (by decide +kernel) (by decide +kernel)
def ct_224u : cq_Ct := (2, [(5, (0, []), 78), (1, (0, [(0, 1)]), 0), (1, (0, [(1, 1)]), 0)], cq_mk 2 ([(0, (-2147483648), 2147483647), (1, (-2147483648), 2147483647)], []) [] [] [] [] [] [] none 0 0, [(false, 78, 52, 0), (false, 78, 53, 0)], [(false, [(1, (1, []), 0)], cq_mk 2 ([], [((-1), [(0, 1)]), (63, [(0, (-1))]), (0, [(1, 1)]), (29999, [(1, (-1))])]) [] [] [] [] [] [] none 0 0), (false, [(1, ((-2), []), 0)], cq_mk 2 ([], [((-1), [(0, 1)]), (63, [(0, (-1))]), ((-30000), [(1, 1)])]) [] [] [] [] [] [] none 0 0), (false, [(1, ((-2), []), 0)], cq_mk 2 ([], [((-1), [(0, 1)]), (63, [(0, (-1))]), ((-1), [(1, (-1))])]) [] [] [] [] [] [] none 0 0), (false, [(1, ((-2), []), 0)], cq_mk 2 ([], [((-64), [(0, 1)])]) [] [] [] [] [] [] none 0 0), (false, [(1, ((-2), []), 0)], cq_mk 2 ([], [(0, [(0, (-1))])]) [] [] [] [] [] [] none 0 0)])
theorem wf_224u : cq_wfC ct_224u = true := by decide +kernel
def lp_224u (pc : Nat) : Option (Option (Nat × Nat) × cq_Lp) := none
theorem ok_224u : cq_CT 224 ct_224u := cq_meth (f := 100000) (cts := cq_t0) (lps := lp_224u) cq_t0_ok wf_224u (by decide +kernel) (by decide +kernel)
end
section
/-! RUNS STEP BY STEP: a rule for each kind of step that asks something -/
section AXR
variable {d y pc p' : Nat} {ls r : List Value} {h : am_H} {x : Option Value × am_H} {k l a b w : Nat} {t : Int}
theorem ax_gf {i : Nat} {v : Value} (hc : am_at y pc (.getfield k, l, t, a, b, w)) (hp : pc + 3 = p') (O : am_isO h i a = true) (hv : h.2.2.2 i b = v) (q : am_ev d y p' ls (v :: r) h x) : am_ev d y pc ls (.ref i :: r) h x := by
  subst hp
  exact am_ev.step hc (by dsimp only [am_st]; rw [O, hv]; rfl) q
theorem ax_pf {i : Nat} {v : Value} (hc : am_at y pc (.putfield k, l, t, a, b, w)) (hp : pc + 3 = p') (O : am_isO h i a = true) (F : am_fok (am_ty a b) v = true) (q : am_ev d y p' ls r (am_put h i b v) x) : am_ev d y pc ls (v :: .ref i :: r) h x := by
  subst hp
  exact am_ev.step hc (by dsimp only [am_st]; rw [O, F]; rfl) q
theorem ax_iaload {i : Nat} {j : Int32} {v : Value} (hc : am_at y pc (.iaload, l, t, a, b, w)) (hp : pc + 1 = p') (R : am_rd h i j (fun c => Nat.beq c 0) = some v) (q : am_ev d y p' ls (v :: r) h x) : am_ev d y pc ls (.int j :: .ref i :: r) h x := by
  subst hp
  exact am_ev.step hc (by dsimp only [am_st]; rw [R]) q
theorem ax_baload {i : Nat} {j : Int32} {v : Value} (hc : am_at y pc (.baload, l, t, a, b, w)) (hp : pc + 1 = p') (R : am_rd h i j (fun c => Nat.beq c 1 || Nat.beq c 2) = some v) (q : am_ev d y p' ls (v :: r) h x) : am_ev d y pc ls (.int j :: .ref i :: r) h x := by
  subst hp
  exact am_ev.step hc (by dsimp only [am_st]; rw [R]) q
theorem ax_laload {i : Nat} {j : Int32} {v : Value} (hc : am_at y pc (.laload, l, t, a, b, w)) (hp : pc + 1 = p') (R : am_rd h i j (fun c => Nat.beq c 3) = some v) (q : am_ev d y p' ls (v :: r) h x) : am_ev d y pc ls (.int j :: .ref i :: r) h x := by
  subst hp
  exact am_ev.step hc (by dsimp only [am_st]; rw [R]) q
theorem ax_aaload {i : Nat} {j : Int32} {v : Value} (hc : am_at y pc (.aaload, l, t, a, b, w)) (hp : pc + 1 = p') (R : am_rd h i j (fun c => Nat.ble 4 c && am_isA c) = some v) (q : am_ev d y p' ls (v :: r) h x) : am_ev d y pc ls (.int j :: .ref i :: r) h x := by
  subst hp
  exact am_ev.step hc (by dsimp only [am_st]; rw [R]) q
theorem ax_iastore {i : Nat} {j u : Int32} {h' : am_H} (hc : am_at y pc (.iastore, l, t, a, b, w)) (hp : pc + 1 = p') (W : am_wr h i j 0 (.int u) = some h') (q : am_ev d y p' ls r h' x) : am_ev d y pc ls (.int u :: .int j :: .ref i :: r) h x := by
  subst hp
  exact am_ev.step hc (by dsimp only [am_st]; rw [W]) q
theorem ax_aastore {i u : Nat} {j : Int32} {h' : am_H} (hc : am_at y pc (.aastore, l, t, a, b, w)) (hp : pc + 1 = p') (W : am_isO h u (h.2.2.1 u).2.1 = true ∧ am_isA ((h.2.2.1 u).2.1 + 4) = true ∧ am_wr h i j ((h.2.2.1 u).2.1 + 4) (.ref u) = some h') (q : am_ev d y p' ls r h' x) : am_ev d y pc ls (.ref u :: .int j :: .ref i :: r) h x := by
  subst hp
  exact am_ev.step hc (by dsimp only [am_st]; rw [W.1, W.2.1, W.2.2]; rfl) q
theorem ax_len {i n : Nat} (hc : am_at y pc (.arraylength, l, t, a, b, w)) (hp : pc + 1 = p') (N : am_len h i = some n) (q : am_ev d y p' ls (.int (Int32.ofNat n) :: r) h x) : am_ev d y pc ls (.ref i :: r) h x := by
  subst hp
  exact am_ev.step hc (by dsimp only [am_st]; rw [N]) q
theorem ax_c_lt_T {u v : Int32} (hc : am_at y pc (.if_icmp .lt k, l, t, a, b, w)) (hp : t.toNat = p') (c : u < v) (q : am_ev d y p' ls r h x) : am_ev d y pc ls (.int v :: .int u :: r) h x := by
  subst hp
  exact am_ev.step hc (if_pos c) q
theorem ax_c_lt_N {u v : Int32} (hc : am_at y pc (.if_icmp .lt k, l, t, a, b, w)) (hp : pc + 3 = p') (c : ¬ u < v) (q : am_ev d y p' ls r h x) : am_ev d y pc ls (.int v :: .int u :: r) h x := by
  subst hp
  exact am_ev.step hc (if_neg c) q
theorem ax_z_lt_T {u : Int32} (hc : am_at y pc (.ifCond .lt k, l, t, a, b, w)) (hp : t.toNat = p') (c : u < 0) (q : am_ev d y p' ls r h x) : am_ev d y pc ls (.int u :: r) h x := by
  subst hp
  exact am_ev.step hc (if_pos c) q
theorem ax_z_lt_N {u : Int32} (hc : am_at y pc (.ifCond .lt k, l, t, a, b, w)) (hp : pc + 3 = p') (c : ¬ u < 0) (q : am_ev d y p' ls r h x) : am_ev d y pc ls (.int u :: r) h x := by
  subst hp
  exact am_ev.step hc (if_neg c) q
theorem ax_c_ge_T {u v : Int32} (hc : am_at y pc (.if_icmp .ge k, l, t, a, b, w)) (hp : t.toNat = p') (c : v ≤ u) (q : am_ev d y p' ls r h x) : am_ev d y pc ls (.int v :: .int u :: r) h x := by
  subst hp
  exact am_ev.step hc (if_pos c) q
theorem ax_c_ge_N {u v : Int32} (hc : am_at y pc (.if_icmp .ge k, l, t, a, b, w)) (hp : pc + 3 = p') (c : ¬ v ≤ u) (q : am_ev d y p' ls r h x) : am_ev d y pc ls (.int v :: .int u :: r) h x := by
  subst hp
  exact am_ev.step hc (if_neg c) q
theorem ax_z_ge_T {u : Int32} (hc : am_at y pc (.ifCond .ge k, l, t, a, b, w)) (hp : t.toNat = p') (c : 0 ≤ u) (q : am_ev d y p' ls r h x) : am_ev d y pc ls (.int u :: r) h x := by
  subst hp
  exact am_ev.step hc (if_pos c) q
theorem ax_z_ge_N {u : Int32} (hc : am_at y pc (.ifCond .ge k, l, t, a, b, w)) (hp : pc + 3 = p') (c : ¬ 0 ≤ u) (q : am_ev d y p' ls r h x) : am_ev d y pc ls (.int u :: r) h x := by
  subst hp
  exact am_ev.step hc (if_neg c) q
theorem ax_c_gt_T {u v : Int32} (hc : am_at y pc (.if_icmp .gt k, l, t, a, b, w)) (hp : t.toNat = p') (c : v < u) (q : am_ev d y p' ls r h x) : am_ev d y pc ls (.int v :: .int u :: r) h x := by
  subst hp
  exact am_ev.step hc (if_pos c) q
theorem ax_c_gt_N {u v : Int32} (hc : am_at y pc (.if_icmp .gt k, l, t, a, b, w)) (hp : pc + 3 = p') (c : ¬ v < u) (q : am_ev d y p' ls r h x) : am_ev d y pc ls (.int v :: .int u :: r) h x := by
  subst hp
  exact am_ev.step hc (if_neg c) q
theorem ax_z_gt_T {u : Int32} (hc : am_at y pc (.ifCond .gt k, l, t, a, b, w)) (hp : t.toNat = p') (c : 0 < u) (q : am_ev d y p' ls r h x) : am_ev d y pc ls (.int u :: r) h x := by
  subst hp
  exact am_ev.step hc (if_pos c) q
theorem ax_z_gt_N {u : Int32} (hc : am_at y pc (.ifCond .gt k, l, t, a, b, w)) (hp : pc + 3 = p') (c : ¬ 0 < u) (q : am_ev d y p' ls r h x) : am_ev d y pc ls (.int u :: r) h x := by
  subst hp
  exact am_ev.step hc (if_neg c) q
theorem ax_c_le_T {u v : Int32} (hc : am_at y pc (.if_icmp .le k, l, t, a, b, w)) (hp : t.toNat = p') (c : u ≤ v) (q : am_ev d y p' ls r h x) : am_ev d y pc ls (.int v :: .int u :: r) h x := by
  subst hp
  exact am_ev.step hc (if_pos c) q
theorem ax_c_le_N {u v : Int32} (hc : am_at y pc (.if_icmp .le k, l, t, a, b, w)) (hp : pc + 3 = p') (c : ¬ u ≤ v) (q : am_ev d y p' ls r h x) : am_ev d y pc ls (.int v :: .int u :: r) h x := by
  subst hp
  exact am_ev.step hc (if_neg c) q
theorem ax_z_le_T {u : Int32} (hc : am_at y pc (.ifCond .le k, l, t, a, b, w)) (hp : t.toNat = p') (c : u ≤ 0) (q : am_ev d y p' ls r h x) : am_ev d y pc ls (.int u :: r) h x := by
  subst hp
  exact am_ev.step hc (if_pos c) q
theorem ax_z_le_N {u : Int32} (hc : am_at y pc (.ifCond .le k, l, t, a, b, w)) (hp : pc + 3 = p') (c : ¬ u ≤ 0) (q : am_ev d y p' ls r h x) : am_ev d y pc ls (.int u :: r) h x := by
  subst hp
  exact am_ev.step hc (if_neg c) q
theorem ax_c_eq_T {u v : Int32} (hc : am_at y pc (.if_icmp .eq k, l, t, a, b, w)) (hp : t.toNat = p') (c : u = v) (q : am_ev d y p' ls r h x) : am_ev d y pc ls (.int v :: .int u :: r) h x := by
  subst hp
  exact am_ev.step hc (if_pos c) q
theorem ax_c_eq_N {u v : Int32} (hc : am_at y pc (.if_icmp .eq k, l, t, a, b, w)) (hp : pc + 3 = p') (c : ¬ u = v) (q : am_ev d y p' ls r h x) : am_ev d y pc ls (.int v :: .int u :: r) h x := by
  subst hp
  exact am_ev.step hc (if_neg c) q
theorem ax_z_eq_T {u : Int32} (hc : am_at y pc (.ifCond .eq k, l, t, a, b, w)) (hp : t.toNat = p') (c : u = 0) (q : am_ev d y p' ls r h x) : am_ev d y pc ls (.int u :: r) h x := by
  subst hp
  exact am_ev.step hc (if_pos c) q
theorem ax_z_eq_N {u : Int32} (hc : am_at y pc (.ifCond .eq k, l, t, a, b, w)) (hp : pc + 3 = p') (c : ¬ u = 0) (q : am_ev d y p' ls r h x) : am_ev d y pc ls (.int u :: r) h x := by
  subst hp
  exact am_ev.step hc (if_neg c) q
theorem ax_c_ne_T {u v : Int32} (hc : am_at y pc (.if_icmp .ne k, l, t, a, b, w)) (hp : t.toNat = p') (c : ¬ u = v) (q : am_ev d y p' ls r h x) : am_ev d y pc ls (.int v :: .int u :: r) h x := by
  subst hp
  exact am_ev.step hc (if_neg c) q
theorem ax_c_ne_N {u v : Int32} (hc : am_at y pc (.if_icmp .ne k, l, t, a, b, w)) (hp : pc + 3 = p') (c : u = v) (q : am_ev d y p' ls r h x) : am_ev d y pc ls (.int v :: .int u :: r) h x := by
  subst hp
  exact am_ev.step hc (if_pos c) q
theorem ax_z_ne_T {u : Int32} (hc : am_at y pc (.ifCond .ne k, l, t, a, b, w)) (hp : t.toNat = p') (c : ¬ u = 0) (q : am_ev d y p' ls r h x) : am_ev d y pc ls (.int u :: r) h x := by
  subst hp
  exact am_ev.step hc (if_neg c) q
theorem ax_z_ne_N {u : Int32} (hc : am_at y pc (.ifCond .ne k, l, t, a, b, w)) (hp : pc + 3 = p') (c : u = 0) (q : am_ev d y p' ls r h x) : am_ev d y pc ls (.int u :: r) h x := by
  subst hp
  exact am_ev.step hc (if_pos c) q
theorem ax_obj {e : am_E} {i : Nat} (hc : am_at y pc e) (hi : am_isC e.1) (hz : e.2.2.2.1 = 1000) (hcs : Nat.ble (am_cs r) 8 = true) (hp : pc + 3 = p') (q : am_ev (d + 1) y p' ls r h x) : am_ev (d + 1) y pc ls (.ref i :: r) h x := by
  subst hp
  exact am_ev.obj hc hi hz (Nat.le_of_ble_eq_true hcs) q
theorem ax_call {e : am_E} {z : Nat} {as rr st : List Value} {v : Option Value} {h2 : am_H} (hc : am_at y pc e) (hi : am_isC e.1) (hz : e.2.2.2.1 = z) (nz : (Nat.blt 0 z && Nat.blt z 264 && !Nat.beq z 10 && !Nat.beq z 57) = true) (hst : st = as.reverse ++ rr) (hlen : as.length = (am_in z).2.1) (hcs : Nat.ble (am_cs rr) 8 = true) (hw : Nat.ble (am_wid as).length (am_in z).2.2.1 = true) (hrcv : am_rcv z as h = true) (hp : pc + 3 = p') (q1 : am_ev d z 0 (am_ent as (am_in z).2.2.1) [] h (v, h2)) (hv : am_isT v = none) (q2 : am_ev (d + 1) y p' ls (v.toList ++ rr) h2 x) : am_ev (d + 1) y pc ls st h x := by
  subst hz hp
  have n1 := (Bool.and_eq_true _ _ ▸ nz)
  have n2 := (Bool.and_eq_true _ _ ▸ n1.1)
  have n3 := (Bool.and_eq_true _ _ ▸ n2.1)
  refine am_ev.call hc hi ⟨Nat.le_of_ble_eq_true n3.1, Nat.le_of_ble_eq_true n3.2, fun z => ?_, fun z => ?_⟩ hst hlen (Nat.le_of_ble_eq_true hcs) hrcv (Nat.le_of_ble_eq_true hw) q1 hv q2
  · have := n2.2
    rw [z] at this
    cases this
  · have := n1.2
    rw [z] at this
    cases this
end AXR
section AXF
variable {h : am_H}
theorem ax_rdv {a n tc kd : Nat} {i : Int32} {ok : Nat → Bool} (l1 : a < h.1) (s1 : h.2.2.1 a = (kd, tc, n)) (k1 : (Nat.beq kd 1 || Nat.beq kd 2) = true) (o1 : ok tc = true) (i0 : 0 ≤ i.toInt) (i1 : i.toInt < n) : am_rd h a i ok = some (h.2.2.2 a i.toInt.toNat) := by
  unfold am_rd
  rw [s1]
  dsimp only
  rw [show Nat.blt a h.1 = true from Nat.ble_eq_true_of_le l1, k1, o1]
  have e : i.toNatClampNeg = i.toInt.toNat := rfl
  rw [e]
  show (if i < 0 ∨ n ≤ i.toInt.toNat then none else some (h.2.2.2 a i.toInt.toNat)) = _
  rw [if_neg]
  rintro (z | z)
  · have := Int32.lt_iff_toInt_lt.1 z
    rw [show (0 : Int32).toInt = 0 by decide] at this
    omega
  · omega
theorem ax_wrv {a n tc : Nat} {i : Int32} {v : Value} (l1 : a < h.1) (s1 : h.2.2.1 a = (1, tc, n)) (i0 : 0 ≤ i.toInt) (i1 : i.toInt < n) : am_wr h a i tc v = some (am_put h a i.toInt.toNat v) := by
  unfold am_wr
  rw [s1]
  dsimp only
  rw [show Nat.blt a h.1 = true from Nat.ble_eq_true_of_le l1, show Nat.beq tc tc = true from Nat.beq_refl tc]
  have e : i.toNatClampNeg = i.toInt.toNat := rfl
  rw [e]
  show (if i < 0 ∨ n ≤ i.toInt.toNat then none else some (am_put h a i.toInt.toNat v)) = _
  rw [if_neg]
  rintro (z | z)
  · have := Int32.lt_iff_toInt_lt.1 z
    rw [show (0 : Int32).toInt = 0 by decide] at this
    omega
  · omega
theorem ax_put_s (k j : Nat) (v : Value) : (am_put h k j v).2.2.2 k j = v := by
  show (if k = k then (if j = j then v else h.2.2.2 k j) else h.2.2.2 k j) = v
  rw [if_pos rfl, if_pos rfl]
theorem ax_put_o {k j a b : Nat} {v w : Value} (n : a ≠ k ∨ b ≠ j) (q : h.2.2.2 a b = w) : (am_put h k j v).2.2.2 a b = w := by
  show (if a = k then (if b = j then v else h.2.2.2 a b) else h.2.2.2 a b) = w
  by_cases e1 : a = k
  · rw [if_pos e1]
    by_cases e2 : b = j
    · rcases n with z | z
      · exact absurd e1 z
      · exact absurd e2 z
    · rw [if_neg e2]
      exact q
  · rw [if_neg e1]
    exact q
/-- one run has one end -/
theorem ax_det {d y pc : Nat} {ls st : List Value} {x x' : Option Value × am_H} (q : am_ev d y pc ls st h x) (q' : am_ev d y pc ls st h x') : x = x' := by
  obtain ⟨n, q⟩ := q
  obtain ⟨n', q'⟩ := q'
  have a := am_run_le (Nat.le_max_left n n') q
  have b := am_run_le (Nat.le_max_right n n') q'
  rw [a] at b
  exact Option.some.inj b
end AXF
/-! VALUES BY INTEGERS: rules for steps -/
abbrev iv (e : Int) : Value := .int (Int32.ofInt e)
theorem fx_ti {e : Int} (h : -2147483648 ≤ e ∧ e ≤ 2147483647) : (Int32.ofInt e).toInt = e := Int32.toInt_ofInt_of_le (by omega) (by omega)
theorem iv_add (x1 x2 : Int) : iv (x1 + x2) = .int (Int32.ofInt x1 + Int32.ofInt x2) := congrArg Value.int (Int32.ofInt_add x1 x2)
theorem iv_sub (x1 x2 : Int) : iv (x1 - x2) = .int (Int32.ofInt x1 - Int32.ofInt x2) := congrArg Value.int (Int32.ofInt_sub x1 x2)
theorem iv_mul (x1 x2 : Int) : iv (x1 * x2) = .int (Int32.ofInt x1 * Int32.ofInt x2) := congrArg Value.int (Int32.ofInt_mul x1 x2)
theorem fx_of (x : Int32) : Value.int x = iv x.toInt := by
  show Value.int x = Value.int (Int32.ofInt x.toInt)
  rw [Int32.ofInt_toInt]
section FXS
variable {d y pc p' : Nat} {ls ls' r : List Value} {h : am_H} {x : Option Value × am_H} {k l a b w : Nat} {t ko : Int} {x1 x2 e : Int}
theorem fx_add (hc : am_at y pc (.iadd, l, t, a, b, w)) (hp : pc + 1 = p') (he : x1 + x2 = e) (q : am_ev d y p' ls (iv e :: r) h x) : am_ev d y pc ls (iv x2 :: iv x1 :: r) h x := by
  subst hp he
  rw [iv_add] at q
  exact am_ev.step hc rfl q
theorem fx_sub (hc : am_at y pc (.isub, l, t, a, b, w)) (hp : pc + 1 = p') (he : x1 - x2 = e) (q : am_ev d y p' ls (iv e :: r) h x) : am_ev d y pc ls (iv x2 :: iv x1 :: r) h x := by
  subst hp he
  rw [iv_sub] at q
  exact am_ev.step hc rfl q
theorem fx_mul (hc : am_at y pc (.imul, l, t, a, b, w)) (hp : pc + 1 = p') (he : x1 * x2 = e) (q : am_ev d y p' ls (iv e :: r) h x) : am_ev d y pc ls (iv x2 :: iv x1 :: r) h x := by
  subst hp he
  rw [iv_mul] at q
  exact am_ev.step hc rfl q
theorem fx_bip {n : Int} (hc : am_at y pc (.bipush n, l, t, a, b, w)) (hp : pc + 2 = p') (hv : (Int8.ofInt n).toInt32 = Int32.ofInt n) (q : am_ev d y p' ls (iv n :: r) h x) : am_ev d y pc ls r h x := by
  subst hp
  refine am_ev.step hc rfl ?_
  rw [hv]
  exact q
theorem fx_sip {n : Int} (hc : am_at y pc (.sipush n, l, t, a, b, w)) (hp : pc + 3 = p') (hv : (Int16.ofInt n).toInt32 = Int32.ofInt n) (q : am_ev d y p' ls (iv n :: r) h x) : am_ev d y pc ls r h x := by
  subst hp
  refine am_ev.step hc rfl ?_
  rw [hv]
  exact q
theorem fx_inc {i : Nat} {n : Int} (hc : am_at y pc (.iinc i n, l, t, a, b, w)) (hp : pc + 3 = p') (hl : ls[i]? = some (iv x1)) (he : x1 + n = e) (hs : am_set1 ls i (iv e) = ls') (q : am_ev d y p' ls' r h x) : am_ev d y pc ls r h x := by
  subst hp he hs
  rw [iv_add] at q
  exact am_ev.step hc (by dsimp only [am_st]; rw [hl]) q
theorem fx_reti {v : Int32} (hc : am_at y pc (.ireturn, l, t, a, b, w)) (hv : am_rok (am_rt y) v = true) (hx : x = (some (.int v), h)) : am_ev d y pc ls [.int v] h x := by
  subst hx
  exact am_ev.reti hc rfl hv
theorem fx_cast {x' : Option Value × am_H} (q : am_ev d y pc ls r h x') (hx : x = x') : am_ev d y pc ls r h x := by
  subst hx
  exact q

theorem fx_cJ_lt {x1 x2 : Int} (b1 : -2147483648 ≤ x1 ∧ x1 ≤ 2147483647) (b2 : -2147483648 ≤ x2 ∧ x2 ≤ 2147483647) : (Int32.ofInt x1 < Int32.ofInt x2) ↔ x1 < x2 := by
  rw [Int32.lt_iff_toInt_lt, fx_ti b1, fx_ti b2]
theorem fx_c_lt {pT pF : Nat} (hc : am_at y pc (.if_icmp .lt ko, l, t, a, b, w)) (b1 : -2147483648 ≤ x1 ∧ x1 ≤ 2147483647) (b2 : -2147483648 ≤ x2 ∧ x2 ≤ 2147483647) (hT : t.toNat = pT) (hF : pc + 3 = pF) (qT : x1 < x2 → am_ev d y pT ls r h x) (qF : x2 ≤ x1 → am_ev d y pF ls r h x) : am_ev d y pc ls (iv x2 :: iv x1 :: r) h x := by
  subst hT hF
  by_cases c : x1 < x2
  · exact am_ev.step hc (if_pos ((fx_cJ_lt b1 b2).2 c)) (qT c)
  · exact am_ev.step hc (if_neg (mt (fx_cJ_lt b1 b2).1 c)) (qF (by omega))
theorem fx_c_lt_T {pT : Nat} (hc : am_at y pc (.if_icmp .lt ko, l, t, a, b, w)) (b1 : -2147483648 ≤ x1 ∧ x1 ≤ 2147483647) (b2 : -2147483648 ≤ x2 ∧ x2 ≤ 2147483647) (hT : t.toNat = pT) (c : x1 < x2) (q : am_ev d y pT ls r h x) : am_ev d y pc ls (iv x2 :: iv x1 :: r) h x := fx_c_lt hc b1 b2 hT rfl (fun _ => q) (fun z => absurd z (by omega))
theorem fx_c_lt_F {pF : Nat} (hc : am_at y pc (.if_icmp .lt ko, l, t, a, b, w)) (b1 : -2147483648 ≤ x1 ∧ x1 ≤ 2147483647) (b2 : -2147483648 ≤ x2 ∧ x2 ≤ 2147483647) (hF : pc + 3 = pF) (c : x2 ≤ x1) (q : am_ev d y pF ls r h x) : am_ev d y pc ls (iv x2 :: iv x1 :: r) h x := fx_c_lt hc b1 b2 rfl hF (fun z => absurd z (by omega)) (fun _ => q)
theorem fx_cJ_ge {x1 x2 : Int} (b1 : -2147483648 ≤ x1 ∧ x1 ≤ 2147483647) (b2 : -2147483648 ≤ x2 ∧ x2 ≤ 2147483647) : (Int32.ofInt x2 ≤ Int32.ofInt x1) ↔ x2 ≤ x1 := by
  rw [Int32.le_iff_toInt_le, fx_ti b1, fx_ti b2]
theorem fx_c_ge {pT pF : Nat} (hc : am_at y pc (.if_icmp .ge ko, l, t, a, b, w)) (b1 : -2147483648 ≤ x1 ∧ x1 ≤ 2147483647) (b2 : -2147483648 ≤ x2 ∧ x2 ≤ 2147483647) (hT : t.toNat = pT) (hF : pc + 3 = pF) (qT : x2 ≤ x1 → am_ev d y pT ls r h x) (qF : x1 < x2 → am_ev d y pF ls r h x) : am_ev d y pc ls (iv x2 :: iv x1 :: r) h x := by
  subst hT hF
  by_cases c : x2 ≤ x1
  · exact am_ev.step hc (if_pos ((fx_cJ_ge b1 b2).2 c)) (qT c)
  · exact am_ev.step hc (if_neg (mt (fx_cJ_ge b1 b2).1 c)) (qF (by omega))
theorem fx_c_ge_T {pT : Nat} (hc : am_at y pc (.if_icmp .ge ko, l, t, a, b, w)) (b1 : -2147483648 ≤ x1 ∧ x1 ≤ 2147483647) (b2 : -2147483648 ≤ x2 ∧ x2 ≤ 2147483647) (hT : t.toNat = pT) (c : x2 ≤ x1) (q : am_ev d y pT ls r h x) : am_ev d y pc ls (iv x2 :: iv x1 :: r) h x := fx_c_ge hc b1 b2 hT rfl (fun _ => q) (fun z => absurd z (by omega))
theorem fx_c_ge_F {pF : Nat} (hc : am_at y pc (.if_icmp .ge ko, l, t, a, b, w)) (b1 : -2147483648 ≤ x1 ∧ x1 ≤ 2147483647) (b2 : -2147483648 ≤ x2 ∧ x2 ≤ 2147483647) (hF : pc + 3 = pF) (c : x1 < x2) (q : am_ev d y pF ls r h x) : am_ev d y pc ls (iv x2 :: iv x1 :: r) h x := fx_c_ge hc b1 b2 rfl hF (fun z => absurd z (by omega)) (fun _ => q)
theorem fx_cJ_gt {x1 x2 : Int} (b1 : -2147483648 ≤ x1 ∧ x1 ≤ 2147483647) (b2 : -2147483648 ≤ x2 ∧ x2 ≤ 2147483647) : (Int32.ofInt x2 < Int32.ofInt x1) ↔ x2 < x1 := by
  rw [Int32.lt_iff_toInt_lt, fx_ti b1, fx_ti b2]
theorem fx_c_gt {pT pF : Nat} (hc : am_at y pc (.if_icmp .gt ko, l, t, a, b, w)) (b1 : -2147483648 ≤ x1 ∧ x1 ≤ 2147483647) (b2 : -2147483648 ≤ x2 ∧ x2 ≤ 2147483647) (hT : t.toNat = pT) (hF : pc + 3 = pF) (qT : x2 < x1 → am_ev d y pT ls r h x) (qF : x1 ≤ x2 → am_ev d y pF ls r h x) : am_ev d y pc ls (iv x2 :: iv x1 :: r) h x := by
  subst hT hF
  by_cases c : x2 < x1
  · exact am_ev.step hc (if_pos ((fx_cJ_gt b1 b2).2 c)) (qT c)
  · exact am_ev.step hc (if_neg (mt (fx_cJ_gt b1 b2).1 c)) (qF (by omega))
theorem fx_c_gt_T {pT : Nat} (hc : am_at y pc (.if_icmp .gt ko, l, t, a, b, w)) (b1 : -2147483648 ≤ x1 ∧ x1 ≤ 2147483647) (b2 : -2147483648 ≤ x2 ∧ x2 ≤ 2147483647) (hT : t.toNat = pT) (c : x2 < x1) (q : am_ev d y pT ls r h x) : am_ev d y pc ls (iv x2 :: iv x1 :: r) h x := fx_c_gt hc b1 b2 hT rfl (fun _ => q) (fun z => absurd z (by omega))
theorem fx_c_gt_F {pF : Nat} (hc : am_at y pc (.if_icmp .gt ko, l, t, a, b, w)) (b1 : -2147483648 ≤ x1 ∧ x1 ≤ 2147483647) (b2 : -2147483648 ≤ x2 ∧ x2 ≤ 2147483647) (hF : pc + 3 = pF) (c : x1 ≤ x2) (q : am_ev d y pF ls r h x) : am_ev d y pc ls (iv x2 :: iv x1 :: r) h x := fx_c_gt hc b1 b2 rfl hF (fun z => absurd z (by omega)) (fun _ => q)
theorem fx_cJ_le {x1 x2 : Int} (b1 : -2147483648 ≤ x1 ∧ x1 ≤ 2147483647) (b2 : -2147483648 ≤ x2 ∧ x2 ≤ 2147483647) : (Int32.ofInt x1 ≤ Int32.ofInt x2) ↔ x1 ≤ x2 := by
  rw [Int32.le_iff_toInt_le, fx_ti b1, fx_ti b2]
theorem fx_c_le {pT pF : Nat} (hc : am_at y pc (.if_icmp .le ko, l, t, a, b, w)) (b1 : -2147483648 ≤ x1 ∧ x1 ≤ 2147483647) (b2 : -2147483648 ≤ x2 ∧ x2 ≤ 2147483647) (hT : t.toNat = pT) (hF : pc + 3 = pF) (qT : x1 ≤ x2 → am_ev d y pT ls r h x) (qF : x2 < x1 → am_ev d y pF ls r h x) : am_ev d y pc ls (iv x2 :: iv x1 :: r) h x := by
  subst hT hF
  by_cases c : x1 ≤ x2
  · exact am_ev.step hc (if_pos ((fx_cJ_le b1 b2).2 c)) (qT c)
  · exact am_ev.step hc (if_neg (mt (fx_cJ_le b1 b2).1 c)) (qF (by omega))
theorem fx_c_le_T {pT : Nat} (hc : am_at y pc (.if_icmp .le ko, l, t, a, b, w)) (b1 : -2147483648 ≤ x1 ∧ x1 ≤ 2147483647) (b2 : -2147483648 ≤ x2 ∧ x2 ≤ 2147483647) (hT : t.toNat = pT) (c : x1 ≤ x2) (q : am_ev d y pT ls r h x) : am_ev d y pc ls (iv x2 :: iv x1 :: r) h x := fx_c_le hc b1 b2 hT rfl (fun _ => q) (fun z => absurd z (by omega))
theorem fx_c_le_F {pF : Nat} (hc : am_at y pc (.if_icmp .le ko, l, t, a, b, w)) (b1 : -2147483648 ≤ x1 ∧ x1 ≤ 2147483647) (b2 : -2147483648 ≤ x2 ∧ x2 ≤ 2147483647) (hF : pc + 3 = pF) (c : x2 < x1) (q : am_ev d y pF ls r h x) : am_ev d y pc ls (iv x2 :: iv x1 :: r) h x := fx_c_le hc b1 b2 rfl hF (fun z => absurd z (by omega)) (fun _ => q)
theorem fx_cJ_eq {x1 x2 : Int} (b1 : -2147483648 ≤ x1 ∧ x1 ≤ 2147483647) (b2 : -2147483648 ≤ x2 ∧ x2 ≤ 2147483647) : (Int32.ofInt x1 = Int32.ofInt x2) ↔ x1 = x2 := by
  refine ⟨fun z => ?_, fun z => ?_⟩
  · have z := congrArg Int32.toInt z
    rw [fx_ti b1, fx_ti b2] at z
    exact z
  · apply Int32.toInt_inj.1
    rw [fx_ti b1, fx_ti b2]
    exact z
theorem fx_c_eq {pT pF : Nat} (hc : am_at y pc (.if_icmp .eq ko, l, t, a, b, w)) (b1 : -2147483648 ≤ x1 ∧ x1 ≤ 2147483647) (b2 : -2147483648 ≤ x2 ∧ x2 ≤ 2147483647) (hT : t.toNat = pT) (hF : pc + 3 = pF) (qT : x1 = x2 → am_ev d y pT ls r h x) (qF : x1 ≠ x2 → am_ev d y pF ls r h x) : am_ev d y pc ls (iv x2 :: iv x1 :: r) h x := by
  subst hT hF
  by_cases c : x1 = x2
  · exact am_ev.step hc (if_pos ((fx_cJ_eq b1 b2).2 c)) (qT c)
  · exact am_ev.step hc (if_neg (mt (fx_cJ_eq b1 b2).1 c)) (qF (by omega))
theorem fx_c_eq_T {pT : Nat} (hc : am_at y pc (.if_icmp .eq ko, l, t, a, b, w)) (b1 : -2147483648 ≤ x1 ∧ x1 ≤ 2147483647) (b2 : -2147483648 ≤ x2 ∧ x2 ≤ 2147483647) (hT : t.toNat = pT) (c : x1 = x2) (q : am_ev d y pT ls r h x) : am_ev d y pc ls (iv x2 :: iv x1 :: r) h x := fx_c_eq hc b1 b2 hT rfl (fun _ => q) (fun z => absurd z (by omega))
theorem fx_c_eq_F {pF : Nat} (hc : am_at y pc (.if_icmp .eq ko, l, t, a, b, w)) (b1 : -2147483648 ≤ x1 ∧ x1 ≤ 2147483647) (b2 : -2147483648 ≤ x2 ∧ x2 ≤ 2147483647) (hF : pc + 3 = pF) (c : x1 ≠ x2) (q : am_ev d y pF ls r h x) : am_ev d y pc ls (iv x2 :: iv x1 :: r) h x := fx_c_eq hc b1 b2 rfl hF (fun z => absurd z (by omega)) (fun _ => q)
theorem fx_cJ_ne {x1 x2 : Int} (b1 : -2147483648 ≤ x1 ∧ x1 ≤ 2147483647) (b2 : -2147483648 ≤ x2 ∧ x2 ≤ 2147483647) : (Int32.ofInt x1 = Int32.ofInt x2) ↔ x1 = x2 := by
  refine ⟨fun z => ?_, fun z => ?_⟩
  · have z := congrArg Int32.toInt z
    rw [fx_ti b1, fx_ti b2] at z
    exact z
  · apply Int32.toInt_inj.1
    rw [fx_ti b1, fx_ti b2]
    exact z
theorem fx_c_ne {pT pF : Nat} (hc : am_at y pc (.if_icmp .ne ko, l, t, a, b, w)) (b1 : -2147483648 ≤ x1 ∧ x1 ≤ 2147483647) (b2 : -2147483648 ≤ x2 ∧ x2 ≤ 2147483647) (hT : t.toNat = pT) (hF : pc + 3 = pF) (qT : x1 ≠ x2 → am_ev d y pT ls r h x) (qF : x1 = x2 → am_ev d y pF ls r h x) : am_ev d y pc ls (iv x2 :: iv x1 :: r) h x := by
  subst hT hF
  by_cases c : x1 = x2
  · exact am_ev.step hc (if_pos ((fx_cJ_ne b1 b2).2 c)) (qF c)
  · exact am_ev.step hc (if_neg (mt (fx_cJ_ne b1 b2).1 c)) (qT c)
theorem fx_c_ne_T {pT : Nat} (hc : am_at y pc (.if_icmp .ne ko, l, t, a, b, w)) (b1 : -2147483648 ≤ x1 ∧ x1 ≤ 2147483647) (b2 : -2147483648 ≤ x2 ∧ x2 ≤ 2147483647) (hT : t.toNat = pT) (c : x1 ≠ x2) (q : am_ev d y pT ls r h x) : am_ev d y pc ls (iv x2 :: iv x1 :: r) h x := fx_c_ne hc b1 b2 hT rfl (fun _ => q) (fun z => absurd z (by omega))
theorem fx_c_ne_F {pF : Nat} (hc : am_at y pc (.if_icmp .ne ko, l, t, a, b, w)) (b1 : -2147483648 ≤ x1 ∧ x1 ≤ 2147483647) (b2 : -2147483648 ≤ x2 ∧ x2 ≤ 2147483647) (hF : pc + 3 = pF) (c : x1 = x2) (q : am_ev d y pF ls r h x) : am_ev d y pc ls (iv x2 :: iv x1 :: r) h x := fx_c_ne hc b1 b2 rfl hF (fun z => absurd z (by omega)) (fun _ => q)
theorem fx_zJ_lt {x1 : Int} (b1 : -2147483648 ≤ x1 ∧ x1 ≤ 2147483647) : (Int32.ofInt x1 < 0) ↔ x1 < 0 := by
  rw [Int32.lt_iff_toInt_lt, fx_ti b1, show (0 : Int32).toInt = 0 by decide]
theorem fx_z_lt {pT pF : Nat} (hc : am_at y pc (.ifCond .lt ko, l, t, a, b, w)) (b1 : -2147483648 ≤ x1 ∧ x1 ≤ 2147483647) (hT : t.toNat = pT) (hF : pc + 3 = pF) (qT : x1 < 0 → am_ev d y pT ls r h x) (qF : 0 ≤ x1 → am_ev d y pF ls r h x) : am_ev d y pc ls (iv x1 :: r) h x := by
  subst hT hF
  by_cases c : x1 < 0
  · exact am_ev.step hc (if_pos ((fx_zJ_lt b1).2 c)) (qT c)
  · exact am_ev.step hc (if_neg (mt (fx_zJ_lt b1).1 c)) (qF (by omega))
theorem fx_z_lt_T {pT : Nat} (hc : am_at y pc (.ifCond .lt ko, l, t, a, b, w)) (b1 : -2147483648 ≤ x1 ∧ x1 ≤ 2147483647) (hT : t.toNat = pT) (c : x1 < 0) (q : am_ev d y pT ls r h x) : am_ev d y pc ls (iv x1 :: r) h x := fx_z_lt hc b1 hT rfl (fun _ => q) (fun z => absurd z (by omega))
theorem fx_z_lt_F {pF : Nat} (hc : am_at y pc (.ifCond .lt ko, l, t, a, b, w)) (b1 : -2147483648 ≤ x1 ∧ x1 ≤ 2147483647) (hF : pc + 3 = pF) (c : 0 ≤ x1) (q : am_ev d y pF ls r h x) : am_ev d y pc ls (iv x1 :: r) h x := fx_z_lt hc b1 rfl hF (fun z => absurd z (by omega)) (fun _ => q)
theorem fx_zJ_ge {x1 : Int} (b1 : -2147483648 ≤ x1 ∧ x1 ≤ 2147483647) : (0 ≤ Int32.ofInt x1) ↔ 0 ≤ x1 := by
  rw [Int32.le_iff_toInt_le, fx_ti b1, show (0 : Int32).toInt = 0 by decide]
theorem fx_z_ge {pT pF : Nat} (hc : am_at y pc (.ifCond .ge ko, l, t, a, b, w)) (b1 : -2147483648 ≤ x1 ∧ x1 ≤ 2147483647) (hT : t.toNat = pT) (hF : pc + 3 = pF) (qT : 0 ≤ x1 → am_ev d y pT ls r h x) (qF : x1 < 0 → am_ev d y pF ls r h x) : am_ev d y pc ls (iv x1 :: r) h x := by
  subst hT hF
  by_cases c : 0 ≤ x1
  · exact am_ev.step hc (if_pos ((fx_zJ_ge b1).2 c)) (qT c)
  · exact am_ev.step hc (if_neg (mt (fx_zJ_ge b1).1 c)) (qF (by omega))
theorem fx_z_ge_T {pT : Nat} (hc : am_at y pc (.ifCond .ge ko, l, t, a, b, w)) (b1 : -2147483648 ≤ x1 ∧ x1 ≤ 2147483647) (hT : t.toNat = pT) (c : 0 ≤ x1) (q : am_ev d y pT ls r h x) : am_ev d y pc ls (iv x1 :: r) h x := fx_z_ge hc b1 hT rfl (fun _ => q) (fun z => absurd z (by omega))
theorem fx_z_ge_F {pF : Nat} (hc : am_at y pc (.ifCond .ge ko, l, t, a, b, w)) (b1 : -2147483648 ≤ x1 ∧ x1 ≤ 2147483647) (hF : pc + 3 = pF) (c : x1 < 0) (q : am_ev d y pF ls r h x) : am_ev d y pc ls (iv x1 :: r) h x := fx_z_ge hc b1 rfl hF (fun z => absurd z (by omega)) (fun _ => q)
theorem fx_zJ_gt {x1 : Int} (b1 : -2147483648 ≤ x1 ∧ x1 ≤ 2147483647) : (0 < Int32.ofInt x1) ↔ 0 < x1 := by
  rw [Int32.lt_iff_toInt_lt, fx_ti b1, show (0 : Int32).toInt = 0 by decide]
theorem fx_z_gt {pT pF : Nat} (hc : am_at y pc (.ifCond .gt ko, l, t, a, b, w)) (b1 : -2147483648 ≤ x1 ∧ x1 ≤ 2147483647) (hT : t.toNat = pT) (hF : pc + 3 = pF) (qT : 0 < x1 → am_ev d y pT ls r h x) (qF : x1 ≤ 0 → am_ev d y pF ls r h x) : am_ev d y pc ls (iv x1 :: r) h x := by
  subst hT hF
  by_cases c : 0 < x1
  · exact am_ev.step hc (if_pos ((fx_zJ_gt b1).2 c)) (qT c)
  · exact am_ev.step hc (if_neg (mt (fx_zJ_gt b1).1 c)) (qF (by omega))
theorem fx_z_gt_T {pT : Nat} (hc : am_at y pc (.ifCond .gt ko, l, t, a, b, w)) (b1 : -2147483648 ≤ x1 ∧ x1 ≤ 2147483647) (hT : t.toNat = pT) (c : 0 < x1) (q : am_ev d y pT ls r h x) : am_ev d y pc ls (iv x1 :: r) h x := fx_z_gt hc b1 hT rfl (fun _ => q) (fun z => absurd z (by omega))
theorem fx_z_gt_F {pF : Nat} (hc : am_at y pc (.ifCond .gt ko, l, t, a, b, w)) (b1 : -2147483648 ≤ x1 ∧ x1 ≤ 2147483647) (hF : pc + 3 = pF) (c : x1 ≤ 0) (q : am_ev d y pF ls r h x) : am_ev d y pc ls (iv x1 :: r) h x := fx_z_gt hc b1 rfl hF (fun z => absurd z (by omega)) (fun _ => q)
theorem fx_zJ_le {x1 : Int} (b1 : -2147483648 ≤ x1 ∧ x1 ≤ 2147483647) : (Int32.ofInt x1 ≤ 0) ↔ x1 ≤ 0 := by
  rw [Int32.le_iff_toInt_le, fx_ti b1, show (0 : Int32).toInt = 0 by decide]
theorem fx_z_le {pT pF : Nat} (hc : am_at y pc (.ifCond .le ko, l, t, a, b, w)) (b1 : -2147483648 ≤ x1 ∧ x1 ≤ 2147483647) (hT : t.toNat = pT) (hF : pc + 3 = pF) (qT : x1 ≤ 0 → am_ev d y pT ls r h x) (qF : 0 < x1 → am_ev d y pF ls r h x) : am_ev d y pc ls (iv x1 :: r) h x := by
  subst hT hF
  by_cases c : x1 ≤ 0
  · exact am_ev.step hc (if_pos ((fx_zJ_le b1).2 c)) (qT c)
  · exact am_ev.step hc (if_neg (mt (fx_zJ_le b1).1 c)) (qF (by omega))
theorem fx_z_le_T {pT : Nat} (hc : am_at y pc (.ifCond .le ko, l, t, a, b, w)) (b1 : -2147483648 ≤ x1 ∧ x1 ≤ 2147483647) (hT : t.toNat = pT) (c : x1 ≤ 0) (q : am_ev d y pT ls r h x) : am_ev d y pc ls (iv x1 :: r) h x := fx_z_le hc b1 hT rfl (fun _ => q) (fun z => absurd z (by omega))
theorem fx_z_le_F {pF : Nat} (hc : am_at y pc (.ifCond .le ko, l, t, a, b, w)) (b1 : -2147483648 ≤ x1 ∧ x1 ≤ 2147483647) (hF : pc + 3 = pF) (c : 0 < x1) (q : am_ev d y pF ls r h x) : am_ev d y pc ls (iv x1 :: r) h x := fx_z_le hc b1 rfl hF (fun z => absurd z (by omega)) (fun _ => q)
theorem fx_zJ_eq {x1 : Int} (b1 : -2147483648 ≤ x1 ∧ x1 ≤ 2147483647) : (Int32.ofInt x1 = 0) ↔ x1 = 0 := by
  refine ⟨fun z => ?_, fun z => ?_⟩
  · have z := congrArg Int32.toInt z
    rw [fx_ti b1, show (0 : Int32).toInt = 0 by decide] at z
    exact z
  · apply Int32.toInt_inj.1
    rw [fx_ti b1, show (0 : Int32).toInt = 0 by decide]
    exact z
theorem fx_z_eq {pT pF : Nat} (hc : am_at y pc (.ifCond .eq ko, l, t, a, b, w)) (b1 : -2147483648 ≤ x1 ∧ x1 ≤ 2147483647) (hT : t.toNat = pT) (hF : pc + 3 = pF) (qT : x1 = 0 → am_ev d y pT ls r h x) (qF : x1 ≠ 0 → am_ev d y pF ls r h x) : am_ev d y pc ls (iv x1 :: r) h x := by
  subst hT hF
  by_cases c : x1 = 0
  · exact am_ev.step hc (if_pos ((fx_zJ_eq b1).2 c)) (qT c)
  · exact am_ev.step hc (if_neg (mt (fx_zJ_eq b1).1 c)) (qF (by omega))
theorem fx_z_eq_T {pT : Nat} (hc : am_at y pc (.ifCond .eq ko, l, t, a, b, w)) (b1 : -2147483648 ≤ x1 ∧ x1 ≤ 2147483647) (hT : t.toNat = pT) (c : x1 = 0) (q : am_ev d y pT ls r h x) : am_ev d y pc ls (iv x1 :: r) h x := fx_z_eq hc b1 hT rfl (fun _ => q) (fun z => absurd z (by omega))
theorem fx_z_eq_F {pF : Nat} (hc : am_at y pc (.ifCond .eq ko, l, t, a, b, w)) (b1 : -2147483648 ≤ x1 ∧ x1 ≤ 2147483647) (hF : pc + 3 = pF) (c : x1 ≠ 0) (q : am_ev d y pF ls r h x) : am_ev d y pc ls (iv x1 :: r) h x := fx_z_eq hc b1 rfl hF (fun z => absurd z (by omega)) (fun _ => q)
theorem fx_zJ_ne {x1 : Int} (b1 : -2147483648 ≤ x1 ∧ x1 ≤ 2147483647) : (Int32.ofInt x1 = 0) ↔ x1 = 0 := by
  refine ⟨fun z => ?_, fun z => ?_⟩
  · have z := congrArg Int32.toInt z
    rw [fx_ti b1, show (0 : Int32).toInt = 0 by decide] at z
    exact z
  · apply Int32.toInt_inj.1
    rw [fx_ti b1, show (0 : Int32).toInt = 0 by decide]
    exact z
theorem fx_z_ne {pT pF : Nat} (hc : am_at y pc (.ifCond .ne ko, l, t, a, b, w)) (b1 : -2147483648 ≤ x1 ∧ x1 ≤ 2147483647) (hT : t.toNat = pT) (hF : pc + 3 = pF) (qT : x1 ≠ 0 → am_ev d y pT ls r h x) (qF : x1 = 0 → am_ev d y pF ls r h x) : am_ev d y pc ls (iv x1 :: r) h x := by
  subst hT hF
  by_cases c : x1 = 0
  · exact am_ev.step hc (if_pos ((fx_zJ_ne b1).2 c)) (qF c)
  · exact am_ev.step hc (if_neg (mt (fx_zJ_ne b1).1 c)) (qT c)
theorem fx_z_ne_T {pT : Nat} (hc : am_at y pc (.ifCond .ne ko, l, t, a, b, w)) (b1 : -2147483648 ≤ x1 ∧ x1 ≤ 2147483647) (hT : t.toNat = pT) (c : x1 ≠ 0) (q : am_ev d y pT ls r h x) : am_ev d y pc ls (iv x1 :: r) h x := fx_z_ne hc b1 hT rfl (fun _ => q) (fun z => absurd z (by omega))
theorem fx_z_ne_F {pF : Nat} (hc : am_at y pc (.ifCond .ne ko, l, t, a, b, w)) (b1 : -2147483648 ≤ x1 ∧ x1 ≤ 2147483647) (hF : pc + 3 = pF) (c : x1 = 0) (q : am_ev d y pF ls r h x) : am_ev d y pc ls (iv x1 :: r) h x := fx_z_ne hc b1 rfl hF (fun z => absurd z (by omega)) (fun _ => q)
end FXS
/-! WHAT NO CALL CHANGES: kinds of the fixed cells, the static rows, the references -/
def fS (h : am_H) : Prop := 130 ≤ h.1 ∧ (∀ c, 40 ≤ c → c < 130 → h.2.2.1 c = cq_fix c) ∧ (∀ c, 1 ≤ c → c < 7 → h.2.2.1 c = (2, 0, 7) ∧ ∀ j, j < 7 → h.2.2.2 c j = .int (Int32.ofInt (cq_sv c j))) ∧ (∀ c j k, 40 ≤ c → c < 130 → j < (cq_fix c).2.2 → cq_ty c j = (3, 0, 0, k, 0, 0) → h.2.2.2 c j = .ref k)
section FSS
variable {h : am_H}
theorem fS.of (I : cq_Inv none h) : fS h := ⟨I.lo, I.fx, I.sv, fun c j k h1 h2 h3 e => by
  have q := I.ty c h1 (Nat.lt_of_lt_of_le h2 I.lo) (fun z => by cases z) j (by rw [I.fx c h1 h2]; exact h3)
  unfold cq_tyOf at q
  rw [show Nat.blt c 130 = true from Nat.ble_eq_true_of_le h2] at q
  have q : cq_ht h j (cq_ty c j) (h.2.2.2 c j) := q
  rw [e] at q
  exact q⟩
theorem fS.po (S : fS h) {c j : Nat} {v : Value} (h7 : Nat.ble 7 c = true) (n : Nat.beq (cq_ty c j).1 3 = false) : fS (am_put h c j v) := by
  have h7 := Nat.le_of_ble_eq_true h7
  refine ⟨S.1, S.2.1, fun c' a1 a2 => ⟨(S.2.2.1 c' a1 a2).1, fun j' hj => ax_put_o (Or.inl (by omega)) ((S.2.2.1 c' a1 a2).2 j' hj)⟩, fun c' j' k a1 a2 a3 e => ax_put_o ?_ (S.2.2.2 c' j' k a1 a2 a3 e)⟩
  by_cases e1 : c' = c
  · by_cases e2 : j' = j
    · subst e1 e2
      rw [e] at n
      cases n
    · exact Or.inr e2
  · exact Or.inl e1
theorem fS.pa (S : fS h) {c j : Nat} {v : Value} (q : (Nat.ble 7 c && cq_isA c && !Nat.beq (cq_ar c).1 3) = true) : fS (am_put h c j v) := by
  have b1 := (Bool.and_eq_true _ _ ▸ q)
  have b2 := (Bool.and_eq_true _ _ ▸ b1.1)
  refine S.po b2.1 ?_
  have b3 := b1.2
  unfold cq_ty
  rw [b2.2]
  cases z : (Nat.beq c 81 || Nat.beq c 83) && Nat.beq j 1 with
  | true => rfl
  | false =>
    show Nat.beq (cq_ar c).1 3 = false
    simpa using b3
theorem fS.pd (S : fS h) {c j : Nat} {v : Value} (q : 130 ≤ c) : fS (am_put h c j v) := ⟨S.1, S.2.1, fun c' a1 a2 => ⟨(S.2.2.1 c' a1 a2).1, fun j' hj => ax_put_o (Or.inl (by omega)) ((S.2.2.1 c' a1 a2).2 j' hj)⟩, fun c' j' k a1 a2 a3 e => ax_put_o (Or.inl (by omega)) (S.2.2.2 c' j' k a1 a2 a3 e)⟩
theorem fS.mk (S : fS h) {sh : am_Sh} {N : Nat} {dv : Nat → Value} : fS (am_mk h sh N dv) := by
  have lo := S.1
  refine ⟨Nat.le_succ_of_le lo, fun c a1 a2 => ?_, fun c a1 a2 => ⟨?_, fun j hj => ?_⟩, fun c j k a1 a2 a3 e => ?_⟩
  · show (if c = h.1 then sh else h.2.2.1 c) = _
    rw [if_neg (by omega)]
    exact S.2.1 c a1 a2
  · show (if c = h.1 then sh else h.2.2.1 c) = _
    rw [if_neg (by omega)]
    exact (S.2.2.1 c a1 a2).1
  · show (if c = h.1 then dv j else h.2.2.2 c j) = _
    rw [if_neg (by omega)]
    exact (S.2.2.1 c a1 a2).2 j hj
  · show (if c = h.1 then dv j else h.2.2.2 c j) = _
    rw [if_neg (by omega)]
    exact S.2.2.2 c j k a1 a2 a3 e
theorem fS.ob (S : fS h) {c k : Nat} (q : (Nat.ble 40 c && Nat.blt c 130 && Nat.beq (cq_fix c).1 0 && Nat.beq (cq_fix c).2.1 k) = true) : am_isO h c k = true := by
  have b1 := (Bool.and_eq_true _ _ ▸ q)
  have b2 := (Bool.and_eq_true _ _ ▸ b1.1)
  have b3 := (Bool.and_eq_true _ _ ▸ b2.1)
  have hc : c < 130 := Nat.le_of_ble_eq_true b3.2
  unfold am_isO
  rw [S.2.1 c (Nat.le_of_ble_eq_true b3.1) hc, show Nat.blt c h.1 = true from Nat.ble_eq_true_of_le (Nat.lt_of_lt_of_le hc S.1), b2.2, b1.2]
  rfl
theorem fS.rf (S : fS h) {c j k : Nat} (q : (Nat.ble 40 c && Nat.blt c 130 && Nat.blt j (cq_fix c).2.2) = true) (e : cq_ty c j = (3, 0, 0, k, 0, 0)) : h.2.2.2 c j = .ref k := by
  have b2 := (Bool.and_eq_true _ _ ▸ q)
  have b3 := (Bool.and_eq_true _ _ ▸ b2.1)
  exact S.2.2.2 c j k (Nat.le_of_ble_eq_true b3.1) (Nat.le_of_ble_eq_true b3.2) (Nat.le_of_ble_eq_true b2.2) e
theorem fO {h : am_H} {c j a k : Nat} {v : Value} (q : am_isO h a k = true) : am_isO (am_put h c j v) a k = true := q
theorem fx_rng {k n : Nat} (hk : k < n) (hn : Nat.ble n 100000 = true) : (Int32.ofInt (k : Int)).toInt = (k : Int) := by
  have := Nat.le_of_ble_eq_true hn
  exact fx_ti (by omega)
theorem fS.rd (S : fS h) {c tc n k : Nat} {e : Int} {ok : Nat → Bool} {v : Value} (q : (Nat.ble 40 c && Nat.blt c 130) = true) (fx : cq_fix c = (1, tc, n)) (o : ok tc = true) (hn : Nat.ble n 100000 = true) (he : e = (k : Int)) (hk : k < n) (hv : h.2.2.2 c k = v) : am_rd h c (Int32.ofInt e) ok = some v := by
  subst he
  have b3 := (Bool.and_eq_true _ _ ▸ q)
  have hc : c < 130 := Nat.le_of_ble_eq_true b3.2
  have r := fx_rng hk hn
  rw [ax_rdv (n := n) (tc := tc) (kd := 1) (Nat.lt_of_lt_of_le hc S.1) (by rw [S.2.1 c (Nat.le_of_ble_eq_true b3.1) hc, fx]) rfl o (by omega) (by omega), r, Int.toNat_natCast, hv]
theorem fS.wr (S : fS h) {c tc n k : Nat} {e : Int} {v : Value} (q : (Nat.ble 40 c && Nat.blt c 130) = true) (fx : cq_fix c = (1, tc, n)) (hn : Nat.ble n 100000 = true) (he : e = (k : Int)) (hk : k < n) : am_wr h c (Int32.ofInt e) tc v = some (am_put h c k v) := by
  subst he
  have b3 := (Bool.and_eq_true _ _ ▸ q)
  have hc : c < 130 := Nat.le_of_ble_eq_true b3.2
  have r := fx_rng hk hn
  rw [ax_wrv (n := n) (tc := tc) (Nat.lt_of_lt_of_le hc S.1) (by rw [S.2.1 c (Nat.le_of_ble_eq_true b3.1) hc, fx]) (by omega) (by omega), r, Int.toNat_natCast]
theorem fS.rs (S : fS h) {c k : Nat} {e : Int} (q : (Nat.ble 1 c && Nat.blt c 7) = true) (he : e = (k : Int)) (hk : k < 7) : am_rd h c (Int32.ofInt e) (fun c => Nat.beq c 0) = some (iv (cq_sv c k)) := by
  subst he
  have b3 := (Bool.and_eq_true _ _ ▸ q)
  have h1 := Nat.le_of_ble_eq_true b3.1
  have h2 : c < 7 := Nat.le_of_ble_eq_true b3.2
  have lo := S.1
  have r : (Int32.ofInt (k : Int)).toInt = (k : Int) := fx_ti (by omega)
  rw [ax_rdv (n := 7) (tc := 0) (kd := 2) (by omega) (S.2.2.1 c h1 h2).1 rfl rfl (by omega) (by omega), r, Int.toNat_natCast, (S.2.2.1 c h1 h2).2 k hk]
theorem fS.sb (S : fS h) {c : Nat} (q : (Nat.ble 40 c && Nat.blt c 130) = true) (n : Nat.beq (cq_fix c).2.1 1 = false) : Nat.beq (h.2.2.1 c).2.1 1 = false := by
  have b3 := (Bool.and_eq_true _ _ ▸ q)
  have hc : c < 130 := Nat.le_of_ble_eq_true b3.2
  rw [S.2.1 c (Nat.le_of_ble_eq_true b3.1) hc]
  exact n
theorem fS.sb1 (S : fS h) {c : Nat} (q : (Nat.ble 40 c && Nat.blt c 130) = true) (n : Nat.beq (cq_fix c).2.1 1 = true) : Nat.beq (h.2.2.1 c).2.1 1 = true := by
  have b3 := (Bool.and_eq_true _ _ ▸ q)
  have hc : c < 130 := Nat.le_of_ble_eq_true b3.2
  rw [S.2.1 c (Nat.le_of_ble_eq_true b3.1) hc]
  exact n
theorem fS.al (S : fS h) {c tc n : Nat} (q : (Nat.ble 40 c && Nat.blt c 130) = true) (fx : cq_fix c = (1, tc, n)) : am_len h c = some n := by
  have b3 := (Bool.and_eq_true _ _ ▸ q)
  have hc : c < 130 := Nat.le_of_ble_eq_true b3.2
  unfold am_len
  rw [S.2.1 c (Nat.le_of_ble_eq_true b3.1) hc, fx, show Nat.blt c h.1 = true from Nat.ble_eq_true_of_le (Nat.lt_of_lt_of_le hc S.1)]
  rfl
theorem fx_alen {d y pc p' i n : Nat} {ls r : List Value} {x : Option Value × am_H} {l a b w : Nat} {t : Int} (hc : am_at y pc (.arraylength, l, t, a, b, w)) (hp : pc + 1 = p') (N : am_len h i = some n) (q : am_ev d y p' ls (iv (n : Int) :: r) h x) : am_ev d y pc ls (.ref i :: r) h x := by
  refine ax_len hc hp N ?_
  rw [← Int32.ofInt_eq_ofNat]
  exact q
end FSS
theorem ax_callT {d y pc a z : Nat} {ls as rr st : List Value} {h h2 : am_H} {e : am_E} (hc : am_at y pc e) (hi : am_isC e.1) (hz : e.2.2.2.1 = z) (nz : (Nat.blt 0 z && Nat.blt z 264 && !Nat.beq z 10 && !Nat.beq z 57) = true) (hst : st = as.reverse ++ rr) (hlen : as.length = (am_in z).2.1) (hcs : Nat.ble (am_cs rr) 8 = true) (hw : Nat.ble (am_wid as).length (am_in z).2.2.1 = true) (hrcv : am_rcv z as h = true) (q1 : am_ev d z 0 (am_ent as (am_in z).2.2.1) [] h (some (.retAddr (a + 1)), h2)) (hk : (am_in z).2.2.2 = 0) (hy : Nat.blt 0 y = true) (ha : am_isO h2 a 12 = true) (hh : am_ctc (am_hh y) pc = none) : am_ev (d + 1) y pc ls st h (some (.retAddr (a + 1)), h2) := by
  subst hz
  have n1 := (Bool.and_eq_true _ _ ▸ nz)
  have n2 := (Bool.and_eq_true _ _ ▸ n1.1)
  have n3 := (Bool.and_eq_true _ _ ▸ n2.1)
  refine am_ev.callT hc hi ⟨Nat.le_of_ble_eq_true n3.1, Nat.le_of_ble_eq_true n3.2, fun z => ?_, fun z => ?_⟩ hst hlen (Nat.le_of_ble_eq_true hcs) hrcv (Nat.le_of_ble_eq_true hw) q1 hk (Nat.le_of_ble_eq_true hy) ha hh
  · have := n2.2
    rw [z] at this
    cases this
  · have := n1.2
    rw [z] at this
    cases this
theorem ax_callC {d y pc a z p' : Nat} {ls as rr st : List Value} {h h2 : am_H} {x : Option Value × am_H} {e : am_E} (hc : am_at y pc e) (hi : am_isC e.1) (hz : e.2.2.2.1 = z) (nz : (Nat.blt 0 z && Nat.blt z 264 && !Nat.beq z 10 && !Nat.beq z 57) = true) (hst : st = as.reverse ++ rr) (hlen : as.length = (am_in z).2.1) (hcs : Nat.ble (am_cs rr) 8 = true) (hw : Nat.ble (am_wid as).length (am_in z).2.2.1 = true) (hrcv : am_rcv z as h = true) (q1 : am_ev d z 0 (am_ent as (am_in z).2.2.1) [] h (some (.retAddr (a + 1)), h2)) (hk : (am_in z).2.2.2 = 0) (hy : Nat.blt 0 y = true) (ha : am_isO h2 a 12 = true) (hh : am_ctc (am_hh y) pc = some p') (q2 : am_ev (d + 1) y p' ls [.ref a] h2 x) : am_ev (d + 1) y pc ls st h x := by
  subst hz
  have n1 := (Bool.and_eq_true _ _ ▸ nz)
  have n2 := (Bool.and_eq_true _ _ ▸ n1.1)
  have n3 := (Bool.and_eq_true _ _ ▸ n2.1)
  refine am_ev.callC hc hi ⟨Nat.le_of_ble_eq_true n3.1, Nat.le_of_ble_eq_true n3.2, fun z => ?_, fun z => ?_⟩ hst hlen (Nat.le_of_ble_eq_true hcs) hrcv (Nat.le_of_ble_eq_true hw) q1 hk (Nat.le_of_ble_eq_true hy) ha hh q2
  · have := n2.2
    rw [z] at this
    cases this
  · have := n1.2
    rw [z] at this
    cases this
theorem b_88 (x : Int8) : x.toInt32.toInt8.toInt32 = x.toInt32 := by rw [Int8.toInt8_toInt32]
theorem ax_bas1 {d y pc p' i l a b w : Nat} {t : Int} {ls r : List Value} {h h' : am_H} {x : Option Value × am_H} {j u : Int32} (hc : am_at y pc (.bastore, l, t, a, b, w)) (hp : pc + 1 = p') (W : am_wr h i j 1 (.int u) = some h') (s : Nat.beq (h.2.2.1 i).2.1 1 = true) (hu : u.toInt8.toInt32 = u) (q : am_ev d y p' ls r h' x) : am_ev d y pc ls (.int u :: .int j :: .ref i :: r) h x := by
  subst hp
  refine am_ev.step hc ?_ q
  dsimp only [am_st]
  rw [s, hu]
  show (match am_wr h i j 1 (.int u) with
    | some h' => some (pc + 1, ls, r, h')
    | none => none) = _
  rw [W]
theorem ax_bas2 {d y pc p' i l a b w : Nat} {t : Int} {ls r : List Value} {h h' : am_H} {x : Option Value × am_H} {j u : Int32} (hc : am_at y pc (.bastore, l, t, a, b, w)) (hp : pc + 1 = p') (W : am_wr h i j 2 (.int u) = some h') (s : Nat.beq (h.2.2.1 i).2.1 1 = false) (hu : u &&& 1 = u) (q : am_ev d y p' ls r h' x) : am_ev d y pc ls (.int u :: .int j :: .ref i :: r) h x := by
  subst hp
  refine am_ev.step hc ?_ q
  dsimp only [am_st]
  rw [s, hu]
  show (match am_wr h i j 2 (.int u) with
    | some h' => some (pc + 1, ls, r, h')
    | none => none) = _
  rw [W]
theorem fx_heq {h g : am_H} (h1 : h.1 = g.1) (h2 : h.2.1 = g.2.1) (h3 : h.2.2.1 = g.2.2.1) (h4 : ∀ c j, h.2.2.2 c j = g.2.2.2 c j) : h = g := Prod.ext h1 (Prod.ext h2 (Prod.ext h3 (funext fun c => funext fun j => h4 c j)))
def fx_cpl (h : am_H) (a b : Nat) : Nat → am_H
  | 0 => h
  | n + 1 => am_put (fx_cpl h a b n) b n (h.2.2.2 a n)
theorem fx_cpl_v {h : am_H} {a b : Nat} : ∀ (n c j : Nat), (fx_cpl h a b n).2.2.2 c j = if c = b ∧ j < n then h.2.2.2 a j else h.2.2.2 c j
  | 0, c, j => by
    rw [if_neg (by omega)]
    rfl
  | n + 1, c, j => by
    show (if c = b then (if j = n then h.2.2.2 a n else (fx_cpl h a b n).2.2.2 c j) else (fx_cpl h a b n).2.2.2 c j) = _
    rw [fx_cpl_v n c j]
    by_cases e1 : c = b
    · by_cases e2 : j = n
      · rw [if_pos e1, if_pos e2, if_pos ⟨e1, by omega⟩, e2]
      · rw [if_pos e1, if_neg e2]
        by_cases e3 : j < n
        · rw [if_pos ⟨e1, e3⟩, if_pos ⟨e1, by omega⟩]
        · rw [if_neg (fun z => e3 z.2), if_neg (fun z => by omega)]
    · rw [if_neg e1, if_neg (fun z => e1 z.1), if_neg (fun z => e1 z.1)]
theorem fx_cpl_s {h : am_H} {a b : Nat} : ∀ n, (fx_cpl h a b n).1 = h.1 ∧ (fx_cpl h a b n).2.1 = h.2.1 ∧ (fx_cpl h a b n).2.2.1 = h.2.2.1
  | 0 => ⟨rfl, rfl, rfl⟩
  | n + 1 => fx_cpl_s n
def fx_cpv (h : am_H) (b : Nat) (V : Nat → Value) : Nat → am_H
  | 0 => h
  | n + 1 => am_put (fx_cpv h b V n) b n (V n)
theorem fx_cpe {h : am_H} {a b : Nat} {V : Nat → Value} : ∀ n, (∀ i, i < n → h.2.2.2 a i = V i) → fx_cpl h a b n = fx_cpv h b V n
  | 0, _ => rfl
  | n + 1, q => by
    show am_put (fx_cpl h a b n) b n (h.2.2.2 a n) = am_put (fx_cpv h b V n) b n (V n)
    rw [fx_cpe n (fun i hi => q i (by omega)), q n (by omega)]
/-- a copy between arrays of ints, from place 0 to place 0 -/
theorem fx_cp {h : am_H} {a b n ka na nb : Nat} (la : a < h.1) (lb : b < h.1) (sa : h.2.2.1 a = (ka, 0, na)) (hka : (Nat.beq ka 1 || Nat.beq ka 2) = true) (sb : h.2.2.1 b = (1, 0, nb)) (n1 : n ≤ na) (n2 : n ≤ nb) (hn : n ≤ 1000) (vi : ∀ i, i < n → ∃ x : Int32, h.2.2.2 a i = .int x) : am_cp h a (Int32.ofInt 0) b (Int32.ofInt 0) (Int32.ofInt (n : Int)) = some (fx_cpl h a b n) := by
  have e0 : (Int32.ofInt 0).toNatClampNeg = 0 := by decide
  have en : (Int32.ofInt (n : Int)).toInt = (n : Int) := fx_ti (by omega)
  have en2 : (Int32.ofInt (n : Int)).toNatClampNeg = n := by
    show (Int32.ofInt (n : Int)).toInt.toNat = n
    rw [en, Int.toNat_natCast]
  unfold am_cp
  rw [sa, sb, show Nat.blt a h.1 = true from Nat.ble_eq_true_of_le la, show Nat.blt b h.1 = true from Nat.ble_eq_true_of_le lb]
  dsimp only
  rw [hka, e0, en2]
  have c1 : ¬ (Int32.ofInt 0 < 0 ∨ Int32.ofInt 0 < 0 ∨ Int32.ofInt (n : Int) < 0 ∨ na < 0 + n ∨ nb < 0 + n) := by
    rintro (z | z | z | z | z)
    · exact absurd z (by decide)
    · exact absurd z (by decide)
    · have z := Int32.lt_iff_toInt_lt.1 z
      rw [en, show (0 : Int32).toInt = 0 by decide] at z
      omega
    · omega
    · omega
  have c2 : (List.range n).all (fun i => am_isI (h.2.2.2 a (0 + i))) = true := List.all_eq_true.2 fun i hi => by
    obtain ⟨x, hx⟩ := vi i (List.mem_range.1 hi)
    rw [Nat.zero_add, hx]
    rfl
  rw [if_neg c1, c2]
  show some _ = some _
  congr 1
  obtain ⟨q1, q2, q3⟩ := fx_cpl_s (h := h) (a := a) (b := b) n
  refine fx_heq q1.symm q2.symm q3.symm fun c j => ?_
  rw [fx_cpl_v]
  show (if c = b then (if 0 ≤ j ∧ j < 0 + n then h.2.2.2 a (0 + (j - 0)) else h.2.2.2 b j) else h.2.2.2 c j) = _
  by_cases e1 : c = b
  · by_cases e2 : j < n
    · rw [if_pos e1, if_pos ⟨Nat.zero_le _, by omega⟩, if_pos ⟨e1, e2⟩, Nat.sub_zero, Nat.zero_add]
    · rw [if_pos e1, if_neg (fun z => e2 (by omega)), if_neg (fun z => e2 z.2), e1]
  · rw [if_neg e1, if_neg (fun z => e1 z.1)]
theorem fx_cpy {d y pc p' : Nat} {ls r : List Value} {x : Option Value × am_H} {e : am_E} {h : am_H} {a b n ka na nb : Nat} {V : Nat → Int} (hc : am_at y pc e) (hi : am_isC e.1) (hz : e.2.2.2.1 = 1001) (hcs : Nat.ble (am_cs r) 8 = true) (hp : pc + 3 = p') (la : a < h.1) (lb : b < h.1) (sa : h.2.2.1 a = (ka, 0, na)) (hka : (Nat.beq ka 1 || Nat.beq ka 2) = true) (sb : h.2.2.1 b = (1, 0, nb)) (hn : (Nat.ble n na && Nat.ble n nb && Nat.ble n 1000) = true) (vi : ∀ i, i < n → h.2.2.2 a i = iv (V i)) (q : am_ev (d + 1) y p' ls r (fx_cpv h b (fun i => iv (V i)) n) x) : am_ev (d + 1) y pc ls (iv (n : Int) :: iv 0 :: .ref b :: iv 0 :: .ref a :: r) h x := by
  subst hp
  have b1 := (Bool.and_eq_true _ _ ▸ hn)
  have b2 := (Bool.and_eq_true _ _ ▸ b1.1)
  refine am_ev.copy hc hi hz (Nat.le_of_ble_eq_true hcs) (fx_cp la lb sa hka sb (Nat.le_of_ble_eq_true b2.1) (Nat.le_of_ble_eq_true b2.2) (Nat.le_of_ble_eq_true b1.2) fun i hi => ⟨_, vi i hi⟩) ?_
  rw [fx_cpe n vi]
  exact q
theorem fx_cpy7 {d y pc p' : Nat} {ls r : List Value} {x : Option Value × am_H} {e : am_E} {h : am_H} {a b ka na nb : Nat} (V : Nat → Int) (hc : am_at y pc e) (hi : am_isC e.1) (hz : e.2.2.2.1 = 1001) (hcs : Nat.ble (am_cs r) 8 = true) (hp : pc + 3 = p') (la : a < h.1) (lb : b < h.1) (sa : h.2.2.1 a = (ka, 0, na)) (hka : (Nat.beq ka 1 || Nat.beq ka 2) = true) (sb : h.2.2.1 b = (1, 0, nb)) (hn : (Nat.ble 7 na && Nat.ble 7 nb && Nat.ble 7 1000) = true) (vi : ∀ i, i < 7 → h.2.2.2 a i = iv (V i)) (q : am_ev (d + 1) y p' ls r (am_put (am_put (am_put (am_put (am_put (am_put (am_put h b 0 (iv (V 0))) b 1 (iv (V 1))) b 2 (iv (V 2))) b 3 (iv (V 3))) b 4 (iv (V 4))) b 5 (iv (V 5))) b 6 (iv (V 6))) x) : am_ev (d + 1) y pc ls (iv 7 :: iv 0 :: .ref b :: iv 0 :: .ref a :: r) h x := fx_cpy (n := 7) (V := V) hc hi hz hcs hp la lb sa hka sb hn vi q
theorem fx_cpy6 {d y pc p' : Nat} {ls r : List Value} {x : Option Value × am_H} {e : am_E} {h : am_H} {a b ka na nb : Nat} (V : Nat → Int) (hc : am_at y pc e) (hi : am_isC e.1) (hz : e.2.2.2.1 = 1001) (hcs : Nat.ble (am_cs r) 8 = true) (hp : pc + 3 = p') (la : a < h.1) (lb : b < h.1) (sa : h.2.2.1 a = (ka, 0, na)) (hka : (Nat.beq ka 1 || Nat.beq ka 2) = true) (sb : h.2.2.1 b = (1, 0, nb)) (hn : (Nat.ble 6 na && Nat.ble 6 nb && Nat.ble 6 1000) = true) (vi : ∀ i, i < 6 → h.2.2.2 a i = iv (V i)) (q : am_ev (d + 1) y p' ls r (am_put (am_put (am_put (am_put (am_put (am_put h b 0 (iv (V 0))) b 1 (iv (V 1))) b 2 (iv (V 2))) b 3 (iv (V 3))) b 4 (iv (V 4))) b 5 (iv (V 5))) x) : am_ev (d + 1) y pc ls (iv 6 :: iv 0 :: .ref b :: iv 0 :: .ref a :: r) h x := fx_cpy (n := 6) (V := V) hc hi hz hcs hp la lb sa hka sb hn vi q
theorem fS.lt {h : am_H} (S : fS h) {c : Nat} (q : Nat.blt c 130 = true) : c < h.1 := Nat.lt_of_lt_of_le (Nat.le_of_ble_eq_true q) S.1
theorem fS.sh {h : am_H} (S : fS h) {c : Nat} {s : am_Sh} (q : (Nat.ble 40 c && Nat.blt c 130) = true) (e : cq_fix c = s) : h.2.2.1 c = s := by
  have b3 := (Bool.and_eq_true _ _ ▸ q)
  rw [S.2.1 c (Nat.le_of_ble_eq_true b3.1) (Nat.le_of_ble_eq_true b3.2), e]
theorem fS.ss {h : am_H} (S : fS h) {c : Nat} (q : (Nat.ble 1 c && Nat.blt c 7) = true) : h.2.2.1 c = (2, 0, 7) := by
  have b3 := (Bool.and_eq_true _ _ ▸ q)
  exact (S.2.2.1 c (Nat.le_of_ble_eq_true b3.1) (Nat.le_of_ble_eq_true b3.2)).1
theorem fS.sv {h : am_H} (S : fS h) {c : Nat} (q : (Nat.ble 1 c && Nat.blt c 7) = true) (i : Nat) (hi : i < 7) : h.2.2.2 c i = iv (cq_sv c i) := by
  have b3 := (Bool.and_eq_true _ _ ▸ q)
  exact (S.2.2.1 c (Nat.le_of_ble_eq_true b3.1) (Nat.le_of_ble_eq_true b3.2)).2 i hi
theorem fx_pp {h : am_H} {c j : Nat} {v u : Value} : am_put (am_put h c j v) c j u = am_put h c j u := fx_heq rfl rfl rfl fun a b => by
  show (if a = c then (if b = j then u else (if a = c then (if b = j then v else h.2.2.2 a b) else h.2.2.2 a b)) else (if a = c then (if b = j then v else h.2.2.2 a b) else h.2.2.2 a b)) = (if a = c then (if b = j then u else h.2.2.2 a b) else h.2.2.2 a b)
  by_cases e1 : a = c
  · by_cases e2 : b = j
    · simp only [if_pos e1, if_pos e2]
    · simp only [if_pos e1, if_neg e2]
  · simp only [if_neg e1]
theorem fx_pc {h : am_H} {c j i : Nat} {v u : Value} (n : j ≠ i) : am_put (am_put h c j v) c i u = am_put (am_put h c i u) c j v := fx_heq rfl rfl rfl fun a b => by
  show (if a = c then (if b = i then u else (if a = c then (if b = j then v else h.2.2.2 a b) else h.2.2.2 a b)) else (if a = c then (if b = j then v else h.2.2.2 a b) else h.2.2.2 a b)) = (if a = c then (if b = j then v else (if a = c then (if b = i then u else h.2.2.2 a b) else h.2.2.2 a b)) else (if a = c then (if b = i then u else h.2.2.2 a b) else h.2.2.2 a b))
  by_cases e1 : a = c
  · by_cases e2 : b = j
    · have e3 : b ≠ i := fun z => n (by rw [← e2, z])
      simp only [if_pos e1, if_pos e2, if_neg e3]
    · simp only [if_pos e1, if_neg e2]
  · simp only [if_neg e1]
theorem fx_pi {h : am_H} {c j : Nat} {v : Value} (e : h.2.2.2 c j = v) : am_put h c j v = h := fx_heq rfl rfl rfl fun a b => by
  show (if a = c then (if b = j then v else h.2.2.2 a b) else h.2.2.2 a b) = h.2.2.2 a b
  by_cases e1 : a = c
  · by_cases e2 : b = j
    · rw [if_pos e1, if_pos e2, e1, e2, e]
    · rw [if_pos e1, if_neg e2]
  · rw [if_neg e1]
end
section
/-! TOKENS: where they begin and end, of what kind they are -/
def tz_bl (x : Int) : Bool := decide (x = 32 ∨ x = 10)
def tz_le (x : Int) : Bool := decide (97 ≤ x ∧ x ≤ 122)
def tz_di (x : Int) : Bool := decide (48 ≤ x ∧ x ≤ 57)
def tz_sp (c : Int → Bool) (b : Nat → Int) : Nat → Nat → Nat
  | 0, p => p
  | n + 1, p => if c (b p) = true then tz_sp c b n (p + 1) else p
theorem tz_sp_s {c : Int → Bool} {b : Nat → Int} {n p : Nat} (h : c (b p) = true) : tz_sp c b (n + 1) p = tz_sp c b n (p + 1) := if_pos h
theorem tz_sp_e {c : Int → Bool} {b : Nat → Int} {n p : Nat} (h : ¬ c (b p) = true) : tz_sp c b (n + 1) p = p := if_neg h
theorem tz_sp_le {c : Int → Bool} {b : Nat → Int} : ∀ n p, p ≤ tz_sp c b n p ∧ tz_sp c b n p ≤ p + n
  | 0, p => ⟨Nat.le_refl _, Nat.le_refl _⟩
  | n + 1, p => by
    by_cases h : c (b p) = true
    · rw [tz_sp_s h]
      have := tz_sp_le (c := c) (b := b) n (p + 1)
      omega
    · rw [tz_sp_e h]
      omega
theorem tz_sp_in {c : Int → Bool} {b : Nat → Int} : ∀ n p i, p ≤ i → i < tz_sp c b n p → c (b i) = true
  | 0, p, i, h1, h2 => by
    have h2 : i < p := h2
    omega
  | n + 1, p, i, h1, h2 => by
    by_cases h : c (b p) = true
    · rw [tz_sp_s h] at h2
      by_cases e : i = p
      · rw [e]
        exact h
      · exact tz_sp_in n (p + 1) i (by omega) h2
    · rw [tz_sp_e h] at h2
      omega
def tS (b : Nat → Int) (L p : Nat) : Nat := tz_sp tz_bl b (L - p) p
def tE (b : Nat → Int) (L s : Nat) : Nat := if L ≤ s then s else if tz_le (b s) = true then tz_sp tz_le b (L - s) s else if tz_di (b s) = true then tz_sp tz_di b (L - s) s else s + 1
def tK (b : Nat → Int) (L s : Nat) : Int := if L ≤ s then 0 else if tz_le (b s) = true then (if tz_sp tz_le b (L - s) s ≤ s + 12 then 1 else 3) else if tz_di (b s) = true then (if tz_sp tz_di b (L - s) s ≤ s + 5 then 2 else 3) else if b s = 59 ∨ b s = 47 ∨ b s = 43 then b s else 3
theorem tS_le (b : Nat → Int) {L p : Nat} (h : p ≤ L) : p ≤ tS b L p ∧ tS b L p ≤ L := by
  have := tz_sp_le (c := tz_bl) (b := b) (L - p) p
  unfold tS
  omega
theorem tE_le (b : Nat → Int) {L s : Nat} (h : s ≤ L) : s ≤ tE b L s ∧ tE b L s ≤ L := by
  have a1 := tz_sp_le (c := tz_le) (b := b) (L - s) s
  have a2 := tz_sp_le (c := tz_di) (b := b) (L - s) s
  unfold tE
  repeat' split
  all_goals omega
/-- the bytes of a tape -/
def tb (h : am_H) (c : Nat) (b : Nat → Int) (L : Nat) : Prop := ∀ i, i < L → h.2.2.2 c i = iv (b i)
theorem tb.put {h : am_H} {c : Nat} {b : Nat → Int} {L : Nat} (B : tb h c b L) {k j : Nat} {v : Value} (n : c ≠ k) : tb (am_put h k j v) c b L := fun i hi => ax_put_o (Or.inl n) (B i hi)
def tz_r (b : Nat → Int) : Prop := ∀ i, -128 ≤ b i ∧ b i ≤ 127
theorem fx_hc {d y pc : Nat} {ls st : List Value} {h g : am_H} {x : Option Value × am_H} (e : h = g) (q : am_ev d y pc ls st g x) : am_ev d y pc ls st h x := by
  rw [e]
  exact q
theorem tz_nc (p : Nat) : (p : Int) + 1 = ((p + 1 : Nat) : Int) := by omega
section TKA
variable {d : Nat} {h : am_H} {x : Int}
theorem tk_22t (r : -128 ≤ x ∧ x ≤ 255) (q : x = 32 ∨ x = 10) : am_ev d 22 0 (am_ent [iv x] 1) [] h (some (iv 1), h) := by
  show am_ev d 22 0 [iv x] [] h _
  refine am_ev.step (pc' := 1) rfl rfl ?_
  refine fx_bip (p' := 3) rfl rfl rfl ?_
  refine fx_c_eq (pT := 12) (pF := 6) rfl (by omega) (by omega) rfl rfl (fun c1 => ?_) (fun c1 => ?_)
  · refine am_ev.step (pc' := 13) rfl rfl ?_
    refine am_ev.step (pc' := 17) rfl rfl ?_
    exact fx_reti rfl rfl rfl
  · refine am_ev.step (pc' := 7) rfl rfl ?_
    refine fx_bip (p' := 9) rfl rfl rfl ?_
    refine fx_c_ne (pT := 16) (pF := 12) rfl (by omega) (by omega) rfl rfl (fun c2 => ?_) (fun c2 => ?_)
    · refine am_ev.step (pc' := 17) rfl rfl ?_
      exfalso
      omega
    · refine am_ev.step (pc' := 13) rfl rfl ?_
      refine am_ev.step (pc' := 17) rfl rfl ?_
      exact fx_reti rfl rfl rfl
theorem tk_22f (r : -128 ≤ x ∧ x ≤ 255) (q : ¬ (x = 32 ∨ x = 10)) : am_ev d 22 0 (am_ent [iv x] 1) [] h (some (iv 0), h) := by
  show am_ev d 22 0 [iv x] [] h _
  refine am_ev.step (pc' := 1) rfl rfl ?_
  refine fx_bip (p' := 3) rfl rfl rfl ?_
  refine fx_c_eq (pT := 12) (pF := 6) rfl (by omega) (by omega) rfl rfl (fun c1 => ?_) (fun c1 => ?_)
  · refine am_ev.step (pc' := 13) rfl rfl ?_
    refine am_ev.step (pc' := 17) rfl rfl ?_
    exfalso
    omega
  · refine am_ev.step (pc' := 7) rfl rfl ?_
    refine fx_bip (p' := 9) rfl rfl rfl ?_
    refine fx_c_ne (pT := 16) (pF := 12) rfl (by omega) (by omega) rfl rfl (fun c2 => ?_) (fun c2 => ?_)
    · refine am_ev.step (pc' := 17) rfl rfl ?_
      exact fx_reti rfl rfl rfl
    · refine am_ev.step (pc' := 13) rfl rfl ?_
      refine am_ev.step (pc' := 17) rfl rfl ?_
      exfalso
      omega
theorem tk_23t (r : -128 ≤ x ∧ x ≤ 255) (q : 97 ≤ x ∧ x ≤ 122) : am_ev d 23 0 (am_ent [iv x] 1) [] h (some (iv 1), h) := by
  show am_ev d 23 0 [iv x] [] h _
  refine am_ev.step (pc' := 1) rfl rfl ?_
  refine fx_bip (p' := 3) rfl rfl rfl ?_
  refine fx_c_lt (pT := 16) (pF := 6) rfl (by omega) (by omega) rfl rfl (fun c1 => ?_) (fun c1 => ?_)
  · refine am_ev.step (pc' := 17) rfl rfl ?_
    exfalso
    omega
  · refine am_ev.step (pc' := 7) rfl rfl ?_
    refine fx_bip (p' := 9) rfl rfl rfl ?_
    refine fx_c_gt (pT := 16) (pF := 12) rfl (by omega) (by omega) rfl rfl (fun c2 => ?_) (fun c2 => ?_)
    · refine am_ev.step (pc' := 17) rfl rfl ?_
      exfalso
      omega
    · refine am_ev.step (pc' := 13) rfl rfl ?_
      refine am_ev.step (pc' := 17) rfl rfl ?_
      exact fx_reti rfl rfl rfl
theorem tk_23f (r : -128 ≤ x ∧ x ≤ 255) (q : ¬ (97 ≤ x ∧ x ≤ 122)) : am_ev d 23 0 (am_ent [iv x] 1) [] h (some (iv 0), h) := by
  show am_ev d 23 0 [iv x] [] h _
  refine am_ev.step (pc' := 1) rfl rfl ?_
  refine fx_bip (p' := 3) rfl rfl rfl ?_
  refine fx_c_lt (pT := 16) (pF := 6) rfl (by omega) (by omega) rfl rfl (fun c1 => ?_) (fun c1 => ?_)
  · refine am_ev.step (pc' := 17) rfl rfl ?_
    exact fx_reti rfl rfl rfl
  · refine am_ev.step (pc' := 7) rfl rfl ?_
    refine fx_bip (p' := 9) rfl rfl rfl ?_
    refine fx_c_gt (pT := 16) (pF := 12) rfl (by omega) (by omega) rfl rfl (fun c2 => ?_) (fun c2 => ?_)
    · refine am_ev.step (pc' := 17) rfl rfl ?_
      exact fx_reti rfl rfl rfl
    · refine am_ev.step (pc' := 13) rfl rfl ?_
      refine am_ev.step (pc' := 17) rfl rfl ?_
      exfalso
      omega
theorem tk_24t (r : -128 ≤ x ∧ x ≤ 255) (q : 48 ≤ x ∧ x ≤ 57) : am_ev d 24 0 (am_ent [iv x] 1) [] h (some (iv 1), h) := by
  show am_ev d 24 0 [iv x] [] h _
  refine am_ev.step (pc' := 1) rfl rfl ?_
  refine fx_bip (p' := 3) rfl rfl rfl ?_
  refine fx_c_lt (pT := 16) (pF := 6) rfl (by omega) (by omega) rfl rfl (fun c1 => ?_) (fun c1 => ?_)
  · refine am_ev.step (pc' := 17) rfl rfl ?_
    exfalso
    omega
  · refine am_ev.step (pc' := 7) rfl rfl ?_
    refine fx_bip (p' := 9) rfl rfl rfl ?_
    refine fx_c_gt (pT := 16) (pF := 12) rfl (by omega) (by omega) rfl rfl (fun c2 => ?_) (fun c2 => ?_)
    · refine am_ev.step (pc' := 17) rfl rfl ?_
      exfalso
      omega
    · refine am_ev.step (pc' := 13) rfl rfl ?_
      refine am_ev.step (pc' := 17) rfl rfl ?_
      exact fx_reti rfl rfl rfl
theorem tk_24f (r : -128 ≤ x ∧ x ≤ 255) (q : ¬ (48 ≤ x ∧ x ≤ 57)) : am_ev d 24 0 (am_ent [iv x] 1) [] h (some (iv 0), h) := by
  show am_ev d 24 0 [iv x] [] h _
  refine am_ev.step (pc' := 1) rfl rfl ?_
  refine fx_bip (p' := 3) rfl rfl rfl ?_
  refine fx_c_lt (pT := 16) (pF := 6) rfl (by omega) (by omega) rfl rfl (fun c1 => ?_) (fun c1 => ?_)
  · refine am_ev.step (pc' := 17) rfl rfl ?_
    exact fx_reti rfl rfl rfl
  · refine am_ev.step (pc' := 7) rfl rfl ?_
    refine fx_bip (p' := 9) rfl rfl rfl ?_
    refine fx_c_gt (pT := 16) (pF := 12) rfl (by omega) (by omega) rfl rfl (fun c2 => ?_) (fun c2 => ?_)
    · refine am_ev.step (pc' := 17) rfl rfl ?_
      exact fx_reti rfl rfl rfl
    · refine am_ev.step (pc' := 13) rfl rfl ?_
      refine am_ev.step (pc' := 17) rfl rfl ?_
      exfalso
      omega
theorem tk_172t (r : -128 ≤ x ∧ x ≤ 255) (q : 97 ≤ x ∧ x ≤ 122) : am_ev d 172 0 (am_ent [iv x] 1) [] h (some (iv 1), h) := by
  show am_ev d 172 0 [iv x] [] h _
  refine am_ev.step (pc' := 1) rfl rfl ?_
  refine fx_bip (p' := 3) rfl rfl rfl ?_
  refine fx_c_lt (pT := 16) (pF := 6) rfl (by omega) (by omega) rfl rfl (fun c1 => ?_) (fun c1 => ?_)
  · refine am_ev.step (pc' := 17) rfl rfl ?_
    exfalso
    omega
  · refine am_ev.step (pc' := 7) rfl rfl ?_
    refine fx_bip (p' := 9) rfl rfl rfl ?_
    refine fx_c_gt (pT := 16) (pF := 12) rfl (by omega) (by omega) rfl rfl (fun c2 => ?_) (fun c2 => ?_)
    · refine am_ev.step (pc' := 17) rfl rfl ?_
      exfalso
      omega
    · refine am_ev.step (pc' := 13) rfl rfl ?_
      refine am_ev.step (pc' := 17) rfl rfl ?_
      exact fx_reti rfl rfl rfl
theorem tk_172f (r : -128 ≤ x ∧ x ≤ 255) (q : ¬ (97 ≤ x ∧ x ≤ 122)) : am_ev d 172 0 (am_ent [iv x] 1) [] h (some (iv 0), h) := by
  show am_ev d 172 0 [iv x] [] h _
  refine am_ev.step (pc' := 1) rfl rfl ?_
  refine fx_bip (p' := 3) rfl rfl rfl ?_
  refine fx_c_lt (pT := 16) (pF := 6) rfl (by omega) (by omega) rfl rfl (fun c1 => ?_) (fun c1 => ?_)
  · refine am_ev.step (pc' := 17) rfl rfl ?_
    exact fx_reti rfl rfl rfl
  · refine am_ev.step (pc' := 7) rfl rfl ?_
    refine fx_bip (p' := 9) rfl rfl rfl ?_
    refine fx_c_gt (pT := 16) (pF := 12) rfl (by omega) (by omega) rfl rfl (fun c2 => ?_) (fun c2 => ?_)
    · refine am_ev.step (pc' := 17) rfl rfl ?_
      exact fx_reti rfl rfl rfl
    · refine am_ev.step (pc' := 13) rfl rfl ?_
      refine am_ev.step (pc' := 17) rfl rfl ?_
      exfalso
      omega
theorem tk_173t (r : -128 ≤ x ∧ x ≤ 255) (q : 48 ≤ x ∧ x ≤ 57) : am_ev d 173 0 (am_ent [iv x] 1) [] h (some (iv 1), h) := by
  show am_ev d 173 0 [iv x] [] h _
  refine am_ev.step (pc' := 1) rfl rfl ?_
  refine fx_bip (p' := 3) rfl rfl rfl ?_
  refine fx_c_lt (pT := 16) (pF := 6) rfl (by omega) (by omega) rfl rfl (fun c1 => ?_) (fun c1 => ?_)
  · refine am_ev.step (pc' := 17) rfl rfl ?_
    exfalso
    omega
  · refine am_ev.step (pc' := 7) rfl rfl ?_
    refine fx_bip (p' := 9) rfl rfl rfl ?_
    refine fx_c_gt (pT := 16) (pF := 12) rfl (by omega) (by omega) rfl rfl (fun c2 => ?_) (fun c2 => ?_)
    · refine am_ev.step (pc' := 17) rfl rfl ?_
      exfalso
      omega
    · refine am_ev.step (pc' := 13) rfl rfl ?_
      refine am_ev.step (pc' := 17) rfl rfl ?_
      exact fx_reti rfl rfl rfl
theorem tk_173f (r : -128 ≤ x ∧ x ≤ 255) (q : ¬ (48 ≤ x ∧ x ≤ 57)) : am_ev d 173 0 (am_ent [iv x] 1) [] h (some (iv 0), h) := by
  show am_ev d 173 0 [iv x] [] h _
  refine am_ev.step (pc' := 1) rfl rfl ?_
  refine fx_bip (p' := 3) rfl rfl rfl ?_
  refine fx_c_lt (pT := 16) (pF := 6) rfl (by omega) (by omega) rfl rfl (fun c1 => ?_) (fun c1 => ?_)
  · refine am_ev.step (pc' := 17) rfl rfl ?_
    exact fx_reti rfl rfl rfl
  · refine am_ev.step (pc' := 7) rfl rfl ?_
    refine fx_bip (p' := 9) rfl rfl rfl ?_
    refine fx_c_gt (pT := 16) (pF := 12) rfl (by omega) (by omega) rfl rfl (fun c2 => ?_) (fun c2 => ?_)
    · refine am_ev.step (pc' := 17) rfl rfl ?_
      exact fx_reti rfl rfl rfl
    · refine am_ev.step (pc' := 13) rfl rfl ?_
      refine am_ev.step (pc' := 17) rfl rfl ?_
      exfalso
      omega
end TKA
def T1 (h : am_H) (s e : Nat) (k : Int) : am_H := am_put (am_put (am_put h 41 5 (iv s)) 41 6 (iv e)) 41 2 (iv k)
section TKB
variable {d : Nat} {h : am_H} {b : Nat → Int} {L : Nat} {x : Option Value × am_H}
theorem tk_21a (S : fS h) (B : tb h 42 b L) (hb : tz_r b) (hL : L ≤ 1600) (v1 : h.2.2.2 41 1 = iv L) : ∀ (n p : Nat), L - p = n → p ≤ L → am_ev (d + 1) 21 39 [.ref 41, am_ph] [] (am_put h 41 6 (iv (tz_sp tz_bl b n p))) x → am_ev (d + 1) 21 0 [.ref 41, am_ph] [] (am_put h 41 6 (iv p)) x
  | 0, p, e, hp, q => by
    have e : p = L := by omega
    refine am_ev.step (pc' := 1) rfl rfl ?_
    refine ax_gf (p' := 4) rfl rfl (fO (S.ob rfl)) (ax_put_s _ _ _) ?_
    refine am_ev.step (pc' := 5) rfl rfl ?_
    refine ax_gf (p' := 8) rfl rfl (fO (S.ob rfl)) (ax_put_o (Or.inr (by decide)) v1) ?_
    refine fx_c_ge_T (pT := 39) rfl (by omega) (by omega) rfl (by omega) ?_
    exact q
  | n + 1, p, e, hp, q => by
    have hr := hb p
    by_cases c : tz_bl (b p) = true
    · rw [tz_sp_s c] at q
      have c2 := of_decide_eq_true c
      refine am_ev.step (pc' := 1) rfl rfl ?_
      refine ax_gf (p' := 4) rfl rfl (fO (S.ob rfl)) (ax_put_s _ _ _) ?_
      refine am_ev.step (pc' := 5) rfl rfl ?_
      refine ax_gf (p' := 8) rfl rfl (fO (S.ob rfl)) (ax_put_o (Or.inr (by decide)) v1) ?_
      refine fx_c_ge_F (pF := 11) rfl (by omega) (by omega) rfl (by omega) ?_
      refine am_ev.step (pc' := 12) rfl rfl ?_
      refine ax_gf (p' := 15) rfl rfl (fO (S.ob rfl)) (ax_put_o (Or.inr (by decide)) (S.rf rfl rfl)) ?_
      refine am_ev.step (pc' := 16) rfl rfl ?_
      refine ax_gf (p' := 19) rfl rfl (fO (S.ob rfl)) (ax_put_s _ _ _) ?_
      refine ax_baload (p' := 20) rfl rfl ((S.po rfl rfl).rd (k := p) rfl rfl rfl rfl rfl (by omega) (ax_put_o (Or.inl (by decide)) (B p (by omega)))) ?_
      refine ax_call (z := 22) (p' := 23) (as := [_]) rfl (Or.inl ⟨_, rfl⟩) rfl rfl rfl rfl rfl rfl rfl rfl (tk_22t (by omega) c2) rfl ?_
      refine fx_z_eq_F (pF := 26) rfl (by omega) rfl (by omega) ?_
      refine am_ev.step (pc' := 27) rfl rfl ?_
      refine am_ev.step (pc' := 28) rfl rfl ?_
      refine ax_gf (p' := 31) rfl rfl (fO (S.ob rfl)) (ax_put_s _ _ _) ?_
      refine am_ev.step (pc' := 32) rfl rfl ?_
      refine fx_add (p' := 33) (e := ((p : Int) + 1)) rfl rfl (by omega) ?_
      refine ax_pf (p' := 36) rfl rfl (fO (S.ob rfl)) rfl ?_
      refine am_ev.step (pc' := 0) rfl rfl ?_
      rw [fx_pp, tz_nc]
      exact tk_21a S B hb hL v1 n (p + 1) (by omega) (by omega) q
    · rw [tz_sp_e c] at q
      have c2 := fun z => c (decide_eq_true z)
      refine am_ev.step (pc' := 1) rfl rfl ?_
      refine ax_gf (p' := 4) rfl rfl (fO (S.ob rfl)) (ax_put_s _ _ _) ?_
      refine am_ev.step (pc' := 5) rfl rfl ?_
      refine ax_gf (p' := 8) rfl rfl (fO (S.ob rfl)) (ax_put_o (Or.inr (by decide)) v1) ?_
      refine fx_c_ge_F (pF := 11) rfl (by omega) (by omega) rfl (by omega) ?_
      refine am_ev.step (pc' := 12) rfl rfl ?_
      refine ax_gf (p' := 15) rfl rfl (fO (S.ob rfl)) (ax_put_o (Or.inr (by decide)) (S.rf rfl rfl)) ?_
      refine am_ev.step (pc' := 16) rfl rfl ?_
      refine ax_gf (p' := 19) rfl rfl (fO (S.ob rfl)) (ax_put_s _ _ _) ?_
      refine ax_baload (p' := 20) rfl rfl ((S.po rfl rfl).rd (k := p) rfl rfl rfl rfl rfl (by omega) (ax_put_o (Or.inl (by decide)) (B p (by omega)))) ?_
      refine ax_call (z := 22) (p' := 23) (as := [_]) rfl (Or.inl ⟨_, rfl⟩) rfl rfl rfl rfl rfl rfl rfl rfl (tk_22f (by omega) c2) rfl ?_
      refine fx_z_eq_T (pT := 39) rfl (by omega) rfl (by omega) ?_
      exact q
theorem tk_21b {c0 : Int} (S : fS h) (B : tb h 42 b L) (hb : tz_r b) (hL : L ≤ 1600) (v1 : h.2.2.2 41 1 = iv L) : ∀ (n p : Nat), L - p = n → p ≤ L → am_ev (d + 1) 21 120 [.ref 41, iv (c0)] [] (am_put h 41 6 (iv (tz_sp tz_le b n p))) x → am_ev (d + 1) 21 81 [.ref 41, iv (c0)] [] (am_put h 41 6 (iv p)) x
  | 0, p, e, hp, q => by
    have e : p = L := by omega
    refine am_ev.step (pc' := 82) rfl rfl ?_
    refine ax_gf (p' := 85) rfl rfl (fO (S.ob rfl)) (ax_put_s _ _ _) ?_
    refine am_ev.step (pc' := 86) rfl rfl ?_
    refine ax_gf (p' := 89) rfl rfl (fO (S.ob rfl)) (ax_put_o (Or.inr (by decide)) v1) ?_
    refine fx_c_ge_T (pT := 120) rfl (by omega) (by omega) rfl (by omega) ?_
    exact q
  | n + 1, p, e, hp, q => by
    have hr := hb p
    by_cases c : tz_le (b p) = true
    · rw [tz_sp_s c] at q
      have c2 := of_decide_eq_true c
      refine am_ev.step (pc' := 82) rfl rfl ?_
      refine ax_gf (p' := 85) rfl rfl (fO (S.ob rfl)) (ax_put_s _ _ _) ?_
      refine am_ev.step (pc' := 86) rfl rfl ?_
      refine ax_gf (p' := 89) rfl rfl (fO (S.ob rfl)) (ax_put_o (Or.inr (by decide)) v1) ?_
      refine fx_c_ge_F (pF := 92) rfl (by omega) (by omega) rfl (by omega) ?_
      refine am_ev.step (pc' := 93) rfl rfl ?_
      refine ax_gf (p' := 96) rfl rfl (fO (S.ob rfl)) (ax_put_o (Or.inr (by decide)) (S.rf rfl rfl)) ?_
      refine am_ev.step (pc' := 97) rfl rfl ?_
      refine ax_gf (p' := 100) rfl rfl (fO (S.ob rfl)) (ax_put_s _ _ _) ?_
      refine ax_baload (p' := 101) rfl rfl ((S.po rfl rfl).rd (k := p) rfl rfl rfl rfl rfl (by omega) (ax_put_o (Or.inl (by decide)) (B p (by omega)))) ?_
      refine ax_call (z := 23) (p' := 104) (as := [_]) rfl (Or.inl ⟨_, rfl⟩) rfl rfl rfl rfl rfl rfl rfl rfl (tk_23t (by omega) c2) rfl ?_
      refine fx_z_eq_F (pF := 107) rfl (by omega) rfl (by omega) ?_
      refine am_ev.step (pc' := 108) rfl rfl ?_
      refine am_ev.step (pc' := 109) rfl rfl ?_
      refine ax_gf (p' := 112) rfl rfl (fO (S.ob rfl)) (ax_put_s _ _ _) ?_
      refine am_ev.step (pc' := 113) rfl rfl ?_
      refine fx_add (p' := 114) (e := ((p : Int) + 1)) rfl rfl (by omega) ?_
      refine ax_pf (p' := 117) rfl rfl (fO (S.ob rfl)) rfl ?_
      refine am_ev.step (pc' := 81) rfl rfl ?_
      rw [fx_pp, tz_nc]
      exact tk_21b S B hb hL v1 n (p + 1) (by omega) (by omega) q
    · rw [tz_sp_e c] at q
      have c2 := fun z => c (decide_eq_true z)
      refine am_ev.step (pc' := 82) rfl rfl ?_
      refine ax_gf (p' := 85) rfl rfl (fO (S.ob rfl)) (ax_put_s _ _ _) ?_
      refine am_ev.step (pc' := 86) rfl rfl ?_
      refine ax_gf (p' := 89) rfl rfl (fO (S.ob rfl)) (ax_put_o (Or.inr (by decide)) v1) ?_
      refine fx_c_ge_F (pF := 92) rfl (by omega) (by omega) rfl (by omega) ?_
      refine am_ev.step (pc' := 93) rfl rfl ?_
      refine ax_gf (p' := 96) rfl rfl (fO (S.ob rfl)) (ax_put_o (Or.inr (by decide)) (S.rf rfl rfl)) ?_
      refine am_ev.step (pc' := 97) rfl rfl ?_
      refine ax_gf (p' := 100) rfl rfl (fO (S.ob rfl)) (ax_put_s _ _ _) ?_
      refine ax_baload (p' := 101) rfl rfl ((S.po rfl rfl).rd (k := p) rfl rfl rfl rfl rfl (by omega) (ax_put_o (Or.inl (by decide)) (B p (by omega)))) ?_
      refine ax_call (z := 23) (p' := 104) (as := [_]) rfl (Or.inl ⟨_, rfl⟩) rfl rfl rfl rfl rfl rfl rfl rfl (tk_23f (by omega) c2) rfl ?_
      refine fx_z_eq_T (pT := 120) rfl (by omega) rfl (by omega) ?_
      exact q
theorem tk_21c {c0 : Int} (S : fS h) (B : tb h 42 b L) (hb : tz_r b) (hL : L ≤ 1600) (v1 : h.2.2.2 41 1 = iv L) : ∀ (n p : Nat), L - p = n → p ≤ L → am_ev (d + 1) 21 192 [.ref 41, iv (c0)] [] (am_put h 41 6 (iv (tz_sp tz_di b n p))) x → am_ev (d + 1) 21 153 [.ref 41, iv (c0)] [] (am_put h 41 6 (iv p)) x
  | 0, p, e, hp, q => by
    have e : p = L := by omega
    refine am_ev.step (pc' := 154) rfl rfl ?_
    refine ax_gf (p' := 157) rfl rfl (fO (S.ob rfl)) (ax_put_s _ _ _) ?_
    refine am_ev.step (pc' := 158) rfl rfl ?_
    refine ax_gf (p' := 161) rfl rfl (fO (S.ob rfl)) (ax_put_o (Or.inr (by decide)) v1) ?_
    refine fx_c_ge_T (pT := 192) rfl (by omega) (by omega) rfl (by omega) ?_
    exact q
  | n + 1, p, e, hp, q => by
    have hr := hb p
    by_cases c : tz_di (b p) = true
    · rw [tz_sp_s c] at q
      have c2 := of_decide_eq_true c
      refine am_ev.step (pc' := 154) rfl rfl ?_
      refine ax_gf (p' := 157) rfl rfl (fO (S.ob rfl)) (ax_put_s _ _ _) ?_
      refine am_ev.step (pc' := 158) rfl rfl ?_
      refine ax_gf (p' := 161) rfl rfl (fO (S.ob rfl)) (ax_put_o (Or.inr (by decide)) v1) ?_
      refine fx_c_ge_F (pF := 164) rfl (by omega) (by omega) rfl (by omega) ?_
      refine am_ev.step (pc' := 165) rfl rfl ?_
      refine ax_gf (p' := 168) rfl rfl (fO (S.ob rfl)) (ax_put_o (Or.inr (by decide)) (S.rf rfl rfl)) ?_
      refine am_ev.step (pc' := 169) rfl rfl ?_
      refine ax_gf (p' := 172) rfl rfl (fO (S.ob rfl)) (ax_put_s _ _ _) ?_
      refine ax_baload (p' := 173) rfl rfl ((S.po rfl rfl).rd (k := p) rfl rfl rfl rfl rfl (by omega) (ax_put_o (Or.inl (by decide)) (B p (by omega)))) ?_
      refine ax_call (z := 24) (p' := 176) (as := [_]) rfl (Or.inl ⟨_, rfl⟩) rfl rfl rfl rfl rfl rfl rfl rfl (tk_24t (by omega) c2) rfl ?_
      refine fx_z_eq_F (pF := 179) rfl (by omega) rfl (by omega) ?_
      refine am_ev.step (pc' := 180) rfl rfl ?_
      refine am_ev.step (pc' := 181) rfl rfl ?_
      refine ax_gf (p' := 184) rfl rfl (fO (S.ob rfl)) (ax_put_s _ _ _) ?_
      refine am_ev.step (pc' := 185) rfl rfl ?_
      refine fx_add (p' := 186) (e := ((p : Int) + 1)) rfl rfl (by omega) ?_
      refine ax_pf (p' := 189) rfl rfl (fO (S.ob rfl)) rfl ?_
      refine am_ev.step (pc' := 153) rfl rfl ?_
      rw [fx_pp, tz_nc]
      exact tk_21c S B hb hL v1 n (p + 1) (by omega) (by omega) q
    · rw [tz_sp_e c] at q
      have c2 := fun z => c (decide_eq_true z)
      refine am_ev.step (pc' := 154) rfl rfl ?_
      refine ax_gf (p' := 157) rfl rfl (fO (S.ob rfl)) (ax_put_s _ _ _) ?_
      refine am_ev.step (pc' := 158) rfl rfl ?_
      refine ax_gf (p' := 161) rfl rfl (fO (S.ob rfl)) (ax_put_o (Or.inr (by decide)) v1) ?_
      refine fx_c_ge_F (pF := 164) rfl (by omega) (by omega) rfl (by omega) ?_
      refine am_ev.step (pc' := 165) rfl rfl ?_
      refine ax_gf (p' := 168) rfl rfl (fO (S.ob rfl)) (ax_put_o (Or.inr (by decide)) (S.rf rfl rfl)) ?_
      refine am_ev.step (pc' := 169) rfl rfl ?_
      refine ax_gf (p' := 172) rfl rfl (fO (S.ob rfl)) (ax_put_s _ _ _) ?_
      refine ax_baload (p' := 173) rfl rfl ((S.po rfl rfl).rd (k := p) rfl rfl rfl rfl rfl (by omega) (ax_put_o (Or.inl (by decide)) (B p (by omega)))) ?_
      refine ax_call (z := 24) (p' := 176) (as := [_]) rfl (Or.inl ⟨_, rfl⟩) rfl rfl rfl rfl rfl rfl rfl rfl (tk_24f (by omega) c2) rfl ?_
      refine fx_z_eq_T (pT := 192) rfl (by omega) rfl (by omega) ?_
      exact q
theorem tz_T1 {v : Value} {s e : Nat} {k : Int} : am_put (am_put (am_put (am_put h 41 6 v) 41 5 (iv s)) 41 6 (iv e)) 41 2 (iv k) = T1 h s e k := by
  have E1 : am_put (am_put h 41 6 v) 41 5 (iv s) = am_put (am_put h 41 5 (iv s)) 41 6 v := fx_pc (by decide)
  unfold T1
  rw [E1, fx_pp]
theorem tz_T0 {s : Nat} {k : Int} : am_put (am_put (am_put h 41 6 (iv s)) 41 5 (iv s)) 41 2 (iv k) = T1 h s s k := by
  unfold T1
  rw [fx_pc (h := h) (j := 6) (i := 5) (by decide)]
theorem tk_21 (S : fS h) (B : tb h 42 b L) (hb : tz_r b) (hL : L ≤ 1600) (v1 : h.2.2.2 41 1 = iv L) {p : Nat} (v6 : h.2.2.2 41 6 = iv p) (hp : p ≤ L) : am_ev (d + 1) 21 0 (am_ent [.ref 41] 2) [] h (none, T1 h (tS b L p) (tE b L (tS b L p)) (tK b L (tS b L p))) := by
  show am_ev (d + 1) 21 0 [.ref 41, am_ph] [] h _
  refine fx_hc (fx_pi v6).symm ?_
  refine tk_21a S B hb hL v1 (L - p) p rfl hp ?_
  have hs := tS_le b hp
  show am_ev (d + 1) 21 39 [.ref 41, am_ph] [] (am_put h 41 6 (iv (tS b L p))) _
  generalize tS b L p = s at hs ⊢
  obtain ⟨s1, s2⟩ := hs
  by_cases c1 : L ≤ s
  · rw [show tE b L s = s from if_pos c1, show tK b L s = 0 from if_pos c1]
    refine am_ev.step (pc' := 40) rfl rfl ?_
    refine am_ev.step (pc' := 41) rfl rfl ?_
    refine ax_gf (p' := 44) rfl rfl (fO (S.ob rfl)) (ax_put_s _ _ _) ?_
    refine ax_pf (p' := 47) rfl rfl (fO (S.ob rfl)) rfl ?_
    refine am_ev.step (pc' := 48) rfl rfl ?_
    refine ax_gf (p' := 51) rfl rfl (fO (fO (S.ob rfl))) (ax_put_o (Or.inr (by decide)) (ax_put_s _ _ _)) ?_
    refine am_ev.step (pc' := 52) rfl rfl ?_
    refine ax_gf (p' := 55) rfl rfl (fO (fO (S.ob rfl))) (ax_put_o (Or.inr (by decide)) (ax_put_o (Or.inr (by decide)) v1)) ?_
    refine fx_c_lt_F (pF := 58) rfl (by omega) (by omega) rfl (by omega) ?_
    refine am_ev.step (pc' := 59) rfl rfl ?_
    refine am_ev.step (pc' := 60) rfl rfl ?_
    refine ax_pf (p' := 63) rfl rfl (fO (fO (S.ob rfl))) rfl ?_
    exact fx_cast (am_ev.retv rfl rfl) (by rw [tz_T0])
  · have hr := hb s
    by_cases c2 : tz_le (b s) = true
    · have c3 := of_decide_eq_true c2
      have hE : tE b L s = tz_sp tz_le b (L - s) s := by
        unfold tE
        rw [if_neg c1, if_pos c2]
      have hK : tK b L s = if tE b L s ≤ s + 12 then 1 else 3 := by
        rw [hE]
        unfold tK
        rw [if_neg c1, if_pos c2]
      have he := tE_le b s2
      refine am_ev.step (pc' := 40) rfl rfl ?_
      refine am_ev.step (pc' := 41) rfl rfl ?_
      refine ax_gf (p' := 44) rfl rfl (fO (S.ob rfl)) (ax_put_s _ _ _) ?_
      refine ax_pf (p' := 47) rfl rfl (fO (S.ob rfl)) rfl ?_
      refine am_ev.step (pc' := 48) rfl rfl ?_
      refine ax_gf (p' := 51) rfl rfl (fO (fO (S.ob rfl))) (ax_put_o (Or.inr (by decide)) (ax_put_s _ _ _)) ?_
      refine am_ev.step (pc' := 52) rfl rfl ?_
      refine ax_gf (p' := 55) rfl rfl (fO (fO (S.ob rfl))) (ax_put_o (Or.inr (by decide)) (ax_put_o (Or.inr (by decide)) v1)) ?_
      refine fx_c_lt_T (pT := 64) rfl (by omega) (by omega) rfl (by omega) ?_
      refine am_ev.step (pc' := 65) rfl rfl ?_
      refine ax_gf (p' := 68) rfl rfl (fO (fO (S.ob rfl))) (ax_put_o (Or.inr (by decide)) (ax_put_o (Or.inr (by decide)) (S.rf rfl rfl))) ?_
      refine am_ev.step (pc' := 69) rfl rfl ?_
      refine ax_gf (p' := 72) rfl rfl (fO (fO (S.ob rfl))) (ax_put_o (Or.inr (by decide)) (ax_put_s _ _ _)) ?_
      refine ax_baload (p' := 73) rfl rfl (((S.po rfl rfl).po rfl rfl).rd (k := s) rfl rfl rfl rfl rfl (by omega) (ax_put_o (Or.inl (by decide)) (ax_put_o (Or.inl (by decide)) (B s (by omega))))) ?_
      refine am_ev.step (pc' := 74) (ls' := [.ref 41, iv ((b s))]) rfl rfl ?_
      refine am_ev.step (pc' := 75) rfl rfl ?_
      refine ax_call (z := 23) (p' := 78) (as := [_]) rfl (Or.inl ⟨_, rfl⟩) rfl rfl rfl rfl rfl rfl rfl rfl (tk_23t (by omega) c3) rfl ?_
      refine fx_z_eq_F (pF := 81) rfl (by omega) rfl (by omega) ?_
      have g6 : (am_put (am_put h 41 6 (iv s)) 41 5 (iv s)).2.2.2 41 6 = iv s := ax_put_o (Or.inr (by decide)) (ax_put_s _ _ _)
      refine fx_hc (fx_pi g6).symm ?_
      refine tk_21b ((S.po rfl rfl).po rfl rfl) ((B.put (by decide)).put (by decide)) hb hL (ax_put_o (Or.inr (by decide)) (ax_put_o (Or.inr (by decide)) v1)) (L - s) s rfl s2 ?_
      rw [hK, ← hE]
      generalize tE b L s = e at he ⊢
      obtain ⟨e1, e2⟩ := he
      refine am_ev.step (pc' := 121) rfl rfl ?_
      refine am_ev.step (pc' := 122) rfl rfl ?_
      refine ax_gf (p' := 125) rfl rfl (fO (fO (fO (S.ob rfl)))) (ax_put_s _ _ _) ?_
      refine am_ev.step (pc' := 126) rfl rfl ?_
      refine ax_gf (p' := 129) rfl rfl (fO (fO (fO (S.ob rfl)))) (ax_put_o (Or.inr (by decide)) (ax_put_s _ _ _)) ?_
      refine fx_sub (p' := 130) (e := ((e : Int) - (s : Int))) rfl rfl (by omega) ?_
      refine fx_bip (p' := 132) rfl rfl rfl ?_
      refine fx_c_gt (pT := 139) (pF := 135) rfl (by omega) (by omega) rfl rfl (fun k1 => ?_) (fun k1 => ?_)
      · refine am_ev.step (pc' := 140) rfl rfl ?_
        refine ax_pf (p' := 143) rfl rfl (fO (fO (fO (S.ob rfl)))) rfl ?_
        refine am_ev.step (pc' := 254) rfl rfl ?_
        exact fx_cast (am_ev.retv rfl rfl) (by rw [tz_T1, if_neg (by omega)])
      · refine am_ev.step (pc' := 136) rfl rfl ?_
        refine am_ev.step (pc' := 140) rfl rfl ?_
        refine ax_pf (p' := 143) rfl rfl (fO (fO (fO (S.ob rfl)))) rfl ?_
        refine am_ev.step (pc' := 254) rfl rfl ?_
        exact fx_cast (am_ev.retv rfl rfl) (by rw [tz_T1, if_pos (by omega)])
    · have c3 := fun z => c2 (decide_eq_true z)
      by_cases c4 : tz_di (b s) = true
      · have c5 := of_decide_eq_true c4
        have hE : tE b L s = tz_sp tz_di b (L - s) s := by
          unfold tE
          rw [if_neg c1, if_neg c2, if_pos c4]
        have hK : tK b L s = if tE b L s ≤ s + 5 then 2 else 3 := by
          rw [hE]
          unfold tK
          rw [if_neg c1, if_neg c2, if_pos c4]
        have he := tE_le b s2
        refine am_ev.step (pc' := 40) rfl rfl ?_
        refine am_ev.step (pc' := 41) rfl rfl ?_
        refine ax_gf (p' := 44) rfl rfl (fO (S.ob rfl)) (ax_put_s _ _ _) ?_
        refine ax_pf (p' := 47) rfl rfl (fO (S.ob rfl)) rfl ?_
        refine am_ev.step (pc' := 48) rfl rfl ?_
        refine ax_gf (p' := 51) rfl rfl (fO (fO (S.ob rfl))) (ax_put_o (Or.inr (by decide)) (ax_put_s _ _ _)) ?_
        refine am_ev.step (pc' := 52) rfl rfl ?_
        refine ax_gf (p' := 55) rfl rfl (fO (fO (S.ob rfl))) (ax_put_o (Or.inr (by decide)) (ax_put_o (Or.inr (by decide)) v1)) ?_
        refine fx_c_lt_T (pT := 64) rfl (by omega) (by omega) rfl (by omega) ?_
        refine am_ev.step (pc' := 65) rfl rfl ?_
        refine ax_gf (p' := 68) rfl rfl (fO (fO (S.ob rfl))) (ax_put_o (Or.inr (by decide)) (ax_put_o (Or.inr (by decide)) (S.rf rfl rfl))) ?_
        refine am_ev.step (pc' := 69) rfl rfl ?_
        refine ax_gf (p' := 72) rfl rfl (fO (fO (S.ob rfl))) (ax_put_o (Or.inr (by decide)) (ax_put_s _ _ _)) ?_
        refine ax_baload (p' := 73) rfl rfl (((S.po rfl rfl).po rfl rfl).rd (k := s) rfl rfl rfl rfl rfl (by omega) (ax_put_o (Or.inl (by decide)) (ax_put_o (Or.inl (by decide)) (B s (by omega))))) ?_
        refine am_ev.step (pc' := 74) (ls' := [.ref 41, iv ((b s))]) rfl rfl ?_
        refine am_ev.step (pc' := 75) rfl rfl ?_
        refine ax_call (z := 23) (p' := 78) (as := [_]) rfl (Or.inl ⟨_, rfl⟩) rfl rfl rfl rfl rfl rfl rfl rfl (tk_23f (by omega) c3) rfl ?_
        refine fx_z_eq_T (pT := 146) rfl (by omega) rfl (by omega) ?_
        refine am_ev.step (pc' := 147) rfl rfl ?_
        refine ax_call (z := 24) (p' := 150) (as := [_]) rfl (Or.inl ⟨_, rfl⟩) rfl rfl rfl rfl rfl rfl rfl rfl (tk_24t (by omega) c5) rfl ?_
        refine fx_z_eq_F (pF := 153) rfl (by omega) rfl (by omega) ?_
        have g6 : (am_put (am_put h 41 6 (iv s)) 41 5 (iv s)).2.2.2 41 6 = iv s := ax_put_o (Or.inr (by decide)) (ax_put_s _ _ _)
        refine fx_hc (fx_pi g6).symm ?_
        refine tk_21c ((S.po rfl rfl).po rfl rfl) ((B.put (by decide)).put (by decide)) hb hL (ax_put_o (Or.inr (by decide)) (ax_put_o (Or.inr (by decide)) v1)) (L - s) s rfl s2 ?_
        rw [hK, ← hE]
        generalize tE b L s = e at he ⊢
        obtain ⟨e1, e2⟩ := he
        refine am_ev.step (pc' := 193) rfl rfl ?_
        refine am_ev.step (pc' := 194) rfl rfl ?_
        refine ax_gf (p' := 197) rfl rfl (fO (fO (fO (S.ob rfl)))) (ax_put_s _ _ _) ?_
        refine am_ev.step (pc' := 198) rfl rfl ?_
        refine ax_gf (p' := 201) rfl rfl (fO (fO (fO (S.ob rfl)))) (ax_put_o (Or.inr (by decide)) (ax_put_s _ _ _)) ?_
        refine fx_sub (p' := 202) (e := ((e : Int) - (s : Int))) rfl rfl (by omega) ?_
        refine am_ev.step (pc' := 203) rfl rfl ?_
        refine fx_c_gt (pT := 210) (pF := 206) rfl (by omega) (by omega) rfl rfl (fun k1 => ?_) (fun k1 => ?_)
        · refine am_ev.step (pc' := 211) rfl rfl ?_
          refine ax_pf (p' := 214) rfl rfl (fO (fO (fO (S.ob rfl)))) rfl ?_
          refine am_ev.step (pc' := 254) rfl rfl ?_
          exact fx_cast (am_ev.retv rfl rfl) (by rw [tz_T1, if_neg (by omega)])
        · refine am_ev.step (pc' := 207) rfl rfl ?_
          refine am_ev.step (pc' := 211) rfl rfl ?_
          refine ax_pf (p' := 214) rfl rfl (fO (fO (fO (S.ob rfl)))) rfl ?_
          refine am_ev.step (pc' := 254) rfl rfl ?_
          exact fx_cast (am_ev.retv rfl rfl) (by rw [tz_T1, if_pos (by omega)])
      · have c5 := fun z => c4 (decide_eq_true z)
        have hE : tE b L s = s + 1 := by
          unfold tE
          rw [if_neg c1, if_neg c2, if_neg c4]
        have hK : tK b L s = if b s = 59 ∨ b s = 47 ∨ b s = 43 then b s else 3 := by
          unfold tK
          rw [if_neg c1, if_neg c2, if_neg c4]
        rw [hE, hK]
        refine am_ev.step (pc' := 40) rfl rfl ?_
        refine am_ev.step (pc' := 41) rfl rfl ?_
        refine ax_gf (p' := 44) rfl rfl (fO (S.ob rfl)) (ax_put_s _ _ _) ?_
        refine ax_pf (p' := 47) rfl rfl (fO (S.ob rfl)) rfl ?_
        refine am_ev.step (pc' := 48) rfl rfl ?_
        refine ax_gf (p' := 51) rfl rfl (fO (fO (S.ob rfl))) (ax_put_o (Or.inr (by decide)) (ax_put_s _ _ _)) ?_
        refine am_ev.step (pc' := 52) rfl rfl ?_
        refine ax_gf (p' := 55) rfl rfl (fO (fO (S.ob rfl))) (ax_put_o (Or.inr (by decide)) (ax_put_o (Or.inr (by decide)) v1)) ?_
        refine fx_c_lt_T (pT := 64) rfl (by omega) (by omega) rfl (by omega) ?_
        refine am_ev.step (pc' := 65) rfl rfl ?_
        refine ax_gf (p' := 68) rfl rfl (fO (fO (S.ob rfl))) (ax_put_o (Or.inr (by decide)) (ax_put_o (Or.inr (by decide)) (S.rf rfl rfl))) ?_
        refine am_ev.step (pc' := 69) rfl rfl ?_
        refine ax_gf (p' := 72) rfl rfl (fO (fO (S.ob rfl))) (ax_put_o (Or.inr (by decide)) (ax_put_s _ _ _)) ?_
        refine ax_baload (p' := 73) rfl rfl (((S.po rfl rfl).po rfl rfl).rd (k := s) rfl rfl rfl rfl rfl (by omega) (ax_put_o (Or.inl (by decide)) (ax_put_o (Or.inl (by decide)) (B s (by omega))))) ?_
        refine am_ev.step (pc' := 74) (ls' := [.ref 41, iv ((b s))]) rfl rfl ?_
        refine am_ev.step (pc' := 75) rfl rfl ?_
        refine ax_call (z := 23) (p' := 78) (as := [_]) rfl (Or.inl ⟨_, rfl⟩) rfl rfl rfl rfl rfl rfl rfl rfl (tk_23f (by omega) c3) rfl ?_
        refine fx_z_eq_T (pT := 146) rfl (by omega) rfl (by omega) ?_
        refine am_ev.step (pc' := 147) rfl rfl ?_
        refine ax_call (z := 24) (p' := 150) (as := [_]) rfl (Or.inl ⟨_, rfl⟩) rfl rfl rfl rfl rfl rfl rfl rfl (tk_24f (by omega) c5) rfl ?_
        refine fx_z_eq_T (pT := 217) rfl (by omega) rfl (by omega) ?_
        refine am_ev.step (pc' := 218) rfl rfl ?_
        refine am_ev.step (pc' := 219) rfl rfl ?_
        refine ax_gf (p' := 222) rfl rfl (fO (fO (S.ob rfl))) (ax_put_o (Or.inr (by decide)) (ax_put_s _ _ _)) ?_
        refine am_ev.step (pc' := 223) rfl rfl ?_
        refine fx_add (p' := 224) (e := ((s : Int) + 1)) rfl rfl (by omega) ?_
        refine ax_pf (p' := 227) rfl rfl (fO (fO (S.ob rfl))) rfl ?_
        refine am_ev.step (pc' := 228) rfl rfl ?_
        refine am_ev.step (pc' := 229) rfl rfl ?_
        refine fx_bip (p' := 231) rfl rfl rfl ?_
        refine fx_c_eq (pT := 246) (pF := 234) rfl (by omega) (by omega) rfl rfl (fun k1 => ?_) (fun k1 => ?_)
        · refine am_ev.step (pc' := 247) rfl rfl ?_
          refine am_ev.step (pc' := 251) rfl rfl ?_
          refine ax_pf (p' := 254) rfl rfl (fO (fO (fO (S.ob rfl)))) rfl ?_
          exact fx_cast (am_ev.retv rfl rfl) (by rw [tz_nc, tz_T1, if_pos (by omega)])
        · refine am_ev.step (pc' := 235) rfl rfl ?_
          refine fx_bip (p' := 237) rfl rfl rfl ?_
          refine fx_c_eq (pT := 246) (pF := 240) rfl (by omega) (by omega) rfl rfl (fun k2 => ?_) (fun k2 => ?_)
          · refine am_ev.step (pc' := 247) rfl rfl ?_
            refine am_ev.step (pc' := 251) rfl rfl ?_
            refine ax_pf (p' := 254) rfl rfl (fO (fO (fO (S.ob rfl)))) rfl ?_
            exact fx_cast (am_ev.retv rfl rfl) (by rw [tz_nc, tz_T1, if_pos (by omega)])
          · refine am_ev.step (pc' := 241) rfl rfl ?_
            refine fx_bip (p' := 243) rfl rfl rfl ?_
            refine fx_c_ne (pT := 250) (pF := 246) rfl (by omega) (by omega) rfl rfl (fun k3 => ?_) (fun k3 => ?_)
            · refine am_ev.step (pc' := 251) rfl rfl ?_
              refine ax_pf (p' := 254) rfl rfl (fO (fO (fO (S.ob rfl)))) rfl ?_
              exact fx_cast (am_ev.retv rfl rfl) (by rw [tz_nc, tz_T1, if_neg (by omega)])
            · refine am_ev.step (pc' := 247) rfl rfl ?_
              refine am_ev.step (pc' := 251) rfl rfl ?_
              refine ax_pf (p' := 254) rfl rfl (fO (fO (fO (S.ob rfl)))) rfl ?_
              exact fx_cast (am_ev.retv rfl rfl) (by rw [tz_nc, tz_T1, if_pos (by omega)])
end TKB
end
