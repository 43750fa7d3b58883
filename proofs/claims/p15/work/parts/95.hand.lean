/-! BY HAND, 16: order: the table -/
theorem hd_I124 {h : am_H} (I : cq_Inv none h) {j : Nat} {x : Int32} : cq_Inv none (am_put h 124 j (.int x)) := by
  refine cq_Inv_put I (by decide) (by have := I.lo; omega) (fun _ => ?_) (fun z => by omega) (fun z => by omega) (fun z => by omega) (fun z => by omega) (by decide)
  have et : cq_tyOf 124 (h.2.2.1 124) j = (1, -2147483648, 2147483647, 0, 0, 0) := by
    unfold cq_tyOf cq_ty
    rw [show Nat.blt 124 130 = true by decide, show cq_isA 124 = true by decide +kernel, show ((Nat.beq 124 81 || Nat.beq 124 83) && Nat.beq j 1) = false by rw [show (Nat.beq 124 81 || Nat.beq 124 83) = false by decide]; rfl]
    show cq_ar 124 = _
    decide +kernel
  rw [et]
  have z1 := x.le_toInt
  have z2 := x.toInt_lt
  exact ⟨x, rfl, by omega, by omega⟩
theorem hd_O.p124 {hB hc : am_H} (O : hd_O hB hc) {j : Nat} {v : Value} : hd_O hB (am_put hc 124 j v) := ⟨O.1, fun c j' h1 h2 h3 => by rw [hd_pv (by omega)]; exact O.2 c j' h1 h2 h3⟩
/-- a place of the table is as good as one that comes next -/
def hd_D (hB hc : am_H) (n L i : Nat) : Prop := L ≠ 0 → hd_i hc 124 (10 * L + i) < hd_NV → ∃ j, j < n ∧ hd_RB hB hc L i j = hd_i hc 124 (10 * L + i)
theorem hd_RB.put {hB hc : am_H} {L i j L' q : Nat} {v : Value} (hL : L' < 1024) (hj : j < 10) (hq : 10 * L' ≤ q) : hd_RB hB (am_put hc 124 q v) L' i j = hd_RB hB hc L' i j := by
  unfold hd_RB
  by_cases c1 : hd_bt L' j = true
  · rw [if_pos (Or.inl c1), if_pos (Or.inl c1)]
  · have c0 : hd_bt L' j = false := by
      cases z : hd_bt L' j with
      | false => rfl
      | true => exact absurd z c1
    have := ((hd_nats hL hj).2.2 c0).1
    rw [hd_iv (show ¬ (124 = 124 ∧ 10 * hd_clr L' j + j = q) by omega)]
theorem hd_D.put {hB hc : am_H} {n L' i' q : Nat} {v : Value} (D : hd_D hB hc n L' i') (hL : L' < 1024) (n10 : n ≤ 10) (hq : 10 * L' ≤ q) (hne : 10 * L' + i' ≠ q) : hd_D hB (am_put hc 124 q v) n L' i' := by
  intro z1 z2
  rw [hd_iv (by omega)] at z2
  obtain ⟨j, hj, e⟩ := D z1 z2
  refine ⟨j, hj, ?_⟩
  rw [hd_RB.put (L := 0) hL (by omega) hq, hd_iv (by omega)]
  exact e
section HDX
variable {hB : am_H} {nn aa ss : Int32} {n d : Nat}
/-- the members that may come next -/
theorem hd_or3 (n10 : n ≤ 10) (en : nn.toInt = n) {L i : Nat} {ll ii : Int32} (hL : L < 1024) (hi : i < 10) (eL : ll.toInt = L) (ei : ii.toInt = i) {hc : am_H} (Ic : cq_Inv none hc) (O : hd_O hB hc) (v8 : Value) : ∀ (m j : Nat) (jj be : Int32), m + j = n → jj.toInt = j → ∃ (be' j2 : Int32), (be' = be ∨ ∃ j', j' < n ∧ hd_RB hB hc L i j' = be') ∧ ∀ x, am_ev (d + 3) 239 186 [.ref 78, .int ss, .int nn, .int aa, .int ll, .int ii, .int be', .int j2, v8] [] hc x → am_ev (d + 3) 239 147 [.ref 78, .int ss, .int nn, .int aa, .int ll, .int ii, .int be, .int jj, v8] [] hc x := by
  intro m
  induction m with
  | zero =>
    intro j jj be hm ej
    refine ⟨be, jj, Or.inl rfl, fun x q => ?_⟩
    refine am_ev.step rfl rfl ?_
    refine am_ev.step rfl rfl ?_
    exact am_ev.step (pc' := 186) (ls' := [.ref 78, .int ss, .int nn, .int aa, .int ll, .int ii, .int be, .int jj, v8]) (st' := []) (h' := hc) rfl (if_pos (Int32.le_iff_toInt_le.2 (by omega))) q
  | succ m ih =>
    intro j jj be hm ej
    have nle : ¬ (nn ≤ jj) := fun z => by
      have := Int32.le_iff_toInt_le.1 z
      omega
    have to160 : ∀ x, am_ev (d + 3) 239 160 [.ref 78, .int ss, .int nn, .int aa, .int ll, .int ii, .int be, .int jj, v8] [.int ((ll >>> (ii &&& 31)) &&& Int32.ofInt 1)] hc x → am_ev (d + 3) 239 147 [.ref 78, .int ss, .int nn, .int aa, .int ll, .int ii, .int be, .int jj, v8] [] hc x := fun x q => by
      refine am_ev.step rfl rfl ?_
      refine am_ev.step rfl rfl ?_
      refine am_ev.step (pc' := 153) (ls' := [.ref 78, .int ss, .int nn, .int aa, .int ll, .int ii, .int be, .int jj, v8]) (st' := []) (h' := hc) rfl (if_neg nle) ?_
      refine am_ev.step rfl rfl ?_
      refine am_ev.step rfl rfl ?_
      refine am_ev.step rfl rfl ?_
      refine am_ev.step rfl rfl ?_
      exact am_ev.step rfl rfl q
    by_cases c1 : (ll >>> (ii &&& 31)) &&& Int32.ofInt 1 = 0
    · have evr := hd_243 (hB := hB) (d := d) Ic O hL hi (show j < 10 by omega) eL ei ej
      obtain ⟨be', j2, hb, Q⟩ := ih (j + 1) (jj + Int32.ofInt 1) (if hd_RB hB hc L i j < be then hd_RB hB hc L i j else be) (by omega) (hd_inc ej (by omega))
      refine ⟨be', j2, ?_, fun x q => to160 x ?_⟩
      · rcases hb with z | z
        · by_cases c2 : hd_RB hB hc L i j < be
          · rw [if_pos c2] at z
            exact Or.inr ⟨j, by omega, z.symm⟩
          · rw [if_neg c2] at z
            exact Or.inl z
        · exact Or.inr z
      · refine am_ev.step (pc' := 163) (ls' := [.ref 78, .int ss, .int nn, .int aa, .int ll, .int ii, .int be, .int jj, v8]) (st' := []) (h' := hc) rfl (if_pos c1) ?_
        refine am_ev.step rfl rfl ?_
        refine am_ev.step rfl rfl ?_
        refine am_ev.step rfl rfl ?_
        refine am_ev.step rfl rfl ?_
        refine am_ev.step rfl rfl ?_
        refine hd_cv 243 (as := [.ref 78, .int ii, .int jj, .int ll]) (rr := [.int be]) rfl (Or.inr (Or.inl ⟨_, rfl⟩)) rfl (by decide) rfl rfl (Nat.le_of_ble_eq_true rfl) (cq_o78 Ic) (Nat.le_of_ble_eq_true rfl) evr ?_
        refine am_ev.min (rr := []) rfl (Or.inl ⟨_, rfl⟩) rfl rfl (by decide) ?_
        refine am_ev.step rfl rfl ?_
        refine am_ev.step rfl rfl ?_
        exact am_ev.step rfl rfl (Q x q)
    · exact ⟨be, jj, Or.inl rfl, fun x q => to160 x (am_ev.step (pc' := 186) (ls' := [.ref 78, .int ss, .int nn, .int aa, .int ll, .int ii, .int be, .int jj, v8]) (st' := []) (h' := hc) rfl (if_neg c1) q)⟩
/-- a row of the table -/
theorem hd_or2 (n10 : n ≤ 10) (en : nn.toInt = n) {L : Nat} {ll : Int32} (hL : L < 1024) (eL : ll.toInt = L) (v8 : Value) : ∀ (m i : Nat) (ii : Int32) (v6 v7 : Value) (hc : am_H), m + i = n → ii.toInt = i → cq_Inv none hc → hd_O hB hc → (∀ L' i', i' < n → 10 * L' + i' < 10 * L + i → hd_D hB hc n L' i') → ∃ (hc' : am_H) (v5 v6' v7' : Value), cq_Inv none hc' ∧ hd_O hB hc' ∧ (∀ L' i', i' < n → L' ≤ L → hd_D hB hc' n L' i') ∧ ∀ x, am_ev (d + 3) 239 207 [.ref 78, .int ss, .int nn, .int aa, .int ll, v5, v6', v7', v8] [] hc' x → am_ev (d + 3) 239 124 [.ref 78, .int ss, .int nn, .int aa, .int ll, .int ii, v6, v7, v8] [] hc x := by
  intro m
  induction m with
  | zero =>
    intro i ii v6 v7 hc hm ei Ic O S
    refine ⟨hc, .int ii, v6, v7, Ic, O, fun L' i' h1 h2 => S L' i' h1 (by omega), fun x q => ?_⟩
    refine am_ev.step rfl rfl ?_
    refine am_ev.step rfl rfl ?_
    exact am_ev.step (pc' := 207) (ls' := [.ref 78, .int ss, .int nn, .int aa, .int ll, .int ii, v6, v7, v8]) (st' := []) (h' := hc) rfl (if_pos (Int32.le_iff_toInt_le.2 (by omega))) q
  | succ m ih =>
    intro i ii v6 v7 hc hm ei Ic O S
    have nle : ¬ (nn ≤ ii) := fun z => by
      have := Int32.le_iff_toInt_le.1 z
      omega
    have go : ∀ be0 : Int32, (L ≠ 0 → be0 = hd_NV) → (∀ x, am_ev (d + 3) 239 142 [.ref 78, .int ss, .int nn, .int aa, .int ll, .int ii, v6, v7, v8] [.int be0] hc x → am_ev (d + 3) 239 124 [.ref 78, .int ss, .int nn, .int aa, .int ll, .int ii, v6, v7, v8] [] hc x) → ∃ (hc' : am_H) (v5 v6' v7' : Value), cq_Inv none hc' ∧ hd_O hB hc' ∧ (∀ L' i', i' < n → L' ≤ L → hd_D hB hc' n L' i') ∧ ∀ x, am_ev (d + 3) 239 207 [.ref 78, .int ss, .int nn, .int aa, .int ll, v5, v6', v7', v8] [] hc' x → am_ev (d + 3) 239 124 [.ref 78, .int ss, .int nn, .int aa, .int ll, .int ii, v6, v7, v8] [] hc x := fun be0 hb0 pre => by
      obtain ⟨be, j2, hb, Q⟩ := hd_or3 (hB := hB) (d := d) (ss := ss) (aa := aa) n10 en hL (show i < 10 by omega) eL ei Ic O v8 n 0 (Int32.ofInt 0) be0 (by omega) (by decide)
      have ix : ((Int8.ofInt 10).toInt32 * ll + ii).toInt = ((10 * L + i : Nat) : Int) := by
        rw [hd_lk (m := 10) (by decide) (by decide) (by omega) (by omega) (by omega) (by omega), eL, ei]
        omega
      have w124 : am_wr hc 124 ((Int8.ofInt 10).toInt32 * ll + ii) 0 (.int be) = some (am_put hc 124 (10 * L + i) (.int be)) := by
        rw [hd_wrS (ln := 10240) (by have := Ic.lo; omega) (by rw [Ic.fx 124 (by decide) (by decide)]; decide +kernel) (by omega) (by omega), show ((Int8.ofInt 10).toInt32 * ll + ii).toInt.toNat = 10 * L + i by omega]
      have f66 := hd_f78 Ic 66 124 (by decide +kernel) (by decide +kernel)
      obtain ⟨hc', v5, v6', v7', I', O', S', Q'⟩ := ih (i + 1) (ii + Int32.ofInt 1) (.int be) (.int j2) (am_put hc 124 (10 * L + i) (.int be)) (by omega) (hd_inc ei (by omega)) (hd_I124 Ic) O.p124 (fun L' i' h1 h2 => by
        by_cases e : 10 * L' + i' = 10 * L + i
        · have e1 : L' = L := by omega
          have e2 : i' = i := by omega
          subst e1 e2
          intro z1 z2
          rw [hd_ip] at z2 ⊢
          rcases hb with z | ⟨j', hj', z⟩
          · rw [hb0 z1] at z
            rw [z] at z2
            exact absurd (Int32.le_iff_toInt_le.2 (Int.le_refl _)) (hd_nle z2)
          · exact ⟨j', hj', by rw [hd_RB.put (L := 0) hL (by omega) (by omega)]; exact z⟩
        · exact (S L' i' h1 (by omega)).put (by omega) n10 (by omega) e)
      refine ⟨hc', v5, v6', v7', I', O', S', fun x q => pre x ?_⟩
      refine am_ev.step rfl rfl ?_
      refine am_ev.step rfl rfl ?_
      refine am_ev.step rfl rfl ?_
      refine Q x ?_
      refine am_ev.step rfl rfl ?_
      refine am_ev.step rfl (hd_gf (cq_o78 Ic) f66) ?_
      refine am_ev.step rfl rfl ?_
      refine am_ev.step rfl rfl ?_
      refine am_ev.step rfl rfl ?_
      refine am_ev.step rfl rfl ?_
      refine am_ev.step rfl rfl ?_
      refine am_ev.step rfl rfl ?_
      refine am_ev.step rfl (hd_is w124) ?_
      refine am_ev.step rfl rfl ?_
      exact am_ev.step rfl rfl (Q' x q)
    have to132 : ∀ x, am_ev (d + 3) 239 132 [.ref 78, .int ss, .int nn, .int aa, .int ll, .int ii, v6, v7, v8] [.int ll] hc x → am_ev (d + 3) 239 124 [.ref 78, .int ss, .int nn, .int aa, .int ll, .int ii, v6, v7, v8] [] hc x := fun x q => by
      refine am_ev.step rfl rfl ?_
      refine am_ev.step rfl rfl ?_
      refine am_ev.step (pc' := 130) (ls' := [.ref 78, .int ss, .int nn, .int aa, .int ll, .int ii, v6, v7, v8]) (st' := []) (h' := hc) rfl (if_neg nle) ?_
      exact am_ev.step rfl rfl q
    by_cases c : ll = 0
    · refine go (Int32.ofInt 0) (fun z => ?_) (fun x q => to132 x ?_)
      · exfalso
        rw [c, show (0 : Int32).toInt = 0 by decide] at eL
        omega
      · refine am_ev.step (pc' := 135) (ls' := [.ref 78, .int ss, .int nn, .int aa, .int ll, .int ii, v6, v7, v8]) (st' := []) (h' := hc) rfl (if_pos c) ?_
        refine am_ev.step rfl rfl ?_
        exact am_ev.step rfl rfl q
    · refine go hd_NV (fun _ => rfl) (fun x q => to132 x ?_)
      refine am_ev.step (pc' := 139) (ls' := [.ref 78, .int ss, .int nn, .int aa, .int ll, .int ii, v6, v7, v8]) (st' := []) (h' := hc) rfl (if_neg c) ?_
      exact am_ev.step rfl rfl q
/-- the table -/
theorem hd_or1 (n10 : n ≤ 10) (en : nn.toInt = n) {A : Nat} (hA : A < 1024) (eA : aa.toInt = A) (v8 : Value) : ∀ (m L : Nat) (ll : Int32) (v5 v6 v7 : Value) (hc : am_H), m + L = A + 1 → ll.toInt = L → cq_Inv none hc → hd_O hB hc → (∀ L' i', i' < n → L' < L → hd_D hB hc n L' i') → ∃ (hc' : am_H) (v4 v5' v6' v7' : Value), cq_Inv none hc' ∧ hd_O hB hc' ∧ (∀ L' i', i' < n → L' ≤ A → hd_D hB hc' n L' i') ∧ ∀ x, am_ev (d + 3) 239 213 [.ref 78, .int ss, .int nn, .int aa, v4, v5', v6', v7', v8] [] hc' x → am_ev (d + 3) 239 115 [.ref 78, .int ss, .int nn, .int aa, .int ll, v5, v6, v7, v8] [] hc x := by
  intro m
  induction m with
  | zero =>
    intro L ll v5 v6 v7 hc hm eL Ic O S
    refine ⟨hc, .int ll, v5, v6, v7, Ic, O, fun L' i' h1 h2 => S L' i' h1 (by omega), fun x q => ?_⟩
    refine am_ev.step rfl rfl ?_
    refine am_ev.step rfl rfl ?_
    exact am_ev.step (pc' := 213) (ls' := [.ref 78, .int ss, .int nn, .int aa, .int ll, v5, v6, v7, v8]) (st' := []) (h' := hc) rfl (if_pos (Int32.lt_iff_toInt_lt.2 (by omega))) q
  | succ m ih =>
    intro L ll v5 v6 v7 hc hm eL Ic O S
    have nlt : ¬ (aa < ll) := fun z => by
      have := Int32.lt_iff_toInt_lt.1 z
      omega
    obtain ⟨h1, u5, u6, u7, I1, O1, S1, Q1⟩ := hd_or2 (d := d) (ss := ss) (aa := aa) n10 en (show L < 1024 by omega) eL v8 n 0 (Int32.ofInt 0) v6 v7 hc (by omega) (by decide) Ic O (fun L' i' h1 h2 => S L' i' h1 (by omega))
    obtain ⟨hc', v4, v5', v6', v7', I', O', S', Q'⟩ := ih (L + 1) (ll + Int32.ofInt 1) u5 u6 u7 h1 (by omega) (hd_inc eL (by omega)) I1 O1 (fun L' i' h1 h2 => S1 L' i' h1 (by omega))
    refine ⟨hc', v4, v5', v6', v7', I', O', S', fun x q => ?_⟩
    refine am_ev.step rfl rfl ?_
    refine am_ev.step rfl rfl ?_
    refine am_ev.step (pc' := 121) (ls' := [.ref 78, .int ss, .int nn, .int aa, .int ll, v5, v6, v7, v8]) (st' := []) (h' := hc) rfl (if_neg nlt) ?_
    refine am_ev.step rfl rfl ?_
    refine am_ev.step rfl rfl ?_
    refine Q1 x ?_
    refine am_ev.step rfl rfl ?_
    exact am_ev.step rfl rfl (Q' x q)
end HDX
