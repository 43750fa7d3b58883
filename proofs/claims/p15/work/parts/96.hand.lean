/-! BY HAND, 17: order: the best, and the way back -/
theorem hd_tyA {h : am_H} (I : cq_Inv none h) {c j : Nat} (h1 : 40 ≤ c) (h2 : c < 130) (hf : (cq_fix c).1 = 1) (hs : (Nat.beq c 81 || Nat.beq c 83) = false) : cq_tyOf c (h.2.2.1 c) j = cq_ar c := by
  unfold cq_tyOf cq_ty cq_isA
  rw [show Nat.blt c 130 = true from Nat.ble_eq_true_of_le h2, hf, hs]
  rfl
theorem hd_ty78 {h : am_H} (I : cq_Inv none h) {b : Nat} : cq_tyOf 78 (h.2.2.1 78) b = cq_cl 13 b := by
  unfold cq_tyOf cq_ty cq_isA cq_ob
  have e1 : Nat.blt 78 130 = true := by decide
  have e2 : Nat.beq (cq_fix 78).1 1 = false := by decide +kernel
  have e3 : (Nat.beq 78 54 && Nat.blt b 3) = false := by rw [show Nat.beq 78 54 = false by decide]; rfl
  have e4 : (cq_fix 78).2.1 = 13 := by decide +kernel
  rw [e1, e2, e3, e4]
  rfl
theorem hd_I78 {h : am_H} (I : cq_Inv none h) {b : Nat} {x : Int32} (l u : Int) (ht : cq_cl 13 b = (1, l, u, 0, 0, 0)) (h0 : l ≤ x.toInt) (h1 : x.toInt ≤ u) : cq_Inv none (am_put h 78 b (.int x)) := by
  refine cq_Inv_put I (by decide) (by have := I.lo; omega) (fun _ => ?_) (fun z => by omega) (fun z => by omega) (fun z => by omega) (fun z => by omega) (by decide)
  rw [hd_ty78 I, ht]
  exact ⟨x, rfl, h0, h1⟩
theorem hd_I118 {h : am_H} (I : cq_Inv none h) {j : Nat} {x : Int32} (h0 : 0 ≤ x.toInt) (h1 : x.toInt ≤ 13) : cq_Inv none (am_put h 118 j (.int x)) := by
  refine cq_Inv_put I (by decide) (by have := I.lo; omega) (fun _ => ?_) (fun z => by omega) (fun z => by omega) (fun z => by omega) (fun z => by omega) (by decide)
  rw [hd_tyA I (by decide) (by decide) (by decide +kernel) (by decide), show cq_ar 118 = (1, 0, 13, 0, 0, 0) by decide +kernel]
  exact ⟨x, rfl, h0, h1⟩
theorem hd_O.row {hB hc : am_H} (O : hd_O hB hc) {j : Nat} {v w : Value} : hd_O hB (am_put (am_put hc 118 j v) 78 55 w) := ⟨O.1, fun c j' h1 h2 h3 => by rw [hd_pv (by omega), hd_pv (by omega)]; exact O.2 c j' h1 h2 h3⟩
theorem hd_O.p55 {hB hc : am_H} (O : hd_O hB hc) {w : Value} : hd_O hB (am_put hc 78 55 w) := ⟨O.1, fun c j' h1 h2 h3 => by rw [hd_pv (by omega)]; exact O.2 c j' h1 h2 h3⟩
/-- addRow -/
theorem hd_245 {hc : am_H} {r c : Int32} {d : Nat} (Ic : cq_Inv none hc) (h55 : hc.2.2.2 78 55 = .int r) (r0 : 0 ≤ r.toInt) (r1 : r.toInt < 14) (c0 : 0 ≤ c.toInt) (c1 : c.toInt ≤ 13) : am_ev d 245 0 (am_ent [.ref 78, .int c] (am_in 245).2.2.1) [] hc (none, am_put (am_put hc 118 r.toInt.toNat (.int c)) 78 55 (.int (r + Int32.ofInt 1))) ∧ cq_Inv none (am_put (am_put hc 118 r.toInt.toNat (.int c)) 78 55 (.int (r + Int32.ofInt 1))) ∧ (r + Int32.ofInt 1).toInt = r.toInt + 1 := by
  have O := cq_o78 Ic
  have f57 := hd_f78 Ic 57 118 (by decide +kernel) (by decide +kernel)
  have w118 : am_wr hc 118 r 0 (.int c) = some (am_put hc 118 r.toInt.toNat (.int c)) := hd_wrS (ln := 14) (by have := Ic.lo; omega) (by rw [Ic.fx 118 (by decide) (by decide)]; decide +kernel) r0 (by omega)
  have I1 := hd_I118 Ic (j := r.toInt.toNat) c0 c1
  have O1 := cq_o78 I1
  have rr : (r + Int32.ofInt 1).toInt = r.toInt + 1 := by
    rw [hd_toA (by omega) (by omega) (by decide) (by decide), show (Int32.ofInt 1).toInt = 1 by decide]
  refine ⟨?_, hd_I78 I1 0 14 (by decide +kernel) (by omega) (by omega), rr⟩
  refine am_ev.step rfl rfl ?_
  refine am_ev.step rfl (hd_gf O f57) ?_
  refine am_ev.step rfl rfl ?_
  refine am_ev.step rfl (hd_gf O h55) ?_
  refine am_ev.step rfl rfl ?_
  refine am_ev.step rfl (hd_is w118) ?_
  refine am_ev.step rfl rfl ?_
  refine am_ev.step rfl rfl ?_
  refine am_ev.step rfl (hd_gf O1 (show (am_put hc 118 r.toInt.toNat (.int c)).2.2.2 78 55 = .int r by rw [hd_pv (by omega)]; exact h55)) ?_
  refine am_ev.step rfl rfl ?_
  refine am_ev.step rfl rfl ?_
  refine am_ev.step rfl (hd_pf O1 rfl) ?_
  exact am_ev.retv rfl rfl
theorem hd_D.eq {hB h1 h2 : am_H} {n L i : Nat} (D : hd_D hB h1 n L i) (K : ∀ q, hd_i h2 124 q = hd_i h1 124 q) : hd_D hB h2 n L i := by
  intro z1 z2
  rw [K] at z2
  obtain ⟨j, hj, e⟩ := D z1 z2
  refine ⟨j, hj, ?_⟩
  unfold hd_RB at e ⊢
  rw [K, K]
  exact e
section HDY
variable {hB : am_H} {nn aa ss be : Int32} {n d A : Nat}
/-- a member's number -/
theorem hd_mem {hc : am_H} (Ic : cq_Inv none hc) {i : Nat} {ii : Int32} (hi : i < 10) (ei : ii.toInt = i) : am_rd hc 123 ii (fun c => Nat.beq c 0) = some (.int (hd_i hc 123 i)) ∧ 0 ≤ (hd_i hc 123 i).toInt ∧ (hd_i hc 123 i).toInt ≤ 13 := ⟨hd_ra Ic (c := 123) (i := ii) (k := i) 0 13 (by decide) (by decide) (by decide +kernel) (by decide +kernel) (by decide) (by decide +kernel) ei (by rw [show (cq_fix 123).2.2 = 10 by decide +kernel]; exact hi), (hd_iA Ic (c := 123) (j := i) 0 13 (by decide) (by decide) (by decide +kernel) (by decide) (by decide +kernel) (by rw [show (cq_fix 123).2.2 = 10 by decide +kernel]; exact hi)).2⟩
/-- a place of the table -/
theorem hd_t124 {hc : am_H} (Ic : cq_Inv none hc) (hA : A < 1024) (eA : aa.toInt = A) {i : Nat} {ii : Int32} (hi : i < 10) (ei : ii.toInt = i) : am_rd hc 124 ((Int8.ofInt 10).toInt32 * (aa &&& ((Int32.ofInt 1 <<< (ii &&& 31)) ^^^ Int32.ofInt (-1))) + ii) (fun c => Nat.beq c 0) = some (.int (hd_i hc 124 (10 * hd_clr A i + i))) := by
  obtain ⟨-, b2⟩ := hd_bits hA hi eA ei
  obtain ⟨n1, n2, n3⟩ := hd_nats hA hi
  have eC := hd_ofNI (show hd_clr A i < 1024 by omega)
  rw [b2]
  have iy : ((Int8.ofInt 10).toInt32 * Int32.ofNat (hd_clr A i) + ii).toInt = ((10 * hd_clr A i + i : Nat) : Int) := by
    rw [hd_lk (m := 10) (by decide) (by decide) (by omega) (by omega) (by omega) (by omega), eC, ei]
    omega
  exact hd_ra Ic (c := 124) (k := 10 * hd_clr A i + i) (-2147483648) 2147483647 (by decide) (by decide) (by decide +kernel) (by decide +kernel) (by decide) (by decide +kernel) iy (by rw [show (cq_fix 124).2.2 = 10240 by decide +kernel]; omega)
/-- the best of all -/
theorem hd_best (n10 : n ≤ 10) (en : nn.toInt = n) (hA : A < 1024) (eA : aa.toInt = A) {hc : am_H} (Ic : cq_Inv none hc) (v6 v7 v8 : Value) : ∀ (m i : Nat) (ii be : Int32), m + i = n → ii.toInt = i → (be = hd_NV ∨ ∃ i', i' < n ∧ hd_i hc 124 (10 * hd_clr A i' + i') = be) → ∃ (be' i2 : Int32), (be' = hd_NV ∨ ∃ i', i' < n ∧ hd_i hc 124 (10 * hd_clr A i' + i') = be') ∧ ∀ x, am_ev (d + 3) 239 259 [.ref 78, .int ss, .int nn, .int aa, .int be', .int i2, v6, v7, v8] [] hc x → am_ev (d + 3) 239 221 [.ref 78, .int ss, .int nn, .int aa, .int be, .int ii, v6, v7, v8] [] hc x := by
  intro m
  induction m with
  | zero =>
    intro i ii be hm ei hb
    refine ⟨be, ii, hb, fun x q => ?_⟩
    refine am_ev.step rfl rfl ?_
    refine am_ev.step rfl rfl ?_
    exact am_ev.step (pc' := 259) (ls' := [.ref 78, .int ss, .int nn, .int aa, .int be, .int ii, v6, v7, v8]) (st' := []) (h' := hc) rfl (if_pos (Int32.le_iff_toInt_le.2 (by omega))) q
  | succ m ih =>
    intro i ii be hm ei hb
    have nle : ¬ (nn ≤ ii) := fun z => by
      have := Int32.le_iff_toInt_le.1 z
      omega
    have rd := hd_t124 Ic hA eA (show i < 10 by omega) ei
    have f66 := hd_f78 Ic 66 124 (by decide +kernel) (by decide +kernel)
    obtain ⟨be', i2, hb', Q⟩ := ih (i + 1) (ii + Int32.ofInt 1) (if hd_i hc 124 (10 * hd_clr A i + i) < be then hd_i hc 124 (10 * hd_clr A i + i) else be) (by omega) (hd_inc ei (by omega)) (by
      by_cases c : hd_i hc 124 (10 * hd_clr A i + i) < be
      · rw [if_pos c]
        exact Or.inr ⟨i, by omega, rfl⟩
      · rw [if_neg c]
        exact hb)
    refine ⟨be', i2, hb', fun x q => ?_⟩
    refine am_ev.step rfl rfl ?_
    refine am_ev.step rfl rfl ?_
    refine am_ev.step (pc' := 227) (ls' := [.ref 78, .int ss, .int nn, .int aa, .int be, .int ii, v6, v7, v8]) (st' := []) (h' := hc) rfl (if_neg nle) ?_
    refine am_ev.step rfl rfl ?_
    refine am_ev.step rfl rfl ?_
    refine am_ev.step rfl (hd_gf (cq_o78 Ic) f66) ?_
    refine am_ev.step rfl rfl ?_
    refine am_ev.step rfl rfl ?_
    refine am_ev.step rfl rfl ?_
    refine am_ev.step rfl rfl ?_
    refine am_ev.step rfl rfl ?_
    refine am_ev.step rfl rfl ?_
    refine am_ev.step rfl rfl ?_
    refine am_ev.step rfl rfl ?_
    refine am_ev.step rfl rfl ?_
    refine am_ev.step rfl rfl ?_
    refine am_ev.step rfl rfl ?_
    refine am_ev.step rfl (hd_ia rd) ?_
    refine am_ev.min (rr := []) rfl (Or.inl ⟨_, rfl⟩) rfl rfl (by decide) ?_
    refine am_ev.step rfl rfl ?_
    refine am_ev.step rfl rfl ?_
    exact am_ev.step rfl rfl (Q x q)
/-- the first that is best -/
theorem hd_first (hA : A < 1024) (eA : aa.toInt = A) {hc : am_H} (Ic : cq_Inv none hc) (v6 v7 v8 : Value) {W : Nat} (hW : W < 10) (eW : hd_i hc 124 (10 * hd_clr A W + W) = be) : ∀ (m i : Nat) (ii : Int32), m + i = W → ii.toInt = i → ∃ (i2 : Nat) (i3 : Int32), i2 ≤ W ∧ i3.toInt = i2 ∧ hd_i hc 124 (10 * hd_clr A i2 + i2) = be ∧ ∀ x, am_ev (d + 3) 239 302 [.ref 78, .int ss, .int nn, .int aa, .int be, .int i3, v6, v7, v8] [] hc x → am_ev (d + 3) 239 272 [.ref 78, .int ss, .int nn, .int aa, .int be, .int ii, v6, v7, v8] [] hc x := by
  intro m
  have f66 := hd_f78 Ic 66 124 (by decide +kernel) (by decide +kernel)
  have step : ∀ (i : Nat) (ii : Int32), i ≤ W → ii.toInt = i → ∀ x, am_ev (d + 3) 239 293 [.ref 78, .int ss, .int nn, .int aa, .int be, .int ii, v6, v7, v8] [.int be, .int (hd_i hc 124 (10 * hd_clr A i + i))] hc x → am_ev (d + 3) 239 272 [.ref 78, .int ss, .int nn, .int aa, .int be, .int ii, v6, v7, v8] [] hc x := fun i ii hi ei x q => by
    have rd := hd_t124 Ic hA eA (show i < 10 by omega) ei
    refine am_ev.step rfl rfl ?_
    refine am_ev.step rfl (hd_gf (cq_o78 Ic) f66) ?_
    refine am_ev.step rfl rfl ?_
    refine am_ev.step rfl rfl ?_
    refine am_ev.step rfl rfl ?_
    refine am_ev.step rfl rfl ?_
    refine am_ev.step rfl rfl ?_
    refine am_ev.step rfl rfl ?_
    refine am_ev.step rfl rfl ?_
    refine am_ev.step rfl rfl ?_
    refine am_ev.step rfl rfl ?_
    refine am_ev.step rfl rfl ?_
    refine am_ev.step rfl rfl ?_
    refine am_ev.step rfl (hd_ia rd) ?_
    exact am_ev.step rfl rfl q
  have hit : ∀ (i : Nat) (ii : Int32), i ≤ W → ii.toInt = i → hd_i hc 124 (10 * hd_clr A i + i) = be → ∀ x, am_ev (d + 3) 239 302 [.ref 78, .int ss, .int nn, .int aa, .int be, .int ii, v6, v7, v8] [] hc x → am_ev (d + 3) 239 272 [.ref 78, .int ss, .int nn, .int aa, .int be, .int ii, v6, v7, v8] [] hc x := fun i ii hi ei e x q => step i ii hi ei x (am_ev.step (pc' := 302) (ls' := [.ref 78, .int ss, .int nn, .int aa, .int be, .int ii, v6, v7, v8]) (st' := []) (h' := hc) rfl (if_pos e) q)
  induction m with
  | zero =>
    intro i ii hm ei
    have : i = W := by omega
    subst this
    exact ⟨i, ii, Nat.le_refl _, ei, eW, hit i ii (Nat.le_refl _) ei eW⟩
  | succ m ih =>
    intro i ii hm ei
    by_cases c : hd_i hc 124 (10 * hd_clr A i + i) = be
    · exact ⟨i, ii, by omega, ei, c, hit i ii (by omega) ei c⟩
    · obtain ⟨i2, i3, a1, a2, a3, Q⟩ := ih (i + 1) (ii + Int32.ofInt 1) (by omega) (hd_inc ei (by omega))
      refine ⟨i2, i3, a1, a2, a3, fun x q => step i ii (by omega) ei x ?_⟩
      refine am_ev.step (pc' := 296) (ls' := [.ref 78, .int ss, .int nn, .int aa, .int be, .int ii, v6, v7, v8]) (st' := []) (h' := hc) rfl (if_neg c) ?_
      refine am_ev.step rfl rfl ?_
      exact am_ev.step rfl rfl (Q x q)
/-- the next on the way back -/
theorem hd_next {L i J : Nat} {ll ii ne : Int32} (hL : L < 1024) (hi : i < 10) (eL : ll.toInt = L) (ei : ii.toInt = i) {hc : am_H} (Ic : cq_Inv none hc) (O : hd_O hB hc) (hJ : J < 10) (eJ : hd_RB hB hc L i J = ne) : ∀ (m j : Nat) (jj : Int32), m + j = J → jj.toInt = j → ∃ (j2 : Nat) (j3 : Int32), j2 ≤ J ∧ j3.toInt = j2 ∧ hd_RB hB hc L i j2 = ne ∧ ∀ x, am_ev (d + 3) 239 361 [.ref 78, .int ss, .int nn, .int aa, .int be, .int ii, .int ll, .int ne, .int j3] [] hc x → am_ev (d + 3) 239 340 [.ref 78, .int ss, .int nn, .int aa, .int be, .int ii, .int ll, .int ne, .int jj] [] hc x := by
  intro m
  have step : ∀ (j : Nat) (jj : Int32), j ≤ J → jj.toInt = j → ∀ x, am_ev (d + 3) 239 352 [.ref 78, .int ss, .int nn, .int aa, .int be, .int ii, .int ll, .int ne, .int jj] [.int ne, .int (hd_RB hB hc L i j)] hc x → am_ev (d + 3) 239 340 [.ref 78, .int ss, .int nn, .int aa, .int be, .int ii, .int ll, .int ne, .int jj] [] hc x := fun j jj hj ej x q => by
    have evr := hd_243 (hB := hB) (d := d) Ic O hL hi (show j < 10 by omega) eL ei ej
    refine am_ev.step rfl rfl ?_
    refine am_ev.step rfl rfl ?_
    refine am_ev.step rfl rfl ?_
    refine am_ev.step rfl rfl ?_
    refine hd_cv 243 (as := [.ref 78, .int ii, .int jj, .int ll]) (rr := []) rfl (Or.inr (Or.inl ⟨_, rfl⟩)) rfl (by decide) rfl rfl (by decide) (cq_o78 Ic) (Nat.le_of_ble_eq_true rfl) evr ?_
    exact am_ev.step rfl rfl q
  have hit : ∀ (j : Nat) (jj : Int32), j ≤ J → jj.toInt = j → hd_RB hB hc L i j = ne → ∀ x, am_ev (d + 3) 239 361 [.ref 78, .int ss, .int nn, .int aa, .int be, .int ii, .int ll, .int ne, .int jj] [] hc x → am_ev (d + 3) 239 340 [.ref 78, .int ss, .int nn, .int aa, .int be, .int ii, .int ll, .int ne, .int jj] [] hc x := fun j jj hj ej e x q => step j jj hj ej x (am_ev.step (pc' := 361) (ls' := [.ref 78, .int ss, .int nn, .int aa, .int be, .int ii, .int ll, .int ne, .int jj]) (st' := []) (h' := hc) rfl (if_pos e) q)
  induction m with
  | zero =>
    intro j jj hm ej
    have : j = J := by omega
    subst this
    exact ⟨j, jj, Nat.le_refl _, ej, eJ, hit j jj (Nat.le_refl _) ej eJ⟩
  | succ m ih =>
    intro j jj hm ej
    by_cases c : hd_RB hB hc L i j = ne
    · exact ⟨j, jj, by omega, ej, c, hit j jj (by omega) ej c⟩
    · obtain ⟨j2, j3, a1, a2, a3, Q⟩ := ih (j + 1) (jj + Int32.ofInt 1) (by omega) (hd_inc ej (by omega))
      refine ⟨j2, j3, a1, a2, a3, fun x q => step j jj (by omega) ej x ?_⟩
      refine am_ev.step (pc' := 355) (ls' := [.ref 78, .int ss, .int nn, .int aa, .int be, .int ii, .int ll, .int ne, .int jj]) (st' := []) (h' := hc) rfl (if_neg c) ?_
      refine am_ev.step rfl rfl ?_
      exact am_ev.step rfl rfl (Q x q)
/-- the way back -/
theorem hd_back (n10 : n ≤ 10) : ∀ (M L i : Nat) (ii ll ne r : Int32) (v8 : Value) (hc : am_H), L ≤ M → L < 1024 → i < n → ll.toInt = L → ii.toInt = i → cq_Inv none hc → hd_O hB hc → (∀ L' i', i' < n → L' ≤ L → hd_D hB hc n L' i') → hd_i hc 124 (10 * L + i) = ne → ne < hd_NV → hc.2.2.2 78 55 = .int r → 0 ≤ r.toInt → r.toInt + hd_pc L ≤ 10 → ∃ (hc' : am_H) (u5 u6 u7 u8 : Value), cq_Inv none hc' ∧ hd_O hB hc' ∧ ∀ x, am_ev (d + 3) 239 413 [.ref 78, .int ss, .int nn, .int aa, .int be, u5, u6, u7, u8] [] hc' x → am_ev (d + 3) 239 332 [.ref 78, .int ss, .int nn, .int aa, .int be, .int ii, .int ll, .int ne, v8] [] hc x := by
  intro M
  induction M with
  | zero =>
    intro L i ii ll ne r v8 hc hM hL hi eL ei Ic O S et ht h55 r0 r1
    have z : ll = 0 := Int32.toInt_inj.1 (by rw [eL, show (0 : Int32).toInt = 0 by decide]; omega)
    refine ⟨hc, .int ii, .int ll, .int ne, v8, Ic, O, fun x q => ?_⟩
    refine am_ev.step rfl rfl ?_
    exact am_ev.step (pc' := 413) (ls' := [.ref 78, .int ss, .int nn, .int aa, .int be, .int ii, .int ll, .int ne, v8]) (st' := []) (h' := hc) rfl (if_pos z) q
  | succ M ih =>
    intro L i ii ll ne r v8 hc hM hL hi eL ei Ic O S et ht h55 r0 r1
    by_cases c : ll = 0
    · refine ⟨hc, .int ii, .int ll, .int ne, v8, Ic, O, fun x q => ?_⟩
      refine am_ev.step rfl rfl ?_
      exact am_ev.step (pc' := 413) (ls' := [.ref 78, .int ss, .int nn, .int aa, .int be, .int ii, .int ll, .int ne, v8]) (st' := []) (h' := hc) rfl (if_pos c) q
    · have L0 : L ≠ 0 := fun z => c (Int32.toInt_inj.1 (by rw [eL, z, show (0 : Int32).toInt = 0 by decide]; rfl))
      obtain ⟨J, hJ, eJ⟩ := S L i hi (Nat.le_refl _) L0 (by rw [et]; exact ht)
      rw [et] at eJ
      obtain ⟨j2, j3, a1, a2, a3, Q⟩ := hd_next (d := d) (ss := ss) (nn := nn) (aa := aa) (be := be) hL (show i < 10 by omega) eL ei Ic O (show J < 10 by omega) eJ J 0 (Int32.ofInt 0) (by omega) (by decide)
      have nrb : hd_RB hB hc L i j2 ≠ hd_NV := fun z => by
        rw [a3] at z
        rw [z] at ht
        exact hd_nle ht (Int32.le_iff_toInt_le.2 (Int.le_refl _))
      have h10 : j2 < 10 := by omega
      obtain ⟨bt1, bt2⟩ := hd_bits hL h10 eL a2
      obtain ⟨n1, n2, n3⟩ := hd_nats hL h10
      have un : hd_bt L j2 = false ∧ hd_i hc 124 (10 * hd_clr L j2 + j2) < hd_NV ∧ hd_sb hB (hd_i hB 123 i).toInt.toNat (hd_i hB 123 j2).toInt.toNat + hd_i hc 124 (10 * hd_clr L j2 + j2) = ne := by
        unfold hd_RB at nrb a3
        by_cases c1 : hd_bt L j2 = true ∨ hd_i hB 125 (14 * (hd_i hB 123 i).toInt.toNat + (hd_i hB 123 j2).toInt.toNat) = 0
        · rw [if_pos c1] at nrb
          exact absurd rfl nrb
        · rw [if_neg c1] at nrb a3
          by_cases c2 : hd_i hc 124 (10 * hd_clr L j2 + j2) < hd_NV
          · rw [if_pos c2] at a3
            refine ⟨?_, c2, a3⟩
            cases z : hd_bt L j2 with
            | false => rfl
            | true => exact absurd (Or.inl z) c1
          · rw [if_neg c2] at nrb
            exact absurd rfl nrb
      obtain ⟨u1, u2, u3⟩ := un
      obtain ⟨p1, p2⟩ := n3 u1
      obtain ⟨rm1, m10, m11⟩ := hd_mem Ic (show i < 10 by omega) ei
      obtain ⟨rm2, m20, m21⟩ := hd_mem Ic h10 a2
      have mi : hd_i hc 123 i = hd_i hB 123 i := O.i (by decide) (by decide) (by decide)
      have mj : hd_i hc 123 j2 = hd_i hB 123 j2 := O.i (by decide) (by decide) (by decide)
      have sb := hd_244 (d := d + 1) (c := (hd_i hc 123 i).toInt.toNat) (e := (hd_i hc 123 j2).toInt.toNat) Ic (cc := hd_i hc 123 i) (dd := hd_i hc 123 j2) (by omega) (by omega) (by omega) (by omega)
      rw [O.sb] at sb
      have u3' : ne - hd_sb hB (hd_i hc 123 i).toInt.toNat (hd_i hc 123 j2).toInt.toNat = hd_i hc 124 (10 * hd_clr L j2 + j2) := by
        rw [← u3, mi, mj, Int32.add_comm]
        exact Int32.add_sub_cancel _ _
      obtain ⟨evA, IA, rA⟩ := hd_245 (d := d + 2) Ic h55 r0 (by omega) m20 m21
      have f65 := hd_f78 Ic 65 123 (by decide +kernel) (by decide +kernel)
      have K : ∀ q, hd_i (am_put (am_put hc 118 r.toInt.toNat (.int (hd_i hc 123 j2))) 78 55 (.int (r + Int32.ofInt 1))) 124 q = hd_i hc 124 q := fun q => by rw [hd_iv (by omega), hd_iv (by omega)]
      obtain ⟨hc', w5, w6, w7, w8, I', O', Q'⟩ := ih (hd_clr L j2) j2 j3 (Int32.ofNat (hd_clr L j2)) (hd_i hc 124 (10 * hd_clr L j2 + j2)) (r + Int32.ofInt 1) (.int j3) _ (by omega) (by omega) (by omega) (hd_ofNI (by omega)) a2 IA O.row (fun L' i' h1 h2 => (S L' i' h1 (by omega)).eq K) (K _) u2 hd_pe (by omega) (by omega)
      refine ⟨hc', w5, w6, w7, w8, I', O', fun x q => ?_⟩
      refine am_ev.step rfl rfl ?_
      refine am_ev.step (pc' := 337) (ls' := [.ref 78, .int ss, .int nn, .int aa, .int be, .int ii, .int ll, .int ne, v8]) (st' := []) (h' := hc) rfl (if_neg c) ?_
      refine am_ev.step rfl rfl ?_
      refine am_ev.step rfl rfl ?_
      refine Q x ?_
      refine am_ev.step rfl rfl ?_
      refine am_ev.step rfl rfl ?_
      refine am_ev.step rfl rfl ?_
      refine am_ev.step rfl (hd_gf (cq_o78 Ic) f65) ?_
      refine am_ev.step rfl rfl ?_
      refine am_ev.step rfl (hd_ia rm1) ?_
      refine am_ev.step rfl rfl ?_
      refine am_ev.step rfl (hd_gf (cq_o78 Ic) f65) ?_
      refine am_ev.step rfl rfl ?_
      refine am_ev.step rfl (hd_ia rm2) ?_
      refine hd_cv 244 (as := [.ref 78, .int (hd_i hc 123 i), .int (hd_i hc 123 j2)]) (rr := [.int ne]) rfl (Or.inr (Or.inl ⟨_, rfl⟩)) rfl (by decide) rfl rfl (Nat.le_of_ble_eq_true rfl) (cq_o78 Ic) (Nat.le_of_ble_eq_true rfl) sb ?_
      refine am_ev.step (pc' := 382) (ls' := [.ref 78, .int ss, .int nn, .int aa, .int be, .int ii, .int ll, .int ne, .int j3]) (st' := [.int (hd_i hc 124 (10 * hd_clr L j2 + j2))]) (h' := hc) rfl (by rw [← u3']; rfl) ?_
      refine am_ev.step rfl rfl ?_
      refine am_ev.step rfl rfl ?_
      refine am_ev.step rfl rfl ?_
      refine am_ev.step rfl rfl ?_
      refine am_ev.step rfl rfl ?_
      refine am_ev.step rfl rfl ?_
      refine am_ev.step rfl rfl ?_
      refine am_ev.step (pc' := 393) (ls' := [.ref 78, .int ss, .int nn, .int aa, .int be, .int ii, .int ll, .int (hd_i hc 124 (10 * hd_clr L j2 + j2)), .int j3]) (st' := [.int (Int32.ofNat (hd_clr L j2))]) (h' := hc) rfl (by rw [← bt2]; rfl) ?_
      refine am_ev.step rfl rfl ?_
      refine am_ev.step rfl rfl ?_
      refine am_ev.step rfl rfl ?_
      refine am_ev.step rfl rfl ?_
      refine am_ev.step rfl rfl ?_
      refine am_ev.step rfl (hd_gf (cq_o78 Ic) f65) ?_
      refine am_ev.step rfl rfl ?_
      refine am_ev.step rfl (hd_ia rm2) ?_
      refine hd_cvv 245 (as := [.ref 78, .int (hd_i hc 123 j2)]) (rr := []) rfl (Or.inr (Or.inl ⟨_, rfl⟩)) rfl (by decide) rfl rfl (by decide) (cq_o78 Ic) (Nat.le_of_ble_eq_true rfl) evA ?_
      exact am_ev.step rfl rfl (Q' x q)
end HDY
