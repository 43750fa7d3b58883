/-! BY HAND, 10: edition, all of it -/
theorem hd_k30 {i : Int32} {k : Nat} (e : i.toInt = k) (hk : k < 30) : ¬ ((Int8.ofInt 30).toInt32 ≤ i) := fun z => by
  have := Int32.le_iff_toInt_le.1 z
  rw [show ((Int8.ofInt 30).toInt32).toInt = 30 by decide] at this
  omega
section HDV
variable {hB : am_H} {t : Nat} {p tt : Int32} {d : Nat}
/-- the lines of a text -/
theorem hd_text (I : cq_Inv none hB) (htt : tt.toInt = t) (t1 : t < 120) (s1 : hB.2.2.2 96 3600 = .int 1) : ∀ (n k : Nat) (i : Int32) (v4 : Value) (hc : am_H), n + k = 30 → i.toInt = k → hd_T hB hc t → (1 ≤ k → hc.2.2.2 96 (30 * t) = .int 1) → ∃ (hc' : am_H) (i' : Int32) (v : Value), hd_T hB hc' t ∧ hc'.2.2.2 93 t = hc.2.2.2 93 t ∧ hc'.2.2.2 96 (30 * t) = .int 1 ∧ ∀ x, am_ev (d + 1) 189 192 [.ref 78, .int p, .int tt, .int i', v] [] hc' x → am_ev (d + 1) 189 68 [.ref 78, .int p, .int tt, .int i, v4] [] hc x := by
  intro n
  induction n with
  | zero =>
    intro k i v4 hc hk ei T S
    refine ⟨hc, i, v4, T, rfl, S (by omega), fun x q => ?_⟩
    refine am_ev.step rfl rfl ?_
    refine am_ev.step rfl rfl ?_
    exact am_ev.step (pc' := 192) (ls' := [.ref 78, .int p, .int tt, .int i, v4]) (st' := []) (h' := hc) rfl (if_pos (Int32.le_iff_toInt_le.2 (by rw [show ((Int8.ofInt 30).toInt32).toInt = 30 by decide]; omega))) q
  | succ n ih =>
    intro k i v4 hc hk ei T S
    have F := hd_F_ok I
    have nle := hd_k30 ei (by omega)
    have x1 : ((Int8.ofInt 30).toInt32 * tt + i).toInt = 30 * tt.toInt + i.toInt := hd_l30 (by omega) (by omega) (by omega) (by omega)
    have x2 : ((Int8.ofInt 30).toInt32 * (Int8.ofInt 120).toInt32 + i).toInt = 30 * 120 + i.toInt := by
      rw [hd_l30 (by decide) (by decide) (by omega) (by omega), show ((Int8.ofInt 120).toInt32).toInt = 120 by decide]
    -- the number of words
    obtain ⟨a, ea, a0, a1⟩ := T.2.2.2.1 (30 * 120 + i.toInt).toNat (by omega)
    obtain ⟨m1, m2⟩ := T.sh I (c := 94) (tc := 0) (ln := 3630) (by decide) (by decide) (by decide +kernel)
    have rdA : am_rd hc 94 ((Int8.ofInt 30).toInt32 * (Int8.ofInt 120).toInt32 + i) (fun c => Nat.beq c 0) = some (.int a) := by
      rw [hd_rdS m1 m2 (by decide) (by omega) (by omega), x2, ea]
    have wrA := hd_wrS (v := .int a) m1 m2 (i := (Int8.ofInt 30).toInt32 * tt + i) (by omega) (by omega)
    have TA := T.p94 (j := ((Int8.ofInt 30).toInt32 * tt + i).toInt.toNat) a0 a1
    -- the stanza
    obtain ⟨b, eb, b0, b1⟩ := TA.2.2.2.2.2.1.1 (30 * 120 + i.toInt).toNat (by omega)
    obtain ⟨n1, n2⟩ := TA.sh I (c := 96) (tc := 2) (ln := 3630) (by decide) (by decide) (by decide +kernel)
    have rdB : am_rd (am_put hc 94 ((Int8.ofInt 30).toInt32 * tt + i).toInt.toNat (.int a)) 96 ((Int8.ofInt 30).toInt32 * (Int8.ofInt 120).toInt32 + i) (fun c => Nat.beq c 1 || Nat.beq c 2) = some (.int b) := by
      rw [hd_rdS n1 n2 (by decide) (by omega) (by omega), x2, eb]
    have wrB := hd_wrS (v := .int (b &&& 1)) n1 n2 (i := (Int8.ofInt 30).toInt32 * tt + i) (by omega) (by omega)
    have TB := TA.p96 (j := ((Int8.ofInt 30).toInt32 * tt + i).toInt.toNat) (x := b &&& 1) (by rw [hd_c1 b0 b1]; exact b0) (by rw [hd_c1 b0 b1]; exact b1) (by omega) (by omega)
    -- the tie
    obtain ⟨c, ec, c0, c1⟩ := TB.2.2.2.2.2.2 (30 * 120 + i.toInt).toNat (by omega)
    obtain ⟨o1, o2⟩ := TB.sh I (c := 97) (tc := 2) (ln := 3630) (by decide) (by decide) (by decide +kernel)
    have rdC : am_rd (am_put (am_put hc 94 ((Int8.ofInt 30).toInt32 * tt + i).toInt.toNat (.int a)) 96 ((Int8.ofInt 30).toInt32 * tt + i).toInt.toNat (.int (b &&& 1))) 97 ((Int8.ofInt 30).toInt32 * (Int8.ofInt 120).toInt32 + i) (fun c => Nat.beq c 1 || Nat.beq c 2) = some (.int c) := by
      rw [hd_rdS o1 o2 (by decide) (by omega) (by omega), x2, ec]
    have wrC := hd_wrS (v := .int (c &&& 1)) o1 o2 (i := (Int8.ofInt 30).toInt32 * tt + i) (by omega) (by omega)
    have TC := TB.p97 (j := ((Int8.ofInt 30).toInt32 * tt + i).toInt.toNat) (x := c &&& 1) (by rw [hd_c1 c0 c1]; exact c0) (by rw [hd_c1 c0 c1]; exact c1)
    obtain ⟨hc1, T1, w1, w2, W⟩ := hd_words (p := p) (d := d) I htt t1 (i := i) (by omega) (by omega) 8 0 rfl _ TC
    have st1 : hc1.2.2.2 96 (30 * t) = .int 1 := by
      rw [w2, hd_pv (by omega)]
      by_cases e : k = 0
      · have ej : ((Int8.ofInt 30).toInt32 * tt + i).toInt.toNat = 30 * t := by omega
        rw [ej, hd_pe]
        have eb2 : b = 1 := by
          have z := eb
          rw [hd_pv (by omega), show (30 * 120 + i.toInt).toNat = 3600 by omega, T.2.2.2.2.2.1.2 3600 (by omega), s1] at z
          exact (Value.int.inj z).symm
        rw [eb2]
        rfl
      · rw [hd_pv (by omega), hd_pv (by omega)]
        exact S (by omega)
    obtain ⟨hc', i', v, T', q1, q2, Q⟩ := ih (k + 1) (i + Int32.ofInt 1) (.int (Int32.ofNat 8)) hc1 (by omega) (hd_inc ei (by omega)) T1 (fun _ => st1)
    refine ⟨hc', i', v, T', ?_, q2, fun x q => ?_⟩
    · rw [q1, w1, hd_pv (by omega), hd_pv (by omega), hd_pv (by omega)]
    refine am_ev.step rfl rfl ?_
    refine am_ev.step rfl rfl ?_
    refine am_ev.step (pc' := 74) (ls' := [.ref 78, .int p, .int tt, .int i, v4]) (st' := []) (h' := hc) rfl (if_neg nle) ?_
    refine am_ev.step rfl rfl ?_
    refine am_ev.step rfl (hd_gf (T.o I) (T.f F.2.2.1)) ?_
    refine am_ev.step rfl rfl ?_
    refine am_ev.step rfl rfl ?_
    refine hd_cv 191 (as := [.int tt, .int i]) (rr := [.ref 94]) rfl (Or.inl ⟨_, rfl⟩) rfl (by decide) rfl rfl (Nat.le_of_ble_eq_true rfl) rfl (Nat.le_of_ble_eq_true rfl) hd_191 ?_
    refine am_ev.step rfl rfl ?_
    refine am_ev.step rfl (hd_gf (T.o I) (T.f F.2.2.1)) ?_
    refine am_ev.step rfl rfl ?_
    refine am_ev.step rfl rfl ?_
    refine hd_cv 191 (as := [.int (Int8.ofInt 120).toInt32, .int i]) (rr := [.ref 94, .int ((Int8.ofInt 30).toInt32 * tt + i), .ref 94]) rfl (Or.inl ⟨_, rfl⟩) rfl (by decide) rfl rfl (Nat.le_of_ble_eq_true rfl) rfl (Nat.le_of_ble_eq_true rfl) hd_191 ?_
    refine am_ev.step rfl (hd_ia rdA) ?_
    refine am_ev.step rfl (hd_is wrA) ?_
    refine am_ev.step rfl rfl ?_
    refine am_ev.step rfl (hd_gf (TA.o I) (TA.f F.2.2.2.2.1)) ?_
    refine am_ev.step rfl rfl ?_
    refine am_ev.step rfl rfl ?_
    refine hd_cv 191 (as := [.int tt, .int i]) (rr := [.ref 96]) rfl (Or.inl ⟨_, rfl⟩) rfl (by decide) rfl rfl (Nat.le_of_ble_eq_true rfl) rfl (Nat.le_of_ble_eq_true rfl) hd_191 ?_
    refine am_ev.step rfl rfl ?_
    refine am_ev.step rfl (hd_gf (TA.o I) (TA.f F.2.2.2.2.1)) ?_
    refine am_ev.step rfl rfl ?_
    refine am_ev.step rfl rfl ?_
    refine hd_cv 191 (as := [.int (Int8.ofInt 120).toInt32, .int i]) (rr := [.ref 96, .int ((Int8.ofInt 30).toInt32 * tt + i), .ref 96]) rfl (Or.inl ⟨_, rfl⟩) rfl (by decide) rfl rfl (Nat.le_of_ble_eq_true rfl) rfl (Nat.le_of_ble_eq_true rfl) hd_191 ?_
    refine am_ev.step rfl (hd_ba rdB) ?_
    refine am_ev.step rfl (hd_bs (by rw [n2]; rfl) wrB) ?_
    refine am_ev.step rfl rfl ?_
    refine am_ev.step rfl (hd_gf (TB.o I) (TB.f F.2.2.2.2.2)) ?_
    refine am_ev.step rfl rfl ?_
    refine am_ev.step rfl rfl ?_
    refine hd_cv 191 (as := [.int tt, .int i]) (rr := [.ref 97]) rfl (Or.inl ⟨_, rfl⟩) rfl (by decide) rfl rfl (Nat.le_of_ble_eq_true rfl) rfl (Nat.le_of_ble_eq_true rfl) hd_191 ?_
    refine am_ev.step rfl rfl ?_
    refine am_ev.step rfl (hd_gf (TB.o I) (TB.f F.2.2.2.2.2)) ?_
    refine am_ev.step rfl rfl ?_
    refine am_ev.step rfl rfl ?_
    refine hd_cv 191 (as := [.int (Int8.ofInt 120).toInt32, .int i]) (rr := [.ref 97, .int ((Int8.ofInt 30).toInt32 * tt + i), .ref 97]) rfl (Or.inl ⟨_, rfl⟩) rfl (by decide) rfl rfl (Nat.le_of_ble_eq_true rfl) rfl (Nat.le_of_ble_eq_true rfl) hd_191 ?_
    refine am_ev.step rfl (hd_ba rdC) ?_
    refine am_ev.step rfl (hd_bs (by rw [o2]; rfl) wrC) ?_
    refine am_ev.step rfl rfl ?_
    refine am_ev.step rfl rfl ?_
    refine W x ?_
    refine am_ev.step rfl rfl ?_
    exact am_ev.step rfl rfl (Q x q)
/-- the heap behind it all is in order -/
theorem hd_last (I : cq_Inv none hB) {hc : am_H} {pp : Nat} {e : Int32} (hp : pp < 40) (e0 : 0 ≤ e.toInt) (e2 : e.toInt ≤ 2) (ht : (t : Int) = 3 * pp + e.toInt) (h92 : hB.2.2.2 92 pp = .int e) (T : hd_T hB hc t) {n : Int32} (hn : hc.2.2.2 93 t = .int n) (n0 : 1 ≤ n.toInt) (n1 : n.toInt ≤ 30) (hs : hc.2.2.2 96 (30 * t) = .int 1) {e' : Int32} (ee : e'.toInt = e.toInt + 1) : cq_Inv none (am_put hc 92 pp (.int e')) := by
  obtain ⟨⟨a1, a2, a3⟩, b1, b2, b3, b4, ⟨b5, b6⟩, b7⟩ := T
  have sh : (am_put hc 92 pp (.int e')).2.2.1 = hB.2.2.1 := a3
  have vv : ∀ c j, (c < 92 ∨ 97 < c) → (am_put hc 92 pp (.int e')).2.2.2 c j = hB.2.2.2 c j := fun c j hc => by
    rw [hd_pv (by omega)]
    exact b1 c j (by omega)
  have nn : ∀ c j, (c < 92 ∨ 97 < c) → cq_n (am_put hc 92 pp (.int e')) c j = cq_n hB c j := fun c j hc => by
    unfold cq_n
    rw [vv c j hc]
  have v92 : ∀ j, j ≠ pp → (am_put hc 92 pp (.int e')).2.2.2 92 j = hB.2.2.2 92 j := fun j hj => by
    rw [hd_pv (by omega)]
    exact b1 92 j (by omega)
  have arr : ∀ c, 92 ≤ c → c ≤ 97 → ∀ j, j < (cq_fix c).2.2 → cq_ht (am_put hc 92 pp (.int e')) j (cq_ar c) ((am_put hc 92 pp (.int e')).2.2.2 c j) := fun c h1 h2 j hj => by
    rcases (show c = 92 ∨ c = 93 ∨ c = 94 ∨ c = 95 ∨ c = 96 ∨ c = 97 by omega) with z | z | z | z | z | z <;> subst z
    · rw [show cq_ar 92 = (1, 0, 3, 0, 0, 0) by decide +kernel]
      by_cases ej : j = pp
      · subst ej
        rw [hd_pe]
        exact ⟨e', rfl, by omega, by omega⟩
      · rw [v92 j ej]
        have k := cq_tA I (c := 92) (j := j) (by decide) (by decide) (by decide +kernel) (by decide) hj
        rw [show cq_ar 92 = (1, 0, 3, 0, 0, 0) by decide +kernel] at k
        exact k
    · rw [show cq_ar 93 = (1, 0, 30, 0, 0, 0) by decide +kernel, hd_pv (by omega)]
      by_cases ej : j = t
      · subst ej
        rw [hn]
        exact ⟨n, rfl, by omega, n1⟩
      · rw [b2 j ej]
        have k := cq_tA I (c := 93) (j := j) (by decide) (by decide) (by decide +kernel) (by decide) hj
        rw [show cq_ar 93 = (1, 0, 30, 0, 0, 0) by decide +kernel] at k
        exact k
    · rw [show cq_ar 94 = (1, 0, 8, 0, 0, 0) by decide +kernel, hd_pv (by omega)]
      rw [show (cq_fix 94).2.2 = 3630 by decide +kernel] at hj
      exact b3 j hj
    · rw [show cq_ar 95 = (2, 0, 0, 0, 0, 0) by decide +kernel, hd_pv (by omega)]
      rw [show (cq_fix 95).2.2 = 29040 by decide +kernel] at hj
      exact b4 j hj
    · rw [show cq_ar 96 = (1, 0, 1, 0, 0, 0) by decide +kernel, hd_pv (by omega)]
      rw [show (cq_fix 96).2.2 = 3630 by decide +kernel] at hj
      exact b5 j hj
    · rw [show cq_ar 97 = (1, 0, 1, 0, 0, 0) by decide +kernel, hd_pv (by omega)]
      rw [show (cq_fix 97).2.2 = 3630 by decide +kernel] at hj
      exact b7 j hj
  have GR : cq_gr hB (am_put hc 92 pp (.int e')) := by
    refine ⟨fun a k q => ?_, by rw [nn 40 13 (by omega)]; exact Int.le_refl _⟩
    obtain ⟨u, x, y⟩ := k
    rcases u with _ | _ | u
    · show 130 ≤ a ∧ a < hc.1 ∧ hc.2.2.1 a = (0, x, am_N x)
      rw [a1, a3]
      exact q
    · show 130 ≤ a ∧ a < hc.1 ∧ (hc.2.2.1 a).1 = 1 ∧ (hc.2.2.1 a).2.1 = x ∧ (y = 0 ∨ (hc.2.2.1 a).2.2 + 1 = y)
      rw [a1, a3]
      exact q
    · exact q
  refine ⟨by show 130 ≤ hc.1; rw [a1]; exact I.lo, fun c h1 h2 => by rw [sh]; exact I.fx c h1 h2, fun c h1 h2 => ⟨by rw [sh]; exact (I.sv c h1 h2).1, fun j hj => by rw [vv c j (by omega)]; exact (I.sv c h1 h2).2 j hj⟩, ⟨by rw [sh]; exact I.sc.1, by rw [sh]; exact I.sc.2.1, by rw [sh]; exact I.sc.2.2.1, fun j hj => by rw [sh] at hj; rw [vv 0 j (by omega)]; exact I.sc.2.2.2 j hj⟩, fun c h1 h2 => by rw [sh]; exact I.dy c h1 (by rw [← a1]; exact h2), fun c h1 h2 nx j hj => ?_, fun t' ht' => ?_⟩
  · rw [sh] at hj ⊢
    by_cases hcc : c < 92 ∨ 97 < c
    · rw [vv c j hcc]
      refine cq_ht_gr (h := hB) GR (fun t11 _ hle => ?_) (I.ty c h1 (by rw [← a1]; exact h2) nx j hj)
      have h11 := cq_tyOf11 I h1 (show c < hB.1 by rw [← a1]; exact h2) hj
      rcases cq_pre11_c h11 t11 with ⟨z1, z2⟩ | ⟨z1, z2⟩
      · rw [z1, z2] at hle ⊢
        rw [nn 40 13 (by omega)]
        exact hle
      · rw [z1, z2] at hle ⊢
        rw [nn 48 1 (by omega)]
        exact hle
    · have h3 : 92 ≤ c ∧ c ≤ 97 := by omega
      have fx := I.fx c h1 (by omega)
      rw [fx] at hj ⊢
      have et : cq_tyOf c (cq_fix c) j = cq_ar c := by
        rcases (show c = 92 ∨ c = 93 ∨ c = 94 ∨ c = 95 ∨ c = 96 ∨ c = 97 by omega) with z | z | z | z | z | z <;> subst z <;> rfl
      rw [et]
      exact arr c h3.1 h3.2 j hj
  · have e96 : ∀ j, (am_put hc 92 pp (.int e')).2.2.2 96 j = hc.2.2.2 96 j := fun j => hd_pv (by omega)
    have e93 : ∀ j, cq_n (am_put hc 92 pp (.int e')) 93 j = cq_n hc 93 j := fun j => by
      unfold cq_n
      rw [hd_pv (by omega)]
    rw [e96, e93]
    by_cases et : t' = t
    · subst et
      rw [cq_n_int hn]
      exact ⟨fun _ => hs, fun _ => n0⟩
    · have e93b : cq_n hc 93 t' = cq_n hB 93 t' := by
        unfold cq_n
        rw [b2 t' et]
      rw [e93b, b6 (30 * t') (by omega)]
      refine ⟨(I.sx t' ht').1, fun hlt => (I.sx t' ht').2 ?_⟩
      by_cases ep : t' / 3 = pp
      · rw [ep] at hlt ⊢
        have e92 : cq_n (am_put hc 92 pp (.int e')) 92 pp = e'.toInt := by
          unfold cq_n
          rw [hd_pe]
        rw [e92] at hlt
        rw [cq_n_int h92]
        omega
      · have e92 : cq_n (am_put hc 92 pp (.int e')) 92 (t' / 3) = cq_n hB 92 (t' / 3) := by
          unfold cq_n
          rw [v92 _ ep]
        rw [e92] at hlt
        exact hlt
end HDV
