section
/-! BY HAND, 13: findPages, pagesOf and findBreaks -/
theorem hd_nle {a b : Int32} (h : a < b) : ¬ (b ≤ a) := fun z => by
  have h1 := Int32.lt_iff_toInt_lt.1 h
  have h2 := Int32.le_iff_toInt_le.1 z
  omega
theorem hd_nlt {a b : Int32} (h : ¬ (b ≤ a)) : a < b := by
  refine Int32.lt_iff_toInt_lt.2 ?_
  have h1 : ¬ (b.toInt ≤ a.toInt) := fun z => h (Int32.le_iff_toInt_le.2 z)
  omega
theorem hd_C.eq {hB h1 h2 : am_H} {t : Int32} {n i j : Nat} (C : hd_C hB h1 t n i j) (K : ∀ k, i ≤ k → hd_i h2 98 k = hd_i h1 98 k ∧ hd_i h2 99 k = hd_i h1 99 k) : hd_C hB h2 t n i j := by
  obtain ⟨a, b, c, d, e, f⟩ := C
  obtain ⟨k1, k2⟩ := K i (Nat.le_refl _)
  obtain ⟨k3, k4⟩ := K (j + 1) (by omega)
  exact ⟨a, b, c, by rw [k3]; exact d, by rw [k3, k1]; exact e, by rw [k4, k2]; exact f⟩
section HDR
variable {hB : am_H} {t nn : Int32} {n d : Nat}
/-- the outer loop of findPages -/
theorem hd_fp2 (I : cq_Inv none hB) (ht : 0 ≤ t.toInt ∧ t.toInt ≤ 119) (hl : cq_n hB 93 t.toInt.toNat = n) (n30 : n ≤ 30) (en : nn.toInt = n) (hd : 2 ≤ d) : ∀ (w : Nat) (ii : Int32) (v4 v5 v6 : Value) (hc : am_H), w ≤ n → ii.toInt = (w : Int) - 1 → hd_P hB hc → hd_i hc 98 n = 0 → (∀ i', w ≤ i' → i' < n → hd_i hc 98 i' = hd_NV ∨ ∃ j', hd_C hB hc t n i' j') → ∃ hc', am_ev (d + 1) 198 25 [.ref 78, .int t, .int nn, .int ii, v4, v5, v6] [] hc (some (.int (hd_i hc' 98 0)), hc') ∧ hd_P hB hc' ∧ hd_i hc' 98 n = 0 ∧ (∀ i', i' < n → hd_i hc' 98 i' = hd_NV ∨ ∃ j', hd_C hB hc' t n i' j') := by
  intro w
  induction w with
  | zero =>
    intro ii v4 v5 v6 hc hw ei P f0 S
    refine ⟨hc, ?_, P, f0, fun i' hi' => S i' (Nat.zero_le _) hi'⟩
    refine am_ev.step rfl rfl ?_
    refine am_ev.step (pc' := 187) (ls' := [.ref 78, .int t, .int nn, .int ii, v4, v5, v6]) (st' := []) (h' := hc) rfl (if_pos (Int32.lt_iff_toInt_lt.2 (by rw [show (0 : Int32).toInt = 0 by decide]; omega))) ?_
    refine am_ev.step rfl rfl ?_
    refine am_ev.step rfl (hd_gf (P.o I) (P.f29 I)) ?_
    refine am_ev.step rfl rfl ?_
    refine am_ev.step rfl (hd_ia (P.r98 I (i := Int32.ofInt 0) (k := 0) (by decide) (by decide))) ?_
    exact am_ev.reti rfl rfl rfl
  | succ w ih =>
    intro ii v4 v5 v6 hc hw ei P f0 S
    have ei : ii.toInt = w := by omega
    have nlt : ¬ (ii < 0) := fun z => by
      have := Int32.lt_iff_toInt_lt.1 z
      rw [show (0 : Int32).toInt = 0 by decide] at this
      omega
    have w98 := P.w98 I (x := hd_NV) ei (by omega)
    have P1 := P.p98 (j := w) (x := hd_NV)
    have w99 := P1.w99 I (x := Int32.ofInt 0) ei (by omega)
    have P2 := P1.p99 (j := w) (x := Int32.ofInt 0)
    obtain ⟨h2, u4, u5, u6, P3, K, S3, Q⟩ := hd_fp1 (d := d) I ht hl n30 en ei (show w < n by omega) hd (n - w) w ii v5 v6 _ (by omega) ei (Nat.le_refl _) P2 (Or.inl (by rw [hd_iv (by omega), hd_ip]))
    have K2 : ∀ k, w + 1 ≤ k → hd_i h2 98 k = hd_i hc 98 k ∧ hd_i h2 99 k = hd_i hc 99 k := fun k hk => by
      obtain ⟨k1, k2⟩ := K k (by omega)
      rw [k1, k2, hd_iv (by omega), hd_iv (by omega), hd_iv (by omega), hd_iv (by omega)]
      exact ⟨rfl, rfl⟩
    have e1 : (ii + Int32.ofInt (-1)).toInt = (w : Int) - 1 := by
      rw [hd_toA (by omega) (by omega) (by decide) (by decide), ei, show (Int32.ofInt (-1)).toInt = -1 by decide]
      omega
    obtain ⟨hc', ev, P4, f4, S4⟩ := ih (ii + Int32.ofInt (-1)) u4 u5 u6 h2 (by omega) e1 P3 (by rw [(K2 n (by omega)).1]; exact f0) (fun i' h1 h2' => by
      by_cases e : i' = w
      · subst e
        exact S3
      · rcases S i' (by omega) h2' with z | ⟨j', z⟩
        · left
          rw [(K2 i' (by omega)).1]
          exact z
        · exact Or.inr ⟨j', z.eq fun k hk => K2 k (by omega)⟩)
    refine ⟨hc', ?_, P4, f4, S4⟩
    refine am_ev.step rfl rfl ?_
    refine am_ev.step (pc' := 29) (ls' := [.ref 78, .int t, .int nn, .int ii, v4, v5, v6]) (st' := []) (h' := hc) rfl (if_neg nlt) ?_
    refine am_ev.step rfl rfl ?_
    refine am_ev.step rfl (hd_gf (P.o I) (P.f29 I)) ?_
    refine am_ev.step rfl rfl ?_
    refine am_ev.step rfl rfl ?_
    refine am_ev.step rfl (hd_is w98) ?_
    refine am_ev.step rfl rfl ?_
    refine am_ev.step rfl (hd_gf (P1.o I) (P1.f30 I)) ?_
    refine am_ev.step rfl rfl ?_
    refine am_ev.step rfl rfl ?_
    refine am_ev.step rfl (hd_is w99) ?_
    refine am_ev.step rfl rfl ?_
    refine am_ev.step rfl rfl ?_
    refine Q _ ?_
    refine am_ev.step rfl rfl ?_
    exact am_ev.step rfl rfl ev
end HDR
theorem hd_P0 {h : am_H} (I : cq_Inv none h) : hd_P h h := by
  refine ⟨⟨rfl, rfl, rfl⟩, fun _ _ _ _ => rfl, fun j hj => ?_, fun j hj => ?_⟩
  · have k := cq_tA I (c := 98) (j := j) (by decide) (by decide) (by decide +kernel) (by decide) (by rw [show (cq_fix 98).2.2 = 31 by decide +kernel]; exact hj)
    rw [show cq_ar 98 = (1, 0, 1000000000, 0, 0, 0) by decide +kernel] at k
    obtain ⟨x, ex, -⟩ := k
    rw [hd_ie ex]
    exact ex
  · have k := cq_tA I (c := 99) (j := j) (by decide) (by decide) (by decide +kernel) (by decide) (by rw [show (cq_fix 99).2.2 = 31 by decide +kernel]; exact hj)
    rw [show cq_ar 99 = (1, -2147483648, 2147483647, 0, 0, 0) by decide +kernel] at k
    obtain ⟨x, ex, -⟩ := k
    rw [hd_ie ex]
    exact ex
/-- findPages: its answer and its rows -/
theorem hd_198 {hB : am_H} {t : Int32} {d : Nat} (I : cq_Inv none hB) (ht : 0 ≤ t.toInt ∧ t.toInt ≤ 119) (hd : 3 ≤ d) : ∃ (n : Nat) (hc : am_H), cq_n hB 93 t.toInt.toNat = n ∧ n ≤ 30 ∧ am_ev d 198 0 (am_ent [.ref 78, .int t] (am_in 198).2.2.1) [] hB (some (.int (hd_i hc 98 0)), hc) ∧ hd_P hB hc ∧ cq_Inv none hc ∧ hd_i hc 98 n = 0 ∧ (∀ i', i' < n → hd_i hc 98 i' = hd_NV ∨ ∃ j', hd_C hB hc t n i' j') := by
  have t93 := cq_tA I (c := 93) (j := t.toInt.toNat) (by decide) (by decide) (by decide +kernel) (by decide) (by rw [show (cq_fix 93).2.2 = 121 by decide +kernel]; omega)
  rw [show cq_ar 93 = (1, 0, 30, 0, 0, 0) by decide +kernel] at t93
  obtain ⟨nn, en, n0, n1⟩ := t93
  cases d with
  | zero => omega
  | succ d =>
    have P := hd_P0 I
    have enn : nn.toInt = (nn.toInt.toNat : Nat) := by omega
    have w98 := P.w98 I (x := Int32.ofInt 0) (i := nn) (k := nn.toInt.toNat) enn (by omega)
    have P1 := P.p98 (j := nn.toInt.toNat) (x := Int32.ofInt 0)
    have w99 := P1.w99 I (x := Int32.ofInt 0) (i := nn) (k := nn.toInt.toNat) enn (by omega)
    have P2 := P1.p99 (j := nn.toInt.toNat) (x := Int32.ofInt 0)
    have e1 : (nn - Int32.ofInt 1).toInt = (nn.toInt.toNat : Int) - 1 := by
      rw [Int32.toInt_sub, show (Int32.ofInt 1).toInt = 1 by decide, Int.bmod_eq_of_le (by omega) (by omega)]
      omega
    obtain ⟨hc, ev, P3, f3, S3⟩ := hd_fp2 (d := d) (nn := nn) (n := nn.toInt.toNat) I ht (by rw [cq_n_int en]; exact enn) (by omega) enn (by omega) nn.toInt.toNat (nn - Int32.ofInt 1) am_ph am_ph am_ph _ (Nat.le_refl _) e1 P2 (by rw [hd_iv (by omega), hd_ip]; rfl) (fun i' h1 h2 => by omega)
    obtain ⟨m1, m2⟩ := P.sh I (c := 93) (tc := 0) (ln := 121) (by decide) (by decide) (by decide +kernel)
    have rd : am_rd hB 93 t (fun c => Nat.beq c 0) = some (.int nn) := by
      rw [hd_rdS m1 m2 (by decide) (by omega) (by omega), en]
    have ev0 : am_ev (d + 1) 198 0 (am_ent [.ref 78, .int t] (am_in 198).2.2.1) [] hB (some (.int (hd_i hc 98 0)), hc) := by
      refine am_ev.step rfl rfl ?_
      refine am_ev.step rfl (hd_gf (P.o I) (hd_F_ok I).2.1) ?_
      refine am_ev.step rfl rfl ?_
      refine am_ev.step rfl (hd_ia rd) ?_
      refine am_ev.step rfl rfl ?_
      refine am_ev.step rfl rfl ?_
      refine am_ev.step rfl (hd_gf (P.o I) (P.f29 I)) ?_
      refine am_ev.step rfl rfl ?_
      refine am_ev.step rfl rfl ?_
      refine am_ev.step rfl (hd_is w98) ?_
      refine am_ev.step rfl rfl ?_
      refine am_ev.step rfl (hd_gf (P1.o I) (P1.f30 I)) ?_
      refine am_ev.step rfl rfl ?_
      refine am_ev.step rfl rfl ?_
      refine am_ev.step rfl (hd_is w99) ?_
      refine am_ev.step rfl rfl ?_
      refine am_ev.step rfl rfl ?_
      refine am_ev.step rfl rfl ?_
      exact am_ev.step rfl rfl ev
    -- the plain contract says that the heap is in order
    have M0 : cq_Md ct_198.2.2.2.1 hB (fun _ => t.toInt) ct_198.2.2.1 hB := by
      refine cq_Md_p ⟨fun b hb => ?_, fun _ z => (by cases z)⟩ (fun _ z => (by cases z)) (fun _ z => (by cases z)) I
      rw [List.mem_singleton.1 hb]
      exact ht
    obtain ⟨r, h', ev', x, hx, ρ', a', Mx, hr⟩ := ok_198 (d + 1) hB (fun _ => t.toInt) [.ref 78, .int t] hd M0 ⟨rfl, ⟨t, rfl, (cq_s_e (fun _ => t.toInt) 0).symm⟩, trivial⟩
    have hx := List.mem_singleton.1 hx
    subst hx
    have eq := am_ev_det ev0 ev'
    have e2 := (Prod.mk.inj eq).2
    subst e2
    exact ⟨nn.toInt.toNat, hc, by rw [cq_n_int en]; exact enn, by omega, ev0, P3, Mx.I, f3, S3⟩
/-- pagesOf -/
theorem hd_197 {hB : am_H} {t : Int32} {d : Nat} (I : cq_Inv none hB) (ht : 0 ≤ t.toInt ∧ t.toInt ≤ 119) (hd : 4 ≤ d) : ∃ (n : Nat) (hc : am_H) (r : Int32), cq_n hB 93 t.toInt.toNat = n ∧ n ≤ 30 ∧ am_ev d 197 0 (am_ent [.ref 78, .int t] (am_in 197).2.2.1) [] hB (some (.int r), hc) ∧ hd_P hB hc ∧ cq_Inv none hc ∧ hd_i hc 98 n = 0 ∧ (∀ i', i' < n → hd_i hc 98 i' = hd_NV ∨ ∃ j', hd_C hB hc t n i' j') ∧ (r = -1 ∨ hd_i hc 98 0 < hd_NV) := by
  cases d with
  | zero => omega
  | succ d =>
    obtain ⟨n, hc, a1, a2, ev, P, I', a3, a4⟩ := hd_198 (d := d) I ht (by omega)
    have go : ∀ x, am_ev (d + 1) 197 10 [.ref 78, .int t, .int (hd_i hc 98 0)] [.int hd_NV, .int (hd_i hc 98 0)] hc x → am_ev (d + 1) 197 0 (am_ent [.ref 78, .int t] (am_in 197).2.2.1) [] hB x := fun x q => by
      refine am_ev.step rfl rfl ?_
      refine am_ev.step rfl rfl ?_
      refine hd_cv 198 (as := [.ref 78, .int t]) (rr := []) rfl (Or.inr (Or.inl ⟨_, rfl⟩)) rfl (by decide) rfl rfl (by decide) (cq_o78 I) (Nat.le_of_ble_eq_true rfl) ev ?_
      refine am_ev.step rfl rfl ?_
      refine am_ev.step rfl rfl ?_
      exact am_ev.step rfl rfl q
    by_cases c : hd_i hc 98 0 < hd_NV
    · refine ⟨n, hc, hd_i hc 98 0, a1, a2, go _ ?_, P, I', a3, a4, Or.inr c⟩
      refine am_ev.step (pc' := 17) (ls' := [.ref 78, .int t, .int (hd_i hc 98 0)]) (st' := []) (h' := hc) rfl (if_pos c) ?_
      refine am_ev.step rfl rfl ?_
      exact am_ev.reti rfl rfl rfl
    · refine ⟨n, hc, -1, a1, a2, go _ ?_, P, I', a3, a4, Or.inl rfl⟩
      refine am_ev.step (pc' := 13) (ls' := [.ref 78, .int t, .int (hd_i hc 98 0)]) (st' := []) (h' := hc) rfl (if_neg c) ?_
      refine am_ev.step rfl rfl ?_
      refine am_ev.step rfl rfl ?_
      exact am_ev.reti rfl rfl rfl
theorem hd_pf {k l b w pc : Nat} {t : Int} {ls r : List Value} {h : am_H} {v : Value} (O : am_isO h 78 13 = true) (hv : am_fok (am_ty 13 b) v = true) : am_st (.putfield k, l, t, 13, b, w) pc ls (v :: .ref 78 :: r) h = some (pc + 3, ls, r, am_put h 78 b v) := by
  dsimp only [am_st]
  rw [O, hv]
  rfl
/-- a heap while breaks are found -/
def hd_B (hP hc : am_H) : Prop := (hc.1 = hP.1 ∧ hc.2.1 = hP.2.1 ∧ hc.2.2.1 = hP.2.2.1) ∧ (∀ c j, c ≠ 100 → ¬ (c = 78 ∧ j = 32) → hc.2.2.2 c j = hP.2.2.2 c j)
section HDS
variable {hB hP : am_H} {t ii : Int32} {n i d : Nat}
theorem hd_B.R {hc : am_H} (P : hd_P hB hP) (B : hd_B hP hc) (I : cq_Inv none hB) : ni_R hB hc := by
  refine ⟨by rw [B.1.1, P.1.1], fun c _ => by rw [B.1.2.2, P.1.2.2], fun c _ hx j hj => ?_⟩
  rw [B.2 c j (fun z => by rw [z] at hx; cases hx) hj]
  exact (P.2.1 c j (fun z => by rw [z] at hx; cases hx) (fun z => by rw [z] at hx; cases hx)).symm
/-- the inner loop of findBreaks -/
theorem hd_fb1 (I : cq_Inv none hB) (P : hd_P hB hP) (ht : 0 ≤ t.toInt ∧ t.toInt ≤ 119) (hl : cq_n hB 93 t.toInt.toNat = n) (n30 : n ≤ 30) (ei : ii.toInt = i) (hd : 2 ≤ d) {hc : am_H} (B : hd_B hP hc) (Ic : cq_Inv none hc) {J : Nat} (C : hd_C hB hP t n i J) : ∀ (m j : Nat) (jj : Int32), m + j = J → jj.toInt = j → i ≤ j → ∃ (j2 : Nat) (j3 : Int32), i ≤ j2 ∧ j2 < n ∧ j3.toInt = j2 ∧ hd_i hP 98 (j2 + 1) < hd_NV ∧ ∀ x, am_ev (d + 1) 203 96 [.ref 78, .int t, .int ii, .int j3] [] hc x → am_ev (d + 1) 203 19 [.ref 78, .int t, .int ii, .int jj] [] hc x := by
  have Jn := C.2.1
  have O := cq_o78 Ic
  have f29 : hc.2.2.2 78 29 = .ref 98 := by rw [B.2 78 29 (by decide) (by decide)]; exact P.f29 I
  have f30 : hc.2.2.2 78 30 = .ref 99 := by rw [B.2 78 30 (by decide) (by decide)]; exact P.f30 I
  have rr : ∀ (c : Nat), c = 98 ∨ c = 99 → ∀ (v : Int32) (k : Nat), v.toInt = k → k < 31 → am_rd hc c v (fun c => Nat.beq c 0) = some (.int (hd_i hP c k)) := fun c hc' v k ev hk => by
    rcases hc' with z | z <;> subst z
    · obtain ⟨m1, m2⟩ := P.sh I (c := 98) (tc := 0) (ln := 31) (by decide) (by decide) (by decide +kernel)
      rw [hd_rdS (show 98 < hc.1 by rw [B.1.1]; exact m1) (show hc.2.2.1 98 = (1, 0, 31) by rw [B.1.2.2]; exact m2) (by decide) (by omega) (by omega), show v.toInt.toNat = k by omega, B.2 98 k (by decide) (by omega), P.2.2.1 k hk]
    · obtain ⟨m1, m2⟩ := P.sh I (c := 99) (tc := 0) (ln := 31) (by decide) (by decide) (by decide +kernel)
      rw [hd_rdS (show 99 < hc.1 by rw [B.1.1]; exact m1) (show hc.2.2.1 99 = (1, 0, 31) by rw [B.1.2.2]; exact m2) (by decide) (by omega) (by omega), show v.toInt.toNat = k by omega, B.2 99 k (by decide) (by omega), P.2.2.2 k hk]
  intro m
  induction m with
  | zero =>
    intro j jj hm ej hij
    have : j = J := by omega
    subst this
    obtain ⟨-, -, c1, c2, c3, c4⟩ := C
    rw [hd_ofN ei, hd_ofN ej] at c1 c4
    have ej1 := hd_inc ej (by omega)
    have evs := hd_199 (d := d) I (hd_B.R P B I) ht (by omega) (i := ii) (j := jj) (by omega) (by omega) hd
    refine ⟨j, jj, hij, Jn, ej, c2, fun x q => ?_⟩
    refine am_ev.step rfl rfl ?_
    refine am_ev.step rfl rfl ?_
    refine am_ev.step rfl rfl ?_
    refine am_ev.step rfl rfl ?_
    refine hd_cv 199 (as := [.ref 78, .int t, .int ii, .int jj]) (rr := []) rfl (Or.inr (Or.inl ⟨_, rfl⟩)) rfl (by decide) rfl rfl (by decide) O (Nat.le_of_ble_eq_true rfl) evs ?_
    refine am_ev.step rfl rfl ?_
    refine am_ev.step (pc' := 32) (ls' := [.ref 78, .int t, .int ii, .int jj]) (st' := []) (h' := hc) rfl (if_neg c1) ?_
    refine am_ev.step rfl rfl ?_
    refine am_ev.step rfl (hd_gf O f29) ?_
    refine am_ev.step rfl rfl ?_
    refine am_ev.step rfl rfl ?_
    refine am_ev.step rfl rfl ?_
    refine am_ev.step rfl (hd_ia (rr 98 (Or.inl rfl) _ _ ej1 (by omega))) ?_
    refine am_ev.step rfl rfl ?_
    refine am_ev.step (pc' := 46) (ls' := [.ref 78, .int t, .int ii, .int jj]) (st' := []) (h' := hc) rfl (if_neg (hd_nle c2)) ?_
    refine am_ev.step rfl rfl ?_
    refine am_ev.step rfl rfl ?_
    refine am_ev.step rfl (hd_gf O f29) ?_
    refine am_ev.step rfl rfl ?_
    refine am_ev.step rfl rfl ?_
    refine am_ev.step rfl rfl ?_
    refine am_ev.step rfl (hd_ia (rr 98 (Or.inl rfl) _ _ ej1 (by omega))) ?_
    refine am_ev.step rfl rfl ?_
    refine am_ev.step rfl rfl ?_
    refine am_ev.step rfl (hd_gf O f29) ?_
    refine am_ev.step rfl rfl ?_
    refine am_ev.step rfl (hd_ia (rr 98 (Or.inl rfl) _ _ ei (by omega))) ?_
    refine am_ev.step (pc' := 65) (ls' := [.ref 78, .int t, .int ii, .int jj]) (st' := []) (h' := hc) rfl (if_pos c3) ?_
    refine am_ev.step rfl rfl ?_
    refine am_ev.step rfl rfl ?_
    refine am_ev.step rfl rfl ?_
    refine am_ev.step rfl rfl ?_
    refine hd_cv 199 (as := [.ref 78, .int t, .int ii, .int jj]) (rr := []) rfl (Or.inr (Or.inl ⟨_, rfl⟩)) rfl (by decide) rfl rfl (by decide) O (Nat.le_of_ble_eq_true rfl) evs ?_
    refine am_ev.step rfl rfl ?_
    refine am_ev.step rfl (hd_gf O f30) ?_
    refine am_ev.step rfl rfl ?_
    refine am_ev.step rfl rfl ?_
    refine am_ev.step rfl rfl ?_
    refine am_ev.step rfl (hd_ia (rr 99 (Or.inr rfl) _ _ ej1 (by omega))) ?_
    refine am_ev.step rfl rfl ?_
    refine am_ev.step rfl rfl ?_
    refine am_ev.step rfl (hd_gf O f30) ?_
    refine am_ev.step rfl rfl ?_
    refine am_ev.step rfl (hd_ia (rr 99 (Or.inr rfl) _ _ ei (by omega))) ?_
    exact am_ev.step (pc' := 96) (ls' := [.ref 78, .int t, .int ii, .int jj]) (st' := []) (h' := hc) rfl (if_pos c4) q
  | succ m ih =>
    intro j jj hm ej hij
    have ej1 := hd_inc ej (by omega)
    have evs := hd_199 (d := d) I (hd_B.R P B I) ht (by omega) (i := ii) (j := jj) (by omega) (by omega) hd
    generalize hd_sq hB t ii jj = s at evs
    obtain ⟨j2, j3, r1, r2, r3, r4, Q⟩ := ih (j + 1) (jj + Int32.ofInt 1) (by omega) ej1 (by omega)
    have next : ∀ x, am_ev (d + 1) 203 96 [.ref 78, .int t, .int ii, .int j3] [] hc x → am_ev (d + 1) 203 90 [.ref 78, .int t, .int ii, .int jj] [] hc x := fun x q => by
      refine am_ev.step rfl rfl ?_
      exact am_ev.step rfl rfl (Q x q)
    have to26 : ∀ x, am_ev (d + 1) 203 29 [.ref 78, .int t, .int ii, .int jj] [.int hd_NV, .int s] hc x → am_ev (d + 1) 203 19 [.ref 78, .int t, .int ii, .int jj] [] hc x := fun x q => by
      refine am_ev.step rfl rfl ?_
      refine am_ev.step rfl rfl ?_
      refine am_ev.step rfl rfl ?_
      refine am_ev.step rfl rfl ?_
      refine hd_cv 199 (as := [.ref 78, .int t, .int ii, .int jj]) (rr := []) rfl (Or.inr (Or.inl ⟨_, rfl⟩)) rfl (by decide) rfl rfl (by decide) O (Nat.le_of_ble_eq_true rfl) evs ?_
      exact am_ev.step rfl rfl q
    by_cases c1 : hd_NV ≤ s
    · exact ⟨j2, j3, by omega, r2, r3, r4, fun x q => to26 x (am_ev.step (pc' := 90) (ls' := [.ref 78, .int t, .int ii, .int jj]) (st' := []) (h' := hc) rfl (if_pos c1) (next x q))⟩
    have to43 : ∀ x, am_ev (d + 1) 203 43 [.ref 78, .int t, .int ii, .int jj] [.int hd_NV, .int (hd_i hP 98 (j + 1))] hc x → am_ev (d + 1) 203 19 [.ref 78, .int t, .int ii, .int jj] [] hc x := fun x q => to26 x (by
      refine am_ev.step (pc' := 32) (ls' := [.ref 78, .int t, .int ii, .int jj]) (st' := []) (h' := hc) rfl (if_neg c1) ?_
      refine am_ev.step rfl rfl ?_
      refine am_ev.step rfl (hd_gf O f29) ?_
      refine am_ev.step rfl rfl ?_
      refine am_ev.step rfl rfl ?_
      refine am_ev.step rfl rfl ?_
      refine am_ev.step rfl (hd_ia (rr 98 (Or.inl rfl) _ _ ej1 (by omega))) ?_
      exact am_ev.step rfl rfl q)
    by_cases c2 : hd_NV ≤ hd_i hP 98 (j + 1)
    · exact ⟨j2, j3, by omega, r2, r3, r4, fun x q => to43 x (am_ev.step (pc' := 90) (ls' := [.ref 78, .int t, .int ii, .int jj]) (st' := []) (h' := hc) rfl (if_pos c2) (next x q))⟩
    have to62 : ∀ x, am_ev (d + 1) 203 62 [.ref 78, .int t, .int ii, .int jj] [.int (hd_i hP 98 i), .int (Int32.ofInt 1 + hd_i hP 98 (j + 1))] hc x → am_ev (d + 1) 203 19 [.ref 78, .int t, .int ii, .int jj] [] hc x := fun x q => to43 x (by
      refine am_ev.step (pc' := 46) (ls' := [.ref 78, .int t, .int ii, .int jj]) (st' := []) (h' := hc) rfl (if_neg c2) ?_
      refine am_ev.step rfl rfl ?_
      refine am_ev.step rfl rfl ?_
      refine am_ev.step rfl (hd_gf O f29) ?_
      refine am_ev.step rfl rfl ?_
      refine am_ev.step rfl rfl ?_
      refine am_ev.step rfl rfl ?_
      refine am_ev.step rfl (hd_ia (rr 98 (Or.inl rfl) _ _ ej1 (by omega))) ?_
      refine am_ev.step rfl rfl ?_
      refine am_ev.step rfl rfl ?_
      refine am_ev.step rfl (hd_gf O f29) ?_
      refine am_ev.step rfl rfl ?_
      exact am_ev.step rfl (hd_ia (rr 98 (Or.inl rfl) _ _ ei (by omega))) q)
    by_cases c3 : Int32.ofInt 1 + hd_i hP 98 (j + 1) = hd_i hP 98 i
    · have to87 : ∀ x, am_ev (d + 1) 203 87 [.ref 78, .int t, .int ii, .int jj] [.int (hd_i hP 99 i), .int (s + hd_i hP 99 (j + 1))] hc x → am_ev (d + 1) 203 19 [.ref 78, .int t, .int ii, .int jj] [] hc x := fun x q => to62 x (by
        refine am_ev.step (pc' := 65) (ls' := [.ref 78, .int t, .int ii, .int jj]) (st' := []) (h' := hc) rfl (if_pos c3) ?_
        refine am_ev.step rfl rfl ?_
        refine am_ev.step rfl rfl ?_
        refine am_ev.step rfl rfl ?_
        refine am_ev.step rfl rfl ?_
        refine hd_cv 199 (as := [.ref 78, .int t, .int ii, .int jj]) (rr := []) rfl (Or.inr (Or.inl ⟨_, rfl⟩)) rfl (by decide) rfl rfl (by decide) O (Nat.le_of_ble_eq_true rfl) evs ?_
        refine am_ev.step rfl rfl ?_
        refine am_ev.step rfl (hd_gf O f30) ?_
        refine am_ev.step rfl rfl ?_
        refine am_ev.step rfl rfl ?_
        refine am_ev.step rfl rfl ?_
        refine am_ev.step rfl (hd_ia (rr 99 (Or.inr rfl) _ _ ej1 (by omega))) ?_
        refine am_ev.step rfl rfl ?_
        refine am_ev.step rfl rfl ?_
        refine am_ev.step rfl (hd_gf O f30) ?_
        refine am_ev.step rfl rfl ?_
        exact am_ev.step rfl (hd_ia (rr 99 (Or.inr rfl) _ _ ei (by omega))) q)
      by_cases c4 : s + hd_i hP 99 (j + 1) = hd_i hP 99 i
      · refine ⟨j, jj, hij, by omega, ej, ?_, fun x q => to87 x (am_ev.step (pc' := 96) (ls' := [.ref 78, .int t, .int ii, .int jj]) (st' := []) (h' := hc) rfl (if_pos c4) q)⟩
        exact hd_nlt c2
      · exact ⟨j2, j3, by omega, r2, r3, r4, fun x q => to87 x (am_ev.step (pc' := 90) (ls' := [.ref 78, .int t, .int ii, .int jj]) (st' := []) (h' := hc) rfl (if_neg c4) (next x q))⟩
    · exact ⟨j2, j3, by omega, r2, r3, r4, fun x q => to62 x (am_ev.step (pc' := 90) (ls' := [.ref 78, .int t, .int ii, .int jj]) (st' := []) (h' := hc) rfl (if_neg c3) (next x q))⟩
end HDS
end
section
/-! CONTRACTS: 202m 202 -/
def ct_202m : cq_Ct := (5, [(5, (0, []), 78), (1, (0, [(0, 1)]), 0), (1, (0, [(1, 1)]), 0), (1, (0, [(2, 1)]), 0)], cq_mk 3 ([(0, (-2147483648), 2147483647), (1, (-2147483648), 2147483647), (2, (-2147483648), 2147483647)], []) [] [] [] [] [] [] none 0 0, [], [(false, [(1, (0, [(3, 1)]), 0)], cq_mk 4 ([(3, (-2147483648), 2147483647)], []) [] [] [] [] [] [] none 0 0)])
theorem wf_202m : cq_wfC ct_202m = true := by decide +kernel
def lp_202m (pc : Nat) : Option (Option (Nat × Nat) × cq_Lp) := none
def ct_202 : cq_Ct := (5, [(5, (0, []), 78), (1, (0, [(0, 1)]), 0), (1, (0, [(1, 1)]), 0), (1, (0, [(2, 1)]), 0)], cq_mk 3 ([(0, (-2147483648), 2147483647), (1, (-2147483648), 2147483647), (2, (-2147483648), 2147483647)], []) [] [] [] [] [] [] none 0 0, [(false, 100, 0, 0), (false, 78, 33, 0), (false, 98, 0, 0), (false, 99, 0, 0)], [(false, [(1, (0, [(3, 1)]), 0)], cq_mk 4 ([(3, (-2147483648), 2147483647)], []) [] [] [] [] [] [] none 0 0)])
theorem wf_202 : cq_wfC ct_202 = true := by decide +kernel
end
section
/-! BY HAND, 14: findBreaks and breakAt -/
theorem hd_fok32 (x : Int32) : am_fok (am_ty 13 32) (.int x) = true := rfl
/-- a write of breakMany, and of a break -/
theorem hd_I32 {h : am_H} (I : cq_Inv none h) {x : Int32} (h0 : 0 ≤ x.toInt) (h1 : x.toInt ≤ 30) : cq_Inv none (am_put h 78 32 (.int x)) := by
  refine cq_Inv_put I (by decide) (by have := I.lo; omega) (fun _ => ?_) (fun z => by omega) (fun z => by omega) (fun z => by omega) (fun z => by omega) (by decide)
  have et : cq_tyOf 78 (h.2.2.1 78) 32 = (1, 0, 30, 0, 0, 0) := by
    rw [I.fx 78 (by decide) (by decide)]
    decide +kernel
  rw [et]
  exact ⟨x, rfl, h0, h1⟩
theorem hd_I100 {h : am_H} (I : cq_Inv none h) {j : Nat} {x : Int32} : cq_Inv none (am_put h 100 j (.int x)) := by
  refine cq_Inv_put I (by decide) (by have := I.lo; omega) (fun _ => ?_) (fun z => by omega) (fun z => by omega) (fun z => by omega) (fun z => by omega) (by decide)
  have et : cq_tyOf 100 (h.2.2.1 100) j = (1, -2147483648, 2147483647, 0, 0, 0) := by
    unfold cq_tyOf cq_ty
    rw [show Nat.blt 100 130 = true by decide, show cq_isA 100 = true by decide +kernel, show ((Nat.beq 100 81 || Nat.beq 100 83) && Nat.beq j 1) = false by rw [show (Nat.beq 100 81 || Nat.beq 100 83) = false by decide]; rfl]
    show cq_ar 100 = _
    decide +kernel
  rw [et]
  have z1 := x.le_toInt
  have z2 := x.toInt_lt
  exact ⟨x, rfl, by omega, by omega⟩
section HDW
variable {hB hP : am_H} {t : Int32} {n d : Nat}
/-- the outer loop of findBreaks -/
theorem hd_fb2 (I : cq_Inv none hB) (P : hd_P hB hP) (ht : 0 ≤ t.toInt ∧ t.toInt ≤ 119) (hl : cq_n hB 93 t.toInt.toNat = n) (n30 : n ≤ 30) (hd : 2 ≤ d) (f0 : hd_i hP 98 n = 0) (S : ∀ i', i' < n → hd_i hP 98 i' = hd_NV ∨ ∃ j', hd_C hB hP t n i' j') : ∀ (m i : Nat) (ii b : Int32) (v3 : Value) (hc : am_H), n ≤ m + i → i ≤ n → ii.toInt = i → cq_Inv none hc → hd_B hP hc → hc.2.2.2 78 32 = .int b → 0 ≤ b.toInt → b.toInt ≤ i → hd_i hP 98 i < hd_NV → ∃ hc', am_ev (d + 1) 203 7 [.ref 78, .int t, .int ii, v3] [] hc (none, hc') ∧ cq_Inv none hc' ∧ hd_B hP hc' := by
  intro m
  induction m with
  | zero =>
    intro i ii b v3 hc hm hi ei Ic B eb b0 b1 fi
    have : i = n := by omega
    subst this
    refine ⟨hc, ?_, Ic, B⟩
    have O := cq_o78 Ic
    have f29 : hc.2.2.2 78 29 = .ref 98 := by rw [B.2 78 29 (by decide) (by decide)]; exact P.f29 I
    obtain ⟨m1, m2⟩ := P.sh I (c := 98) (tc := 0) (ln := 31) (by decide) (by decide) (by decide +kernel)
    have rd : am_rd hc 98 ii (fun c => Nat.beq c 0) = some (.int (hd_i hP 98 i)) := by
      rw [hd_rdS (show 98 < hc.1 by rw [B.1.1]; exact m1) (show hc.2.2.1 98 = (1, 0, 31) by rw [B.1.2.2]; exact m2) (by decide) (by omega) (by omega), show ii.toInt.toNat = i by omega, B.2 98 i (by decide) (by omega), P.2.2.1 i (by omega)]
    rw [f0] at rd
    refine am_ev.step rfl rfl ?_
    refine am_ev.step rfl (hd_gf O f29) ?_
    refine am_ev.step rfl rfl ?_
    refine am_ev.step rfl (hd_ia rd) ?_
    refine am_ev.step rfl rfl ?_
    refine am_ev.step (pc' := 123) (ls' := [.ref 78, .int t, .int ii, v3]) (st' := []) (h' := hc) rfl rfl ?_
    exact am_ev.retv rfl rfl
  | succ m ih =>
    intro i ii b v3 hc hm hi ei Ic B eb b0 b1 fi
    have O := cq_o78 Ic
    have f29 : hc.2.2.2 78 29 = .ref 98 := by rw [B.2 78 29 (by decide) (by decide)]; exact P.f29 I
    obtain ⟨m1, m2⟩ := P.sh I (c := 98) (tc := 0) (ln := 31) (by decide) (by decide) (by decide +kernel)
    have rd : am_rd hc 98 ii (fun c => Nat.beq c 0) = some (.int (hd_i hP 98 i)) := by
      rw [hd_rdS (show 98 < hc.1 by rw [B.1.1]; exact m1) (show hc.2.2.1 98 = (1, 0, 31) by rw [B.1.2.2]; exact m2) (by decide) (by omega) (by omega), show ii.toInt.toNat = i by omega, B.2 98 i (by decide) (by omega), P.2.2.1 i (by omega)]
    have to14 : ∀ x, am_ev (d + 1) 203 14 [.ref 78, .int t, .int ii, v3] [.int (Int32.ofInt 1), .int (hd_i hP 98 i)] hc x → am_ev (d + 1) 203 7 [.ref 78, .int t, .int ii, v3] [] hc x := fun x q => by
      refine am_ev.step rfl rfl ?_
      refine am_ev.step rfl (hd_gf O f29) ?_
      refine am_ev.step rfl rfl ?_
      refine am_ev.step rfl (hd_ia rd) ?_
      exact am_ev.step rfl rfl q
    by_cases c1 : hd_i hP 98 i ≤ Int32.ofInt 1
    · refine ⟨hc, to14 _ ?_, Ic, B⟩
      refine am_ev.step (pc' := 123) (ls' := [.ref 78, .int t, .int ii, v3]) (st' := []) (h' := hc) rfl (if_pos c1) ?_
      exact am_ev.retv rfl rfl
    · have hin : i < n := by
        rcases (show i < n ∨ i = n by omega) with z | z
        · exact z
        · exfalso
          rw [z, f0] at c1
          exact c1 (by decide)
      rcases S i hin with z | ⟨J, C⟩
      · exfalso
        rw [z] at fi
        exact hd_nle fi (Int32.le_iff_toInt_le.2 (Int.le_refl _))
      · obtain ⟨j2, j3, r1, r2, r3, r4, Q⟩ := hd_fb1 (d := d) I P ht hl n30 ei hd B Ic C (J - i) i ii (by have := C.1; omega) ei (Nat.le_refl _)
        have ej := hd_inc r3 (by omega)
        have f31 : hc.2.2.2 78 31 = .ref 100 := by
          have z := cq_t78 Ic (b := 31) (by decide +kernel)
          rw [show cq_cl 13 31 = (3, 0, 0, 100, 0, 0) by decide +kernel] at z
          exact z
        have w100 : am_wr hc 100 b 0 (.int j3) = some (am_put hc 100 b.toInt.toNat (.int j3)) := hd_wrS (ln := 30) (by have := Ic.lo; omega) (by rw [Ic.fx 100 (by decide) (by decide)]; decide +kernel) b0 (by omega)
        have I1 : cq_Inv none (am_put hc 100 b.toInt.toNat (.int j3)) := hd_I100 Ic
        have O1 := cq_o78 I1
        have bb : (b + Int32.ofInt 1).toInt = b.toInt + 1 := by
          rw [hd_toA (by omega) (by omega) (by decide) (by decide), show (Int32.ofInt 1).toInt = 1 by decide]
        have I2 := hd_I32 I1 (x := b + Int32.ofInt 1) (by omega) (by omega)
        have B2 : hd_B hP (am_put (am_put hc 100 b.toInt.toNat (.int j3)) 78 32 (.int (b + Int32.ofInt 1))) := ⟨B.1, fun c j h1 h2 => by rw [hd_pv (by omega), hd_pv (by omega)]; exact B.2 c j h1 h2⟩
        obtain ⟨hc', ev, I', B'⟩ := ih (j2 + 1) (j3 + Int32.ofInt 1) (b + Int32.ofInt 1) (.int j3) _ (by omega) (by omega) ej I2 B2 hd_pe (by omega) (by omega) r4
        refine ⟨hc', to14 _ ?_, I', B'⟩
        refine am_ev.step (pc' := 17) (ls' := [.ref 78, .int t, .int ii, v3]) (st' := []) (h' := hc) rfl (if_neg c1) ?_
        refine am_ev.step rfl rfl ?_
        refine am_ev.step rfl rfl ?_
        refine Q _ ?_
        refine am_ev.step rfl rfl ?_
        refine am_ev.step rfl (hd_gf O f31) ?_
        refine am_ev.step rfl rfl ?_
        refine am_ev.step rfl (hd_gf O eb) ?_
        refine am_ev.step rfl rfl ?_
        refine am_ev.step rfl (hd_is w100) ?_
        refine am_ev.step rfl rfl ?_
        refine am_ev.step rfl rfl ?_
        refine am_ev.step rfl (hd_gf O1 (show (am_put hc 100 b.toInt.toNat (.int j3)).2.2.2 78 32 = .int b by rw [hd_pv (by omega)]; exact eb)) ?_
        refine am_ev.step rfl rfl ?_
        refine am_ev.step rfl rfl ?_
        refine am_ev.step rfl (hd_pf O1 (hd_fok32 _)) ?_
        refine am_ev.step rfl rfl ?_
        refine am_ev.step rfl rfl ?_
        refine am_ev.step rfl rfl ?_
        refine am_ev.step rfl rfl ?_
        exact am_ev.step rfl rfl ev
/-- findBreaks -/
theorem hd_203 (I : cq_Inv none hB) (P : hd_P hB hP) (IP : cq_Inv none hP) (ht : 0 ≤ t.toInt ∧ t.toInt ≤ 119) (hl : cq_n hB 93 t.toInt.toNat = n) (n30 : n ≤ 30) (hd : 3 ≤ d) (f0 : hd_i hP 98 n = 0) (S : ∀ i', i' < n → hd_i hP 98 i' = hd_NV ∨ ∃ j', hd_C hB hP t n i' j') (fi : hd_i hP 98 0 < hd_NV) : ∃ hc', am_ev d 203 0 (am_ent [.ref 78, .int t] (am_in 203).2.2.1) [] hP (none, hc') ∧ cq_Inv none hc' ∧ hd_B hP hc' := by
  cases d with
  | zero => omega
  | succ d =>
    have O := cq_o78 IP
    have I1 := hd_I32 IP (x := Int32.ofInt 0) (by decide) (by decide)
    obtain ⟨hc', ev, I', B'⟩ := hd_fb2 (d := d) I P ht hl n30 (by omega) f0 S n 0 (Int32.ofInt 0) (Int32.ofInt 0) am_ph _ (by omega) (by omega) (by decide) I1 ⟨⟨rfl, rfl, rfl⟩, fun c j h1 h2 => hd_pv (by omega)⟩ hd_pe (by decide) (by decide) fi
    refine ⟨hc', ?_, I', B'⟩
    refine am_ev.step rfl rfl ?_
    refine am_ev.step rfl rfl ?_
    refine am_ev.step rfl (hd_pf O (hd_fok32 _)) ?_
    refine am_ev.step rfl rfl ?_
    exact am_ev.step rfl rfl ev
end HDW
def cq_z202 : cq_Z := (202, 33, [cq_rc 78, cq_u, cq_u, cq_i (cq_s 2)], [], [], 5, ct_202m.2.2.1)
theorem ex_202m : cq_exec (cq_nx ct_202m.2.2.2.1 (cq_ckx ct_202m) (cq_cl0 ct_202m.2.2.2.1 (cq_ckx ct_202m) cq_t0)) (fun _ => none) 202 100000 [] cq_z202 = true := by decide +kernel
/-- breakAt behind findBreaks -/
theorem hd_br {h : am_H} {i : Int32} {d : Nat} (I : cq_Inv none h) (hd : 5 ≤ d) (a b : Value) : ∃ (r : Int32) (h' : am_H), am_ev d 202 33 [.ref 78, a, b, .int i] [] h (some (.int r), h') ∧ hd_E h h' := by
  have z1 := i.le_toInt
  have z2 := i.toInt_lt
  have M0 : cq_Md ct_202m.2.2.2.1 h (fun _ => i.toInt) ct_202m.2.2.1 h := by
    refine cq_Md_p ⟨fun b hb => ?_, fun _ z => (by cases z)⟩ (fun _ z => (by cases z)) (fun _ z => (by cases z)) I
    simp only [List.mem_cons, List.not_mem_nil, or_false] at hb
    rcases hb with rfl | rfl | rfl <;> exact ⟨by show (-2147483648 : Int) ≤ i.toInt; omega, by show i.toInt ≤ 2147483647; omega⟩
  have NX := cq_NX_of (c := ct_202m) (ρ := fun _ => i.toInt) wf_202m (cq_t0_ok h I)
  have w1 := (Bool.and_eq_true _ _ ▸ wf_202m)
  have w0 := (Bool.and_eq_true _ _ ▸ w1.1)
  have w2 := (Bool.and_eq_true _ _ ▸ w0.1)
  have G := cq_exec_ok (Fin := cq_Fin ct_202m h (fun _ => i.toInt)) (n0 := 3) (ρ0 := fun _ => i.toInt) (fun a hn hq H hd K => NX _ _ _ _ _ _ _ _ a hn hq H hd K) 100000 [] cq_z202 (fun _ => i.toInt) [.ref 78, a, b, .int i] [] h [] d ex_202m cq_ag.rf (Nat.le_refl _) (fun ρ' a' => ⟨cq_wf_ag w2.1 a' M0, ⟨rfl, trivial, trivial, ⟨i, rfl, by rw [cq_s_e, a' 2 (by decide)]⟩, trivial⟩, trivial, trivial⟩) hd (fun R hR => by cases hR)
  obtain ⟨⟨r, h'⟩, ev, x, hx, ρ', a', Mx, hr⟩ := G
  have hx := List.mem_singleton.1 hx
  subst hx
  rcases hr with ⟨q1, q2, q3⟩ | ⟨q1, -⟩
  · cases r with
    | none => exact q3.elim
    | some w =>
      obtain ⟨v, e1, e2⟩ := q3.1
      subst e1
      exact ⟨v, h', ev, Mx.I, Mx.F, Mx.A⟩
  · cases q1
def cq_ck15 (Z : cq_Z) : Bool := match Z with
  | (_, _, [(5, _, k), (1, fp, _), (1, fe, _), (1, _, _)], [(1, ft, _), (5, _, k2)], [], db, S) => Nat.beq k 78 && Nat.beq k2 78 && cq_inE S.P fp 0 39 && cq_inE S.P fe 0 2 && cq_fe ft (cq_add (cq_sc 3 fp) fe) && S.U.isNone && Nat.beq S.ac 0 && Nat.beq S.al 0 && Nat.ble 5 db
  | _ => false
theorem hd_cvv {d y pc : Nat} {ls : List Value} {h : am_H} {x : Option Value × am_H} {e : am_E} {as rr : List Value} {h2 : am_H} {st : List Value} (z : Nat) (hc : am_at y pc e) (hi : am_isC e.1) (ez : e.2.2.2.1 = z) (nz : (Nat.blt 0 z && Nat.blt z 264 && !Nat.beq z 10 && !Nat.beq z 57) = true) (hst : st = as.reverse ++ rr) (hlen : as.length = (am_in z).2.1) (hcs : am_cs rr ≤ 8) (hrcv : am_rcv z as h = true) (hw : (am_wid as).length ≤ (am_in z).2.2.1) (q1 : am_ev d z 0 (am_ent as (am_in z).2.2.1) [] h (none, h2)) (q2 : am_ev (d + 1) y (pc + 3) ls rr h2 x) : am_ev (d + 1) y pc ls st h x := by
  subst ez
  have n1 := (Bool.and_eq_true _ _ ▸ nz)
  have n2 := (Bool.and_eq_true _ _ ▸ n1.1)
  have n3 := (Bool.and_eq_true _ _ ▸ n2.1)
  refine am_ev.call hc hi ⟨Nat.le_of_ble_eq_true n3.1, Nat.le_of_ble_eq_true n3.2, fun z => ?_, fun z => ?_⟩ hst hlen hcs hrcv hw q1 rfl q2
  · have := n2.2
    rw [z] at this
    cases this
  · have := n1.2
    rw [z] at this
    cases this
/-- breakAt from where its pages are found -/
theorem hd_bk {h : am_H} {p e i tv : Int32} {d : Nat} (I : cq_Inv none h) (hp : 0 ≤ p.toInt ∧ p.toInt ≤ 39) (he : 0 ≤ e.toInt ∧ e.toInt ≤ 2) (ht : tv.toInt = 3 * p.toInt + e.toInt) (hd : 4 ≤ d) : ∃ (r : Int32) (h' : am_H), am_ev (d + 1) 202 15 [.ref 78, .int p, .int e, .int i] [.int tv, .ref 78] h (some (.int r), h') ∧ cq_Inv none h' ∧ cq_Fr ct_202.2.2.2.1 h h' ∧ h'.1 ≤ h.1 ∧ h'.2.1 ≤ h.2.1 := by
  obtain ⟨n, hP, r, a1, a2, ev, P, IP, f0, S, hr⟩ := hd_197 (t := tv) (d := d) I (by omega) hd
  have O := cq_o78 I
  have OP := cq_o78 IP
  have call : ∀ x, am_ev (d + 1) 202 18 [.ref 78, .int p, .int e, .int i] [.int r] hP x → am_ev (d + 1) 202 15 [.ref 78, .int p, .int e, .int i] [.int tv, .ref 78] h x := fun x q => hd_cv 197 (as := [.ref 78, .int tv]) (rr := []) rfl (Or.inr (Or.inl ⟨_, rfl⟩)) rfl (by decide) rfl rfl (by decide) O (Nat.le_of_ble_eq_true rfl) ev q
  have FP : cq_Fr ct_202.2.2.2.1 h hP := by
    refine ⟨by rw [P.1.1]; exact Nat.le_refl _, fun c _ => by rw [P.1.2.2], fun c _ j hw => P.2.1 c j (fun z => ?_) (fun z => ?_)⟩
    · rw [z] at hw; cases hw
    · rw [z] at hw; cases hw
  by_cases c : r = -1
  · refine ⟨-1, hP, call _ ?_, IP, FP, by rw [P.1.1]; exact Nat.le_refl _, by rw [P.1.2.1]; exact Nat.le_refl _⟩
    refine am_ev.step rfl rfl ?_
    refine am_ev.step (pc' := 22) (ls' := [.ref 78, .int p, .int e, .int i]) (st' := []) (h' := hP) rfl (if_pos c) ?_
    refine am_ev.step rfl rfl ?_
    exact am_ev.reti rfl rfl rfl
  · have tx : (Int32.ofInt 3 * p + e).toInt = 3 * p.toInt + e.toInt := hd_l3 (by omega) (by omega) (by omega) (by omega)
    have et : Int32.ofInt 3 * p + e = tv := Int32.toInt_inj.1 (by rw [tx, ht])
    obtain ⟨hQ, evQ, IQ, BQ⟩ := hd_203 (d := d) I P IP (t := tv) (by omega) a1 a2 (by omega) f0 S (hr.resolve_left c)
    obtain ⟨r2, h', ev2, E2⟩ := hd_br (i := i) (d := d + 1) IQ (by omega) (.int p) (.int e)
    refine ⟨r2, h', call _ ?_, E2.1, ?_, ?_, ?_⟩
    · refine am_ev.step rfl rfl ?_
      refine am_ev.step (pc' := 24) (ls' := [.ref 78, .int p, .int e, .int i]) (st' := []) (h' := hP) rfl (if_neg c) ?_
      refine am_ev.step rfl rfl ?_
      refine am_ev.step rfl rfl ?_
      refine am_ev.step rfl rfl ?_
      refine hd_cv 194 (as := [.int p, .int e]) (rr := [.ref 78]) rfl (Or.inl ⟨_, rfl⟩) rfl (by decide) rfl rfl (Nat.le_of_ble_eq_true rfl) rfl (Nat.le_of_ble_eq_true rfl) hd_194 ?_
      rw [et]
      exact hd_cvv 203 (as := [.ref 78, .int tv]) (rr := []) rfl (Or.inr (Or.inl ⟨_, rfl⟩)) rfl (by decide) rfl rfl (by decide) OP (Nat.le_of_ble_eq_true rfl) evQ ev2
    · refine cq_Fr_tr (cq_Fr_tr FP (mc := ct_202.2.2.2.1) ?_ (fun _ z => z)) E2.2.1 (fun _ z => by cases z)
      refine ⟨by rw [BQ.1.1]; exact Nat.le_refl _, fun c _ => by rw [BQ.1.2.2], fun c _ j hw => BQ.2 c j (fun z => ?_) (fun z => ?_)⟩
      · rw [z] at hw; cases hw
      · rw [z.1, z.2] at hw; cases hw
    · have := E2.2.2.1
      rw [BQ.1.1, P.1.1] at this
      exact this
    · have := E2.2.2.2
      rw [BQ.1.2.1, P.1.2.1] at this
      exact this
theorem ok_202 : cq_CT 202 ct_202 := by
  refine cq_methN (f := 100000) (nx := cq_nxo 202 15 cq_ck15 (cq_nx ct_202.2.2.2.1 (cq_ckx ct_202) (cq_cl0 ct_202.2.2.2.1 (cq_ckx ct_202) cq_t0))) (lps := fun _ => none) wf_202 (by decide +kernel) (fun h ρ as M g => cq_nxo_ok ?_ (cq_NX_of wf_202 (cq_t0_ok h (cq_Inv0 wf_202 M)))) (by decide +kernel)
  intro Z ρ1 ls st h2 d a hn hc R hd
  obtain ⟨y, pc, als, ast, fr, db, S⟩ := Z
  unfold cq_ck15 at hc
  split at hc
  · rename_i y' pc' ff k fp kp fe ke fi ki ft kt ff2 k2 db' S' heq
    cases heq
    have c1 := (Bool.and_eq_true _ _ ▸ hc)
    have c2 := (Bool.and_eq_true _ _ ▸ c1.1)
    have c3 := (Bool.and_eq_true _ _ ▸ c2.1)
    have c4 := (Bool.and_eq_true _ _ ▸ c3.1)
    have c5 := (Bool.and_eq_true _ _ ▸ c4.1)
    have c6 := (Bool.and_eq_true _ _ ▸ c5.1)
    have c7 := (Bool.and_eq_true _ _ ▸ c6.1)
    have c8 := (Bool.and_eq_true _ _ ▸ c7.1)
    obtain ⟨D, g1, g2, -⟩ := R ρ1 cq_ag.rf
    dsimp only at D g1 g2
    obtain ⟨u0, r0, e0, G0, g1⟩ := cq_gs_cons g1
    obtain ⟨u1, r1, e1, G1, g1⟩ := cq_gs_cons g1
    obtain ⟨u2, r2, e2, G2, g1⟩ := cq_gs_cons g1
    obtain ⟨u3, r3, e3, G3, g1⟩ := cq_gs_cons g1
    have e7 := cq_gs_nil g1
    obtain ⟨w0, s0, f0, H0, g2⟩ := cq_gs_cons g2
    obtain ⟨w1, s1, f1, H1, g2⟩ := cq_gs_cons g2
    have e8 := cq_gs_nil g2
    subst e0 e1 e2 e3 e7 f0 f1 e8
    have G0 : u0 = .ref k := G0
    rw [am_beq c8.1] at G0
    have H1 : w1 = .ref k2 := H1
    rw [am_beq c8.2] at H1
    obtain ⟨p, ep, hp⟩ := G1
    obtain ⟨e, ee, he⟩ := G2
    obtain ⟨i, ei, hi⟩ := G3
    obtain ⟨tv, et, ht⟩ := H0
    subst G0 H1 ep ee ei et
    have bp := cq_inE_ok D.P c7.2
    have be := cq_inE_ok D.P c6.2
    rw [cq_fe_ok c5.2, cq_add_e, cq_sc_e] at ht
    have I : cq_Inv none h2 := by
      have I := D.I
      rw [Option.isNone_iff_eq_none.1 c4.2] at I
      exact I
    have A := D.A
    rw [am_beq c3.2, am_beq c2.2] at A
    have hd1 := Nat.le_of_ble_eq_true c1.2
    dsimp only at hd
    cases d with
    | zero => omega
    | succ d =>
      obtain ⟨r, h', ev, I', F', A1, A2⟩ := hd_bk (p := p) (e := e) (i := i) (tv := tv) (d := d) I (by omega) (by omega) (by omega) (by omega)
      refine ⟨_, ev, _, List.mem_cons_self, fun s => if s < 3 then ρ s else r.toInt, fun s hs => if_pos hs, cq_Md_s ⟨fun b hb => ?_, fun _ z => (by cases z)⟩ I' (cq_Fr_tr D.F F' (fun _ z => z)) ⟨by have := A.1; show h'.1 ≤ h.1 + 0; omega, by have := A.2; show h'.2.1 ≤ h.2.1 + 0; omega⟩, Or.inl ⟨rfl, rfl, ⟨r, rfl, ?_⟩, trivial⟩⟩
      · rw [List.mem_singleton.1 hb]
        have z1 := r.le_toInt
        have z2 := r.toInt_lt
        exact ⟨by show (-2147483648 : Int) ≤ r.toInt; omega, by show r.toInt ≤ 2147483647; omega⟩
      · exact (cq_s_e (fun s => if s < 3 then ρ s else r.toInt) 3).symm
  · cases hc
end
section
/-! BY HAND, 15: order: bits, steps back, what is behind -/
def hd_bt (L j : Nat) : Bool := Nat.beq (L / 2 ^ j % 2) 0
def hd_clr (L j : Nat) : Nat := L - 2 ^ j * (L / 2 ^ j % 2)
def hd_pc (L : Nat) : Nat := L % 2 + L / 2 % 2 + L / 4 % 2 + L / 8 % 2 + L / 16 % 2 + L / 32 % 2 + L / 64 % 2 + L / 128 % 2 + L / 256 % 2 + L / 512 % 2
def hd_bck : Bool := (List.range 1024).all fun L => (List.range 10).all fun j => (decide ((Int32.ofNat L >>> (Int32.ofNat j &&& 31)) &&& Int32.ofInt 1 = 0) == hd_bt L j) && decide (Int32.ofNat L &&& ((Int32.ofInt 1 <<< (Int32.ofNat j &&& 31)) ^^^ Int32.ofInt (-1)) = Int32.ofNat (hd_clr L j)) && decide ((Int32.ofNat L).toInt = (L : Int))
theorem hd_bck_ok : hd_bck = true := by decide +kernel
def hd_nck : Bool := (List.range 1024).all fun L => (List.range 10).all fun j => hd_bt (hd_clr L j) j && Nat.ble (hd_clr L j) L && (hd_bt L j || (Nat.blt (hd_clr L j) L && Nat.beq (hd_pc (hd_clr L j) + 1) (hd_pc L)))
theorem hd_nck_ok : hd_nck = true := by decide +kernel
theorem hd_bits {L j : Nat} {ll jj : Int32} (hL : L < 1024) (hj : j < 10) (eL : ll.toInt = L) (ej : jj.toInt = j) : ((ll >>> (jj &&& 31)) &&& Int32.ofInt 1 = 0 ↔ hd_bt L j = true) ∧ ll &&& ((Int32.ofInt 1 <<< (jj &&& 31)) ^^^ Int32.ofInt (-1)) = Int32.ofNat (hd_clr L j) := by
  have k := List.all_eq_true.1 (List.all_eq_true.1 hd_bck_ok L (List.mem_range.2 hL)) j (List.mem_range.2 hj)
  have k1 := (Bool.and_eq_true _ _ ▸ k)
  have k2 := (Bool.and_eq_true _ _ ▸ k1.1)
  rw [← hd_ofN eL, ← hd_ofN ej]
  refine ⟨?_, of_decide_eq_true k2.2⟩
  have z := eq_of_beq k2.1
  constructor
  · intro q
    rw [← z]
    exact decide_eq_true q
  · intro q
    rw [← z] at q
    exact of_decide_eq_true q
theorem hd_ofNI {L : Nat} (hL : L < 1024) : (Int32.ofNat L).toInt = (L : Int) := by
  have k := List.all_eq_true.1 (List.all_eq_true.1 hd_bck_ok L (List.mem_range.2 hL)) 0 (List.mem_range.2 (by decide))
  exact of_decide_eq_true (Bool.and_eq_true _ _ ▸ k).2
theorem hd_nats {L j : Nat} (hL : L < 1024) (hj : j < 10) : hd_bt (hd_clr L j) j = true ∧ hd_clr L j ≤ L ∧ (hd_bt L j = false → hd_clr L j < L ∧ hd_pc (hd_clr L j) + 1 = hd_pc L) := by
  have k := List.all_eq_true.1 (List.all_eq_true.1 hd_nck_ok L (List.mem_range.2 hL)) j (List.mem_range.2 hj)
  have k1 := (Bool.and_eq_true _ _ ▸ k)
  have k2 := (Bool.and_eq_true _ _ ▸ k1.1)
  refine ⟨k2.1, Nat.le_of_ble_eq_true k2.2, fun z => ?_⟩
  have k3 := k1.2
  rw [z, Bool.false_or] at k3
  have k4 := (Bool.and_eq_true _ _ ▸ k3)
  exact ⟨Nat.le_of_ble_eq_true k4.1, am_beq k4.2⟩
/-- all members, as a set -/
theorem hd_alls {nn : Int32} {n : Nat} (e : nn.toInt = n) (hn : n ≤ 10) : (Int32.ofInt 1 <<< (nn &&& 31)) - Int32.ofInt 1 = Int32.ofNat (2 ^ n - 1) ∧ 2 ^ n - 1 < 1024 ∧ hd_pc (2 ^ n - 1) = n ∧ ∀ j, j < n → hd_bt (2 ^ n - 1) j = false := by
  rw [← hd_ofN e]
  rcases (show n = 0 ∨ n = 1 ∨ n = 2 ∨ n = 3 ∨ n = 4 ∨ n = 5 ∨ n = 6 ∨ n = 7 ∨ n = 8 ∨ n = 9 ∨ n = 10 by omega) with z | z | z | z | z | z | z | z | z | z | z <;> subst z <;> decide +kernel
/-- a heap while an order is sought -/
def hd_O (hB hc : am_H) : Prop := (hc.1 = hB.1 ∧ hc.2.1 = hB.2.1 ∧ hc.2.2.1 = hB.2.2.1) ∧ (∀ c j, c ≠ 124 → c ≠ 118 → ¬ (c = 78 ∧ j = 55) → hc.2.2.2 c j = hB.2.2.2 c j)
theorem hd_O.rf {h : am_H} : hd_O h h := ⟨⟨rfl, rfl, rfl⟩, fun _ _ _ _ _ => rfl⟩
/-- an int of a fixed array -/
theorem hd_iA {h : am_H} (I : cq_Inv none h) {c j : Nat} (l u : Int) (h1 : 40 ≤ c) (h2 : c < 130) (hf : (cq_fix c).1 = 1) (hs : (Nat.beq c 81 || Nat.beq c 83) = false) (ht : cq_ar c = (1, l, u, 0, 0, 0)) (hj : j < (cq_fix c).2.2) : h.2.2.2 c j = .int (hd_i h c j) ∧ l ≤ (hd_i h c j).toInt ∧ (hd_i h c j).toInt ≤ u := by
  have k := cq_tA I h1 h2 hf hs hj
  rw [ht] at k
  obtain ⟨x, ex, x1, x2⟩ := k
  rw [hd_ie ex]
  exact ⟨ex, x1, x2⟩
/-- reading a fixed array of ints -/
theorem hd_ra {h : am_H} (I : cq_Inv none h) {c k : Nat} {i : Int32} (l u : Int) (h1 : 40 ≤ c) (h2 : c < 130) (hf : (cq_fix c).1 = 1) (h0 : (cq_fix c).2.1 = 0) (hs : (Nat.beq c 81 || Nat.beq c 83) = false) (ht : cq_ar c = (1, l, u, 0, 0, 0)) (e : i.toInt = k) (hk : k < (cq_fix c).2.2) : am_rd h c i (fun c => Nat.beq c 0) = some (.int (hd_i h c k)) := by
  rw [hd_rd I h1 h2 hf (by show Nat.beq (cq_fix c).2.1 0 = true; rw [h0]; rfl) (by omega) (by omega), show i.toInt.toNat = k by omega, (hd_iA I l u h1 h2 hf hs ht hk).1]
theorem hd_f78 {h : am_H} (I : cq_Inv none h) (b k : Nat) (hb : b < am_N 13) (ht : cq_cl 13 b = (3, 0, 0, k, 0, 0)) : h.2.2.2 78 b = .ref k := by
  have z := cq_t78 I hb
  rw [ht] at z
  exact z
/-- the step back in years from one candidate to another -/
def hd_sb (h : am_H) (c d : Nat) : Int32 := if Int32.ofInt 0 < hd_i h 87 (hd_i h 117 c).toInt.toNat - hd_i h 87 (hd_i h 117 d).toInt.toNat then hd_i h 87 (hd_i h 117 c).toInt.toNat - hd_i h 87 (hd_i h 117 d).toInt.toNat else Int32.ofInt 0
theorem hd_244 {h : am_H} {cc dd : Int32} {c e d : Nat} (I : cq_Inv none h) (ec : cc.toInt = c) (ee : dd.toInt = e) (hc : c < 14) (he : e < 14) : am_ev (d + 1) 244 0 (am_ent [.ref 78, .int cc, .int dd] (am_in 244).2.2.1) [] h (some (.int (hd_sb h c e)), h) := by
  have O := cq_o78 I
  have f18 := hd_f78 I 18 87 (by decide +kernel) (by decide +kernel)
  have f56 := hd_f78 I 56 117 (by decide +kernel) (by decide +kernel)
  have r1 := hd_ra I (c := 117) (i := cc) (k := c) 0 39 (by decide) (by decide) (by decide +kernel) (by decide +kernel) (by decide) (by decide +kernel) ec (by rw [show (cq_fix 117).2.2 = 14 by decide +kernel]; exact hc)
  have r2 := hd_ra I (c := 117) (i := dd) (k := e) 0 39 (by decide) (by decide) (by decide +kernel) (by decide +kernel) (by decide) (by decide +kernel) ee (by rw [show (cq_fix 117).2.2 = 14 by decide +kernel]; exact he)
  have b1 := (hd_iA I (c := 117) (j := c) 0 39 (by decide) (by decide) (by decide +kernel) (by decide) (by decide +kernel) (by rw [show (cq_fix 117).2.2 = 14 by decide +kernel]; exact hc)).2
  have b2 := (hd_iA I (c := 117) (j := e) 0 39 (by decide) (by decide) (by decide +kernel) (by decide) (by decide +kernel) (by rw [show (cq_fix 117).2.2 = 14 by decide +kernel]; exact he)).2
  have y1 := hd_ra I (c := 87) (i := hd_i h 117 c) (k := (hd_i h 117 c).toInt.toNat) 0 2100 (by decide) (by decide) (by decide +kernel) (by decide +kernel) (by decide) (by decide +kernel) (by omega) (by rw [show (cq_fix 87).2.2 = 40 by decide +kernel]; omega)
  have y2 := hd_ra I (c := 87) (i := hd_i h 117 e) (k := (hd_i h 117 e).toInt.toNat) 0 2100 (by decide) (by decide) (by decide +kernel) (by decide +kernel) (by decide) (by decide +kernel) (by omega) (by rw [show (cq_fix 87).2.2 = 40 by decide +kernel]; omega)
  refine am_ev.step rfl rfl ?_
  refine am_ev.step rfl rfl ?_
  refine am_ev.step rfl (hd_gf O f18) ?_
  refine am_ev.step rfl rfl ?_
  refine am_ev.step rfl (hd_gf O f56) ?_
  refine am_ev.step rfl rfl ?_
  refine am_ev.step rfl (hd_ia r1) ?_
  refine am_ev.step rfl (hd_ia y1) ?_
  refine am_ev.step rfl rfl ?_
  refine am_ev.step rfl (hd_gf O f18) ?_
  refine am_ev.step rfl rfl ?_
  refine am_ev.step rfl (hd_gf O f56) ?_
  refine am_ev.step rfl rfl ?_
  refine am_ev.step rfl (hd_ia r2) ?_
  refine am_ev.step rfl (hd_ia y2) ?_
  refine am_ev.step rfl rfl ?_
  refine am_ev.max (rr := []) rfl (Or.inl ⟨_, rfl⟩) rfl rfl (by decide) ?_
  exact am_ev.reti rfl rfl rfl
/-- what is behind member i, if member j comes next and those of L are left -/
def hd_RB (hB hc : am_H) (L i j : Nat) : Int32 := if hd_bt L j = true ∨ hd_i hB 125 (14 * (hd_i hB 123 i).toInt.toNat + (hd_i hB 123 j).toInt.toNat) = 0 then hd_NV else if hd_i hc 124 (10 * hd_clr L j + j) < hd_NV then hd_sb hB (hd_i hB 123 i).toInt.toNat (hd_i hB 123 j).toInt.toNat + hd_i hc 124 (10 * hd_clr L j + j) else hd_NV
theorem hd_O.i {hB hc : am_H} (O : hd_O hB hc) {c j : Nat} (h1 : c ≠ 124) (h2 : c ≠ 118) (h3 : c ≠ 78) : hd_i hc c j = hd_i hB c j := by
  unfold hd_i
  rw [O.2 c j h1 h2 (fun z => h3 z.1)]
theorem hd_O.sb {hB hc : am_H} (O : hd_O hB hc) (c d : Nat) : hd_sb hc c d = hd_sb hB c d := by
  unfold hd_sb
  rw [O.i (c := 117) (by decide) (by decide) (by decide), O.i (c := 117) (by decide) (by decide) (by decide), O.i (c := 87) (by decide) (by decide) (by decide), O.i (c := 87) (by decide) (by decide) (by decide)]
theorem hd_lk {a b : Int32} {m : Nat} {k : Int32} (hk : k.toInt = m) (m1 : m ≤ 100) (h1 : 0 ≤ a.toInt) (h2 : a.toInt ≤ 1100) (h3 : 0 ≤ b.toInt) (h4 : b.toInt ≤ 1000) : (k * a + b).toInt = m * a.toInt + b.toInt := by
  have hm : (m : Int) * a.toInt ≤ 100 * 1100 := by
    have := Int.mul_le_mul (show (m : Int) ≤ 100 by omega) h2 h1 (by omega)
    exact this
  have h0 : 0 ≤ (m : Int) * a.toInt := Int.mul_nonneg (by omega) h1
  have e : (k * a).toInt = m * a.toInt := hd_toM (by rw [hk]) (by omega) (by omega)
  rw [hd_toA (by omega) (by omega) (by omega) (by omega), e]
/-- restBehind -/
theorem hd_243 {hB hc : am_H} {ii jj ll : Int32} {L i j d : Nat} (Ic : cq_Inv none hc) (O : hd_O hB hc) (hL : L < 1024) (hi : i < 10) (hj : j < 10) (eL : ll.toInt = L) (ei : ii.toInt = i) (ej : jj.toInt = j) : am_ev (d + 2) 243 0 (am_ent [.ref 78, .int ii, .int jj, .int ll] (am_in 243).2.2.1) [] hc (some (.int (hd_RB hB hc L i j)), hc) := by
  have OO := cq_o78 Ic
  have f65 := hd_f78 Ic 65 123 (by decide +kernel) (by decide +kernel)
  have f66 := hd_f78 Ic 66 124 (by decide +kernel) (by decide +kernel)
  have f67 := hd_f78 Ic 67 125 (by decide +kernel) (by decide +kernel)
  have a1 := hd_ra Ic (c := 123) (i := ii) (k := i) 0 13 (by decide) (by decide) (by decide +kernel) (by decide +kernel) (by decide) (by decide +kernel) ei (by rw [show (cq_fix 123).2.2 = 10 by decide +kernel]; exact hi)
  have a2 := hd_ra Ic (c := 123) (i := jj) (k := j) 0 13 (by decide) (by decide) (by decide +kernel) (by decide +kernel) (by decide) (by decide +kernel) ej (by rw [show (cq_fix 123).2.2 = 10 by decide +kernel]; exact hj)
  have b1 := (hd_iA Ic (c := 123) (j := i) 0 13 (by decide) (by decide) (by decide +kernel) (by decide) (by decide +kernel) (by rw [show (cq_fix 123).2.2 = 10 by decide +kernel]; exact hi)).2
  have b2 := (hd_iA Ic (c := 123) (j := j) 0 13 (by decide) (by decide) (by decide +kernel) (by decide) (by decide +kernel) (by rw [show (cq_fix 123).2.2 = 10 by decide +kernel]; exact hj)).2
  have m1 : hd_i hc 123 i = hd_i hB 123 i := O.i (by decide) (by decide) (by decide)
  have m2 : hd_i hc 123 j = hd_i hB 123 j := O.i (by decide) (by decide) (by decide)
  rw [m1] at a1 b1
  rw [m2] at a2 b2
  obtain ⟨bt1, bt2⟩ := hd_bits hL hj eL ej
  obtain ⟨n1, n2, n3⟩ := hd_nats hL hj
  generalize hci : hd_i hB 123 i = ci at a1 b1
  generalize hcj : hd_i hB 123 j = cj at a2 b2
  have head : ∀ x, am_ev (d + 2) 243 21 [.ref 78, .int ii, .int jj, .int ll, .int ci, .int cj, am_ph] [.int ((ll >>> (jj &&& 31)) &&& Int32.ofInt 1)] hc x → am_ev (d + 2) 243 0 (am_ent [.ref 78, .int ii, .int jj, .int ll] (am_in 243).2.2.1) [] hc x := fun x q => by
    refine am_ev.step rfl rfl ?_
    refine am_ev.step rfl (hd_gf OO f65) ?_
    refine am_ev.step rfl rfl ?_
    refine am_ev.step rfl (hd_ia a1) ?_
    refine am_ev.step rfl rfl ?_
    refine am_ev.step rfl rfl ?_
    refine am_ev.step rfl (hd_gf OO f65) ?_
    refine am_ev.step rfl rfl ?_
    refine am_ev.step rfl (hd_ia a2) ?_
    refine am_ev.step rfl rfl ?_
    refine am_ev.step rfl rfl ?_
    refine am_ev.step rfl rfl ?_
    refine am_ev.step rfl rfl ?_
    refine am_ev.step rfl rfl ?_
    exact am_ev.step rfl rfl q
  have nv : am_ev (d + 2) 243 40 [.ref 78, .int ii, .int jj, .int ll, .int ci, .int cj, am_ph] [] hc (some (.int hd_NV), hc) := by
    refine am_ev.step rfl rfl ?_
    exact am_ev.reti rfl rfl rfl
  by_cases c1 : hd_bt L j = true
  · have : hd_RB hB hc L i j = hd_NV := by
      unfold hd_RB
      rw [if_pos (Or.inl c1)]
    rw [this]
    exact head _ (am_ev.step (pc' := 40) (ls' := [.ref 78, .int ii, .int jj, .int ll, .int ci, .int cj, am_ph]) (st' := []) (h' := hc) rfl (if_pos (bt1.2 c1)) nv)
  · have nb : ¬ ((ll >>> (jj &&& 31)) &&& Int32.ofInt 1 = 0) := fun z => c1 (bt1.1 z)
    have ix : ((Int8.ofInt 14).toInt32 * ci + cj).toInt = 14 * ci.toInt + cj.toInt := hd_lk (m := 14) (by decide) (by decide) (by omega) (by omega) (by omega) (by omega)
    have tS := hd_iA Ic (c := 125) (j := 14 * ci.toInt.toNat + cj.toInt.toNat) 0 1 (by decide) (by decide) (by decide +kernel) (by decide) (by decide +kernel) (by rw [show (cq_fix 125).2.2 = 196 by decide +kernel]; omega)
    have rS : am_rd hc 125 ((Int8.ofInt 14).toInt32 * ci + cj) (fun c => Nat.beq c 1 || Nat.beq c 2) = some (.int (hd_i hB 125 (14 * ci.toInt.toNat + cj.toInt.toNat))) := by
      rw [hd_rd Ic (by decide) (by decide) (by decide +kernel) (by decide +kernel) (by omega) (by rw [show (cq_fix 125).2.2 = 196 by decide +kernel]; omega), ix, show (14 * ci.toInt + cj.toInt).toNat = 14 * ci.toInt.toNat + cj.toInt.toNat by omega, tS.1, O.i (by decide) (by decide) (by decide)]
    have to37 : ∀ x, am_ev (d + 2) 243 37 [.ref 78, .int ii, .int jj, .int ll, .int ci, .int cj, am_ph] [.int (hd_i hB 125 (14 * ci.toInt.toNat + cj.toInt.toNat))] hc x → am_ev (d + 2) 243 0 (am_ent [.ref 78, .int ii, .int jj, .int ll] (am_in 243).2.2.1) [] hc x := fun x q => head x (by
      refine am_ev.step (pc' := 24) (ls' := [.ref 78, .int ii, .int jj, .int ll, .int ci, .int cj, am_ph]) (st' := []) (h' := hc) rfl (if_neg nb) ?_
      refine am_ev.step rfl rfl ?_
      refine am_ev.step rfl (hd_gf OO f67) ?_
      refine am_ev.step rfl rfl ?_
      refine am_ev.step rfl rfl ?_
      refine am_ev.step rfl rfl ?_
      refine am_ev.step rfl rfl ?_
      refine am_ev.step rfl rfl ?_
      exact am_ev.step rfl (hd_ba rS) q)
    by_cases c2 : hd_i hB 125 (14 * ci.toInt.toNat + cj.toInt.toNat) = 0
    · have : hd_RB hB hc L i j = hd_NV := by
        unfold hd_RB
        rw [hci, hcj, if_pos (Or.inr c2)]
      rw [this]
      exact to37 _ (am_ev.step (pc' := 40) (ls' := [.ref 78, .int ii, .int jj, .int ll, .int ci, .int cj, am_ph]) (st' := []) (h' := hc) rfl (if_pos c2) nv)
    · have eC := hd_ofNI (show hd_clr L j < 1024 by omega)
      have iy : ((Int8.ofInt 10).toInt32 * Int32.ofNat (hd_clr L j) + jj).toInt = ((10 * hd_clr L j + j : Nat) : Int) := by
        rw [hd_lk (m := 10) (by decide) (by decide) (by omega) (by omega) (by omega) (by omega), eC, ej]
        omega
      have rT := hd_ra Ic (c := 124) (k := 10 * hd_clr L j + j) (-2147483648) 2147483647 (by decide) (by decide) (by decide +kernel) (by decide +kernel) (by decide) (by decide +kernel) iy (by rw [show (cq_fix 124).2.2 = 10240 by decide +kernel]; omega)
      have to68 : ∀ x, am_ev (d + 2) 243 68 [.ref 78, .int ii, .int jj, .int ll, .int ci, .int cj, .int (hd_i hc 124 (10 * hd_clr L j + j))] [.int hd_NV, .int (hd_i hc 124 (10 * hd_clr L j + j))] hc x → am_ev (d + 2) 243 0 (am_ent [.ref 78, .int ii, .int jj, .int ll] (am_in 243).2.2.1) [] hc x := fun x q => to37 x (by
        refine am_ev.step (pc' := 44) (ls' := [.ref 78, .int ii, .int jj, .int ll, .int ci, .int cj, am_ph]) (st' := []) (h' := hc) rfl (if_neg c2) ?_
        refine am_ev.step rfl rfl ?_
        refine am_ev.step rfl (hd_gf OO f66) ?_
        refine am_ev.step rfl rfl ?_
        refine am_ev.step rfl rfl ?_
        refine am_ev.step rfl rfl ?_
        refine am_ev.step rfl rfl ?_
        refine am_ev.step rfl rfl ?_
        refine am_ev.step rfl rfl ?_
        refine am_ev.step rfl rfl ?_
        refine am_ev.step (pc' := 57) (ls' := [.ref 78, .int ii, .int jj, .int ll, .int ci, .int cj, am_ph]) (st' := [.int (Int32.ofNat (hd_clr L j)), .int (Int8.ofInt 10).toInt32, .ref 124]) (h' := hc) rfl (by rw [← bt2]; rfl) ?_
        refine am_ev.step rfl rfl ?_
        refine am_ev.step rfl rfl ?_
        refine am_ev.step rfl rfl ?_
        refine am_ev.step rfl (hd_ia rT) ?_
        refine am_ev.step rfl rfl ?_
        refine am_ev.step rfl rfl ?_
        exact am_ev.step rfl rfl q)
      have nor : ¬ (hd_bt L j = true ∨ hd_i hB 125 (14 * (hd_i hB 123 i).toInt.toNat + (hd_i hB 123 j).toInt.toNat) = 0) := by
        rw [hci, hcj]
        exact fun z => z.elim c1 c2
      by_cases c3 : hd_i hc 124 (10 * hd_clr L j + j) < hd_NV
      · have : hd_RB hB hc L i j = hd_sb hB ci.toInt.toNat cj.toInt.toNat + hd_i hc 124 (10 * hd_clr L j + j) := by
          unfold hd_RB
          rw [if_neg nor, if_pos c3, hci, hcj]
        rw [this]
        have sb := hd_244 (d := d) (c := ci.toInt.toNat) (e := cj.toInt.toNat) Ic (cc := ci) (dd := cj) (by omega) (by omega) (by omega) (by omega)
        rw [O.sb] at sb
        refine to68 _ ?_
        refine am_ev.step (pc' := 77) (ls' := [.ref 78, .int ii, .int jj, .int ll, .int ci, .int cj, .int (hd_i hc 124 (10 * hd_clr L j + j))]) (st' := []) (h' := hc) rfl (if_pos c3) ?_
        refine am_ev.step rfl rfl ?_
        refine am_ev.step rfl rfl ?_
        refine am_ev.step rfl rfl ?_
        refine hd_cv 244 (as := [.ref 78, .int ci, .int cj]) (rr := []) rfl (Or.inr (Or.inl ⟨_, rfl⟩)) rfl (by decide) rfl rfl (by decide) OO (Nat.le_of_ble_eq_true rfl) sb ?_
        refine am_ev.step rfl rfl ?_
        refine am_ev.step rfl rfl ?_
        exact am_ev.reti rfl rfl rfl
      · have : hd_RB hB hc L i j = hd_NV := by
          unfold hd_RB
          rw [if_neg nor, if_neg c3]
        rw [this]
        refine to68 _ ?_
        refine am_ev.step (pc' := 71) (ls' := [.ref 78, .int ii, .int jj, .int ll, .int ci, .int cj, .int (hd_i hc 124 (10 * hd_clr L j + j))]) (st' := []) (h' := hc) rfl (if_neg c3) ?_
        refine am_ev.step rfl rfl ?_
        refine am_ev.step rfl rfl ?_
        exact am_ev.reti rfl rfl rfl
end
section
/-! BY HAND, 16: order: the table -/
theorem hd_I124 {h : am_H} (I : cq_Inv none h) {j : Nat} {x : Int32} : cq_Inv none (am_put h 124 j (.int x)) := by
  refine cq_Inv_put I (by decide) (by have := I.lo; omega) (fun _ => ?_) (fun z => by omega) (fun z => by omega) (fun z => by omega) (fun z => by omega) (by decide)
  have et : cq_tyOf 124 (h.2.2.1 124) j = (1, -2147483648, 2147483647, 0, 0, 0) := by
    unfold cq_tyOf cq_ty
    rw [show Nat.blt 124 130 = true by decide, show cq_isA 124 = true by decide +kernel, show ((Nat.beq 124 81 || Nat.beq 124 83) && Nat.beq j 1) = false by rw [show (Nat.beq 124 81 || Nat.beq 124 83) = false by decide]; rfl]
    show cq_ar 124 = _
    decide +kernel
  rw [et]
  have z1 := x.le_toInt
  have z2 := x.toInt_lt
  exact ⟨x, rfl, by omega, by omega⟩
theorem hd_O.p124 {hB hc : am_H} (O : hd_O hB hc) {j : Nat} {v : Value} : hd_O hB (am_put hc 124 j v) := ⟨O.1, fun c j' h1 h2 h3 => by rw [hd_pv (by omega)]; exact O.2 c j' h1 h2 h3⟩
/-- a place of the table is as good as one that comes next -/
def hd_D (hB hc : am_H) (n L i : Nat) : Prop := L ≠ 0 → hd_i hc 124 (10 * L + i) < hd_NV → ∃ j, j < n ∧ hd_RB hB hc L i j = hd_i hc 124 (10 * L + i)
theorem hd_RB.put {hB hc : am_H} {L i j L' q : Nat} {v : Value} (hL : L' < 1024) (hj : j < 10) (hq : 10 * L' ≤ q) : hd_RB hB (am_put hc 124 q v) L' i j = hd_RB hB hc L' i j := by
  unfold hd_RB
  by_cases c1 : hd_bt L' j = true
  · rw [if_pos (Or.inl c1), if_pos (Or.inl c1)]
  · have c0 : hd_bt L' j = false := by
      cases z : hd_bt L' j with
      | false => rfl
      | true => exact absurd z c1
    have := ((hd_nats hL hj).2.2 c0).1
    rw [hd_iv (show ¬ (124 = 124 ∧ 10 * hd_clr L' j + j = q) by omega)]
theorem hd_D.put {hB hc : am_H} {n L' i' q : Nat} {v : Value} (D : hd_D hB hc n L' i') (hL : L' < 1024) (n10 : n ≤ 10) (hq : 10 * L' ≤ q) (hne : 10 * L' + i' ≠ q) : hd_D hB (am_put hc 124 q v) n L' i' := by
  intro z1 z2
  rw [hd_iv (by omega)] at z2
  obtain ⟨j, hj, e⟩ := D z1 z2
  refine ⟨j, hj, ?_⟩
  rw [hd_RB.put (L := 0) hL (by omega) hq, hd_iv (by omega)]
  exact e
section HDX
variable {hB : am_H} {nn aa ss : Int32} {n d : Nat}
/-- the members that may come next -/
theorem hd_or3 (n10 : n ≤ 10) (en : nn.toInt = n) {L i : Nat} {ll ii : Int32} (hL : L < 1024) (hi : i < 10) (eL : ll.toInt = L) (ei : ii.toInt = i) {hc : am_H} (Ic : cq_Inv none hc) (O : hd_O hB hc) (v8 : Value) : ∀ (m j : Nat) (jj be : Int32), m + j = n → jj.toInt = j → ∃ (be' j2 : Int32), (be' = be ∨ ∃ j', j' < n ∧ hd_RB hB hc L i j' = be') ∧ ∀ x, am_ev (d + 3) 239 186 [.ref 78, .int ss, .int nn, .int aa, .int ll, .int ii, .int be', .int j2, v8] [] hc x → am_ev (d + 3) 239 147 [.ref 78, .int ss, .int nn, .int aa, .int ll, .int ii, .int be, .int jj, v8] [] hc x := by
  intro m
  induction m with
  | zero =>
    intro j jj be hm ej
    refine ⟨be, jj, Or.inl rfl, fun x q => ?_⟩
    refine am_ev.step rfl rfl ?_
    refine am_ev.step rfl rfl ?_
    exact am_ev.step (pc' := 186) (ls' := [.ref 78, .int ss, .int nn, .int aa, .int ll, .int ii, .int be, .int jj, v8]) (st' := []) (h' := hc) rfl (if_pos (Int32.le_iff_toInt_le.2 (by omega))) q
  | succ m ih =>
    intro j jj be hm ej
    have nle : ¬ (nn ≤ jj) := fun z => by
      have := Int32.le_iff_toInt_le.1 z
      omega
    have to160 : ∀ x, am_ev (d + 3) 239 160 [.ref 78, .int ss, .int nn, .int aa, .int ll, .int ii, .int be, .int jj, v8] [.int ((ll >>> (ii &&& 31)) &&& Int32.ofInt 1)] hc x → am_ev (d + 3) 239 147 [.ref 78, .int ss, .int nn, .int aa, .int ll, .int ii, .int be, .int jj, v8] [] hc x := fun x q => by
      refine am_ev.step rfl rfl ?_
      refine am_ev.step rfl rfl ?_
      refine am_ev.step (pc' := 153) (ls' := [.ref 78, .int ss, .int nn, .int aa, .int ll, .int ii, .int be, .int jj, v8]) (st' := []) (h' := hc) rfl (if_neg nle) ?_
      refine am_ev.step rfl rfl ?_
      refine am_ev.step rfl rfl ?_
      refine am_ev.step rfl rfl ?_
      refine am_ev.step rfl rfl ?_
      exact am_ev.step rfl rfl q
    by_cases c1 : (ll >>> (ii &&& 31)) &&& Int32.ofInt 1 = 0
    · have evr := hd_243 (hB := hB) (d := d) Ic O hL hi (show j < 10 by omega) eL ei ej
      obtain ⟨be', j2, hb, Q⟩ := ih (j + 1) (jj + Int32.ofInt 1) (if hd_RB hB hc L i j < be then hd_RB hB hc L i j else be) (by omega) (hd_inc ej (by omega))
      refine ⟨be', j2, ?_, fun x q => to160 x ?_⟩
      · rcases hb with z | z
        · by_cases c2 : hd_RB hB hc L i j < be
          · rw [if_pos c2] at z
            exact Or.inr ⟨j, by omega, z.symm⟩
          · rw [if_neg c2] at z
            exact Or.inl z
        · exact Or.inr z
      · refine am_ev.step (pc' := 163) (ls' := [.ref 78, .int ss, .int nn, .int aa, .int ll, .int ii, .int be, .int jj, v8]) (st' := []) (h' := hc) rfl (if_pos c1) ?_
        refine am_ev.step rfl rfl ?_
        refine am_ev.step rfl rfl ?_
        refine am_ev.step rfl rfl ?_
        refine am_ev.step rfl rfl ?_
        refine am_ev.step rfl rfl ?_
        refine hd_cv 243 (as := [.ref 78, .int ii, .int jj, .int ll]) (rr := [.int be]) rfl (Or.inr (Or.inl ⟨_, rfl⟩)) rfl (by decide) rfl rfl (Nat.le_of_ble_eq_true rfl) (cq_o78 Ic) (Nat.le_of_ble_eq_true rfl) evr ?_
        refine am_ev.min (rr := []) rfl (Or.inl ⟨_, rfl⟩) rfl rfl (by decide) ?_
        refine am_ev.step rfl rfl ?_
        refine am_ev.step rfl rfl ?_
        exact am_ev.step rfl rfl (Q x q)
    · exact ⟨be, jj, Or.inl rfl, fun x q => to160 x (am_ev.step (pc' := 186) (ls' := [.ref 78, .int ss, .int nn, .int aa, .int ll, .int ii, .int be, .int jj, v8]) (st' := []) (h' := hc) rfl (if_neg c1) q)⟩
/-- a row of the table -/
theorem hd_or2 (n10 : n ≤ 10) (en : nn.toInt = n) {L : Nat} {ll : Int32} (hL : L < 1024) (eL : ll.toInt = L) (v8 : Value) : ∀ (m i : Nat) (ii : Int32) (v6 v7 : Value) (hc : am_H), m + i = n → ii.toInt = i → cq_Inv none hc → hd_O hB hc → (∀ L' i', i' < n → 10 * L' + i' < 10 * L + i → hd_D hB hc n L' i') → ∃ (hc' : am_H) (v5 v6' v7' : Value), cq_Inv none hc' ∧ hd_O hB hc' ∧ (∀ L' i', i' < n → L' ≤ L → hd_D hB hc' n L' i') ∧ ∀ x, am_ev (d + 3) 239 207 [.ref 78, .int ss, .int nn, .int aa, .int ll, v5, v6', v7', v8] [] hc' x → am_ev (d + 3) 239 124 [.ref 78, .int ss, .int nn, .int aa, .int ll, .int ii, v6, v7, v8] [] hc x := by
  intro m
  induction m with
  | zero =>
    intro i ii v6 v7 hc hm ei Ic O S
    refine ⟨hc, .int ii, v6, v7, Ic, O, fun L' i' h1 h2 => S L' i' h1 (by omega), fun x q => ?_⟩
    refine am_ev.step rfl rfl ?_
    refine am_ev.step rfl rfl ?_
    exact am_ev.step (pc' := 207) (ls' := [.ref 78, .int ss, .int nn, .int aa, .int ll, .int ii, v6, v7, v8]) (st' := []) (h' := hc) rfl (if_pos (Int32.le_iff_toInt_le.2 (by omega))) q
  | succ m ih =>
    intro i ii v6 v7 hc hm ei Ic O S
    have nle : ¬ (nn ≤ ii) := fun z => by
      have := Int32.le_iff_toInt_le.1 z
      omega
    have go : ∀ be0 : Int32, (L ≠ 0 → be0 = hd_NV) → (∀ x, am_ev (d + 3) 239 142 [.ref 78, .int ss, .int nn, .int aa, .int ll, .int ii, v6, v7, v8] [.int be0] hc x → am_ev (d + 3) 239 124 [.ref 78, .int ss, .int nn, .int aa, .int ll, .int ii, v6, v7, v8] [] hc x) → ∃ (hc' : am_H) (v5 v6' v7' : Value), cq_Inv none hc' ∧ hd_O hB hc' ∧ (∀ L' i', i' < n → L' ≤ L → hd_D hB hc' n L' i') ∧ ∀ x, am_ev (d + 3) 239 207 [.ref 78, .int ss, .int nn, .int aa, .int ll, v5, v6', v7', v8] [] hc' x → am_ev (d + 3) 239 124 [.ref 78, .int ss, .int nn, .int aa, .int ll, .int ii, v6, v7, v8] [] hc x := fun be0 hb0 pre => by
      obtain ⟨be, j2, hb, Q⟩ := hd_or3 (hB := hB) (d := d) (ss := ss) (aa := aa) n10 en hL (show i < 10 by omega) eL ei Ic O v8 n 0 (Int32.ofInt 0) be0 (by omega) (by decide)
      have ix : ((Int8.ofInt 10).toInt32 * ll + ii).toInt = ((10 * L + i : Nat) : Int) := by
        rw [hd_lk (m := 10) (by decide) (by decide) (by omega) (by omega) (by omega) (by omega), eL, ei]
        omega
      have w124 : am_wr hc 124 ((Int8.ofInt 10).toInt32 * ll + ii) 0 (.int be) = some (am_put hc 124 (10 * L + i) (.int be)) := by
        rw [hd_wrS (ln := 10240) (by have := Ic.lo; omega) (by rw [Ic.fx 124 (by decide) (by decide)]; decide +kernel) (by omega) (by omega), show ((Int8.ofInt 10).toInt32 * ll + ii).toInt.toNat = 10 * L + i by omega]
      have f66 := hd_f78 Ic 66 124 (by decide +kernel) (by decide +kernel)
      obtain ⟨hc', v5, v6', v7', I', O', S', Q'⟩ := ih (i + 1) (ii + Int32.ofInt 1) (.int be) (.int j2) (am_put hc 124 (10 * L + i) (.int be)) (by omega) (hd_inc ei (by omega)) (hd_I124 Ic) O.p124 (fun L' i' h1 h2 => by
        by_cases e : 10 * L' + i' = 10 * L + i
        · have e1 : L' = L := by omega
          have e2 : i' = i := by omega
          subst e1 e2
          intro z1 z2
          rw [hd_ip] at z2 ⊢
          rcases hb with z | ⟨j', hj', z⟩
          · rw [hb0 z1] at z
            rw [z] at z2
            exact absurd (Int32.le_iff_toInt_le.2 (Int.le_refl _)) (hd_nle z2)
          · exact ⟨j', hj', by rw [hd_RB.put (L := 0) hL (by omega) (by omega)]; exact z⟩
        · exact (S L' i' h1 (by omega)).put (by omega) n10 (by omega) e)
      refine ⟨hc', v5, v6', v7', I', O', S', fun x q => pre x ?_⟩
      refine am_ev.step rfl rfl ?_
      refine am_ev.step rfl rfl ?_
      refine am_ev.step rfl rfl ?_
      refine Q x ?_
      refine am_ev.step rfl rfl ?_
      refine am_ev.step rfl (hd_gf (cq_o78 Ic) f66) ?_
      refine am_ev.step rfl rfl ?_
      refine am_ev.step rfl rfl ?_
      refine am_ev.step rfl rfl ?_
      refine am_ev.step rfl rfl ?_
      refine am_ev.step rfl rfl ?_
      refine am_ev.step rfl rfl ?_
      refine am_ev.step rfl (hd_is w124) ?_
      refine am_ev.step rfl rfl ?_
      exact am_ev.step rfl rfl (Q' x q)
    have to132 : ∀ x, am_ev (d + 3) 239 132 [.ref 78, .int ss, .int nn, .int aa, .int ll, .int ii, v6, v7, v8] [.int ll] hc x → am_ev (d + 3) 239 124 [.ref 78, .int ss, .int nn, .int aa, .int ll, .int ii, v6, v7, v8] [] hc x := fun x q => by
      refine am_ev.step rfl rfl ?_
      refine am_ev.step rfl rfl ?_
      refine am_ev.step (pc' := 130) (ls' := [.ref 78, .int ss, .int nn, .int aa, .int ll, .int ii, v6, v7, v8]) (st' := []) (h' := hc) rfl (if_neg nle) ?_
      exact am_ev.step rfl rfl q
    by_cases c : ll = 0
    · refine go (Int32.ofInt 0) (fun z => ?_) (fun x q => to132 x ?_)
      · exfalso
        rw [c, show (0 : Int32).toInt = 0 by decide] at eL
        omega
      · refine am_ev.step (pc' := 135) (ls' := [.ref 78, .int ss, .int nn, .int aa, .int ll, .int ii, v6, v7, v8]) (st' := []) (h' := hc) rfl (if_pos c) ?_
        refine am_ev.step rfl rfl ?_
        exact am_ev.step rfl rfl q
    · refine go hd_NV (fun _ => rfl) (fun x q => to132 x ?_)
      refine am_ev.step (pc' := 139) (ls' := [.ref 78, .int ss, .int nn, .int aa, .int ll, .int ii, v6, v7, v8]) (st' := []) (h' := hc) rfl (if_neg c) ?_
      exact am_ev.step rfl rfl q
/-- the table -/
theorem hd_or1 (n10 : n ≤ 10) (en : nn.toInt = n) {A : Nat} (hA : A < 1024) (eA : aa.toInt = A) (v8 : Value) : ∀ (m L : Nat) (ll : Int32) (v5 v6 v7 : Value) (hc : am_H), m + L = A + 1 → ll.toInt = L → cq_Inv none hc → hd_O hB hc → (∀ L' i', i' < n → L' < L → hd_D hB hc n L' i') → ∃ (hc' : am_H) (v4 v5' v6' v7' : Value), cq_Inv none hc' ∧ hd_O hB hc' ∧ (∀ L' i', i' < n → L' ≤ A → hd_D hB hc' n L' i') ∧ ∀ x, am_ev (d + 3) 239 213 [.ref 78, .int ss, .int nn, .int aa, v4, v5', v6', v7', v8] [] hc' x → am_ev (d + 3) 239 115 [.ref 78, .int ss, .int nn, .int aa, .int ll, v5, v6, v7, v8] [] hc x := by
  intro m
  induction m with
  | zero =>
    intro L ll v5 v6 v7 hc hm eL Ic O S
    refine ⟨hc, .int ll, v5, v6, v7, Ic, O, fun L' i' h1 h2 => S L' i' h1 (by omega), fun x q => ?_⟩
    refine am_ev.step rfl rfl ?_
    refine am_ev.step rfl rfl ?_
    exact am_ev.step (pc' := 213) (ls' := [.ref 78, .int ss, .int nn, .int aa, .int ll, v5, v6, v7, v8]) (st' := []) (h' := hc) rfl (if_pos (Int32.lt_iff_toInt_lt.2 (by omega))) q
  | succ m ih =>
    intro L ll v5 v6 v7 hc hm eL Ic O S
    have nlt : ¬ (aa < ll) := fun z => by
      have := Int32.lt_iff_toInt_lt.1 z
      omega
    obtain ⟨h1, u5, u6, u7, I1, O1, S1, Q1⟩ := hd_or2 (d := d) (ss := ss) (aa := aa) n10 en (show L < 1024 by omega) eL v8 n 0 (Int32.ofInt 0) v6 v7 hc (by omega) (by decide) Ic O (fun L' i' h1 h2 => S L' i' h1 (by omega))
    obtain ⟨hc', v4, v5', v6', v7', I', O', S', Q'⟩ := ih (L + 1) (ll + Int32.ofInt 1) u5 u6 u7 h1 (by omega) (hd_inc eL (by omega)) I1 O1 (fun L' i' h1 h2 => S1 L' i' h1 (by omega))
    refine ⟨hc', v4, v5', v6', v7', I', O', S', fun x q => ?_⟩
    refine am_ev.step rfl rfl ?_
    refine am_ev.step rfl rfl ?_
    refine am_ev.step (pc' := 121) (ls' := [.ref 78, .int ss, .int nn, .int aa, .int ll, v5, v6, v7, v8]) (st' := []) (h' := hc) rfl (if_neg nlt) ?_
    refine am_ev.step rfl rfl ?_
    refine am_ev.step rfl rfl ?_
    refine Q1 x ?_
    refine am_ev.step rfl rfl ?_
    exact am_ev.step rfl rfl (Q' x q)
end HDX
end
section
/-! BY HAND, 17: order: the best, and the way back -/
theorem hd_tyA {h : am_H} (I : cq_Inv none h) {c j : Nat} (h1 : 40 ≤ c) (h2 : c < 130) (hf : (cq_fix c).1 = 1) (hs : (Nat.beq c 81 || Nat.beq c 83) = false) : cq_tyOf c (h.2.2.1 c) j = cq_ar c := by
  unfold cq_tyOf cq_ty cq_isA
  rw [show Nat.blt c 130 = true from Nat.ble_eq_true_of_le h2, hf, hs]
  rfl
theorem hd_ty78 {h : am_H} (I : cq_Inv none h) {b : Nat} : cq_tyOf 78 (h.2.2.1 78) b = cq_cl 13 b := by
  unfold cq_tyOf cq_ty cq_isA cq_ob
  have e1 : Nat.blt 78 130 = true := by decide
  have e2 : Nat.beq (cq_fix 78).1 1 = false := by decide +kernel
  have e3 : (Nat.beq 78 54 && Nat.blt b 3) = false := by rw [show Nat.beq 78 54 = false by decide]; rfl
  have e4 : (cq_fix 78).2.1 = 13 := by decide +kernel
  rw [e1, e2, e3, e4]
  rfl
theorem hd_I78 {h : am_H} (I : cq_Inv none h) {b : Nat} {x : Int32} (l u : Int) (ht : cq_cl 13 b = (1, l, u, 0, 0, 0)) (h0 : l ≤ x.toInt) (h1 : x.toInt ≤ u) : cq_Inv none (am_put h 78 b (.int x)) := by
  refine cq_Inv_put I (by decide) (by have := I.lo; omega) (fun _ => ?_) (fun z => by omega) (fun z => by omega) (fun z => by omega) (fun z => by omega) (by decide)
  rw [hd_ty78 I, ht]
  exact ⟨x, rfl, h0, h1⟩
theorem hd_I118 {h : am_H} (I : cq_Inv none h) {j : Nat} {x : Int32} (h0 : 0 ≤ x.toInt) (h1 : x.toInt ≤ 13) : cq_Inv none (am_put h 118 j (.int x)) := by
  refine cq_Inv_put I (by decide) (by have := I.lo; omega) (fun _ => ?_) (fun z => by omega) (fun z => by omega) (fun z => by omega) (fun z => by omega) (by decide)
  rw [hd_tyA I (by decide) (by decide) (by decide +kernel) (by decide), show cq_ar 118 = (1, 0, 13, 0, 0, 0) by decide +kernel]
  exact ⟨x, rfl, h0, h1⟩
theorem hd_O.row {hB hc : am_H} (O : hd_O hB hc) {j : Nat} {v w : Value} : hd_O hB (am_put (am_put hc 118 j v) 78 55 w) := ⟨O.1, fun c j' h1 h2 h3 => by rw [hd_pv (by omega), hd_pv (by omega)]; exact O.2 c j' h1 h2 h3⟩
theorem hd_O.p55 {hB hc : am_H} (O : hd_O hB hc) {w : Value} : hd_O hB (am_put hc 78 55 w) := ⟨O.1, fun c j' h1 h2 h3 => by rw [hd_pv (by omega)]; exact O.2 c j' h1 h2 h3⟩
/-- addRow -/
theorem hd_245 {hc : am_H} {r c : Int32} {d : Nat} (Ic : cq_Inv none hc) (h55 : hc.2.2.2 78 55 = .int r) (r0 : 0 ≤ r.toInt) (r1 : r.toInt < 14) (c0 : 0 ≤ c.toInt) (c1 : c.toInt ≤ 13) : am_ev d 245 0 (am_ent [.ref 78, .int c] (am_in 245).2.2.1) [] hc (none, am_put (am_put hc 118 r.toInt.toNat (.int c)) 78 55 (.int (r + Int32.ofInt 1))) ∧ cq_Inv none (am_put (am_put hc 118 r.toInt.toNat (.int c)) 78 55 (.int (r + Int32.ofInt 1))) ∧ (r + Int32.ofInt 1).toInt = r.toInt + 1 := by
  have O := cq_o78 Ic
  have f57 := hd_f78 Ic 57 118 (by decide +kernel) (by decide +kernel)
  have w118 : am_wr hc 118 r 0 (.int c) = some (am_put hc 118 r.toInt.toNat (.int c)) := hd_wrS (ln := 14) (by have := Ic.lo; omega) (by rw [Ic.fx 118 (by decide) (by decide)]; decide +kernel) r0 (by omega)
  have I1 := hd_I118 Ic (j := r.toInt.toNat) c0 c1
  have O1 := cq_o78 I1
  have rr : (r + Int32.ofInt 1).toInt = r.toInt + 1 := by
    rw [hd_toA (by omega) (by omega) (by decide) (by decide), show (Int32.ofInt 1).toInt = 1 by decide]
  refine ⟨?_, hd_I78 I1 0 14 (by decide +kernel) (by omega) (by omega), rr⟩
  refine am_ev.step rfl rfl ?_
  refine am_ev.step rfl (hd_gf O f57) ?_
  refine am_ev.step rfl rfl ?_
  refine am_ev.step rfl (hd_gf O h55) ?_
  refine am_ev.step rfl rfl ?_
  refine am_ev.step rfl (hd_is w118) ?_
  refine am_ev.step rfl rfl ?_
  refine am_ev.step rfl rfl ?_
  refine am_ev.step rfl (hd_gf O1 (show (am_put hc 118 r.toInt.toNat (.int c)).2.2.2 78 55 = .int r by rw [hd_pv (by omega)]; exact h55)) ?_
  refine am_ev.step rfl rfl ?_
  refine am_ev.step rfl rfl ?_
  refine am_ev.step rfl (hd_pf O1 rfl) ?_
  exact am_ev.retv rfl rfl
theorem hd_D.eq {hB h1 h2 : am_H} {n L i : Nat} (D : hd_D hB h1 n L i) (K : ∀ q, hd_i h2 124 q = hd_i h1 124 q) : hd_D hB h2 n L i := by
  intro z1 z2
  rw [K] at z2
  obtain ⟨j, hj, e⟩ := D z1 z2
  refine ⟨j, hj, ?_⟩
  unfold hd_RB at e ⊢
  rw [K, K]
  exact e
section HDY
variable {hB : am_H} {nn aa ss be : Int32} {n d A : Nat}
/-- a member's number -/
theorem hd_mem {hc : am_H} (Ic : cq_Inv none hc) {i : Nat} {ii : Int32} (hi : i < 10) (ei : ii.toInt = i) : am_rd hc 123 ii (fun c => Nat.beq c 0) = some (.int (hd_i hc 123 i)) ∧ 0 ≤ (hd_i hc 123 i).toInt ∧ (hd_i hc 123 i).toInt ≤ 13 := ⟨hd_ra Ic (c := 123) (i := ii) (k := i) 0 13 (by decide) (by decide) (by decide +kernel) (by decide +kernel) (by decide) (by decide +kernel) ei (by rw [show (cq_fix 123).2.2 = 10 by decide +kernel]; exact hi), (hd_iA Ic (c := 123) (j := i) 0 13 (by decide) (by decide) (by decide +kernel) (by decide) (by decide +kernel) (by rw [show (cq_fix 123).2.2 = 10 by decide +kernel]; exact hi)).2⟩
/-- a place of the table -/
theorem hd_t124 {hc : am_H} (Ic : cq_Inv none hc) (hA : A < 1024) (eA : aa.toInt = A) {i : Nat} {ii : Int32} (hi : i < 10) (ei : ii.toInt = i) : am_rd hc 124 ((Int8.ofInt 10).toInt32 * (aa &&& ((Int32.ofInt 1 <<< (ii &&& 31)) ^^^ Int32.ofInt (-1))) + ii) (fun c => Nat.beq c 0) = some (.int (hd_i hc 124 (10 * hd_clr A i + i))) := by
  obtain ⟨-, b2⟩ := hd_bits hA hi eA ei
  obtain ⟨n1, n2, n3⟩ := hd_nats hA hi
  have eC := hd_ofNI (show hd_clr A i < 1024 by omega)
  rw [b2]
  have iy : ((Int8.ofInt 10).toInt32 * Int32.ofNat (hd_clr A i) + ii).toInt = ((10 * hd_clr A i + i : Nat) : Int) := by
    rw [hd_lk (m := 10) (by decide) (by decide) (by omega) (by omega) (by omega) (by omega), eC, ei]
    omega
  exact hd_ra Ic (c := 124) (k := 10 * hd_clr A i + i) (-2147483648) 2147483647 (by decide) (by decide) (by decide +kernel) (by decide +kernel) (by decide) (by decide +kernel) iy (by rw [show (cq_fix 124).2.2 = 10240 by decide +kernel]; omega)
/-- the best of all -/
theorem hd_best (n10 : n ≤ 10) (en : nn.toInt = n) (hA : A < 1024) (eA : aa.toInt = A) {hc : am_H} (Ic : cq_Inv none hc) (v6 v7 v8 : Value) : ∀ (m i : Nat) (ii be : Int32), m + i = n → ii.toInt = i → (be = hd_NV ∨ ∃ i', i' < n ∧ hd_i hc 124 (10 * hd_clr A i' + i') = be) → ∃ (be' i2 : Int32), (be' = hd_NV ∨ ∃ i', i' < n ∧ hd_i hc 124 (10 * hd_clr A i' + i') = be') ∧ ∀ x, am_ev (d + 3) 239 259 [.ref 78, .int ss, .int nn, .int aa, .int be', .int i2, v6, v7, v8] [] hc x → am_ev (d + 3) 239 221 [.ref 78, .int ss, .int nn, .int aa, .int be, .int ii, v6, v7, v8] [] hc x := by
  intro m
  induction m with
  | zero =>
    intro i ii be hm ei hb
    refine ⟨be, ii, hb, fun x q => ?_⟩
    refine am_ev.step rfl rfl ?_
    refine am_ev.step rfl rfl ?_
    exact am_ev.step (pc' := 259) (ls' := [.ref 78, .int ss, .int nn, .int aa, .int be, .int ii, v6, v7, v8]) (st' := []) (h' := hc) rfl (if_pos (Int32.le_iff_toInt_le.2 (by omega))) q
  | succ m ih =>
    intro i ii be hm ei hb
    have nle : ¬ (nn ≤ ii) := fun z => by
      have := Int32.le_iff_toInt_le.1 z
      omega
    have rd := hd_t124 Ic hA eA (show i < 10 by omega) ei
    have f66 := hd_f78 Ic 66 124 (by decide +kernel) (by decide +kernel)
    obtain ⟨be', i2, hb', Q⟩ := ih (i + 1) (ii + Int32.ofInt 1) (if hd_i hc 124 (10 * hd_clr A i + i) < be then hd_i hc 124 (10 * hd_clr A i + i) else be) (by omega) (hd_inc ei (by omega)) (by
      by_cases c : hd_i hc 124 (10 * hd_clr A i + i) < be
      · rw [if_pos c]
        exact Or.inr ⟨i, by omega, rfl⟩
      · rw [if_neg c]
        exact hb)
    refine ⟨be', i2, hb', fun x q => ?_⟩
    refine am_ev.step rfl rfl ?_
    refine am_ev.step rfl rfl ?_
    refine am_ev.step (pc' := 227) (ls' := [.ref 78, .int ss, .int nn, .int aa, .int be, .int ii, v6, v7, v8]) (st' := []) (h' := hc) rfl (if_neg nle) ?_
    refine am_ev.step rfl rfl ?_
    refine am_ev.step rfl rfl ?_
    refine am_ev.step rfl (hd_gf (cq_o78 Ic) f66) ?_
    refine am_ev.step rfl rfl ?_
    refine am_ev.step rfl rfl ?_
    refine am_ev.step rfl rfl ?_
    refine am_ev.step rfl rfl ?_
    refine am_ev.step rfl rfl ?_
    refine am_ev.step rfl rfl ?_
    refine am_ev.step rfl rfl ?_
    refine am_ev.step rfl rfl ?_
    refine am_ev.step rfl rfl ?_
    refine am_ev.step rfl rfl ?_
    refine am_ev.step rfl rfl ?_
    refine am_ev.step rfl (hd_ia rd) ?_
    refine am_ev.min (rr := []) rfl (Or.inl ⟨_, rfl⟩) rfl rfl (by decide) ?_
    refine am_ev.step rfl rfl ?_
    refine am_ev.step rfl rfl ?_
    exact am_ev.step rfl rfl (Q x q)
/-- the first that is best -/
theorem hd_first (hA : A < 1024) (eA : aa.toInt = A) {hc : am_H} (Ic : cq_Inv none hc) (v6 v7 v8 : Value) {W : Nat} (hW : W < 10) (eW : hd_i hc 124 (10 * hd_clr A W + W) = be) : ∀ (m i : Nat) (ii : Int32), m + i = W → ii.toInt = i → ∃ (i2 : Nat) (i3 : Int32), i2 ≤ W ∧ i3.toInt = i2 ∧ hd_i hc 124 (10 * hd_clr A i2 + i2) = be ∧ ∀ x, am_ev (d + 3) 239 302 [.ref 78, .int ss, .int nn, .int aa, .int be, .int i3, v6, v7, v8] [] hc x → am_ev (d + 3) 239 272 [.ref 78, .int ss, .int nn, .int aa, .int be, .int ii, v6, v7, v8] [] hc x := by
  intro m
  have f66 := hd_f78 Ic 66 124 (by decide +kernel) (by decide +kernel)
  have step : ∀ (i : Nat) (ii : Int32), i ≤ W → ii.toInt = i → ∀ x, am_ev (d + 3) 239 293 [.ref 78, .int ss, .int nn, .int aa, .int be, .int ii, v6, v7, v8] [.int be, .int (hd_i hc 124 (10 * hd_clr A i + i))] hc x → am_ev (d + 3) 239 272 [.ref 78, .int ss, .int nn, .int aa, .int be, .int ii, v6, v7, v8] [] hc x := fun i ii hi ei x q => by
    have rd := hd_t124 Ic hA eA (show i < 10 by omega) ei
    refine am_ev.step rfl rfl ?_
    refine am_ev.step rfl (hd_gf (cq_o78 Ic) f66) ?_
    refine am_ev.step rfl rfl ?_
    refine am_ev.step rfl rfl ?_
    refine am_ev.step rfl rfl ?_
    refine am_ev.step rfl rfl ?_
    refine am_ev.step rfl rfl ?_
    refine am_ev.step rfl rfl ?_
    refine am_ev.step rfl rfl ?_
    refine am_ev.step rfl rfl ?_
    refine am_ev.step rfl rfl ?_
    refine am_ev.step rfl rfl ?_
    refine am_ev.step rfl rfl ?_
    refine am_ev.step rfl (hd_ia rd) ?_
    exact am_ev.step rfl rfl q
  have hit : ∀ (i : Nat) (ii : Int32), i ≤ W → ii.toInt = i → hd_i hc 124 (10 * hd_clr A i + i) = be → ∀ x, am_ev (d + 3) 239 302 [.ref 78, .int ss, .int nn, .int aa, .int be, .int ii, v6, v7, v8] [] hc x → am_ev (d + 3) 239 272 [.ref 78, .int ss, .int nn, .int aa, .int be, .int ii, v6, v7, v8] [] hc x := fun i ii hi ei e x q => step i ii hi ei x (am_ev.step (pc' := 302) (ls' := [.ref 78, .int ss, .int nn, .int aa, .int be, .int ii, v6, v7, v8]) (st' := []) (h' := hc) rfl (if_pos e) q)
  induction m with
  | zero =>
    intro i ii hm ei
    have : i = W := by omega
    subst this
    exact ⟨i, ii, Nat.le_refl _, ei, eW, hit i ii (Nat.le_refl _) ei eW⟩
  | succ m ih =>
    intro i ii hm ei
    by_cases c : hd_i hc 124 (10 * hd_clr A i + i) = be
    · exact ⟨i, ii, by omega, ei, c, hit i ii (by omega) ei c⟩
    · obtain ⟨i2, i3, a1, a2, a3, Q⟩ := ih (i + 1) (ii + Int32.ofInt 1) (by omega) (hd_inc ei (by omega))
      refine ⟨i2, i3, a1, a2, a3, fun x q => step i ii (by omega) ei x ?_⟩
      refine am_ev.step (pc' := 296) (ls' := [.ref 78, .int ss, .int nn, .int aa, .int be, .int ii, v6, v7, v8]) (st' := []) (h' := hc) rfl (if_neg c) ?_
      refine am_ev.step rfl rfl ?_
      exact am_ev.step rfl rfl (Q x q)
/-- the next on the way back -/
theorem hd_next {L i J : Nat} {ll ii ne : Int32} (hL : L < 1024) (hi : i < 10) (eL : ll.toInt = L) (ei : ii.toInt = i) {hc : am_H} (Ic : cq_Inv none hc) (O : hd_O hB hc) (hJ : J < 10) (eJ : hd_RB hB hc L i J = ne) : ∀ (m j : Nat) (jj : Int32), m + j = J → jj.toInt = j → ∃ (j2 : Nat) (j3 : Int32), j2 ≤ J ∧ j3.toInt = j2 ∧ hd_RB hB hc L i j2 = ne ∧ ∀ x, am_ev (d + 3) 239 361 [.ref 78, .int ss, .int nn, .int aa, .int be, .int ii, .int ll, .int ne, .int j3] [] hc x → am_ev (d + 3) 239 340 [.ref 78, .int ss, .int nn, .int aa, .int be, .int ii, .int ll, .int ne, .int jj] [] hc x := by
  intro m
  have step : ∀ (j : Nat) (jj : Int32), j ≤ J → jj.toInt = j → ∀ x, am_ev (d + 3) 239 352 [.ref 78, .int ss, .int nn, .int aa, .int be, .int ii, .int ll, .int ne, .int jj] [.int ne, .int (hd_RB hB hc L i j)] hc x → am_ev (d + 3) 239 340 [.ref 78, .int ss, .int nn, .int aa, .int be, .int ii, .int ll, .int ne, .int jj] [] hc x := fun j jj hj ej x q => by
    have evr := hd_243 (hB := hB) (d := d) Ic O hL hi (show j < 10 by omega) eL ei ej
    refine am_ev.step rfl rfl ?_
    refine am_ev.step rfl rfl ?_
    refine am_ev.step rfl rfl ?_
    refine am_ev.step rfl rfl ?_
    refine hd_cv 243 (as := [.ref 78, .int ii, .int jj, .int ll]) (rr := []) rfl (Or.inr (Or.inl ⟨_, rfl⟩)) rfl (by decide) rfl rfl (by decide) (cq_o78 Ic) (Nat.le_of_ble_eq_true rfl) evr ?_
    exact am_ev.step rfl rfl q
  have hit : ∀ (j : Nat) (jj : Int32), j ≤ J → jj.toInt = j → hd_RB hB hc L i j = ne → ∀ x, am_ev (d + 3) 239 361 [.ref 78, .int ss, .int nn, .int aa, .int be, .int ii, .int ll, .int ne, .int jj] [] hc x → am_ev (d + 3) 239 340 [.ref 78, .int ss, .int nn, .int aa, .int be, .int ii, .int ll, .int ne, .int jj] [] hc x := fun j jj hj ej e x q => step j jj hj ej x (am_ev.step (pc' := 361) (ls' := [.ref 78, .int ss, .int nn, .int aa, .int be, .int ii, .int ll, .int ne, .int jj]) (st' := []) (h' := hc) rfl (if_pos e) q)
  induction m with
  | zero =>
    intro j jj hm ej
    have : j = J := by omega
    subst this
    exact ⟨j, jj, Nat.le_refl _, ej, eJ, hit j jj (Nat.le_refl _) ej eJ⟩
  | succ m ih =>
    intro j jj hm ej
    by_cases c : hd_RB hB hc L i j = ne
    · exact ⟨j, jj, by omega, ej, c, hit j jj (by omega) ej c⟩
    · obtain ⟨j2, j3, a1, a2, a3, Q⟩ := ih (j + 1) (jj + Int32.ofInt 1) (by omega) (hd_inc ej (by omega))
      refine ⟨j2, j3, a1, a2, a3, fun x q => step j jj (by omega) ej x ?_⟩
      refine am_ev.step (pc' := 355) (ls' := [.ref 78, .int ss, .int nn, .int aa, .int be, .int ii, .int ll, .int ne, .int jj]) (st' := []) (h' := hc) rfl (if_neg c) ?_
      refine am_ev.step rfl rfl ?_
      exact am_ev.step rfl rfl (Q x q)
/-- the way back -/
theorem hd_back (n10 : n ≤ 10) : ∀ (M L i : Nat) (ii ll ne r : Int32) (v8 : Value) (hc : am_H), L ≤ M → L < 1024 → i < n → ll.toInt = L → ii.toInt = i → cq_Inv none hc → hd_O hB hc → (∀ L' i', i' < n → L' ≤ L → hd_D hB hc n L' i') → hd_i hc 124 (10 * L + i) = ne → ne < hd_NV → hc.2.2.2 78 55 = .int r → 0 ≤ r.toInt → r.toInt + hd_pc L ≤ 10 → ∃ (hc' : am_H) (u5 u6 u7 u8 : Value), cq_Inv none hc' ∧ hd_O hB hc' ∧ ∀ x, am_ev (d + 3) 239 413 [.ref 78, .int ss, .int nn, .int aa, .int be, u5, u6, u7, u8] [] hc' x → am_ev (d + 3) 239 332 [.ref 78, .int ss, .int nn, .int aa, .int be, .int ii, .int ll, .int ne, v8] [] hc x := by
  intro M
  induction M with
  | zero =>
    intro L i ii ll ne r v8 hc hM hL hi eL ei Ic O S et ht h55 r0 r1
    have z : ll = 0 := Int32.toInt_inj.1 (by rw [eL, show (0 : Int32).toInt = 0 by decide]; omega)
    refine ⟨hc, .int ii, .int ll, .int ne, v8, Ic, O, fun x q => ?_⟩
    refine am_ev.step rfl rfl ?_
    exact am_ev.step (pc' := 413) (ls' := [.ref 78, .int ss, .int nn, .int aa, .int be, .int ii, .int ll, .int ne, v8]) (st' := []) (h' := hc) rfl (if_pos z) q
  | succ M ih =>
    intro L i ii ll ne r v8 hc hM hL hi eL ei Ic O S et ht h55 r0 r1
    by_cases c : ll = 0
    · refine ⟨hc, .int ii, .int ll, .int ne, v8, Ic, O, fun x q => ?_⟩
      refine am_ev.step rfl rfl ?_
      exact am_ev.step (pc' := 413) (ls' := [.ref 78, .int ss, .int nn, .int aa, .int be, .int ii, .int ll, .int ne, v8]) (st' := []) (h' := hc) rfl (if_pos c) q
    · have L0 : L ≠ 0 := fun z => c (Int32.toInt_inj.1 (by rw [eL, z, show (0 : Int32).toInt = 0 by decide]; rfl))
      obtain ⟨J, hJ, eJ⟩ := S L i hi (Nat.le_refl _) L0 (by rw [et]; exact ht)
      rw [et] at eJ
      obtain ⟨j2, j3, a1, a2, a3, Q⟩ := hd_next (d := d) (ss := ss) (nn := nn) (aa := aa) (be := be) hL (show i < 10 by omega) eL ei Ic O (show J < 10 by omega) eJ J 0 (Int32.ofInt 0) (by omega) (by decide)
      have nrb : hd_RB hB hc L i j2 ≠ hd_NV := fun z => by
        rw [a3] at z
        rw [z] at ht
        exact hd_nle ht (Int32.le_iff_toInt_le.2 (Int.le_refl _))
      have h10 : j2 < 10 := by omega
      obtain ⟨bt1, bt2⟩ := hd_bits hL h10 eL a2
      obtain ⟨n1, n2, n3⟩ := hd_nats hL h10
      have un : hd_bt L j2 = false ∧ hd_i hc 124 (10 * hd_clr L j2 + j2) < hd_NV ∧ hd_sb hB (hd_i hB 123 i).toInt.toNat (hd_i hB 123 j2).toInt.toNat + hd_i hc 124 (10 * hd_clr L j2 + j2) = ne := by
        unfold hd_RB at nrb a3
        by_cases c1 : hd_bt L j2 = true ∨ hd_i hB 125 (14 * (hd_i hB 123 i).toInt.toNat + (hd_i hB 123 j2).toInt.toNat) = 0
        · rw [if_pos c1] at nrb
          exact absurd rfl nrb
        · rw [if_neg c1] at nrb a3
          by_cases c2 : hd_i hc 124 (10 * hd_clr L j2 + j2) < hd_NV
          · rw [if_pos c2] at a3
            refine ⟨?_, c2, a3⟩
            cases z : hd_bt L j2 with
            | false => rfl
            | true => exact absurd (Or.inl z) c1
          · rw [if_neg c2] at nrb
            exact absurd rfl nrb
      obtain ⟨u1, u2, u3⟩ := un
      obtain ⟨p1, p2⟩ := n3 u1
      obtain ⟨rm1, m10, m11⟩ := hd_mem Ic (show i < 10 by omega) ei
      obtain ⟨rm2, m20, m21⟩ := hd_mem Ic h10 a2
      have mi : hd_i hc 123 i = hd_i hB 123 i := O.i (by decide) (by decide) (by decide)
      have mj : hd_i hc 123 j2 = hd_i hB 123 j2 := O.i (by decide) (by decide) (by decide)
      have sb := hd_244 (d := d + 1) (c := (hd_i hc 123 i).toInt.toNat) (e := (hd_i hc 123 j2).toInt.toNat) Ic (cc := hd_i hc 123 i) (dd := hd_i hc 123 j2) (by omega) (by omega) (by omega) (by omega)
      rw [O.sb] at sb
      have u3' : ne - hd_sb hB (hd_i hc 123 i).toInt.toNat (hd_i hc 123 j2).toInt.toNat = hd_i hc 124 (10 * hd_clr L j2 + j2) := by
        rw [← u3, mi, mj, Int32.add_comm]
        exact Int32.add_sub_cancel _ _
      obtain ⟨evA, IA, rA⟩ := hd_245 (d := d + 2) Ic h55 r0 (by omega) m20 m21
      have f65 := hd_f78 Ic 65 123 (by decide +kernel) (by decide +kernel)
      have K : ∀ q, hd_i (am_put (am_put hc 118 r.toInt.toNat (.int (hd_i hc 123 j2))) 78 55 (.int (r + Int32.ofInt 1))) 124 q = hd_i hc 124 q := fun q => by rw [hd_iv (by omega), hd_iv (by omega)]
      obtain ⟨hc', w5, w6, w7, w8, I', O', Q'⟩ := ih (hd_clr L j2) j2 j3 (Int32.ofNat (hd_clr L j2)) (hd_i hc 124 (10 * hd_clr L j2 + j2)) (r + Int32.ofInt 1) (.int j3) _ (by omega) (by omega) (by omega) (hd_ofNI (by omega)) a2 IA O.row (fun L' i' h1 h2 => (S L' i' h1 (by omega)).eq K) (K _) u2 hd_pe (by omega) (by omega)
      refine ⟨hc', w5, w6, w7, w8, I', O', fun x q => ?_⟩
      refine am_ev.step rfl rfl ?_
      refine am_ev.step (pc' := 337) (ls' := [.ref 78, .int ss, .int nn, .int aa, .int be, .int ii, .int ll, .int ne, v8]) (st' := []) (h' := hc) rfl (if_neg c) ?_
      refine am_ev.step rfl rfl ?_
      refine am_ev.step rfl rfl ?_
      refine Q x ?_
      refine am_ev.step rfl rfl ?_
      refine am_ev.step rfl rfl ?_
      refine am_ev.step rfl rfl ?_
      refine am_ev.step rfl (hd_gf (cq_o78 Ic) f65) ?_
      refine am_ev.step rfl rfl ?_
      refine am_ev.step rfl (hd_ia rm1) ?_
      refine am_ev.step rfl rfl ?_
      refine am_ev.step rfl (hd_gf (cq_o78 Ic) f65) ?_
      refine am_ev.step rfl rfl ?_
      refine am_ev.step rfl (hd_ia rm2) ?_
      refine hd_cv 244 (as := [.ref 78, .int (hd_i hc 123 i), .int (hd_i hc 123 j2)]) (rr := [.int ne]) rfl (Or.inr (Or.inl ⟨_, rfl⟩)) rfl (by decide) rfl rfl (Nat.le_of_ble_eq_true rfl) (cq_o78 Ic) (Nat.le_of_ble_eq_true rfl) sb ?_
      refine am_ev.step (pc' := 382) (ls' := [.ref 78, .int ss, .int nn, .int aa, .int be, .int ii, .int ll, .int ne, .int j3]) (st' := [.int (hd_i hc 124 (10 * hd_clr L j2 + j2))]) (h' := hc) rfl (by rw [← u3']; rfl) ?_
      refine am_ev.step rfl rfl ?_
      refine am_ev.step rfl rfl ?_
      refine am_ev.step rfl rfl ?_
      refine am_ev.step rfl rfl ?_
      refine am_ev.step rfl rfl ?_
      refine am_ev.step rfl rfl ?_
      refine am_ev.step rfl rfl ?_
      refine am_ev.step (pc' := 393) (ls' := [.ref 78, .int ss, .int nn, .int aa, .int be, .int ii, .int ll, .int (hd_i hc 124 (10 * hd_clr L j2 + j2)), .int j3]) (st' := [.int (Int32.ofNat (hd_clr L j2))]) (h' := hc) rfl (by rw [← bt2]; rfl) ?_
      refine am_ev.step rfl rfl ?_
      refine am_ev.step rfl rfl ?_
      refine am_ev.step rfl rfl ?_
      refine am_ev.step rfl rfl ?_
      refine am_ev.step rfl rfl ?_
      refine am_ev.step rfl (hd_gf (cq_o78 Ic) f65) ?_
      refine am_ev.step rfl rfl ?_
      refine am_ev.step rfl (hd_ia rm2) ?_
      refine hd_cvv 245 (as := [.ref 78, .int (hd_i hc 123 j2)]) (rr := []) rfl (Or.inr (Or.inl ⟨_, rfl⟩)) rfl (by decide) rfl rfl (by decide) (cq_o78 Ic) (Nat.le_of_ble_eq_true rfl) evA ?_
      exact am_ev.step rfl rfl (Q' x q)
end HDY
end
section
/-! CONTRACTS: 239p 239 -/
def ct_239p : cq_Ct := (8, [(5, (0, []), 78), (1, (0, [(0, 1)]), 0)], cq_mk 1 ([(0, (-2147483648), 2147483647)], []) [] [] [] [] [] [] none 0 0, [(false, 119, 0, 0), (false, 120, 0, 0), (false, 121, 0, 0), (false, 123, 0, 0), (false, 125, 0, 0), (false, 98, 0, 0), (false, 99, 0, 0)], [(false, [(1, (0, [(1, 1)]), 0)], cq_mk 2 ([(1, (-4), (-2))], []) [] [] [] [] [] [] none 0 0)])
theorem wf_239p : cq_wfC ct_239p = true := by decide +kernel
def lp_239p (pc : Nat) : Option (Option (Nat × Nat) × cq_Lp) := bif Nat.beq pc 24 then some (none, ([(0, 2, 0, 0, 10), (0, 3, 0, 0, 14)], [], [(false, 123, 0, 0)], [(0, [(0, 1), (1, (-1))]), (0, [(2, 1), (3, (-1))])], (1, true), [])) else bif Nat.beq pc 74 then some (none, ([(0, 3, 0, 0, 10)], [], [], [(0, [(0, 1), (1, (-1))])], (0, true), [])) else bif Nat.beq pc 115 then some (none, ([], [4, 5, 6, 7], [], [], (0, true), [])) else bif Nat.beq pc 124 then some (none, ([], [5, 6, 7], [], [], (0, true), [])) else bif Nat.beq pc 147 then some (none, ([], [6, 7], [], [], (0, true), [])) else bif Nat.beq pc 221 then some (none, ([], [4, 5], [], [], (0, true), [])) else bif Nat.beq pc 272 then some (none, ([], [5], [], [], (0, true), [])) else bif Nat.beq pc 332 then some (none, ([], [5, 6, 7, 8], [], [], (0, true), [])) else bif Nat.beq pc 340 then some (none, ([], [8], [], [], (0, true), [])) else none
def tb_239p : Nat → Option cq_Ct := (cq_tc 235 ct_235 (cq_tc 240 ct_240 (cq_tc 243 ct_243 cq_t0)))
theorem tk_239p : ∀ h, cq_Inv none h → cq_TK ct_239p.2.2.2.1 h tb_239p := (cq_tc_ok wf_235 ok_235 (cq_tc_ok wf_240 ok_240 (cq_tc_ok wf_243 ok_243 cq_t0_ok)))
def ct_239 : cq_Ct := (8, [(5, (0, []), 78), (1, (0, [(0, 1)]), 0)], cq_mk 1 ([(0, (-2147483648), 2147483647)], []) [] [] [] [] [] [] none 0 0, [(false, 118, 0, 0), (false, 119, 0, 0), (false, 120, 0, 0), (false, 121, 0, 0), (false, 123, 0, 0), (false, 124, 0, 0), (false, 125, 0, 0), (false, 78, 56, 0), (false, 78, 76, 0), (false, 78, 81, 0), (false, 78, 82, 0), (false, 98, 0, 0), (false, 99, 0, 0)], [(false, [(1, (0, [(1, 1)]), 0)], cq_mk 2 ([(1, (-2147483648), 2147483647)], []) [] [] [] [] [] [] none 0 0)])
theorem wf_239 : cq_wfC ct_239 = true := by decide +kernel
end
section
/-! BY HAND, 18: order: its contract -/
/-- isMade -/
theorem hd_246 {hc : am_H} {d : Nat} (Ic : cq_Inv none hc) : am_ev d 246 0 (am_ent [.ref 78] (am_in 246).2.2.1) [] hc (none, am_put (am_put (am_put hc 78 75 (.int (Int32.ofInt 0))) 78 80 (.int (Int32.ofInt 0))) 78 81 (.int (Int32.ofInt 0))) ∧ cq_Inv none (am_put (am_put (am_put hc 78 75 (.int (Int32.ofInt 0))) 78 80 (.int (Int32.ofInt 0))) 78 81 (.int (Int32.ofInt 0))) := by
  have I1 := hd_I78 Ic (b := 75) (x := Int32.ofInt 0) 0 1 (by decide +kernel) (by decide) (by decide)
  have I2 := hd_I78 I1 (b := 80) (x := Int32.ofInt 0) 0 14 (by decide +kernel) (by decide) (by decide)
  have I3 := hd_I78 I2 (b := 81) (x := Int32.ofInt 0) (-2147483648) 2147483647 (by decide +kernel) (by decide) (by decide)
  refine ⟨?_, I3⟩
  refine am_ev.step rfl rfl ?_
  refine am_ev.step rfl rfl ?_
  refine am_ev.step rfl (hd_pf (cq_o78 Ic) rfl) ?_
  refine am_ev.step rfl rfl ?_
  refine am_ev.step rfl rfl ?_
  refine am_ev.step rfl (hd_pf (cq_o78 I1) rfl) ?_
  refine am_ev.step rfl rfl ?_
  refine am_ev.step rfl rfl ?_
  refine am_ev.step rfl (hd_pf (cq_o78 I2) rfl) ?_
  exact am_ev.retv rfl rfl
def hd_mO : cq_W := [(false, 118, 0, 0), (false, 124, 0, 0), (false, 78, 56, 0), (false, 78, 76, 0), (false, 78, 81, 0), (false, 78, 82, 0)]
theorem hd_O.fr {hB hc : am_H} (O : hd_O hB hc) : cq_Fr hd_mO hB hc := by
  refine ⟨by rw [O.1.1]; exact Nat.le_refl _, fun c _ => by rw [O.1.2.2], fun c _ j hw => O.2 c j (fun z => ?_) (fun z => ?_) (fun z => ?_)⟩
  · rw [z] at hw; cases hw
  · rw [z] at hw; cases hw
  · rw [z.1, z.2] at hw; cases hw
/-- order from where all are known to stand -/
theorem hd_order {hB : am_H} {ss nn : Int32} {n d : Nat} (I : cq_Inv none hB) (n10 : n ≤ 10) (en : nn.toInt = n) (v3 v4 v5 v6 v7 v8 : Value) : ∃ (r : Int32) (h' : am_H), am_ev (d + 3) 239 106 [.ref 78, .int ss, .int nn, v3, v4, v5, v6, v7, v8] [] hB (some (.int r), h') ∧ cq_Inv none h' ∧ cq_Fr hd_mO hB h' ∧ h'.1 ≤ hB.1 ∧ h'.2.1 ≤ hB.2.1 := by
  obtain ⟨ea, hA, pcA, bA⟩ := hd_alls en n10
  have eA := hd_ofNI hA
  obtain ⟨hc, u4, u5, u6, u7, Ic, O, S, Q⟩ := hd_or1 (hB := hB) (d := d) (ss := ss) (aa := Int32.ofNat (2 ^ n - 1)) n10 en hA eA v8 (2 ^ n - 1 + 1) 0 (Int32.ofInt 0) v5 v6 v7 hB (by omega) (by decide) I hd_O.rf (fun L' i' _ h2 => absurd h2 (Nat.not_lt_zero _))
  obtain ⟨be, i9, hb, Q2⟩ := hd_best (d := d) (ss := ss) (aa := Int32.ofNat (2 ^ n - 1)) n10 en hA eA Ic u6 u7 v8 n 0 (Int32.ofInt 0) hd_NV (by omega) (by decide) (Or.inl rfl)
  have go : ∀ x, am_ev (d + 3) 239 264 [.ref 78, .int ss, .int nn, .int (Int32.ofNat (2 ^ n - 1)), .int be, .int i9, u6, u7, v8] [.int hd_NV, .int be] hc x → am_ev (d + 3) 239 106 [.ref 78, .int ss, .int nn, v3, v4, v5, v6, v7, v8] [] hB x := fun x q => by
    refine am_ev.step rfl rfl ?_
    refine am_ev.step rfl rfl ?_
    refine am_ev.step rfl rfl ?_
    refine am_ev.step rfl rfl ?_
    refine am_ev.step (pc' := 111) (ls' := [.ref 78, .int ss, .int nn, v3, v4, v5, v6, v7, v8]) (st' := [.int (Int32.ofNat (2 ^ n - 1))]) (h' := hB) rfl (by rw [← ea]; rfl) ?_
    refine am_ev.step rfl rfl ?_
    refine am_ev.step rfl rfl ?_
    refine am_ev.step rfl rfl ?_
    refine Q x ?_
    refine am_ev.step rfl rfl ?_
    refine am_ev.step rfl rfl ?_
    refine am_ev.step rfl rfl ?_
    refine am_ev.step rfl rfl ?_
    refine Q2 x ?_
    refine am_ev.step rfl rfl ?_
    exact am_ev.step rfl rfl q
  by_cases c : be < hd_NV
  · rcases hb with z | ⟨W, hW, eW⟩
    · exfalso
      rw [z] at c
      exact hd_nle c (Int32.le_iff_toInt_le.2 (Int.le_refl _))
    · obtain ⟨i2, i3, a1, a2, a3, Q3⟩ := hd_first (d := d) (ss := ss) (nn := nn) (aa := Int32.ofNat (2 ^ n - 1)) (be := be) hA eA Ic u6 u7 v8 (show W < 10 by omega) eW W 0 (Int32.ofInt 0) (by omega) (by decide)
      have h10 : i2 < 10 := by omega
      obtain ⟨bt1, bt2⟩ := hd_bits hA h10 eA a2
      obtain ⟨n1, n2, n3⟩ := hd_nats hA h10
      obtain ⟨p1, p2⟩ := n3 (bA i2 (by omega))
      have I1 := hd_I78 Ic (b := 55) (x := Int32.ofInt 0) 0 14 (by decide +kernel) (by decide) (by decide)
      have O1 : hd_O hB (am_put hc 78 55 (.int (Int32.ofInt 0))) := O.p55
      obtain ⟨rm, m0, m1⟩ := hd_mem I1 h10 a2
      obtain ⟨evA, IA, rA⟩ := hd_245 (d := d + 2) I1 hd_pe (by decide) (by decide) m0 m1
      have f65 := hd_f78 I1 65 123 (by decide +kernel) (by decide +kernel)
      have K : ∀ q, hd_i (am_put (am_put (am_put hc 78 55 (.int (Int32.ofInt 0))) 118 (Int32.ofInt 0).toInt.toNat (.int (hd_i (am_put hc 78 55 (.int (Int32.ofInt 0))) 123 i2))) 78 55 (.int (Int32.ofInt 0 + Int32.ofInt 1))) 124 q = hd_i hc 124 q := fun q => by rw [hd_iv (by omega), hd_iv (by omega), hd_iv (by omega)]
      have r1 : (Int32.ofInt 0 + Int32.ofInt 1).toInt = 1 := by decide
      obtain ⟨hd, w5, w6, w7, w8, Id, Od, Q4⟩ := hd_back (hB := hB) (d := d) (ss := ss) (nn := nn) (aa := Int32.ofNat (2 ^ n - 1)) (be := be) n10 1023 (hd_clr (2 ^ n - 1) i2) i2 i3 (Int32.ofNat (hd_clr (2 ^ n - 1) i2)) be (Int32.ofInt 0 + Int32.ofInt 1) v8 _ (by omega) (by omega) (by omega) (hd_ofNI (by omega)) a2 IA O1.row (fun L' i' h1 h2 => (S L' i' h1 (by omega)).eq K) (by rw [K]; exact a3) c hd_pe (by decide) (by rw [r1]; omega)
      obtain ⟨evM, IM⟩ := hd_246 (d := d + 2) Id
      refine ⟨be, _, go _ ?_, IM, ?_, by show hd.1 ≤ hB.1; rw [Od.1.1]; exact Nat.le_refl _, by show hd.2.1 ≤ hB.2.1; rw [Od.1.2.1]; exact Nat.le_refl _⟩
      · refine am_ev.step (pc' := 269) (ls' := [.ref 78, .int ss, .int nn, .int (Int32.ofNat (2 ^ n - 1)), .int be, .int i9, u6, u7, v8]) (st' := []) (h' := hc) rfl (if_pos c) ?_
        refine am_ev.step rfl rfl ?_
        refine am_ev.step rfl rfl ?_
        refine Q3 _ ?_
        refine am_ev.step rfl rfl ?_
        refine am_ev.step rfl rfl ?_
        refine am_ev.step rfl rfl ?_
        refine am_ev.step rfl rfl ?_
        refine am_ev.step rfl rfl ?_
        refine am_ev.step rfl rfl ?_
        refine am_ev.step (pc' := 310) (ls' := [.ref 78, .int ss, .int nn, .int (Int32.ofNat (2 ^ n - 1)), .int be, .int i3, u6, u7, v8]) (st' := [.int (Int32.ofNat (hd_clr (2 ^ n - 1) i2))]) (h' := hc) rfl (by rw [← bt2]; rfl) ?_
        refine am_ev.step rfl rfl ?_
        refine am_ev.step rfl rfl ?_
        refine am_ev.step rfl rfl ?_
        refine am_ev.step rfl rfl ?_
        refine am_ev.step rfl rfl ?_
        refine am_ev.step rfl (hd_pf (cq_o78 Ic) rfl) ?_
        refine am_ev.step rfl rfl ?_
        refine am_ev.step rfl rfl ?_
        refine am_ev.step rfl (hd_gf (cq_o78 I1) f65) ?_
        refine am_ev.step rfl rfl ?_
        refine am_ev.step rfl (hd_ia rm) ?_
        refine hd_cvv 245 (as := [.ref 78, .int (hd_i (am_put hc 78 55 (.int (Int32.ofInt 0))) 123 i2)]) (rr := []) rfl (Or.inr (Or.inl ⟨_, rfl⟩)) rfl (by decide) rfl rfl (by decide) (cq_o78 I1) (Nat.le_of_ble_eq_true rfl) evA ?_
        refine Q4 _ ?_
        refine am_ev.step rfl rfl ?_
        refine hd_cvv 246 (as := [.ref 78]) (rr := []) rfl (Or.inr (Or.inl ⟨_, rfl⟩)) rfl (by decide) rfl rfl (by decide) (cq_o78 Id) (Nat.le_of_ble_eq_true rfl) evM ?_
        refine am_ev.step rfl rfl ?_
        exact am_ev.reti rfl rfl rfl
      · refine cq_Fr_tr Od.fr (mc := hd_mO) ⟨Nat.le_refl _, fun _ _ => rfl, fun c' _ j hw => ?_⟩ (fun _ z => z)
        have q1 : ¬ (c' = 78 ∧ j = 81) := fun z => by rw [z.1, z.2] at hw; cases hw
        have q2 : ¬ (c' = 78 ∧ j = 80) := fun z => by rw [z.1, z.2] at hw; cases hw
        have q3 : ¬ (c' = 78 ∧ j = 75) := fun z => by rw [z.1, z.2] at hw; cases hw
        rw [hd_pv q1, hd_pv q2, hd_pv q3]
  · refine ⟨Int32.ofInt (-1), hc, go _ ?_, Ic, O.fr, by rw [O.1.1]; exact Nat.le_refl _, by rw [O.1.2.1]; exact Nat.le_refl _⟩
    refine am_ev.step (pc' := 267) (ls' := [.ref 78, .int ss, .int nn, .int (Int32.ofNat (2 ^ n - 1)), .int be, .int i9, u6, u7, v8]) (st' := []) (h' := hc) rfl (if_neg c) ?_
    refine am_ev.step rfl rfl ?_
    exact am_ev.reti rfl rfl rfl
def cq_ck106 (Z : cq_Z) : Bool := match Z with
  | (_, _, [(5, _, k), (1, _, _), (1, fn, _), _, _, _, _, _, _], [], [], db, S) => Nat.beq k 78 && cq_inE S.P fn 0 10 && S.U.isNone && Nat.beq S.ac 0 && Nat.beq S.al 0 && Nat.ble 3 db
  | _ => false
theorem ok_239 : cq_CT 239 ct_239 := by
  refine cq_methN (f := 100000) (nx := cq_nxo 239 106 cq_ck106 (cq_nx ct_239.2.2.2.1 (cq_ckx ct_239) (cq_cl0 ct_239.2.2.2.1 (cq_ckx ct_239) tb_239p))) (lps := lp_239p) wf_239 (by decide +kernel) (fun h ρ as M g => cq_nxo_ok ?_ (cq_NX_of wf_239 ((cq_tc_ok wf_235 ok_235 (cq_tc_ok wf_240 ok_240 (cq_tc_ok wf_243 ok_243 cq_t0_ok))) h (cq_Inv0 wf_239 M)))) (by decide +kernel)
  intro Z ρ1 ls st h2 d a hn hc R hd
  obtain ⟨y, pc, als, ast, fr, db, S⟩ := Z
  unfold cq_ck106 at hc
  split at hc
  · rename_i y' pc' ff k fs ks fn kn v3 v4 v5 v6 v7 v8 db' S' heq
    cases heq
    have c1 := (Bool.and_eq_true _ _ ▸ hc)
    have c2 := (Bool.and_eq_true _ _ ▸ c1.1)
    have c3 := (Bool.and_eq_true _ _ ▸ c2.1)
    have c4 := (Bool.and_eq_true _ _ ▸ c3.1)
    have c5 := (Bool.and_eq_true _ _ ▸ c4.1)
    obtain ⟨D, g1, g2, -⟩ := R ρ1 cq_ag.rf
    dsimp only at D g1 g2
    obtain ⟨u0, r0, e0, G0, g1⟩ := cq_gs_cons g1
    obtain ⟨u1, r1, e1, G1, g1⟩ := cq_gs_cons g1
    obtain ⟨u2, r2, e2, G2, g1⟩ := cq_gs_cons g1
    obtain ⟨u3, r3, e3, G3, g1⟩ := cq_gs_cons g1
    obtain ⟨u4, r4, e4, G4, g1⟩ := cq_gs_cons g1
    obtain ⟨u5, r5, e5, G5, g1⟩ := cq_gs_cons g1
    obtain ⟨u6, r6, e6, G6, g1⟩ := cq_gs_cons g1
    obtain ⟨u7, r7, e7, G7, g1⟩ := cq_gs_cons g1
    obtain ⟨u8, r8, e8, G8, g1⟩ := cq_gs_cons g1
    have e9 := cq_gs_nil g1
    have e10 := cq_gs_nil g2
    subst e0 e1 e2 e3 e4 e5 e6 e7 e8 e9 e10
    have G0 : u0 = .ref k := G0
    rw [am_beq c5.1] at G0
    obtain ⟨ss, es, -⟩ := G1
    obtain ⟨nn, en, hn1⟩ := G2
    subst G0 es en
    have bn := cq_inE_ok D.P c5.2
    have I : cq_Inv none h2 := by
      have I := D.I
      rw [Option.isNone_iff_eq_none.1 c4.2] at I
      exact I
    have A := D.A
    rw [am_beq c3.2, am_beq c2.2] at A
    have hd1 := Nat.le_of_ble_eq_true c1.2
    dsimp only at hd
    obtain ⟨d, rfl⟩ : ∃ d', d = d' + 3 := ⟨d - 3, by omega⟩
    obtain ⟨r, h', ev, I', F', A1, A2⟩ := hd_order (ss := ss) (nn := nn) (n := nn.toInt.toNat) (d := d) I (by omega) (by omega) u3 u4 u5 u6 u7 u8
    refine ⟨_, ev, _, List.mem_cons_self, fun s => if s < 1 then ρ s else r.toInt, fun s hs => if_pos hs, cq_Md_s ⟨fun b hb => ?_, fun _ z => (by cases z)⟩ I' (cq_Fr_tr D.F F' (cq_sub1_ok (by decide +kernel))) ⟨by have := A.1; show h'.1 ≤ h.1 + 0; omega, by have := A.2; show h'.2.1 ≤ h.2.1 + 0; omega⟩, Or.inl ⟨rfl, rfl, ⟨r, rfl, ?_⟩, trivial⟩⟩
    · rw [List.mem_singleton.1 hb]
      have z1 := r.le_toInt
      have z2 := r.toInt_lt
      exact ⟨by show (-2147483648 : Int) ≤ r.toInt; omega, by show r.toInt ≤ 2147483647; omega⟩
    · exact (cq_s_e (fun s => if s < 1 then ρ s else r.toInt) 1).symm
  · cases hc
end
section
/-! CONTRACTS: 14t 16t 18t 43t 74t 128t 162t 164t 167t 208t -/
def ct_14t : cq_Ct := (1, [(5, (0, []), 40), (1, (0, [(0, 1)]), 0), (1, (0, [(1, 1)]), 0), (1, (0, [(2, 1)]), 0), (1, (0, [(3, 1)]), 0), (1, (0, [(4, 1)]), 0)], cq_mk 6 ([(0, (-2147483648), 2147483647), (1, (-2147483648), 2147483647), (2, (-2147483648), 2147483647), (3, (-2147483648), 2147483647), (4, (-2147483648), 2147483647), (5, 0, 1600)], []) [] [] [] [((false, 41), (1, []), (1, (0, [(5, 1)]), 0))] [] [] none 0 0, [(false, 41, 2, 0), (false, 42, 0, 0)], [(false, [(1, ((-3), []), 0)], cq_mk 6 ([], [((-1581), [(5, 1)])]) [] [] [] [((false, 41), (1, []), (1, (0, [(5, 1)]), 0))] [] [] none 0 0), (false, [(1, (20, [(5, 1)]), 0)], cq_mk 6 ([], [(1580, [(5, (-1))])]) [] [] [] [((false, 41), (1, []), (1, (20, [(5, 1)]), 0))] [] [] none 0 0)])
theorem wf_14t : cq_wfC ct_14t = true := by decide +kernel
def lp_14t (pc : Nat) : Option (Option (Nat × Nat) × cq_Lp) := none
theorem ok_14t : cq_CT 14 ct_14t := cq_meth (f := 100000) (cts := cq_t0) (lps := lp_14t) cq_t0_ok wf_14t (by decide +kernel) (by decide +kernel)
def ct_16t : cq_Ct := (0, [(5, (0, []), 40), (1, (0, [(0, 1)]), 0)], cq_mk 2 ([(0, (-2147483648), 2147483647), (1, 0, 1600)], []) [] [] [] [((false, 41), (1, []), (1, (0, [(1, 1)]), 0))] [] [] none 0 0, [(false, 41, 2, 0)], [(false, [(1, (0, [(2, 1)]), 0)], cq_mk 3 ([(2, (-2147483648), 2147483647)], [((-1), [(0, (-1))])]) [] [] [] [((false, 41), (1, []), (1, (0, [(1, 1)]), 0))] [] [] none 0 0), (false, [(1, (0, [(2, 1)]), 0)], cq_mk 3 ([(2, (-2147483648), 2147483647)], [((-1), [(0, 1), (1, (-1))])]) [] [] [] [((false, 41), (1, []), (1, (0, [(1, 1)]), 0))] [] [] none 0 0), (false, [(1, (0, [(2, 1)]), 0)], cq_mk 3 ([(2, (-2147483648), 2147483647)], [(0, [(0, 1)]), (0, [(0, (-1)), (1, 1)])]) [] [] [] [((false, 41), (1, []), (1, (0, [(0, 1)]), 0))] [] [] none 0 0)])
theorem wf_16t : cq_wfC ct_16t = true := by decide +kernel
def lp_16t (pc : Nat) : Option (Option (Nat × Nat) × cq_Lp) := none
theorem ok_16t : cq_CT 16 ct_16t := cq_meth (f := 100000) (cts := cq_t0) (lps := lp_16t) cq_t0_ok wf_16t (by decide +kernel) (by decide +kernel)
def ct_18t : cq_Ct := (8, [(5, (0, []), 40)], cq_mk 1 ([(0, 0, 1600)], []) [] [] [] [((false, 41), (1, []), (1, (0, [(0, 1)]), 0))] [] [] none 0 0, [(false, 41, 2, 0), (false, 41, 3, 0), (false, 41, 4, 0), (false, 41, 5, 0), (false, 41, 6, 0), (false, 41, 7, 0), (false, 43, 5, 0), (false, 43, 6, 0), (false, 44, 0, 0), (false, 45, 0, 0), (false, 46, 0, 0), (false, 47, 0, 0)], [(false, [(1, (0, [(1, 1)]), 0)], cq_mk 2 ([(1, (-2147483648), 2147483647)], []) [] [] [] [((false, 41), (1, []), (1, (0, []), 0))] [] [] none 0 0)])
theorem wf_18t : cq_wfC ct_18t = true := by decide +kernel
def lp_18t (pc : Nat) : Option (Option (Nat × Nat) × cq_Lp) := none
theorem ok_18t : cq_CT 18 ct_18t := cq_meth (f := 100000) (cts := (cq_tc 19 ct_19 cq_t0)) (lps := lp_18t) (cq_tc_ok wf_19 ok_19 cq_t0_ok) wf_18t (by decide +kernel) (by decide +kernel)
def ct_43t : cq_Ct := (4, [(5, (0, []), 40), (1, (0, [(0, 1)]), 0)], cq_mk 2 ([(0, (-2147483648), 2147483647), (1, 0, 1600)], []) [] [] [] [((false, 41), (1, []), (1, (0, [(1, 1)]), 0))] [] [] none 0 0, [(false, 41, 2, 0), (false, 41, 3, 0), (false, 41, 4, 0), (false, 41, 5, 0), (false, 41, 6, 0), (false, 41, 7, 0), (false, 54, 4, 0), (false, 54, 5, 0), (false, 54, 6, 0), (false, 55, 0, 0), (false, 56, 0, 0), (true, 0, 3, 4), (true, 0, 3, 5), (true, 0, 3, 6), (true, 0, 6, 7), (true, 1, 0, 0), (true, 1, 3, 0), (true, 1, 7, 0)], [(false, [(1, (0, [(2, 1)]), 0)], cq_mk 3 ([(2, (-2147483648), 2147483647)], []) [] [] [] [((false, 41), (1, []), (1, (0, []), 0))] [] [] none 4 311)])
theorem wf_43t : cq_wfC ct_43t = true := by decide +kernel
def lp_43t (pc : Nat) : Option (Option (Nat × Nat) × cq_Lp) := none
theorem ok_43t : cq_CT 43 ct_43t := cq_meth (f := 100000) (cts := (cq_tc 44 ct_44 (cq_tc 47 ct_47 cq_t0))) (lps := lp_43t) (cq_tc_ok wf_44 ok_44 (cq_tc_ok wf_47 ok_47 cq_t0_ok)) wf_43t (by decide +kernel) (by decide +kernel)
def ct_74t : cq_Ct := (9, [(5, (0, []), 40), (1, (0, [(0, 1)]), 0)], cq_mk 2 ([(0, (-2147483648), 2147483647), (1, 0, 1600)], []) [] [] [] [((false, 41), (1, []), (1, (0, [(1, 1)]), 0))] [] [] none 0 0, [(false, 41, 2, 0), (false, 41, 3, 0), (false, 41, 4, 0), (false, 41, 5, 0), (false, 41, 6, 0), (false, 41, 7, 0), (false, 48, 2, 0), (false, 49, 0, 0), (true, 0, 4, 1), (true, 0, 4, 10), (true, 0, 4, 11), (true, 0, 4, 2), (true, 0, 4, 3), (true, 0, 4, 4), (true, 0, 4, 5), (true, 0, 4, 6), (true, 0, 4, 7), (true, 0, 4, 8), (true, 0, 4, 9)], [(false, [(1, (0, [(2, 1)]), 0)], cq_mk 3 ([(2, (-2147483648), 2147483647)], []) [] [] [] [((false, 41), (1, []), (1, (0, []), 0))] [] [] none 1 11)])
theorem wf_74t : cq_wfC ct_74t = true := by decide +kernel
def lp_74t (pc : Nat) : Option (Option (Nat × Nat) × cq_Lp) := none
theorem ok_74t : cq_CT 74 ct_74t := cq_meth (f := 100000) (cts := (cq_tc 76 ct_76 cq_t0)) (lps := lp_74t) (cq_tc_ok wf_76 ok_76 cq_t0_ok) wf_74t (by decide +kernel) (by decide +kernel)
def ct_128t : cq_Ct := (7, [(5, (0, []), 40)], cq_mk 1 ([(0, 0, 1600)], []) [] [] [] [((false, 41), (1, []), (1, (0, [(0, 1)]), 0))] [] [] none 0 0, [(false, 40, 16, 0), (false, 40, 19, 0), (false, 41, 2, 0), (false, 58, 0, 0), (false, 59, 0, 0), (false, 60, 0, 0), (false, 68, 0, 0), (false, 72, 1, 0), (false, 75, 0, 0), (true, 0, 1, 3), (true, 0, 1, 4), (true, 0, 1, 5), (true, 0, 1, 6), (true, 0, 1, 7), (true, 0, 1, 8), (true, 0, 3, 10), (true, 0, 3, 7), (true, 0, 3, 8), (true, 0, 3, 9), (true, 1, 0, 0)], [(false, [(1, (0, [(1, 1)]), 0)], cq_mk 2 ([(1, (-2147483648), 2147483647)], []) [] [] [] [((false, 41), (1, []), (1, (0, []), 0))] [] [] none 0 0)])
theorem wf_128t : cq_wfC ct_128t = true := by decide +kernel
def lp_128t (pc : Nat) : Option (Option (Nat × Nat) × cq_Lp) := none
theorem ok_128t : cq_CT 128 ct_128t := cq_meth (f := 100000) (cts := (cq_tc 129 ct_129 cq_t0)) (lps := lp_128t) (cq_tc_ok wf_129 ok_129 cq_t0_ok) wf_128t (by decide +kernel) (by decide +kernel)
def ct_162t : cq_Ct := (1, [(5, (0, []), 78), (1, (0, [(0, 1)]), 0), (1, (0, [(1, 1)]), 0), (1, (0, [(2, 1)]), 0), (1, (0, [(3, 1)]), 0), (1, (0, [(4, 1)]), 0)], cq_mk 6 ([(0, (-2147483648), 2147483647), (1, (-2147483648), 2147483647), (2, (-2147483648), 2147483647), (3, (-2147483648), 2147483647), (4, (-2147483648), 2147483647), (5, 0, 1600)], []) [] [] [] [((false, 78), (2, []), (1, (0, [(5, 1)]), 0))] [] [] none 0 0, [(false, 78, 3, 0), (false, 80, 0, 0)], [(false, [(1, ((-3), []), 0)], cq_mk 6 ([], [((-1581), [(5, 1)])]) [] [] [] [((false, 78), (2, []), (1, (0, [(5, 1)]), 0))] [] [] none 0 0), (false, [(1, (20, [(5, 1)]), 0)], cq_mk 6 ([], [(1580, [(5, (-1))])]) [] [] [] [((false, 78), (2, []), (1, (20, [(5, 1)]), 0))] [] [] none 0 0)])
theorem wf_162t : cq_wfC ct_162t = true := by decide +kernel
def lp_162t (pc : Nat) : Option (Option (Nat × Nat) × cq_Lp) := none
theorem ok_162t : cq_CT 162 ct_162t := cq_meth (f := 100000) (cts := cq_t0) (lps := lp_162t) cq_t0_ok wf_162t (by decide +kernel) (by decide +kernel)
def ct_164t : cq_Ct := (1, [(5, (0, []), 78), (1, (0, [(0, 1)]), 0)], cq_mk 2 ([(0, (-2147483648), 2147483647), (1, 0, 1600)], []) [] [] [] [((false, 78), (2, []), (1, (0, [(1, 1)]), 0))] [] [] none 0 0, [(false, 78, 3, 0)], [(false, [(1, (0, [(2, 1)]), 0)], cq_mk 3 ([(2, (-2147483648), 2147483647)], [((-1), [(0, (-1))])]) [] [] [] [((false, 78), (2, []), (1, (0, [(1, 1)]), 0))] [] [] none 0 0), (false, [(1, (0, [(2, 1)]), 0)], cq_mk 3 ([(2, (-2147483648), 2147483647)], [((-1), [(0, 1), (1, (-1))])]) [] [] [] [((false, 78), (2, []), (1, (0, [(1, 1)]), 0))] [] [] none 0 0), (false, [(1, (0, [(2, 1)]), 0)], cq_mk 3 ([(2, (-2147483648), 2147483647)], [(0, [(0, 1)]), (0, [(0, (-1)), (1, 1)])]) [] [] [] [((false, 78), (2, []), (1, (0, [(0, 1)]), 0))] [] [] none 0 0)])
theorem wf_164t : cq_wfC ct_164t = true := by decide +kernel
def lp_164t (pc : Nat) : Option (Option (Nat × Nat) × cq_Lp) := none
theorem ok_164t : cq_CT 164 ct_164t := cq_meth (f := 100000) (cts := cq_t0) (lps := lp_164t) cq_t0_ok wf_164t (by decide +kernel) (by decide +kernel)
def ct_167t : cq_Ct := (8, [(5, (0, []), 78)], cq_mk 1 ([(0, 0, 1600)], []) [] [] [] [((false, 78), (2, []), (1, (0, [(0, 1)]), 0))] [] [] none 0 0, [(false, 78, 10, 0), (false, 78, 3, 0), (false, 78, 4, 0), (false, 78, 5, 0), (false, 78, 6, 0), (false, 78, 7, 0), (false, 78, 8, 0), (false, 78, 9, 0), (false, 81, 0, 0), (false, 82, 0, 0), (false, 83, 0, 0), (false, 84, 0, 0), (false, 85, 0, 0)], [(false, [(1, (0, [(1, 1)]), 0)], cq_mk 2 ([(1, (-2147483648), 2147483647)], []) [] [] [] [((false, 78), (2, []), (1, (0, []), 0))] [] [] none 0 0)])
theorem wf_167t : cq_wfC ct_167t = true := by decide +kernel
def lp_167t (pc : Nat) : Option (Option (Nat × Nat) × cq_Lp) := none
theorem ok_167t : cq_CT 167 ct_167t := cq_meth (f := 100000) (cts := (cq_tc 170 ct_170 (cq_tc 174 ct_174 cq_t0))) (lps := lp_167t) (cq_tc_ok wf_170 ok_170 (cq_tc_ok wf_174 ok_174 cq_t0_ok)) wf_167t (by decide +kernel) (by decide +kernel)
def ct_208t : cq_Ct := (8, [(5, (0, []), 78), (1, (0, [(0, 1)]), 0)], cq_mk 2 ([(0, (-2147483648), 2147483647), (1, 0, 1600)], []) [] [] [] [((false, 78), (2, []), (1, (0, [(1, 1)]), 0))] [] [] none 0 0, [(false, 103, 0, 0), (false, 104, 0, 0), (false, 105, 0, 0), (false, 106, 0, 0), (false, 107, 0, 0), (false, 108, 0, 0), (false, 109, 0, 0), (false, 110, 0, 0), (false, 111, 0, 0), (false, 113, 0, 0), (false, 78, 10, 0), (false, 78, 3, 0), (false, 78, 36, 0), (false, 78, 4, 0), (false, 78, 5, 0), (false, 78, 6, 0), (false, 78, 7, 0), (false, 78, 8, 0), (false, 78, 9, 0), (false, 85, 0, 0)], [(false, [(1, (0, [(2, 1)]), 0)], cq_mk 3 ([(2, (-2147483648), 2147483647)], []) [] [] [] [((false, 78), (2, []), (1, (0, []), 0))] [] [] none 0 0)])
theorem wf_208t : cq_wfC ct_208t = true := by decide +kernel
def lp_208t (pc : Nat) : Option (Option (Nat × Nat) × cq_Lp) := none
theorem ok_208t : cq_CT 208 ct_208t := cq_meth (f := 100000) (cts := (cq_tc 170 ct_170 (cq_tc 209 ct_209 cq_t0))) (lps := lp_208t) (cq_tc_ok wf_170 ok_170 (cq_tc_ok wf_209 ok_209 cq_t0_ok)) wf_208t (by decide +kernel) (by decide +kernel)
end
section
/-! THE START: the plain machine on heaps that are data -/
abbrev dh_D : Type := Nat × Nat × List (Nat × am_Sh) × List (Nat × Nat × Value)
def dh_ls (k : Nat) : List (Nat × am_Sh) → Option am_Sh
  | [] => none
  | e :: r => bif Nat.beq e.1 k then some e.2 else dh_ls k r
def dh_lk (k j : Nat) : List (Nat × Nat × Value) → Option Value
  | [] => none
  | e :: r => bif Nat.beq e.1 k && Nat.beq e.2.1 j then some e.2.2 else dh_lk k j r
def dh_df (sh : am_Sh) (j : Nat) : Value := bif Nat.beq sh.1 0 then defaultValue (am_ty sh.2.1 j) else am_dv sh.2.1
def dh_h (L : Nat) (xs : Nat → Int32) (D : dh_D) : am_H := (D.1, D.2.1, (fun k => match dh_ls k D.2.2.1 with
  | some s => s
  | none => am_sh0 L k), (fun k j => match dh_lk k j D.2.2.2 with
  | some v => v
  | none => (match dh_ls k D.2.2.1 with
    | some s => dh_df s j
    | none => am_V0 xs k j)))
def dh_put (D : dh_D) (k j : Nat) (v : Value) : dh_D := (D.1, D.2.1, D.2.2.1, (k, j, v) :: D.2.2.2)
def dh_new (D : dh_D) (sh : am_Sh) (N : Nat) : Option dh_D := bif Nat.ble 40 D.1 && D.2.2.2.all (fun e => Nat.blt e.1 D.1) then some (D.1 + 1, D.2.1 + N, (D.1, sh) :: D.2.2.1, D.2.2.2) else none
theorem dh_bne {a b : Nat} (h : a ≠ b) : Nat.beq a b = false := by
  cases z : Nat.beq a b with
  | false => rfl
  | true => exact absurd (am_beq z) h
section CMA
variable {L : Nat} {xs : Nat → Int32} {D D' : dh_D}
theorem dh_put_ok (k j : Nat) (v : Value) : dh_h L xs (dh_put D k j v) = am_put (dh_h L xs D) k j v := by
  unfold dh_h dh_put am_put am_up
  dsimp only
  congr 3
  funext a b
  have e0 : dh_lk a b ((k, j, v) :: D.2.2.2) = bif Nat.beq k a && Nat.beq j b then some v else dh_lk a b D.2.2.2 := rfl
  rw [e0]
  by_cases e1 : a = k
  · rw [if_pos e1]
    subst e1
    by_cases e2 : b = j
    · rw [if_pos e2]
      subst e2
      rw [Nat.beq_refl, Nat.beq_refl]
      rfl
    · rw [if_neg e2, dh_bne (fun z => e2 z.symm), Bool.and_false]
      rfl
  · rw [if_neg e1, dh_bne (fun z => e1 z.symm), Bool.false_and]
    rfl
theorem dh_lk_none {k j : Nat} : ∀ {l : List (Nat × Nat × Value)}, (∀ e ∈ l, e.1 ≠ k) → dh_lk k j l = none
  | [], _ => rfl
  | e :: r, h => by
    unfold dh_lk
    rw [dh_bne (h e List.mem_cons_self), Bool.false_and]
    exact dh_lk_none fun x hx => h x (List.mem_cons_of_mem _ hx)
theorem dh_new_ok {sh : am_Sh} {N : Nat} {d : Nat → Value} (q : dh_new D sh N = some D') (hd : ∀ j, d j = dh_df sh j) : dh_h L xs D' = am_mk (dh_h L xs D) sh N d := by
  unfold dh_new at q
  rw [cond_eq_ite] at q
  split at q
  · rename_i hb
    have hb := (Bool.and_eq_true _ _ ▸ hb)
    have e := Option.some.inj q
    subst e
    unfold dh_h am_mk am_row
    dsimp only
    congr 3
    · funext k
      have e0 : dh_ls k ((D.1, sh) :: D.2.2.1) = bif Nat.beq D.1 k then some sh else dh_ls k D.2.2.1 := rfl
      rw [e0]
      by_cases e1 : k = D.1
      · rw [if_pos e1, e1, Nat.beq_refl]
        rfl
      · rw [if_neg e1, dh_bne (fun z => e1 z.symm)]
        rfl
    · funext k j
      by_cases e1 : k = D.1
      · rw [if_pos e1, e1]
        rw [dh_lk_none fun x hx => Nat.ne_of_lt (Nat.le_of_ble_eq_true (List.all_eq_true.1 hb.2 x hx))]
        have e0 : dh_ls D.1 ((D.1, sh) :: D.2.2.1) = bif Nat.beq D.1 D.1 then some sh else dh_ls D.1 D.2.2.1 := rfl
        rw [e0, Nat.beq_refl]
        exact (hd j).symm
      · rw [if_neg e1]
        have : dh_ls k ((D.1, sh) :: D.2.2.1) = dh_ls k D.2.2.1 := by
          show (bif Nat.beq D.1 k then some sh else dh_ls k D.2.2.1) = _
          rw [dh_bne (fun z => e1 z.symm)]
          rfl
        rw [this]
  · cases q
def dh_isO (D : dh_D) (a ci : Nat) : Bool := Nat.blt a D.1 && (match dh_ls a D.2.2.1 with
  | some sh => Nat.beq sh.1 0 && Nat.beq sh.2.1 ci
  | none => false)
def dh_isA (D : dh_D) (a tc : Nat) : Option Nat := bif Nat.blt a D.1 then (match dh_ls a D.2.2.1 with
  | some sh => bif Nat.beq sh.1 1 && Nat.beq sh.2.1 tc then some sh.2.2 else none
  | none => none) else none
theorem dh_isO_ok {a ci : Nat} (q : dh_isO D a ci = true) : am_isO (dh_h L xs D) a ci = true ∧ ∃ sh, dh_ls a D.2.2.1 = some sh := by
  have q := (Bool.and_eq_true _ _ ▸ q)
  have q2 := q.2
  split at q2
  · rename_i sh hs
    refine ⟨?_, sh, hs⟩
    unfold am_isO
    show (Nat.blt a D.1 && Nat.beq (match dh_ls a D.2.2.1 with
      | some s => s
      | none => am_sh0 L a).1 0 && Nat.beq (match dh_ls a D.2.2.1 with
      | some s => s
      | none => am_sh0 L a).2.1 ci) = true
    rw [hs, q.1]
    exact q2
  · cases q2
theorem dh_isA_ok {a tc n : Nat} (q : dh_isA D a tc = some n) : a < D.1 ∧ (dh_h L xs D).2.2.1 a = (1, tc, n) := by
  unfold dh_isA at q
  rw [cond_eq_ite] at q
  split at q
  · rename_i hb
    split at q
    · rename_i sh hs
      rw [cond_eq_ite] at q
      split at q
      · rename_i h2
        have h2 := (Bool.and_eq_true _ _ ▸ h2)
        have e := Option.some.inj q
        refine ⟨Nat.le_of_ble_eq_true hb, ?_⟩
        show (match dh_ls a D.2.2.1 with
          | some s => s
          | none => am_sh0 L a) = (1, tc, n)
        rw [hs]
        obtain ⟨s1, s2, s3⟩ := sh
        have z1 := am_beq h2.1
        have z2 := am_beq h2.2
        dsimp only at z1 z2 e
        show (s1, s2, s3) = _
        rw [z1, z2, e]
      · cases q
    · cases q
  · cases q
def dh_val (D : dh_D) (a j : Nat) : Value := match dh_lk a j D.2.2.2 with
  | some v => v
  | none => (match dh_ls a D.2.2.1 with
    | some s => dh_df s j
    | none => .null)
theorem dh_val_ok {a j : Nat} {sh : am_Sh} (hs : dh_ls a D.2.2.1 = some sh) : (dh_h L xs D).2.2.2 a j = dh_val D a j := by
  show (match dh_lk a j D.2.2.2 with
    | some v => v
    | none => (match dh_ls a D.2.2.1 with
      | some s => dh_df s j
      | none => am_V0 xs a j)) = dh_val D a j
  unfold dh_val
  rw [hs]
end CMA
/-- steps that don't touch the heap -/
def dh_pi (i : Instr) : Bool := match i with
  | .aload_n _ => true
  | .iload_n _ => true
  | .bipush _ => true
  | .iconst _ => true
  | .sipush _ => true
  | .dup => true
  | .istore_n _ => true
  | .if_icmp _ _ => true
  | .goto _ => true
  | .iinc _ _ => true
  | .getstatic _ => true
  | .aconst_null => true
  | .iadd => true
  | _ => false
theorem dh_pi_ok {e : am_E} {pc : Nat} {ls st : List Value} {h h' : am_H} (q : dh_pi e.1 = true) : am_st e pc ls st h' = (am_st e pc ls st h).map fun x => (x.1, x.2.1, x.2.2.1, h') := by
  obtain ⟨i, r⟩ := e
  cases i
  all_goals first
    | exact absurd q Bool.false_ne_true
    | skip
  case iconst => rfl
  case bipush => rfl
  case sipush => rfl
  case goto => rfl
  case aconst_null => rfl
  case getstatic => rfl
  case iload_n k =>
    dsimp only [am_st]
    split <;> rfl
  case aload_n k =>
    dsimp only [am_st]
    split <;> rfl
  case istore_n k =>
    dsimp only [am_st]
    split
    · rw [cond_eq_ite]
      split
      · rename_i hb
        rw [hb]
        rfl
      · rename_i hb
        rw [cond_eq_ite, if_neg hb]
        rfl
    · rfl
  case iinc k n =>
    dsimp only [am_st]
    split <;> rfl
  case iadd =>
    dsimp only [am_st]
    split <;> rfl
  case dup =>
    dsimp only [am_st]
    split
    · rw [cond_eq_ite]
      split
      · rename_i hb
        rw [hb]
        rfl
      · rename_i hb
        rw [cond_eq_ite, if_neg hb]
        rfl
    · rfl
  case if_icmp c k =>
    dsimp only [am_st]
    split
    · cases c <;> dsimp only <;> split <;> rfl
    · rfl
def dh_x : am_H := (0, 0, (fun _ => (0, 0, 0)), (fun _ _ => .null))
def dh_st (e : am_E) (pc : Nat) (ls st : List Value) (D : dh_D) : Option (Nat × List Value × List Value × dh_D) := bif dh_pi e.1 then (match am_st e pc ls st dh_x with
    | some x => some (x.1, x.2.1, x.2.2.1, D)
    | none => none)
  else (match e.1 with
    | .getfield _ => (match st with
      | .ref a :: r => bif dh_isO D a e.2.2.2.1 then some (pc + 3, ls, dh_val D a e.2.2.2.2.1 :: r, D) else none
      | _ => none)
    | .putfield _ => (match st with
      | v :: .ref a :: r => bif dh_isO D a e.2.2.2.1 && am_fok (am_ty e.2.2.2.1 e.2.2.2.2.1) v then some (pc + 3, ls, r, dh_put D a e.2.2.2.2.1 v) else none
      | _ => none)
    | .iaload => (match st with
      | .int i :: .ref a :: r => bif Nat.ble 1 a && Nat.blt a 7 && Nat.ble 40 D.1 && decide (0 ≤ i.toInt) && decide (i.toInt < 7) && (dh_ls a D.2.2.1).isNone && (dh_lk a i.toInt.toNat D.2.2.2).isNone then some (pc + 1, ls, .int (am_sv a i.toInt.toNat) :: r, D) else none
      | _ => none)
    | .iastore => (match st with
      | .int x :: .int i :: .ref a :: r => (match dh_isA D a 0 with
        | some n => bif decide (0 ≤ i.toInt) && decide (i.toInt < n) then some (pc + 1, ls, r, dh_put D a i.toInt.toNat (.int x)) else none
        | none => none)
      | _ => none)
    | .arraylength => (match st with
      | .ref a :: r => (match dh_isA D a 0 with
        | some n => some (pc + 1, ls, .int (Int32.ofNat n) :: r, D)
        | none => none)
      | _ => none)
    | .new _ => (match dh_new D (0, e.2.2.2.1, am_N e.2.2.2.1) (am_N e.2.2.2.1) with
      | some D' => some (pc + 3, ls, .ref D.1 :: st, D')
      | none => none)
    | .newarray _ => (match st with
      | .int n :: r => bif decide (0 ≤ n.toInt) && decide (n.toInt ≤ 100000) then (match dh_new D (1, e.2.2.2.1, n.toInt.toNat) n.toInt.toNat with
        | some D' => some (pc + 2, ls, .ref D.1 :: r, D')
        | none => none) else none
      | _ => none)
    | .anewarray _ => (match st with
      | .int n :: r => bif decide (0 ≤ n.toInt) && decide (n.toInt ≤ 100000) && Nat.ble 4 e.2.2.2.1 then (match dh_new D (1, e.2.2.2.1, n.toInt.toNat) n.toInt.toNat with
        | some D' => some (pc + 3, ls, .ref D.1 :: r, D')
        | none => none) else none
      | _ => none)
    | _ => none)
section CMB
variable {L : Nat} {xs : Nat → Int32} {D : dh_D}
theorem dh_neg {n : Int32} (h : 0 ≤ n.toInt) : ¬ (n < 0) := fun z => by
  have := Int32.lt_iff_toInt_lt.1 z
  rw [show (0 : Int32).toInt = 0 by decide] at this
  omega
theorem dh_st_ok {e : am_E} {pc : Nat} {ls st : List Value} {x : Nat × List Value × List Value × dh_D} (q : dh_st e pc ls st D = some x) : am_st e pc ls st (dh_h L xs D) = some (x.1, x.2.1, x.2.2.1, dh_h L xs x.2.2.2) := by
  unfold dh_st at q
  cases hp : dh_pi e.1 with
  | true =>
    rw [hp] at q
    simp only [cond_true] at q
    rw [dh_pi_ok (h := dh_x) hp]
    split at q
    · rename_i y hy
      rw [hy]
      cases q
      rfl
    · cases q
  | false =>
    rw [hp] at q
    simp only [cond_false] at q
    obtain ⟨i, l, t, ci, b, w⟩ := e
    dsimp only at q hp ⊢
    split at q
    · split at q
      · rename_i a r
        rw [cond_eq_ite] at q
        split at q
        · rename_i ho
          cases q
          obtain ⟨o1, sh, hs⟩ := dh_isO_ok (L := L) (xs := xs) ho
          dsimp only [am_st]
          rw [o1, dh_val_ok hs]
          rfl
        · cases q
      · cases q
    · split at q
      · rename_i v a r
        rw [cond_eq_ite] at q
        split at q
        · rename_i ho
          have ho := (Bool.and_eq_true _ _ ▸ ho)
          cases q
          obtain ⟨o1, sh, hs⟩ := dh_isO_ok (L := L) (xs := xs) ho.1
          dsimp only [am_st]
          rw [o1, ho.2, dh_put_ok]
          rfl
        · cases q
      · cases q
    · split at q
      · rename_i i a r
        rw [cond_eq_ite] at q
        split at q
        · rename_i hb
          have b1 := (Bool.and_eq_true _ _ ▸ hb)
          have b2 := (Bool.and_eq_true _ _ ▸ b1.1)
          have b3 := (Bool.and_eq_true _ _ ▸ b2.1)
          have b4 := (Bool.and_eq_true _ _ ▸ b3.1)
          have b5 := (Bool.and_eq_true _ _ ▸ b4.1)
          have b6 := (Bool.and_eq_true _ _ ▸ b5.1)
          have a1 := Nat.le_of_ble_eq_true b6.1
          have a7 : a < 7 := Nat.le_of_ble_eq_true b6.2
          have h40 := Nat.le_of_ble_eq_true b5.2
          have a0 : a ≠ 0 := Nat.ne_of_gt a1
          have aD : a < D.1 := Nat.lt_of_lt_of_le a7 (Nat.le_trans (by decide : 7 ≤ 40) h40)
          have i0 : 0 ≤ i.toInt := of_decide_eq_true b4.2
          have i1 : i.toInt < 7 := of_decide_eq_true b3.2
          have n1 := Option.isNone_iff_eq_none.1 b2.2
          have n2 := Option.isNone_iff_eq_none.1 b1.2
          cases q
          have sh : (dh_h L xs D).2.2.1 a = (2, 0, 7) := by
            show (match dh_ls a D.2.2.1 with
              | some s => s
              | none => am_sh0 L a) = _
            rw [n1]
            unfold am_sh0
            dsimp only
            rw [dh_bne a0, show Nat.blt a 7 = true from Nat.ble_eq_true_of_le a7]
            rfl
          have vl : (dh_h L xs D).2.2.2 a i.toInt.toNat = .int (am_sv a i.toInt.toNat) := by
            show (match dh_lk a i.toInt.toNat D.2.2.2 with
              | some v => v
              | none => (match dh_ls a D.2.2.1 with
                | some s => dh_df s i.toInt.toNat
                | none => am_V0 xs a i.toInt.toNat)) = _
            rw [n2, n1]
            unfold am_V0
            rw [dh_bne a0]
            rfl
          have rd : am_rd (dh_h L xs D) a i (fun c => Nat.beq c 0) = some (.int (am_sv a i.toInt.toNat)) := by
            unfold am_rd
            rw [sh, show Nat.blt a (dh_h L xs D).1 = true from Nat.ble_eq_true_of_le aD]
            rw [if_neg]
            · show some ((dh_h L xs D).2.2.2 a i.toInt.toNat) = _
              rw [vl]
            · rintro (z | z)
              · exact dh_neg i0 z
              · have z : 7 ≤ i.toInt.toNat := z
                omega
          dsimp only [am_st]
          rw [rd]
        · cases q
      · cases q
    · split at q
      · rename_i x i a r
        split at q
        · rename_i n hA
          rw [cond_eq_ite] at q
          split at q
          · rename_i hb
            have hb := (Bool.and_eq_true _ _ ▸ hb)
            cases q
            obtain ⟨l1, s1⟩ := dh_isA_ok (L := L) (xs := xs) hA
            have wr : am_wr (dh_h L xs D) a i 0 (.int x) = some (am_put (dh_h L xs D) a i.toInt.toNat (.int x)) := hd_wrS l1 s1 (of_decide_eq_true hb.1) (of_decide_eq_true hb.2)
            dsimp only [am_st]
            rw [wr, dh_put_ok]
          · cases q
        · cases q
      · cases q
    · split at q
      · rename_i a r
        split at q
        · rename_i n hA
          cases q
          obtain ⟨l1, s1⟩ := dh_isA_ok (L := L) (xs := xs) hA
          have ln : am_len (dh_h L xs D) a = some n := by
            unfold am_len
            rw [s1, show Nat.blt a (dh_h L xs D).1 = true from Nat.ble_eq_true_of_le l1]
            rfl
          dsimp only [am_st]
          rw [ln]
        · cases q
      · cases q
    · split at q
      · rename_i D' hn
        cases q
        dsimp only [am_st]
        rw [dh_new_ok hn (d := fun j => defaultValue (am_ty ci j)) (fun j => rfl)]
        rfl
      · cases q
    · split at q
      · rename_i n r
        rw [cond_eq_ite] at q
        split at q
        · rename_i hb
          have hb := (Bool.and_eq_true _ _ ▸ hb)
          have n0 : 0 ≤ n.toInt := of_decide_eq_true hb.1
          have n1 : n.toInt ≤ 100000 := of_decide_eq_true hb.2
          split at q
          · rename_i D' hn
            cases q
            dsimp only [am_st]
            rw [if_neg (fun z => z.elim (dh_neg n0) (fun z => by have z : 100000 < n.toInt.toNat := z; omega))]
            rw [dh_new_ok hn (d := fun _ => am_dv ci) (fun j => rfl)]
            rfl
          · cases q
        · cases q
      · cases q
    · split at q
      · rename_i n r
        rw [cond_eq_ite] at q
        split at q
        · rename_i hb
          have hb := (Bool.and_eq_true _ _ ▸ hb)
          have hb1 := (Bool.and_eq_true _ _ ▸ hb.1)
          have n0 : 0 ≤ n.toInt := of_decide_eq_true hb1.1
          have n1 : n.toInt ≤ 100000 := of_decide_eq_true hb1.2
          split at q
          · rename_i D' hn
            cases q
            dsimp only [am_st]
            rw [if_neg (fun z => z.elim (dh_neg n0) (fun z => by have z : 100000 < n.toInt.toNat := z; omega))]
            have c4 := Nat.le_of_ble_eq_true hb.2
            rw [dh_new_ok hn (d := fun _ => .null) (fun j => by
              show Value.null = am_dv ci
              obtain ⟨c5, rfl⟩ : ∃ c5, ci = c5 + 4 := ⟨ci - 4, by omega⟩
              rfl)]
            rfl
          · cases q
        · cases q
      · cases q
    · cases q
end CMB
end
section
/-! THE START, 2: runs on heaps that are data -/
def dh_src (D : dh_D) (a j : Nat) : Option Int32 := bif Nat.ble 1 a && (dh_ls a D.2.2.1).isNone && (dh_lk a j D.2.2.2).isNone then some (am_sv a j) else (match dh_ls a D.2.2.1 with
  | some _ => (match dh_val D a j with
    | .int x => some x
    | _ => none)
  | none => none)
def dh_cpL (D : dh_D) (a b : Nat) : Nat → Option dh_D
  | 0 => some D
  | n + 1 => (match dh_cpL D a b n with
    | some D' => (match dh_src D a n with
      | some x => some (dh_put D' b n (.int x))
      | none => none)
    | none => none)
def dh_sA (D : dh_D) (a n : Nat) : Bool := (Nat.ble 1 a && Nat.blt a 7 && Nat.ble 40 D.1 && (dh_ls a D.2.2.1).isNone && Nat.ble n 7) || (match dh_isA D a 0 with
  | some m => Nat.ble n m
  | none => false)
def dh_dA (D : dh_D) (b n : Nat) : Bool := match dh_isA D b 0 with
  | some m => Nat.ble n m
  | none => false
def dh_cp (D : dh_D) (a : Nat) (sp : Int32) (b : Nat) (dp n : Int32) : Option dh_D := bif decide (sp = 0) && decide (dp = 0) && decide (0 ≤ n.toInt) && dh_sA D a n.toInt.toNat && dh_dA D b n.toInt.toNat then dh_cpL D a b n.toInt.toNat else none
def dh_stop (D : dh_D) (a : Nat) : dh_D := dh_put (dh_put (dh_put (dh_put D a 0 .null) a 1 .null) a 2 .null) a 3 .null
abbrev dh_F : Type := Nat → Nat → Nat → List Value → List Value → dh_D → Option (Option Value × dh_D)
def dh_rcv (z : Nat) (as : List Value) (D : dh_D) : Bool := match (am_in z).2.2.2 with
  | 1 => true
  | 2 => (match as with
    | .ref _ :: _ => true
    | _ => false)
  | _ => (match as with
    | .ref k :: _ => dh_isO D k (am_in z).1
    | _ => false)
def dh_cal (rec : dh_F) (d y pc : Nat) (ls st : List Value) (D : dh_D) (e : am_E) : Option (Option Value × dh_D) := match d with
  | 0 => none
  | d' + 1 => bif Nat.beq e.2.2.2.1 1000 then (match st with
      | .ref _ :: r => bif Nat.ble (am_cs r) 8 then rec (d' + 1) y (pc + 3) ls r D else none
      | _ => none)
    else bif Nat.beq e.2.2.2.1 1001 then (match st with
      | .int n :: .int dp :: .ref b :: .int sp :: .ref a :: r => bif Nat.ble (am_cs r) 8 then (match dh_cp D a sp b dp n with
        | some D' => rec (d' + 1) y (pc + 3) ls r D'
        | none => none) else none
      | _ => none)
    else bif Nat.beq e.2.2.2.1 1002 then (match st with
      | .ref a :: r => bif Nat.ble (am_cs r) 8 && dh_isO D a 12 && Nat.ble 3 d' then rec (d' + 1) y (pc + 3) ls r (dh_stop D a) else none
      | _ => none)
    else bif Nat.beq e.2.2.2.1 10 then (match st with
      | .int b :: .int a :: r => bif Nat.ble (am_cs r) 8 && Nat.beq e.2.2.2.2.1 0 then rec (d' + 1) y (pc + 3) ls (.int (if a < b then b else a) :: r) D else none
      | _ => none)
    else bif Nat.blt e.2.2.2.1 264 && !Nat.beq e.2.2.2.1 57 && Nat.blt 0 e.2.2.2.1 && Nat.ble (am_in e.2.2.2.1).2.1 st.length && Nat.ble (am_cs (st.drop (am_in e.2.2.2.1).2.1)) 8 && dh_rcv e.2.2.2.1 (st.take (am_in e.2.2.2.1).2.1).reverse D && Nat.ble (am_wid (st.take (am_in e.2.2.2.1).2.1).reverse).length (am_in e.2.2.2.1).2.2.1 then
      (match rec d' e.2.2.2.1 0 (am_ent (st.take (am_in e.2.2.2.1).2.1).reverse (am_in e.2.2.2.1).2.2.1) [] D with
      | some (v, D') => (match am_isT v with
        | some _ => none
        | none => rec (d' + 1) y (pc + 3) ls (v.toList ++ st.drop (am_in e.2.2.2.1).2.1) D')
      | none => none)
    else none
def dh_one (rec : dh_F) (d y pc : Nat) (ls st : List Value) (D : dh_D) : Option (Option Value × dh_D) := match (bif Nat.blt y am_NM && Nat.blt pc (am_bd y) then am_code y pc else none) with
  | none => none
  | some e => (match e.1 with
    | .ireturn => (match st with
      | [.int v] => bif am_rok (am_rt y) v then some (some (.int v), D) else none
      | _ => none)
    | .return_ => (match st with
      | [] => some (none, D)
      | _ => none)
    | .invokestatic _ => dh_cal rec d y pc ls st D e
    | .invokevirtual _ => dh_cal rec d y pc ls st D e
    | .invokespecial _ => dh_cal rec d y pc ls st D e
    | .lreturn => none
    | .areturn => none
    | .athrow => none
    | _ => (match dh_st e pc ls st D with
      | some (pc', ls', st', D') => rec d y pc' ls' st' D'
      | none => none))
def dh_run (n : Nat) : dh_F := Nat.rec (fun _ _ _ _ _ _ => none) (fun _ rec => dh_one rec) n
section CMC
variable {L : Nat} {xs : Nat → Int32} {D D' : dh_D}
theorem dh_src_ok {a j : Nat} {x : Int32} (q : dh_src D a j = some x) : (dh_h L xs D).2.2.2 a j = .int x := by
  unfold dh_src at q
  rw [cond_eq_ite] at q
  split at q
  · rename_i hb
    have b1 := (Bool.and_eq_true _ _ ▸ hb)
    have b2 := (Bool.and_eq_true _ _ ▸ b1.1)
    have a1 := Nat.le_of_ble_eq_true b2.1
    have n1 := Option.isNone_iff_eq_none.1 b2.2
    have n2 := Option.isNone_iff_eq_none.1 b1.2
    have a0 : a ≠ 0 := Nat.ne_of_gt a1
    rw [← Option.some.inj q]
    show (match dh_lk a j D.2.2.2 with
      | some v => v
      | none => (match dh_ls a D.2.2.1 with
        | some s => dh_df s j
        | none => am_V0 xs a j)) = _
    rw [n2, n1]
    unfold am_V0
    rw [dh_bne a0]
    rfl
  · split at q
    · rename_i sh hs
      split at q
      · rename_i y hv
        rw [← Option.some.inj q, dh_val_ok hs, hv]
      · cases q
    · cases q
theorem dh_cpL_ok {a b : Nat} : ∀ (n : Nat) {D' : dh_D}, dh_cpL D a b n = some D' → dh_h L xs D' = ((dh_h L xs D).1, (dh_h L xs D).2.1, (dh_h L xs D).2.2.1, am_row (dh_h L xs D).2.2.2 b (fun j => if j < n then (dh_h L xs D).2.2.2 a j else (dh_h L xs D).2.2.2 b j)) ∧ ∀ j, j < n → am_isI ((dh_h L xs D).2.2.2 a j) = true
  | 0, D', q => by
    have e := Option.some.inj q
    subst e
    refine ⟨?_, fun j hj => absurd hj (Nat.not_lt_zero j)⟩
    generalize dh_h L xs D = h
    obtain ⟨h1, h2, h3, h4⟩ := h
    dsimp only
    congr 3
    funext k j
    unfold am_row
    by_cases e : k = b
    · subst e; simp
    · simp [e]
  | n + 1, D', q => by
    unfold dh_cpL at q
    split at q
    · rename_i D1 h1
      split at q
      · rename_i x hx
        have e := Option.some.inj q
        subst e
        obtain ⟨k1, k2⟩ := dh_cpL_ok n h1
        have sx := dh_src_ok (L := L) (xs := xs) hx
        rw [dh_put_ok, k1]
        generalize dh_h L xs D = h at sx k2 ⊢
        refine ⟨?_, fun j hj => ?_⟩
        · unfold am_put am_up am_row
          dsimp only
          congr 3
          funext k j
          by_cases e : k = b
          · subst e
            by_cases ej : j = n
            · subst ej
              simp [sx]
            · have : (j < n + 1) = (j < n) := by
                apply propext
                constructor
                · intro z; omega
                · intro z; omega
              simp [ej, this]
          · simp [e]
        · rcases Nat.lt_succ_iff_lt_or_eq.1 hj with z | z
          · exact k2 j z
          · rw [z, sx]; rfl
      · cases q
    · cases q
theorem dh_sA_ok {a n : Nat} (q : dh_sA D a n = true) : Nat.blt a (dh_h L xs D).1 = true ∧ ((dh_h L xs D).2.2.1 a).2.1 = 0 ∧ (((dh_h L xs D).2.2.1 a).1 = 1 ∨ ((dh_h L xs D).2.2.1 a).1 = 2) ∧ n ≤ ((dh_h L xs D).2.2.1 a).2.2 := by
  rcases (Bool.or_eq_true _ _ ▸ q) with q | q
  · have b1 := (Bool.and_eq_true _ _ ▸ q)
    have b2 := (Bool.and_eq_true _ _ ▸ b1.1)
    have b3 := (Bool.and_eq_true _ _ ▸ b2.1)
    have b4 := (Bool.and_eq_true _ _ ▸ b3.1)
    have a1 := Nat.le_of_ble_eq_true b4.1
    have a7 : a < 7 := Nat.le_of_ble_eq_true b4.2
    have h40 := Nat.le_of_ble_eq_true b3.2
    have n1 := Option.isNone_iff_eq_none.1 b2.2
    have a0 : a ≠ 0 := Nat.ne_of_gt a1
    have aD : a < D.1 := Nat.lt_of_lt_of_le a7 (Nat.le_trans (by decide : 7 ≤ 40) h40)
    have sh : (dh_h L xs D).2.2.1 a = (2, 0, 7) := by
      show (match dh_ls a D.2.2.1 with
        | some s => s
        | none => am_sh0 L a) = _
      rw [n1]
      unfold am_sh0
      dsimp only
      rw [dh_bne a0, show Nat.blt a 7 = true from Nat.ble_eq_true_of_le a7]
      rfl
    rw [sh]
    exact ⟨Nat.ble_eq_true_of_le aD, rfl, Or.inr rfl, Nat.le_of_ble_eq_true b1.2⟩
  · split at q
    · rename_i m hA
      obtain ⟨l1, s1⟩ := dh_isA_ok (L := L) (xs := xs) hA
      rw [s1]
      exact ⟨Nat.ble_eq_true_of_le l1, rfl, Or.inl rfl, Nat.le_of_ble_eq_true q⟩
    · cases q
theorem dh_dA_ok {a n : Nat} (q : dh_dA D a n = true) : Nat.blt a (dh_h L xs D).1 = true ∧ ((dh_h L xs D).2.2.1 a).2.1 = 0 ∧ ((dh_h L xs D).2.2.1 a).1 = 1 ∧ n ≤ ((dh_h L xs D).2.2.1 a).2.2 := by
  unfold dh_dA at q
  split at q
  · rename_i m hA
    obtain ⟨l1, s1⟩ := dh_isA_ok (L := L) (xs := xs) hA
    rw [s1]
    exact ⟨Nat.ble_eq_true_of_le l1, rfl, rfl, Nat.le_of_ble_eq_true q⟩
  · cases q
theorem dh_cp_ok {a b : Nat} {sp dp n : Int32} (q : dh_cp D a sp b dp n = some D') : am_cp (dh_h L xs D) a sp b dp n = some (dh_h L xs D') := by
  unfold dh_cp at q
  rw [cond_eq_ite] at q
  split at q
  · rename_i hb
    have b1 := (Bool.and_eq_true _ _ ▸ hb)
    have b2 := (Bool.and_eq_true _ _ ▸ b1.1)
    have b3 := (Bool.and_eq_true _ _ ▸ b2.1)
    have b4 := (Bool.and_eq_true _ _ ▸ b3.1)
    have e1 : sp = 0 := of_decide_eq_true b4.1
    have e2 : dp = 0 := of_decide_eq_true b4.2
    have n0 : 0 ≤ n.toInt := of_decide_eq_true b3.2
    subst e1 e2
    obtain ⟨s1, s2, s3, s4⟩ := dh_sA_ok (L := L) (xs := xs) b2.2
    obtain ⟨d1, d2, d3, d4⟩ := dh_dA_ok (L := L) (xs := xs) b1.2
    obtain ⟨k1, k2⟩ := dh_cpL_ok (L := L) (xs := xs) _ q
    have eN : n.toNatClampNeg = n.toInt.toNat := rfl
    have e0 : (0 : Int32).toNatClampNeg = 0 := by decide
    unfold am_cp
    rw [s1, s2, d1, d2, d3, e0, eN, k1]
    rw [show (Nat.beq ((dh_h L xs D).2.2.1 a).1 1 || Nat.beq ((dh_h L xs D).2.2.1 a).1 2) = true by rcases s3 with z | z <;> (rw [z]; rfl)]
    have al : ((List.range n.toInt.toNat).all fun i => am_isI ((dh_h L xs D).2.2.2 a (0 + i))) = true := by
      rw [List.all_eq_true]
      intro i hi
      rw [Nat.zero_add]
      exact k2 i (List.mem_range.1 hi)
    rw [al]
    rw [if_neg]
    · simp only [Nat.beq_refl, Bool.and_self, cond_true, Nat.zero_add, Nat.sub_zero, Nat.zero_le, true_and]
    · rintro (z | z | z | z | z)
      · exact absurd z (by decide)
      · exact absurd z (by decide)
      · exact dh_neg n0 z
      · omega
      · omega
  · cases q
theorem dh_stop_ok {a : Nat} : am_stop (dh_h L xs D) a = dh_h L xs (dh_stop D a) := by
  unfold dh_stop
  simp only [dh_put_ok]
  generalize dh_h L xs D = h
  unfold am_stop am_put am_up am_row
  dsimp only
  congr 3
  funext k j
  by_cases e : k = a
  · subst e
    rcases (show j = 0 ∨ j = 1 ∨ j = 2 ∨ j = 3 ∨ 4 ≤ j by omega) with z | z | z | z | z
    · subst z; simp [Nat.blt]; rfl
    · subst z; simp [Nat.blt]; rfl
    · subst z; simp [Nat.blt]; rfl
    · subst z; simp [Nat.blt]; rfl
    · have : Nat.blt j 4 = false := by
        cases w : Nat.blt j 4 with
        | false => rfl
        | true =>
          have : j < 4 := Nat.le_of_ble_eq_true w
          omega
      have c0 : j ≠ 0 := by omega
      have c1 : j ≠ 1 := by omega
      have c2 : j ≠ 2 := by omega
      have c3 : j ≠ 3 := by omega
      simp [this, c0, c1, c2, c3]
  · simp only [if_neg e]
theorem dh_rcv_ok {z : Nat} {as : List Value} (q : dh_rcv z as D = true) : am_rcv z as (dh_h L xs D) = true := by
  unfold dh_rcv at q
  unfold am_rcv
  generalize (am_in z).2.2.2 = m at q ⊢
  split at q
  · rfl
  · skip
    cases as with
    | nil => cases q
    | cons v r => cases v <;> first | rfl | cases q
  · rename_i n1 n2
    cases as with
    | nil => cases q
    | cons v r =>
      cases v <;> first | cases q | skip
      split
      · rfl
      · rfl
      · exact (dh_isO_ok q).1
def dh_Q (L : Nat) (xs : Nat → Int32) (rd : dh_F) (ra : am_F) : Prop := ∀ d y pc ls st D v D', rd d y pc ls st D = some (v, D') → ra d y pc ls st (dh_h L xs D) = some (v, dh_h L xs D')
theorem dh_cal_ok {rd : dh_F} {ra : am_F} (ih : dh_Q L xs rd ra) {d y pc : Nat} {ls st : List Value} {e : am_E} {v : Option Value} (q : dh_cal rd d y pc ls st D e = some (v, D')) : am_cal ra d y pc ls st (dh_h L xs D) e = some (v, dh_h L xs D') := by
  unfold dh_cal at q
  split at q
  · cases q
  · rename_i d'
    unfold am_cal am_cal0
    generalize e.2.2.2.1 = z at q ⊢
    cases t1 : Nat.beq z 1000 with
    | true =>
      have z1 := am_beq t1
      subst z1
      rw [t1] at q
      simp only [cond_true] at q
      rw [show (Nat.beq 1000 1003 || Nat.beq 1000 1004) = false by decide]
      simp only [cond_false, cond_true]
      split at q
      · rw [cond_eq_ite] at q
        split at q
        · rename_i hc
          dsimp only
          rw [hc]
          exact ih _ _ _ _ _ _ _ _ q
        · cases q
      · cases q
    | false =>
    rw [t1] at q
    simp only [cond_false] at q
    cases t2 : Nat.beq z 1001 with
    | true =>
      have z1 := am_beq t2
      subst z1
      rw [t2] at q
      simp only [cond_true] at q
      rw [show (Nat.beq 1001 1003 || Nat.beq 1001 1004) = false by decide]
      simp only [cond_false, cond_true]
      split at q
      · rw [cond_eq_ite] at q
        split at q
        · rename_i hc
          split at q
          · rename_i D1 hcp
            dsimp only
            rw [hc, dh_cp_ok hcp]
            exact ih _ _ _ _ _ _ _ _ q
          · cases q
        · cases q
      · cases q
    | false =>
    rw [t2] at q
    simp only [cond_false] at q
    cases t3 : Nat.beq z 1002 with
    | true =>
      have z1 := am_beq t3
      subst z1
      rw [t3] at q
      simp only [cond_true] at q
      rw [show (Nat.beq 1002 1003 || Nat.beq 1002 1004) = false by decide]
      simp only [cond_false, cond_true]
      split at q
      · rw [cond_eq_ite] at q
        split at q
        · rename_i hc
          have hc1 := (Bool.and_eq_true _ _ ▸ hc)
          have hc2 := (Bool.and_eq_true _ _ ▸ hc1.1)
          dsimp only
          rw [hc2.1, (dh_isO_ok hc2.2).1, hc1.2, dh_stop_ok]
          exact ih _ _ _ _ _ _ _ _ q
        · cases q
      · cases q
    | false =>
    rw [t3] at q
    simp only [cond_false] at q
    cases t4 : Nat.beq z 10 with
    | true =>
      have z1 := am_beq t4
      subst z1
      rw [t4] at q
      simp only [cond_true] at q
      rw [show (Nat.beq 10 1003 || Nat.beq 10 1004) = false by decide]
      simp only [cond_false, cond_true]
      split at q
      · rw [cond_eq_ite] at q
        split at q
        · rename_i hc
          dsimp only
          rw [hc]
          exact ih _ _ _ _ _ _ _ _ q
        · cases q
      · cases q
    | false =>
    rw [t4] at q
    simp only [cond_false] at q
    rw [cond_eq_ite] at q
    split at q
    · rename_i hb
      have b1 := (Bool.and_eq_true _ _ ▸ hb)
      have b2 := (Bool.and_eq_true _ _ ▸ b1.1)
      have b3 := (Bool.and_eq_true _ _ ▸ b2.1)
      have b4 := (Bool.and_eq_true _ _ ▸ b3.1)
      have b5 := (Bool.and_eq_true _ _ ▸ b4.1)
      have b6 := (Bool.and_eq_true _ _ ▸ b5.1)
      have hz : z < 264 := Nat.le_of_ble_eq_true b6.1
      rw [dh_bne (show z ≠ 1003 by omega), dh_bne (show z ≠ 1004 by omega)]
      rw [b5.2, b4.2, b3.2, dh_rcv_ok b2.2, b1.2, cq_nb b6.2]
      simp only [Bool.or_self, cond_false, Bool.and_self, cond_true]
      split at q
      · rename_i w D1 hr
        rw [ih _ _ _ _ _ _ _ _ hr]
        dsimp only
        split at q
        · cases q
        · rename_i hT
          rw [hT]
          exact ih _ _ _ _ _ _ _ _ q
      · cases q
    · cases q
theorem dh_one_ok {rd : dh_F} {ra : am_F} (ih : dh_Q L xs rd ra) : dh_Q L xs (dh_one rd) (am_one ra) := by
  intro d y pc ls st D v D' q
  unfold dh_one at q
  unfold am_one
  split at q
  · cases q
  · rename_i e hc
    try simp only [hc]
    split at q
    · rename_i hi
      try simp only [hi]
      split at q
      · rw [cond_eq_ite] at q
        split at q
        · rename_i hr
          cases q
          dsimp only
          rw [hr]
          rfl
        · cases q
      · cases q
    · rename_i hi
      try simp only [hi]
      split at q
      · cases q
        rfl
      · cases q
    · rename_i i hi
      try simp only [hi]
      exact dh_cal_ok ih q
    · rename_i i hi
      try simp only [hi]
      exact dh_cal_ok ih q
    · rename_i i hi
      try simp only [hi]
      exact dh_cal_ok ih q
    · cases q
    · cases q
    · cases q
    · rename_i n1 n2 n3 n4 n5 n6 n7 n8
      split at q
      · rename_i pc' ls' st' D1 hst
        have k := dh_st_ok (L := L) (xs := xs) hst
        dsimp only at k
        split
        · rename_i z; exact absurd z n1
        · rename_i z; exact absurd z n6
        · rename_i z; exact absurd z n7
        · rename_i z; exact absurd z n2
        · rename_i z; exact absurd z n8
        · rename_i z; exact absurd z (n3 _)
        · rename_i z; exact absurd z (n4 _)
        · rename_i z; exact absurd z (n5 _)
        · rw [k]
          exact ih _ _ _ _ _ _ _ _ q
      · cases q
theorem dh_run_ok : ∀ n, dh_Q L xs (dh_run n) (am_run n)
  | 0 => fun _ _ _ _ _ _ _ _ q => by cases q
  | n + 1 => fun d y pc ls st D v D' q => dh_one_ok (dh_run_ok n) d y pc ls st D v D' q
end CMC
end
section
/-! THE START, 3: the constructors -/
def dh_okr (r : Option (Option Value × dh_D)) : Bool := match r with
  | some (none, _) => true
  | _ => false
def dh_get (r : Option (Option Value × dh_D)) : dh_D := match r with
  | some (_, D) => D
  | none => (0, 0, [], [])
theorem dh_okr_ok {r : Option (Option Value × dh_D)} (q : dh_okr r = true) : r = some (none, dh_get r) := by
  cases r with
  | none => cases q
  | some x =>
    obtain ⟨v, D⟩ := x
    cases v with
    | none => rfl
    | some v => cases q
def dh_gn (r : Option dh_D) : dh_D := match r with
  | some D => D
  | none => (0, 0, [], [])
def dh_r1 : Option (Option Value × dh_D) := dh_run 3000 1299 1 0 (am_ent [.ref 40] (am_in 1).2.2.1) [] (dh_gn (dh_new (40, 0, [], []) (0, 11, am_N 11) (am_N 11)))
theorem dh_r1_ok : dh_okr dh_r1 = true := by decide +kernel
def dh_r2 : Option (Option Value × dh_D) := dh_run 3000 1299 161 0 (am_ent [.ref 78] (am_in 161).2.2.1) [] (dh_gn (dh_new (dh_get dh_r1) (0, 13, am_N 13) (am_N 13)))
theorem dh_r2_ok : dh_okr dh_r2 = true := by decide +kernel
theorem dh_n1 : (dh_get dh_r1).1 = 78 := by decide +kernel
theorem dh_n2 : (dh_get dh_r2).1 = 130 ∧ (dh_get dh_r2).2.1 = 67768 := by decide +kernel
end
