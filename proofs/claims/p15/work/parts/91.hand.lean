/-! BY HAND, 13: findPages, pagesOf and findBreaks -/
theorem hd_nle {a b : Int32} (h : a < b) : ¬ (b ≤ a) := fun z => by
  have h1 := Int32.lt_iff_toInt_lt.1 h
  have h2 := Int32.le_iff_toInt_le.1 z
  omega
theorem hd_nlt {a b : Int32} (h : ¬ (b ≤ a)) : a < b := by
  refine Int32.lt_iff_toInt_lt.2 ?_
  have h1 : ¬ (b.toInt ≤ a.toInt) := fun z => h (Int32.le_iff_toInt_le.2 z)
  omega
theorem hd_C.eq {hB h1 h2 : am_H} {t : Int32} {n i j : Nat} (C : hd_C hB h1 t n i j) (K : ∀ k, i ≤ k → hd_i h2 98 k = hd_i h1 98 k ∧ hd_i h2 99 k = hd_i h1 99 k) : hd_C hB h2 t n i j := by
  obtain ⟨a, b, c, d, e, f⟩ := C
  obtain ⟨k1, k2⟩ := K i (Nat.le_refl _)
  obtain ⟨k3, k4⟩ := K (j + 1) (by omega)
  exact ⟨a, b, c, by rw [k3]; exact d, by rw [k3, k1]; exact e, by rw [k4, k2]; exact f⟩
section HDR
variable {hB : am_H} {t nn : Int32} {n d : Nat}
/-- the outer loop of findPages -/
theorem hd_fp2 (I : cq_Inv none hB) (ht : 0 ≤ t.toInt ∧ t.toInt ≤ 119) (hl : cq_n hB 93 t.toInt.toNat = n) (n30 : n ≤ 30) (en : nn.toInt = n) (hd : 2 ≤ d) : ∀ (w : Nat) (ii : Int32) (v4 v5 v6 : Value) (hc : am_H), w ≤ n → ii.toInt = (w : Int) - 1 → hd_P hB hc → hd_i hc 98 n = 0 → (∀ i', w ≤ i' → i' < n → hd_i hc 98 i' = hd_NV ∨ ∃ j', hd_C hB hc t n i' j') → ∃ hc', am_ev (d + 1) 198 25 [.ref 78, .int t, .int nn, .int ii, v4, v5, v6] [] hc (some (.int (hd_i hc' 98 0)), hc') ∧ hd_P hB hc' ∧ hd_i hc' 98 n = 0 ∧ (∀ i', i' < n → hd_i hc' 98 i' = hd_NV ∨ ∃ j', hd_C hB hc' t n i' j') := by
  intro w
  induction w with
  | zero =>
    intro ii v4 v5 v6 hc hw ei P f0 S
    refine ⟨hc, ?_, P, f0, fun i' hi' => S i' (Nat.zero_le _) hi'⟩
    refine am_ev.step rfl rfl ?_
    refine am_ev.step (pc' := 187) (ls' := [.ref 78, .int t, .int nn, .int ii, v4, v5, v6]) (st' := []) (h' := hc) rfl (if_pos (Int32.lt_iff_toInt_lt.2 (by rw [show (0 : Int32).toInt = 0 by decide]; omega))) ?_
    refine am_ev.step rfl rfl ?_
    refine am_ev.step rfl (hd_gf (P.o I) (P.f29 I)) ?_
    refine am_ev.step rfl rfl ?_
    refine am_ev.step rfl (hd_ia (P.r98 I (i := Int32.ofInt 0) (k := 0) (by decide) (by decide))) ?_
    exact am_ev.reti rfl rfl rfl
  | succ w ih =>
    intro ii v4 v5 v6 hc hw ei P f0 S
    have ei : ii.toInt = w := by omega
    have nlt : ¬ (ii < 0) := fun z => by
      have := Int32.lt_iff_toInt_lt.1 z
      rw [show (0 : Int32).toInt = 0 by decide] at this
      omega
    have w98 := P.w98 I (x := hd_NV) ei (by omega)
    have P1 := P.p98 (j := w) (x := hd_NV)
    have w99 := P1.w99 I (x := Int32.ofInt 0) ei (by omega)
    have P2 := P1.p99 (j := w) (x := Int32.ofInt 0)
    obtain ⟨h2, u4, u5, u6, P3, K, S3, Q⟩ := hd_fp1 (d := d) I ht hl n30 en ei (show w < n by omega) hd (n - w) w ii v5 v6 _ (by omega) ei (Nat.le_refl _) P2 (Or.inl (by rw [hd_iv (by omega), hd_ip]))
    have K2 : ∀ k, w + 1 ≤ k → hd_i h2 98 k = hd_i hc 98 k ∧ hd_i h2 99 k = hd_i hc 99 k := fun k hk => by
      obtain ⟨k1, k2⟩ := K k (by omega)
      rw [k1, k2, hd_iv (by omega), hd_iv (by omega), hd_iv (by omega), hd_iv (by omega)]
      exact ⟨rfl, rfl⟩
    have e1 : (ii + Int32.ofInt (-1)).toInt = (w : Int) - 1 := by
      rw [hd_toA (by omega) (by omega) (by decide) (by decide), ei, show (Int32.ofInt (-1)).toInt = -1 by decide]
      omega
    obtain ⟨hc', ev, P4, f4, S4⟩ := ih (ii + Int32.ofInt (-1)) u4 u5 u6 h2 (by omega) e1 P3 (by rw [(K2 n (by omega)).1]; exact f0) (fun i' h1 h2' => by
      by_cases e : i' = w
      · subst e
        exact S3
      · rcases S i' (by omega) h2' with z | ⟨j', z⟩
        · left
          rw [(K2 i' (by omega)).1]
          exact z
        · exact Or.inr ⟨j', z.eq fun k hk => K2 k (by omega)⟩)
    refine ⟨hc', ?_, P4, f4, S4⟩
    refine am_ev.step rfl rfl ?_
    refine am_ev.step (pc' := 29) (ls' := [.ref 78, .int t, .int nn, .int ii, v4, v5, v6]) (st' := []) (h' := hc) rfl (if_neg nlt) ?_
    refine am_ev.step rfl rfl ?_
    refine am_ev.step rfl (hd_gf (P.o I) (P.f29 I)) ?_
    refine am_ev.step rfl rfl ?_
    refine am_ev.step rfl rfl ?_
    refine am_ev.step rfl (hd_is w98) ?_
    refine am_ev.step rfl rfl ?_
    refine am_ev.step rfl (hd_gf (P1.o I) (P1.f30 I)) ?_
    refine am_ev.step rfl rfl ?_
    refine am_ev.step rfl rfl ?_
    refine am_ev.step rfl (hd_is w99) ?_
    refine am_ev.step rfl rfl ?_
    refine am_ev.step rfl rfl ?_
    refine Q _ ?_
    refine am_ev.step rfl rfl ?_
    exact am_ev.step rfl rfl ev
end HDR
theorem hd_P0 {h : am_H} (I : cq_Inv none h) : hd_P h h := by
  refine ⟨⟨rfl, rfl, rfl⟩, fun _ _ _ _ => rfl, fun j hj => ?_, fun j hj => ?_⟩
  · have k := cq_tA I (c := 98) (j := j) (by decide) (by decide) (by decide +kernel) (by decide) (by rw [show (cq_fix 98).2.2 = 31 by decide +kernel]; exact hj)
    rw [show cq_ar 98 = (1, 0, 1000000000, 0, 0, 0) by decide +kernel] at k
    obtain ⟨x, ex, -⟩ := k
    rw [hd_ie ex]
    exact ex
  · have k := cq_tA I (c := 99) (j := j) (by decide) (by decide) (by decide +kernel) (by decide) (by rw [show (cq_fix 99).2.2 = 31 by decide +kernel]; exact hj)
    rw [show cq_ar 99 = (1, -2147483648, 2147483647, 0, 0, 0) by decide +kernel] at k
    obtain ⟨x, ex, -⟩ := k
    rw [hd_ie ex]
    exact ex
/-- findPages: its answer and its rows -/
theorem hd_198 {hB : am_H} {t : Int32} {d : Nat} (I : cq_Inv none hB) (ht : 0 ≤ t.toInt ∧ t.toInt ≤ 119) (hd : 3 ≤ d) : ∃ (n : Nat) (hc : am_H), cq_n hB 93 t.toInt.toNat = n ∧ n ≤ 30 ∧ am_ev d 198 0 (am_ent [.ref 78, .int t] (am_in 198).2.2.1) [] hB (some (.int (hd_i hc 98 0)), hc) ∧ hd_P hB hc ∧ cq_Inv none hc ∧ hd_i hc 98 n = 0 ∧ (∀ i', i' < n → hd_i hc 98 i' = hd_NV ∨ ∃ j', hd_C hB hc t n i' j') := by
  have t93 := cq_tA I (c := 93) (j := t.toInt.toNat) (by decide) (by decide) (by decide +kernel) (by decide) (by rw [show (cq_fix 93).2.2 = 121 by decide +kernel]; omega)
  rw [show cq_ar 93 = (1, 0, 30, 0, 0, 0) by decide +kernel] at t93
  obtain ⟨nn, en, n0, n1⟩ := t93
  cases d with
  | zero => omega
  | succ d =>
    have P := hd_P0 I
    have enn : nn.toInt = (nn.toInt.toNat : Nat) := by omega
    have w98 := P.w98 I (x := Int32.ofInt 0) (i := nn) (k := nn.toInt.toNat) enn (by omega)
    have P1 := P.p98 (j := nn.toInt.toNat) (x := Int32.ofInt 0)
    have w99 := P1.w99 I (x := Int32.ofInt 0) (i := nn) (k := nn.toInt.toNat) enn (by omega)
    have P2 := P1.p99 (j := nn.toInt.toNat) (x := Int32.ofInt 0)
    have e1 : (nn - Int32.ofInt 1).toInt = (nn.toInt.toNat : Int) - 1 := by
      rw [Int32.toInt_sub, show (Int32.ofInt 1).toInt = 1 by decide, Int.bmod_eq_of_le (by omega) (by omega)]
      omega
    obtain ⟨hc, ev, P3, f3, S3⟩ := hd_fp2 (d := d) (nn := nn) (n := nn.toInt.toNat) I ht (by rw [cq_n_int en]; exact enn) (by omega) enn (by omega) nn.toInt.toNat (nn - Int32.ofInt 1) am_ph am_ph am_ph _ (Nat.le_refl _) e1 P2 (by rw [hd_iv (by omega), hd_ip]; rfl) (fun i' h1 h2 => by omega)
    obtain ⟨m1, m2⟩ := P.sh I (c := 93) (tc := 0) (ln := 121) (by decide) (by decide) (by decide +kernel)
    have rd : am_rd hB 93 t (fun c => Nat.beq c 0) = some (.int nn) := by
      rw [hd_rdS m1 m2 (by decide) (by omega) (by omega), en]
    have ev0 : am_ev (d + 1) 198 0 (am_ent [.ref 78, .int t] (am_in 198).2.2.1) [] hB (some (.int (hd_i hc 98 0)), hc) := by
      refine am_ev.step rfl rfl ?_
      refine am_ev.step rfl (hd_gf (P.o I) (hd_F_ok I).2.1) ?_
      refine am_ev.step rfl rfl ?_
      refine am_ev.step rfl (hd_ia rd) ?_
      refine am_ev.step rfl rfl ?_
      refine am_ev.step rfl rfl ?_
      refine am_ev.step rfl (hd_gf (P.o I) (P.f29 I)) ?_
      refine am_ev.step rfl rfl ?_
      refine am_ev.step rfl rfl ?_
      refine am_ev.step rfl (hd_is w98) ?_
      refine am_ev.step rfl rfl ?_
      refine am_ev.step rfl (hd_gf (P1.o I) (P1.f30 I)) ?_
      refine am_ev.step rfl rfl ?_
      refine am_ev.step rfl rfl ?_
      refine am_ev.step rfl (hd_is w99) ?_
      refine am_ev.step rfl rfl ?_
      refine am_ev.step rfl rfl ?_
      refine am_ev.step rfl rfl ?_
      exact am_ev.step rfl rfl ev
    -- the plain contract says that the heap is in order
    have M0 : cq_Md ct_198.2.2.2.1 hB (fun _ => t.toInt) ct_198.2.2.1 hB := by
      refine cq_Md_p ⟨fun b hb => ?_, fun _ z => (by cases z)⟩ (fun _ z => (by cases z)) (fun _ z => (by cases z)) I
      rw [List.mem_singleton.1 hb]
      exact ht
    obtain ⟨r, h', ev', x, hx, ρ', a', Mx, hr⟩ := ok_198 (d + 1) hB (fun _ => t.toInt) [.ref 78, .int t] hd M0 ⟨rfl, ⟨t, rfl, (cq_s_e (fun _ => t.toInt) 0).symm⟩, trivial⟩
    have hx := List.mem_singleton.1 hx
    subst hx
    have eq := am_ev_det ev0 ev'
    have e2 := (Prod.mk.inj eq).2
    subst e2
    exact ⟨nn.toInt.toNat, hc, by rw [cq_n_int en]; exact enn, by omega, ev0, P3, Mx.I, f3, S3⟩
/-- pagesOf -/
theorem hd_197 {hB : am_H} {t : Int32} {d : Nat} (I : cq_Inv none hB) (ht : 0 ≤ t.toInt ∧ t.toInt ≤ 119) (hd : 4 ≤ d) : ∃ (n : Nat) (hc : am_H) (r : Int32), cq_n hB 93 t.toInt.toNat = n ∧ n ≤ 30 ∧ am_ev d 197 0 (am_ent [.ref 78, .int t] (am_in 197).2.2.1) [] hB (some (.int r), hc) ∧ hd_P hB hc ∧ cq_Inv none hc ∧ hd_i hc 98 n = 0 ∧ (∀ i', i' < n → hd_i hc 98 i' = hd_NV ∨ ∃ j', hd_C hB hc t n i' j') ∧ (r = -1 ∨ hd_i hc 98 0 < hd_NV) := by
  cases d with
  | zero => omega
  | succ d =>
    obtain ⟨n, hc, a1, a2, ev, P, I', a3, a4⟩ := hd_198 (d := d) I ht (by omega)
    have go : ∀ x, am_ev (d + 1) 197 10 [.ref 78, .int t, .int (hd_i hc 98 0)] [.int hd_NV, .int (hd_i hc 98 0)] hc x → am_ev (d + 1) 197 0 (am_ent [.ref 78, .int t] (am_in 197).2.2.1) [] hB x := fun x q => by
      refine am_ev.step rfl rfl ?_
      refine am_ev.step rfl rfl ?_
      refine hd_cv 198 (as := [.ref 78, .int t]) (rr := []) rfl (Or.inr (Or.inl ⟨_, rfl⟩)) rfl (by decide) rfl rfl (by decide) (cq_o78 I) (Nat.le_of_ble_eq_true rfl) ev ?_
      refine am_ev.step rfl rfl ?_
      refine am_ev.step rfl rfl ?_
      exact am_ev.step rfl rfl q
    by_cases c : hd_i hc 98 0 < hd_NV
    · refine ⟨n, hc, hd_i hc 98 0, a1, a2, go _ ?_, P, I', a3, a4, Or.inr c⟩
      refine am_ev.step (pc' := 17) (ls' := [.ref 78, .int t, .int (hd_i hc 98 0)]) (st' := []) (h' := hc) rfl (if_pos c) ?_
      refine am_ev.step rfl rfl ?_
      exact am_ev.reti rfl rfl rfl
    · refine ⟨n, hc, -1, a1, a2, go _ ?_, P, I', a3, a4, Or.inl rfl⟩
      refine am_ev.step (pc' := 13) (ls' := [.ref 78, .int t, .int (hd_i hc 98 0)]) (st' := []) (h' := hc) rfl (if_neg c) ?_
      refine am_ev.step rfl rfl ?_
      refine am_ev.step rfl rfl ?_
      exact am_ev.reti rfl rfl rfl
theorem hd_pf {k l b w pc : Nat} {t : Int} {ls r : List Value} {h : am_H} {v : Value} (O : am_isO h 78 13 = true) (hv : am_fok (am_ty 13 b) v = true) : am_st (.putfield k, l, t, 13, b, w) pc ls (v :: .ref 78 :: r) h = some (pc + 3, ls, r, am_put h 78 b v) := by
  dsimp only [am_st]
  rw [O, hv]
  rfl
/-- a heap while breaks are found -/
def hd_B (hP hc : am_H) : Prop := (hc.1 = hP.1 ∧ hc.2.1 = hP.2.1 ∧ hc.2.2.1 = hP.2.2.1) ∧ (∀ c j, c ≠ 100 → ¬ (c = 78 ∧ j = 32) → hc.2.2.2 c j = hP.2.2.2 c j)
section HDS
variable {hB hP : am_H} {t ii : Int32} {n i d : Nat}
theorem hd_B.R {hc : am_H} (P : hd_P hB hP) (B : hd_B hP hc) (I : cq_Inv none hB) : ni_R hB hc := by
  refine ⟨by rw [B.1.1, P.1.1], fun c _ => by rw [B.1.2.2, P.1.2.2], fun c _ hx j hj => ?_⟩
  rw [B.2 c j (fun z => by rw [z] at hx; cases hx) hj]
  exact (P.2.1 c j (fun z => by rw [z] at hx; cases hx) (fun z => by rw [z] at hx; cases hx)).symm
/-- the inner loop of findBreaks -/
theorem hd_fb1 (I : cq_Inv none hB) (P : hd_P hB hP) (ht : 0 ≤ t.toInt ∧ t.toInt ≤ 119) (hl : cq_n hB 93 t.toInt.toNat = n) (n30 : n ≤ 30) (ei : ii.toInt = i) (hd : 2 ≤ d) {hc : am_H} (B : hd_B hP hc) (Ic : cq_Inv none hc) {J : Nat} (C : hd_C hB hP t n i J) : ∀ (m j : Nat) (jj : Int32), m + j = J → jj.toInt = j → i ≤ j → ∃ (j2 : Nat) (j3 : Int32), i ≤ j2 ∧ j2 < n ∧ j3.toInt = j2 ∧ hd_i hP 98 (j2 + 1) < hd_NV ∧ ∀ x, am_ev (d + 1) 203 96 [.ref 78, .int t, .int ii, .int j3] [] hc x → am_ev (d + 1) 203 19 [.ref 78, .int t, .int ii, .int jj] [] hc x := by
  have Jn := C.2.1
  have O := cq_o78 Ic
  have f29 : hc.2.2.2 78 29 = .ref 98 := by rw [B.2 78 29 (by decide) (by decide)]; exact P.f29 I
  have f30 : hc.2.2.2 78 30 = .ref 99 := by rw [B.2 78 30 (by decide) (by decide)]; exact P.f30 I
  have rr : ∀ (c : Nat), c = 98 ∨ c = 99 → ∀ (v : Int32) (k : Nat), v.toInt = k → k < 31 → am_rd hc c v (fun c => Nat.beq c 0) = some (.int (hd_i hP c k)) := fun c hc' v k ev hk => by
    rcases hc' with z | z <;> subst z
    · obtain ⟨m1, m2⟩ := P.sh I (c := 98) (tc := 0) (ln := 31) (by decide) (by decide) (by decide +kernel)
      rw [hd_rdS (show 98 < hc.1 by rw [B.1.1]; exact m1) (show hc.2.2.1 98 = (1, 0, 31) by rw [B.1.2.2]; exact m2) (by decide) (by omega) (by omega), show v.toInt.toNat = k by omega, B.2 98 k (by decide) (by omega), P.2.2.1 k hk]
    · obtain ⟨m1, m2⟩ := P.sh I (c := 99) (tc := 0) (ln := 31) (by decide) (by decide) (by decide +kernel)
      rw [hd_rdS (show 99 < hc.1 by rw [B.1.1]; exact m1) (show hc.2.2.1 99 = (1, 0, 31) by rw [B.1.2.2]; exact m2) (by decide) (by omega) (by omega), show v.toInt.toNat = k by omega, B.2 99 k (by decide) (by omega), P.2.2.2 k hk]
  intro m
  induction m with
  | zero =>
    intro j jj hm ej hij
    have : j = J := by omega
    subst this
    obtain ⟨-, -, c1, c2, c3, c4⟩ := C
    rw [hd_ofN ei, hd_ofN ej] at c1 c4
    have ej1 := hd_inc ej (by omega)
    have evs := hd_199 (d := d) I (hd_B.R P B I) ht (by omega) (i := ii) (j := jj) (by omega) (by omega) hd
    refine ⟨j, jj, hij, Jn, ej, c2, fun x q => ?_⟩
    refine am_ev.step rfl rfl ?_
    refine am_ev.step rfl rfl ?_
    refine am_ev.step rfl rfl ?_
    refine am_ev.step rfl rfl ?_
    refine hd_cv 199 (as := [.ref 78, .int t, .int ii, .int jj]) (rr := []) rfl (Or.inr (Or.inl ⟨_, rfl⟩)) rfl (by decide) rfl rfl (by decide) O (Nat.le_of_ble_eq_true rfl) evs ?_
    refine am_ev.step rfl rfl ?_
    refine am_ev.step (pc' := 32) (ls' := [.ref 78, .int t, .int ii, .int jj]) (st' := []) (h' := hc) rfl (if_neg c1) ?_
    refine am_ev.step rfl rfl ?_
    refine am_ev.step rfl (hd_gf O f29) ?_
    refine am_ev.step rfl rfl ?_
    refine am_ev.step rfl rfl ?_
    refine am_ev.step rfl rfl ?_
    refine am_ev.step rfl (hd_ia (rr 98 (Or.inl rfl) _ _ ej1 (by omega))) ?_
    refine am_ev.step rfl rfl ?_
    refine am_ev.step (pc' := 46) (ls' := [.ref 78, .int t, .int ii, .int jj]) (st' := []) (h' := hc) rfl (if_neg (hd_nle c2)) ?_
    refine am_ev.step rfl rfl ?_
    refine am_ev.step rfl rfl ?_
    refine am_ev.step rfl (hd_gf O f29) ?_
    refine am_ev.step rfl rfl ?_
    refine am_ev.step rfl rfl ?_
    refine am_ev.step rfl rfl ?_
    refine am_ev.step rfl (hd_ia (rr 98 (Or.inl rfl) _ _ ej1 (by omega))) ?_
    refine am_ev.step rfl rfl ?_
    refine am_ev.step rfl rfl ?_
    refine am_ev.step rfl (hd_gf O f29) ?_
    refine am_ev.step rfl rfl ?_
    refine am_ev.step rfl (hd_ia (rr 98 (Or.inl rfl) _ _ ei (by omega))) ?_
    refine am_ev.step (pc' := 65) (ls' := [.ref 78, .int t, .int ii, .int jj]) (st' := []) (h' := hc) rfl (if_pos c3) ?_
    refine am_ev.step rfl rfl ?_
    refine am_ev.step rfl rfl ?_
    refine am_ev.step rfl rfl ?_
    refine am_ev.step rfl rfl ?_
    refine hd_cv 199 (as := [.ref 78, .int t, .int ii, .int jj]) (rr := []) rfl (Or.inr (Or.inl ⟨_, rfl⟩)) rfl (by decide) rfl rfl (by decide) O (Nat.le_of_ble_eq_true rfl) evs ?_
    refine am_ev.step rfl rfl ?_
    refine am_ev.step rfl (hd_gf O f30) ?_
    refine am_ev.step rfl rfl ?_
    refine am_ev.step rfl rfl ?_
    refine am_ev.step rfl rfl ?_
    refine am_ev.step rfl (hd_ia (rr 99 (Or.inr rfl) _ _ ej1 (by omega))) ?_
    refine am_ev.step rfl rfl ?_
    refine am_ev.step rfl rfl ?_
    refine am_ev.step rfl (hd_gf O f30) ?_
    refine am_ev.step rfl rfl ?_
    refine am_ev.step rfl (hd_ia (rr 99 (Or.inr rfl) _ _ ei (by omega))) ?_
    exact am_ev.step (pc' := 96) (ls' := [.ref 78, .int t, .int ii, .int jj]) (st' := []) (h' := hc) rfl (if_pos c4) q
  | succ m ih =>
    intro j jj hm ej hij
    have ej1 := hd_inc ej (by omega)
    have evs := hd_199 (d := d) I (hd_B.R P B I) ht (by omega) (i := ii) (j := jj) (by omega) (by omega) hd
    generalize hd_sq hB t ii jj = s at evs
    obtain ⟨j2, j3, r1, r2, r3, r4, Q⟩ := ih (j + 1) (jj + Int32.ofInt 1) (by omega) ej1 (by omega)
    have next : ∀ x, am_ev (d + 1) 203 96 [.ref 78, .int t, .int ii, .int j3] [] hc x → am_ev (d + 1) 203 90 [.ref 78, .int t, .int ii, .int jj] [] hc x := fun x q => by
      refine am_ev.step rfl rfl ?_
      exact am_ev.step rfl rfl (Q x q)
    have to26 : ∀ x, am_ev (d + 1) 203 29 [.ref 78, .int t, .int ii, .int jj] [.int hd_NV, .int s] hc x → am_ev (d + 1) 203 19 [.ref 78, .int t, .int ii, .int jj] [] hc x := fun x q => by
      refine am_ev.step rfl rfl ?_
      refine am_ev.step rfl rfl ?_
      refine am_ev.step rfl rfl ?_
      refine am_ev.step rfl rfl ?_
      refine hd_cv 199 (as := [.ref 78, .int t, .int ii, .int jj]) (rr := []) rfl (Or.inr (Or.inl ⟨_, rfl⟩)) rfl (by decide) rfl rfl (by decide) O (Nat.le_of_ble_eq_true rfl) evs ?_
      exact am_ev.step rfl rfl q
    by_cases c1 : hd_NV ≤ s
    · exact ⟨j2, j3, by omega, r2, r3, r4, fun x q => to26 x (am_ev.step (pc' := 90) (ls' := [.ref 78, .int t, .int ii, .int jj]) (st' := []) (h' := hc) rfl (if_pos c1) (next x q))⟩
    have to43 : ∀ x, am_ev (d + 1) 203 43 [.ref 78, .int t, .int ii, .int jj] [.int hd_NV, .int (hd_i hP 98 (j + 1))] hc x → am_ev (d + 1) 203 19 [.ref 78, .int t, .int ii, .int jj] [] hc x := fun x q => to26 x (by
      refine am_ev.step (pc' := 32) (ls' := [.ref 78, .int t, .int ii, .int jj]) (st' := []) (h' := hc) rfl (if_neg c1) ?_
      refine am_ev.step rfl rfl ?_
      refine am_ev.step rfl (hd_gf O f29) ?_
      refine am_ev.step rfl rfl ?_
      refine am_ev.step rfl rfl ?_
      refine am_ev.step rfl rfl ?_
      refine am_ev.step rfl (hd_ia (rr 98 (Or.inl rfl) _ _ ej1 (by omega))) ?_
      exact am_ev.step rfl rfl q)
    by_cases c2 : hd_NV ≤ hd_i hP 98 (j + 1)
    · exact ⟨j2, j3, by omega, r2, r3, r4, fun x q => to43 x (am_ev.step (pc' := 90) (ls' := [.ref 78, .int t, .int ii, .int jj]) (st' := []) (h' := hc) rfl (if_pos c2) (next x q))⟩
    have to62 : ∀ x, am_ev (d + 1) 203 62 [.ref 78, .int t, .int ii, .int jj] [.int (hd_i hP 98 i), .int (Int32.ofInt 1 + hd_i hP 98 (j + 1))] hc x → am_ev (d + 1) 203 19 [.ref 78, .int t, .int ii, .int jj] [] hc x := fun x q => to43 x (by
      refine am_ev.step (pc' := 46) (ls' := [.ref 78, .int t, .int ii, .int jj]) (st' := []) (h' := hc) rfl (if_neg c2) ?_
      refine am_ev.step rfl rfl ?_
      refine am_ev.step rfl rfl ?_
      refine am_ev.step rfl (hd_gf O f29) ?_
      refine am_ev.step rfl rfl ?_
      refine am_ev.step rfl rfl ?_
      refine am_ev.step rfl rfl ?_
      refine am_ev.step rfl (hd_ia (rr 98 (Or.inl rfl) _ _ ej1 (by omega))) ?_
      refine am_ev.step rfl rfl ?_
      refine am_ev.step rfl rfl ?_
      refine am_ev.step rfl (hd_gf O f29) ?_
      refine am_ev.step rfl rfl ?_
      exact am_ev.step rfl (hd_ia (rr 98 (Or.inl rfl) _ _ ei (by omega))) q)
    by_cases c3 : Int32.ofInt 1 + hd_i hP 98 (j + 1) = hd_i hP 98 i
    · have to87 : ∀ x, am_ev (d + 1) 203 87 [.ref 78, .int t, .int ii, .int jj] [.int (hd_i hP 99 i), .int (s + hd_i hP 99 (j + 1))] hc x → am_ev (d + 1) 203 19 [.ref 78, .int t, .int ii, .int jj] [] hc x := fun x q => to62 x (by
        refine am_ev.step (pc' := 65) (ls' := [.ref 78, .int t, .int ii, .int jj]) (st' := []) (h' := hc) rfl (if_pos c3) ?_
        refine am_ev.step rfl rfl ?_
        refine am_ev.step rfl rfl ?_
        refine am_ev.step rfl rfl ?_
        refine am_ev.step rfl rfl ?_
        refine hd_cv 199 (as := [.ref 78, .int t, .int ii, .int jj]) (rr := []) rfl (Or.inr (Or.inl ⟨_, rfl⟩)) rfl (by decide) rfl rfl (by decide) O (Nat.le_of_ble_eq_true rfl) evs ?_
        refine am_ev.step rfl rfl ?_
        refine am_ev.step rfl (hd_gf O f30) ?_
        refine am_ev.step rfl rfl ?_
        refine am_ev.step rfl rfl ?_
        refine am_ev.step rfl rfl ?_
        refine am_ev.step rfl (hd_ia (rr 99 (Or.inr rfl) _ _ ej1 (by omega))) ?_
        refine am_ev.step rfl rfl ?_
        refine am_ev.step rfl rfl ?_
        refine am_ev.step rfl (hd_gf O f30) ?_
        refine am_ev.step rfl rfl ?_
        exact am_ev.step rfl (hd_ia (rr 99 (Or.inr rfl) _ _ ei (by omega))) q)
      by_cases c4 : s + hd_i hP 99 (j + 1) = hd_i hP 99 i
      · refine ⟨j, jj, hij, by omega, ej, ?_, fun x q => to87 x (am_ev.step (pc' := 96) (ls' := [.ref 78, .int t, .int ii, .int jj]) (st' := []) (h' := hc) rfl (if_pos c4) q)⟩
        exact hd_nlt c2
      · exact ⟨j2, j3, by omega, r2, r3, r4, fun x q => to87 x (am_ev.step (pc' := 90) (ls' := [.ref 78, .int t, .int ii, .int jj]) (st' := []) (h' := hc) rfl (if_neg c4) (next x q))⟩
    · exact ⟨j2, j3, by omega, r2, r3, r4, fun x q => to62 x (am_ev.step (pc' := 90) (ls' := [.ref 78, .int t, .int ii, .int jj]) (st' := []) (h' := hc) rfl (if_neg c3) (next x q))⟩
end HDS
