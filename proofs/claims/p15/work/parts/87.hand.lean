/-! BY HAND, 9: edition, where the text is laid to its place -/
theorem hd_toA {a b : Int32} (h1 : -2000000 ≤ a.toInt) (h2 : a.toInt ≤ 2000000) (h3 : -2000000 ≤ b.toInt) (h4 : b.toInt ≤ 2000000) : (a + b).toInt = a.toInt + b.toInt := by
  rw [Int32.toInt_add, Int.bmod_eq_of_le (by omega) (by omega)]
theorem hd_toM {a b : Int32} {c : Int} (e : a.toInt * b.toInt = c) (h1 : -2000000 ≤ c) (h2 : c ≤ 2000000) : (a * b).toInt = c := by
  rw [Int32.toInt_mul, e, Int.bmod_eq_of_le (by omega) (by omega)]
/-- lineAt and textAt -/
theorem hd_191 {d : Nat} {h : am_H} {a b : Int32} : am_ev d 191 0 (am_ent [.int a, .int b] (am_in 191).2.2.1) [] h (some (.int ((Int8.ofInt 30).toInt32 * a + b)), h) := by
  refine am_ev.step rfl rfl ?_
  refine am_ev.step rfl rfl ?_
  refine am_ev.step rfl rfl ?_
  refine am_ev.step rfl rfl ?_
  refine am_ev.step rfl rfl ?_
  exact am_ev.reti rfl rfl rfl
theorem hd_194 {d : Nat} {h : am_H} {a b : Int32} : am_ev d 194 0 (am_ent [.int a, .int b] (am_in 194).2.2.1) [] h (some (.int (Int32.ofInt 3 * a + b)), h) := by
  refine am_ev.step rfl rfl ?_
  refine am_ev.step rfl rfl ?_
  refine am_ev.step rfl rfl ?_
  refine am_ev.step rfl rfl ?_
  refine am_ev.step rfl rfl ?_
  exact am_ev.reti rfl rfl rfl
theorem hd_l30 {a b : Int32} (h1 : 0 ≤ a.toInt) (h2 : a.toInt ≤ 1000) (h3 : 0 ≤ b.toInt) (h4 : b.toInt ≤ 1000) : ((Int8.ofInt 30).toInt32 * a + b).toInt = 30 * a.toInt + b.toInt := by
  have e : ((Int8.ofInt 30).toInt32 * a).toInt = 30 * a.toInt := hd_toM (by rw [show ((Int8.ofInt 30).toInt32).toInt = 30 by decide]) (by omega) (by omega)
  rw [hd_toA (by omega) (by omega) (by omega) (by omega), e]
theorem hd_l3 {a b : Int32} (h1 : 0 ≤ a.toInt) (h2 : a.toInt ≤ 1000) (h3 : 0 ≤ b.toInt) (h4 : b.toInt ≤ 1000) : (Int32.ofInt 3 * a + b).toInt = 3 * a.toInt + b.toInt := by
  have e : (Int32.ofInt 3 * a).toInt = 3 * a.toInt := hd_toM (by rw [show (Int32.ofInt 3).toInt = 3 by decide]) (by omega) (by omega)
  rw [hd_toA (by omega) (by omega) (by omega) (by omega), e]
theorem hd_l8 {a b : Int32} (h1 : 0 ≤ a.toInt) (h2 : a.toInt ≤ 10000) (h3 : 0 ≤ b.toInt) (h4 : b.toInt ≤ 1000) : ((Int8.ofInt 8).toInt32 * a + b).toInt = 8 * a.toInt + b.toInt := by
  have e : ((Int8.ofInt 8).toInt32 * a).toInt = 8 * a.toInt := hd_toM (by rw [show ((Int8.ofInt 8).toInt32).toInt = 8 by decide]) (by omega) (by omega)
  rw [hd_toA (by omega) (by omega) (by omega) (by omega), e]
/-- reading and writing, by shapes alone -/
theorem hd_rdS {h : am_H} {c tc ln : Nat} {i : Int32} {ok : Nat → Bool} (hl : c < h.1) (hs : h.2.2.1 c = (1, tc, ln)) (ht : ok tc = true) (i0 : 0 ≤ i.toInt) (i1 : i.toInt < (ln : Int)) : am_rd h c i ok = some (h.2.2.2 c i.toInt.toNat) := by
  unfold am_rd
  rw [hs, ht, show Nat.blt c h.1 = true from Nat.ble_eq_true_of_le hl]
  simp only [Nat.beq_refl, Bool.true_or, Bool.and_self, cond_true]
  have e : i.toNatClampNeg = i.toInt.toNat := rfl
  rw [if_neg]
  · rw [e]
  · rintro (z | z)
    · have := Int32.lt_iff_toInt_lt.1 z
      have e0 : (0 : Int32).toInt = 0 := by decide
      omega
    · rw [e] at z
      omega
theorem hd_wrS {h : am_H} {c tc ln : Nat} {i : Int32} {v : Value} (hl : c < h.1) (hs : h.2.2.1 c = (1, tc, ln)) (i0 : 0 ≤ i.toInt) (i1 : i.toInt < (ln : Int)) : am_wr h c i tc v = some (am_put h c i.toInt.toNat v) := by
  unfold am_wr
  rw [hs, show Nat.blt c h.1 = true from Nat.ble_eq_true_of_le hl]
  simp only [Nat.beq_refl, Bool.and_self, cond_true]
  have e : i.toNatClampNeg = i.toInt.toNat := rfl
  rw [if_neg]
  · rw [e]
  · rintro (z | z)
    · have := Int32.lt_iff_toInt_lt.1 z
      have e0 : (0 : Int32).toInt = 0 := by decide
      omega
    · rw [e] at z
      omega
theorem hd_is {l b w pc z : Nat} {t : Int} {ls r : List Value} {h h' : am_H} {x i : Int32} {a : Nat} (hr : am_wr h a i 0 (.int x) = some h') : am_st (.iastore, l, t, z, b, w) pc ls (.int x :: .int i :: .ref a :: r) h = some (pc + 1, ls, r, h') := by
  dsimp only [am_st]
  rw [hr]
theorem hd_bs {l b w pc z : Nat} {t : Int} {ls r : List Value} {h h' : am_H} {x i : Int32} {a : Nat} (h2 : Nat.beq (h.2.2.1 a).2.1 1 = false) (hr : am_wr h a i 2 (.int (x &&& 1)) = some h') : am_st (.bastore, l, t, z, b, w) pc ls (.int x :: .int i :: .ref a :: r) h = some (pc + 1, ls, r, h') := by
  dsimp only [am_st]
  rw [h2]
  simp only [cond_false]
  rw [hr]
theorem hd_la {l b w pc z : Nat} {t : Int} {ls r : List Value} {h : am_H} {v : Value} {a : Nat} {i : Int32} (hr : am_rd h a i (fun c => Nat.beq c 3) = some v) : am_st (.laload, l, t, z, b, w) pc ls (.int i :: .ref a :: r) h = some (pc + 1, ls, v :: r, h) := by
  dsimp only [am_st]
  rw [hr]
theorem hd_lss {l b w pc z : Nat} {t : Int} {ls r : List Value} {h h' : am_H} {x : Int64} {i : Int32} {a : Nat} (hr : am_wr h a i 3 (.long x) = some h') : am_st (.lastore, l, t, z, b, w) pc ls (.long x :: .int i :: .ref a :: r) h = some (pc + 1, ls, r, h') := by
  dsimp only [am_st]
  rw [hr]
theorem hd_pv {h : am_H} {c j c' j' : Nat} {v : Value} (n : ¬ (c' = c ∧ j' = j)) : (am_put h c j v).2.2.2 c' j' = h.2.2.2 c' j' := by
  show (if c' = c then (if j' = j then v else h.2.2.2 c' j') else h.2.2.2 c' j') = _
  by_cases e : c' = c
  · rw [if_pos e]
    by_cases e2 : j' = j
    · exact absurd ⟨e, e2⟩ n
    · rw [if_neg e2]
  · rw [if_neg e]
theorem hd_pe {h : am_H} {c j : Nat} {v : Value} : (am_put h c j v).2.2.2 c j = v := by
  show (if c = c then (if j = j then v else h.2.2.2 c j) else h.2.2.2 c j) = _
  rw [if_pos rfl, if_pos rfl]
/-- a heap while a text is laid to its place t -/
def hd_T (hB hc : am_H) (t : Nat) : Prop := (hc.1 = hB.1 ∧ hc.2.1 = hB.2.1 ∧ hc.2.2.1 = hB.2.2.1)
  ∧ (∀ c j, (c < 93 ∨ 97 < c) → hc.2.2.2 c j = hB.2.2.2 c j)
  ∧ (∀ j, j ≠ t → hc.2.2.2 93 j = hB.2.2.2 93 j)
  ∧ (∀ j, j < 3630 → ∃ x : Int32, hc.2.2.2 94 j = .int x ∧ 0 ≤ x.toInt ∧ x.toInt ≤ 8)
  ∧ (∀ j, j < 29040 → ∃ x : Int64, hc.2.2.2 95 j = .long x)
  ∧ ((∀ j, j < 3630 → ∃ x : Int32, hc.2.2.2 96 j = .int x ∧ 0 ≤ x.toInt ∧ x.toInt ≤ 1) ∧ (∀ j, j < 30 * t ∨ 30 * t + 30 ≤ j → hc.2.2.2 96 j = hB.2.2.2 96 j))
  ∧ (∀ j, j < 3630 → ∃ x : Int32, hc.2.2.2 97 j = .int x ∧ 0 ≤ x.toInt ∧ x.toInt ≤ 1)
section HDT
variable {hB hc : am_H} {t : Nat}
theorem hd_T.sh (T : hd_T hB hc t) (I : cq_Inv none hB) {c tc ln : Nat} (h1 : 40 ≤ c) (h2 : c < 130) (e : cq_fix c = (1, tc, ln)) : c < hc.1 ∧ hc.2.2.1 c = (1, tc, ln) := by
  refine ⟨by rw [T.1.1]; exact Nat.lt_of_lt_of_le h2 I.lo, ?_⟩
  rw [T.1.2.2, I.fx c h1 h2, e]
theorem hd_T.o (T : hd_T hB hc t) (I : cq_Inv none hB) : am_isO hc 78 13 = true := by
  have o := cq_o78 I
  unfold am_isO at o ⊢
  rw [T.1.1, T.1.2.2]
  exact o
theorem hd_T.f (T : hd_T hB hc t) {b k : Nat} (e : hB.2.2.2 78 b = .ref k) : hc.2.2.2 78 b = .ref k := by
  rw [T.2.1 78 b (by omega)]
  exact e
theorem hd_T.p94 (T : hd_T hB hc t) {j : Nat} {x : Int32} (h0 : 0 ≤ x.toInt) (h1 : x.toInt ≤ 8) : hd_T hB (am_put hc 94 j (.int x)) t := by
  obtain ⟨a1, a2, a3, a4, a5, ⟨a6, a7⟩, a8⟩ := T
  refine ⟨a1, fun c j' hc => by rw [hd_pv (by omega)]; exact a2 c j' hc, fun j' hj => by rw [hd_pv (by omega)]; exact a3 j' hj, fun j' hj => ?_, fun j' hj => by rw [hd_pv (by omega)]; exact a5 j' hj, ⟨fun j' hj => by rw [hd_pv (by omega)]; exact a6 j' hj, fun j' hj => by rw [hd_pv (by omega)]; exact a7 j' hj⟩, fun j' hj => by rw [hd_pv (by omega)]; exact a8 j' hj⟩
  by_cases e : j' = j
  · subst e
    exact ⟨x, hd_pe, h0, h1⟩
  · rw [hd_pv (by omega)]
    exact a4 j' hj
theorem hd_T.p95 (T : hd_T hB hc t) {j : Nat} {x : Int64} : hd_T hB (am_put hc 95 j (.long x)) t := by
  obtain ⟨a1, a2, a3, a4, a5, ⟨a6, a7⟩, a8⟩ := T
  refine ⟨a1, fun c j' hc => by rw [hd_pv (by omega)]; exact a2 c j' hc, fun j' hj => by rw [hd_pv (by omega)]; exact a3 j' hj, fun j' hj => by rw [hd_pv (by omega)]; exact a4 j' hj, fun j' hj => ?_, ⟨fun j' hj => by rw [hd_pv (by omega)]; exact a6 j' hj, fun j' hj => by rw [hd_pv (by omega)]; exact a7 j' hj⟩, fun j' hj => by rw [hd_pv (by omega)]; exact a8 j' hj⟩
  by_cases e : j' = j
  · subst e
    exact ⟨x, hd_pe⟩
  · rw [hd_pv (by omega)]
    exact a5 j' hj
theorem hd_T.p96 (T : hd_T hB hc t) {j : Nat} {x : Int32} (h0 : 0 ≤ x.toInt) (h1 : x.toInt ≤ 1) (j0 : 30 * t ≤ j) (j1 : j < 30 * t + 30) : hd_T hB (am_put hc 96 j (.int x)) t := by
  obtain ⟨a1, a2, a3, a4, a5, ⟨a6, a7⟩, a8⟩ := T
  refine ⟨a1, fun c j' hc => by rw [hd_pv (by omega)]; exact a2 c j' hc, fun j' hj => by rw [hd_pv (by omega)]; exact a3 j' hj, fun j' hj => by rw [hd_pv (by omega)]; exact a4 j' hj, fun j' hj => by rw [hd_pv (by omega)]; exact a5 j' hj, ⟨fun j' hj => ?_, fun j' hj => by rw [hd_pv (by omega)]; exact a7 j' hj⟩, fun j' hj => by rw [hd_pv (by omega)]; exact a8 j' hj⟩
  by_cases e : j' = j
  · subst e
    exact ⟨x, hd_pe, h0, h1⟩
  · rw [hd_pv (by omega)]
    exact a6 j' hj
theorem hd_T.p97 (T : hd_T hB hc t) {j : Nat} {x : Int32} (h0 : 0 ≤ x.toInt) (h1 : x.toInt ≤ 1) : hd_T hB (am_put hc 97 j (.int x)) t := by
  obtain ⟨a1, a2, a3, a4, a5, ⟨a6, a7⟩, a8⟩ := T
  refine ⟨a1, fun c j' hc => by rw [hd_pv (by omega)]; exact a2 c j' hc, fun j' hj => by rw [hd_pv (by omega)]; exact a3 j' hj, fun j' hj => by rw [hd_pv (by omega)]; exact a4 j' hj, fun j' hj => by rw [hd_pv (by omega)]; exact a5 j' hj, ⟨fun j' hj => by rw [hd_pv (by omega)]; exact a6 j' hj, fun j' hj => by rw [hd_pv (by omega)]; exact a7 j' hj⟩, fun j' hj => ?_⟩
  by_cases e : j' = j
  · subst e
    exact ⟨x, hd_pe, h0, h1⟩
  · rw [hd_pv (by omega)]
    exact a8 j' hj
end HDT
theorem hd_c1 {x : Int32} (h0 : 0 ≤ x.toInt) (h1 : x.toInt ≤ 1) : x &&& 1 = x := by
  rcases (show x.toInt = 0 ∨ x.toInt = 1 by omega) with z | z
  · rw [Int32.toInt_inj.1 (show x.toInt = (0 : Int32).toInt by rw [z]; decide)]; decide
  · rw [Int32.toInt_inj.1 (show x.toInt = (1 : Int32).toInt by rw [z]; decide)]; decide
theorem hd_k8 {k : Nat} (hk : k < 8) : ¬ ((8 : Int32) ≤ Int32.ofNat k) ∧ Int32.ofNat k + Int32.ofInt 1 = Int32.ofNat (k + 1) ∧ (Int32.ofNat k).toInt = k := by
  rcases (show k = 0 ∨ k = 1 ∨ k = 2 ∨ k = 3 ∨ k = 4 ∨ k = 5 ∨ k = 6 ∨ k = 7 by omega) with z | z | z | z | z | z | z | z <;> subst z <;> decide
section HDU
variable {hB : am_H} {t : Nat} {p tt : Int32} {d : Nat}
/-- the fields that are read -/
def hd_F (hB : am_H) : Prop := hB.2.2.2 78 23 = .ref 92 ∧ hB.2.2.2 78 24 = .ref 93 ∧ hB.2.2.2 78 25 = .ref 94 ∧ hB.2.2.2 78 26 = .ref 95 ∧ hB.2.2.2 78 27 = .ref 96 ∧ hB.2.2.2 78 28 = .ref 97
theorem hd_F_ok (I : cq_Inv none hB) : hd_F hB := by
  refine ⟨?_, ?_, ?_, ?_, ?_, ?_⟩
  · have z := cq_t78 I (b := 23) (by decide +kernel)
    rw [show cq_cl 13 23 = (3, 0, 0, 92, 0, 0) by decide +kernel] at z
    exact z
  · have z := cq_t78 I (b := 24) (by decide +kernel)
    rw [show cq_cl 13 24 = (3, 0, 0, 93, 0, 0) by decide +kernel] at z
    exact z
  · have z := cq_t78 I (b := 25) (by decide +kernel)
    rw [show cq_cl 13 25 = (3, 0, 0, 94, 0, 0) by decide +kernel] at z
    exact z
  · have z := cq_t78 I (b := 26) (by decide +kernel)
    rw [show cq_cl 13 26 = (3, 0, 0, 95, 0, 0) by decide +kernel] at z
    exact z
  · have z := cq_t78 I (b := 27) (by decide +kernel)
    rw [show cq_cl 13 27 = (3, 0, 0, 96, 0, 0) by decide +kernel] at z
    exact z
  · have z := cq_t78 I (b := 28) (by decide +kernel)
    rw [show cq_cl 13 28 = (3, 0, 0, 97, 0, 0) by decide +kernel] at z
    exact z
/-- the words of a line -/
theorem hd_words (I : cq_Inv none hB) (htt : tt.toInt = t) (t1 : t < 120) {i : Int32} (i0 : 0 ≤ i.toInt) (i1 : i.toInt < 30) : ∀ n k : Nat, n + k = 8 → ∀ hc, hd_T hB hc t → ∃ hc', hd_T hB hc' t ∧ hc'.2.2.2 93 t = hc.2.2.2 93 t ∧ hc'.2.2.2 96 (30 * t) = hc.2.2.2 96 (30 * t) ∧ ∀ x, am_ev (d + 1) 189 186 [.ref 78, .int p, .int tt, .int i, .int (Int32.ofNat 8)] [] hc' x → am_ev (d + 1) 189 140 [.ref 78, .int p, .int tt, .int i, .int (Int32.ofNat k)] [] hc x := by
  intro n
  induction n with
  | zero =>
    intro k hk hc T
    have : k = 8 := by omega
    subst this
    refine ⟨hc, T, rfl, rfl, fun x q => ?_⟩
    refine am_ev.step rfl rfl ?_
    refine am_ev.step rfl rfl ?_
    exact am_ev.step (pc' := 186) (ls' := [.ref 78, .int p, .int tt, .int i, .int (Int32.ofNat 8)]) (st' := []) (h' := hc) rfl rfl q
  | succ n ih =>
    intro k hk hc T
    obtain ⟨f1, f2, f3⟩ := hd_k8 (show k < 8 by omega)
    have F := hd_F_ok I
    have O := T.o I
    have g26 := T.f F.2.2.2.1
    obtain ⟨s1, s2⟩ := T.sh I (c := 95) (tc := 3) (ln := 29040) (by decide) (by decide) (by decide +kernel)
    have x1 : ((Int8.ofInt 30).toInt32 * tt + i).toInt = 30 * tt.toInt + i.toInt := hd_l30 (by omega) (by omega) i0 (by omega)
    have y1 : ((Int8.ofInt 8).toInt32 * ((Int8.ofInt 30).toInt32 * tt + i) + Int32.ofNat k).toInt = 8 * (30 * tt.toInt + i.toInt) + k := by rw [hd_l8 (by omega) (by omega) (by omega) (by omega), x1, f3]
    have x2 : ((Int8.ofInt 30).toInt32 * (Int8.ofInt 120).toInt32 + i).toInt = 30 * 120 + i.toInt := by
      rw [hd_l30 (by decide) (by decide) i0 (by omega), show ((Int8.ofInt 120).toInt32).toInt = 120 by decide]
    have y2 : ((Int8.ofInt 8).toInt32 * ((Int8.ofInt 30).toInt32 * (Int8.ofInt 120).toInt32 + i) + Int32.ofNat k).toInt = 8 * (30 * 120 + i.toInt) + k := by rw [hd_l8 (by omega) (by omega) (by omega) (by omega), x2, f3]
    obtain ⟨v, ev⟩ := T.2.2.2.2.1 (8 * (30 * 120 + i.toInt) + (k : Int)).toNat (by omega)
    have rd : am_rd hc 95 ((Int8.ofInt 8).toInt32 * ((Int8.ofInt 30).toInt32 * (Int8.ofInt 120).toInt32 + i) + Int32.ofNat k) (fun c => Nat.beq c 3) = some (.long v) := by
      rw [hd_rdS s1 s2 (by decide) (by omega) (by omega), y2, ev]
    have wr := hd_wrS (v := .long v) s1 s2 (i := (Int8.ofInt 8).toInt32 * ((Int8.ofInt 30).toInt32 * tt + i) + Int32.ofNat k) (by omega) (by omega)
    obtain ⟨hc', T', q1, q2, Q⟩ := ih (k + 1) (by omega) _ (T.p95 (j := ((Int8.ofInt 8).toInt32 * ((Int8.ofInt 30).toInt32 * tt + i) + Int32.ofNat k).toInt.toNat) (x := v))
    rw [hd_pv (by omega)] at q1 q2
    refine ⟨hc', T', q1, q2, fun x q => ?_⟩
    refine am_ev.step rfl rfl ?_
    refine am_ev.step rfl rfl ?_
    refine am_ev.step (pc' := 147) (ls' := [.ref 78, .int p, .int tt, .int i, .int (Int32.ofNat k)]) (st' := []) (h' := hc) rfl (if_neg f1) ?_
    refine am_ev.step rfl rfl ?_
    refine am_ev.step rfl (hd_gf O g26) ?_
    refine am_ev.step rfl rfl ?_
    refine am_ev.step rfl rfl ?_
    refine am_ev.step rfl rfl ?_
    refine hd_cv 191 (as := [.int tt, .int i]) (rr := [.int (Int8.ofInt 8).toInt32, .ref 95]) rfl (Or.inl ⟨_, rfl⟩) rfl (by decide) rfl rfl (Nat.le_of_ble_eq_true rfl) rfl (Nat.le_of_ble_eq_true rfl) hd_191 ?_
    refine am_ev.step rfl rfl ?_
    refine am_ev.step rfl rfl ?_
    refine am_ev.step rfl rfl ?_
    refine am_ev.step rfl rfl ?_
    refine am_ev.step rfl (hd_gf O g26) ?_
    refine am_ev.step rfl rfl ?_
    refine am_ev.step rfl rfl ?_
    refine am_ev.step rfl rfl ?_
    refine hd_cv 191 (as := [.int (Int8.ofInt 120).toInt32, .int i]) (rr := [.int (Int8.ofInt 8).toInt32, .ref 95, .int ((Int8.ofInt 8).toInt32 * ((Int8.ofInt 30).toInt32 * tt + i) + Int32.ofNat k), .ref 95]) rfl (Or.inl ⟨_, rfl⟩) rfl (by decide) rfl rfl (Nat.le_of_ble_eq_true rfl) rfl (Nat.le_of_ble_eq_true rfl) hd_191 ?_
    refine am_ev.step rfl rfl ?_
    refine am_ev.step rfl rfl ?_
    refine am_ev.step rfl rfl ?_
    refine am_ev.step rfl (hd_la rd) ?_
    refine am_ev.step rfl (hd_lss wr) ?_
    refine am_ev.step (pc' := 183) (ls' := [.ref 78, .int p, .int tt, .int i, .int (Int32.ofNat (k + 1))]) (st' := []) rfl (by rw [← f2]; rfl) ?_
    exact am_ev.step rfl rfl (Q x q)
end HDU
