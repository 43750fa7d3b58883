/-! BY HAND, 12: findPages: what it leaves in its rows -/
def hd_i (h : am_H) (c j : Nat) : Int32 := match h.2.2.2 c j with
  | .int x => x
  | _ => 0
theorem hd_ie {h : am_H} {c j : Nat} {x : Int32} (e : h.2.2.2 c j = .int x) : hd_i h c j = x := by
  unfold hd_i
  rw [e]
/-- the square of a page of a text -/
noncomputable def hd_sq (h : am_H) (t i j : Int32) : Int32 := Classical.epsilon fun r : Int32 => ∃ h', am_ev 60 199 0 (am_ent [.ref 78, .int t, .int i, .int j] (am_in 199).2.2.1) [] h (some (.int r), h')
/-- squareOf on a heap that is alike -/
theorem hd_199 {hB hc : am_H} {t i j : Int32} {d : Nat} (I : cq_Inv none hB) (R : ni_R hB hc) (ht : 0 ≤ t.toInt ∧ t.toInt ≤ 119) (hn : 1 ≤ cq_n hB 93 t.toInt.toNat) (hi : 0 ≤ i.toInt ∧ i.toInt ≤ 29) (hj : 0 ≤ j.toInt ∧ j.toInt ≤ 29) (hd : 2 ≤ d) : am_ev d 199 0 (am_ent [.ref 78, .int t, .int i, .int j] (am_in 199).2.2.1) [] hc (some (.int (hd_sq hB t i j)), hc) := by
  have u := cq_U_rng hB 1093 t.toInt
  have eu : cq_U hB 1093 t.toInt = cq_n hB 93 t.toInt.toNat := cq_U_c hB 1093 _ (by decide) (by decide)
  let ρ : Nat → Int := fun s => match s with
    | 0 => t.toInt
    | 1 => i.toInt
    | 2 => j.toInt
    | _ => cq_U hB 1093 t.toInt
  have M0 : cq_Md ct_199.2.2.2.1 hB ρ ct_199.2.2.1 hB := by
    refine cq_Md_p ⟨fun b hb => ?_, fun _ z => (by cases z)⟩ (fun _ z => (by cases z)) (fun e he => ?_) I
    · simp only [List.mem_cons, List.not_mem_nil, or_false] at hb
      rcases hb with rfl | rfl | rfl | rfl
      · exact ht
      · exact hi
      · exact hj
      · exact ⟨by show (1 : Int) ≤ cq_U hB 1093 t.toInt; rw [eu]; exact hn, u.2⟩
    · rw [List.mem_singleton.1 he]
      refine cq_mOk_tag 1093 (by decide) ?_
      rw [show cq_e ρ ((0, [(3, 1)]) : cq_F) = ρ 3 from cq_s_e ρ 3, show cq_e ρ ((0, [(0, 1)]) : cq_F) = ρ 0 from cq_s_e ρ 0]
      rfl
  obtain ⟨r, h', ev, x, hx, ρ', a', Mx, hr⟩ := ok_199 2 hB ρ [.ref 78, .int t, .int i, .int j] (Nat.le_refl _) M0 ⟨rfl, ⟨t, rfl, (cq_s_e ρ 0).symm⟩, ⟨i, rfl, (cq_s_e ρ 1).symm⟩, ⟨j, rfl, (cq_s_e ρ 2).symm⟩, trivial⟩
  have hx := List.mem_singleton.1 hx
  subst hx
  rcases hr with ⟨q1, q2, q3⟩ | ⟨q1, -⟩
  · cases r with
    | none => exact q3.elim
    | some w =>
      obtain ⟨v, e1, e2⟩ := q3.1
      subst e1
      have ha : ni_L [.ref 78, .int t, .int i, .int j] := fun v hv a ea => by
        simp only [List.mem_cons, List.not_mem_nil, or_false] at hv
        rcases hv with rfl | rfl | rfl | rfl <;> cases ea
        rfl
      have eA := ni_An_of (y := 199) (by decide) I ha (by decide) ev
      have es : hd_sq hB t i j = v := Int32.toInt_inj.1 eA
      rw [es]
      exact (ni_ev (by decide) I ha ev R hd).2
  · cases q1
def hd_NV : Int32 := Int32.ofNat 1000000000
/-- a heap while pages are found -/
def hd_P (hB hc : am_H) : Prop := (hc.1 = hB.1 ∧ hc.2.1 = hB.2.1 ∧ hc.2.2.1 = hB.2.2.1) ∧ (∀ c j, c ≠ 98 → c ≠ 99 → hc.2.2.2 c j = hB.2.2.2 c j) ∧ (∀ j, j < 31 → hc.2.2.2 98 j = .int (hd_i hc 98 j)) ∧ (∀ j, j < 31 → hc.2.2.2 99 j = .int (hd_i hc 99 j))
/-- a page from line i to line j belongs to the best way -/
def hd_C (hB hc : am_H) (t : Int32) (n i j : Nat) : Prop := i ≤ j ∧ j < n ∧ ¬ (hd_NV ≤ hd_sq hB t (Int32.ofNat i) (Int32.ofNat j)) ∧ hd_i hc 98 (j + 1) < hd_NV ∧ Int32.ofInt 1 + hd_i hc 98 (j + 1) = hd_i hc 98 i ∧ hd_sq hB t (Int32.ofNat i) (Int32.ofNat j) + hd_i hc 99 (j + 1) = hd_i hc 99 i
section HDP
variable {hB hc : am_H}
theorem hd_P.R (P : hd_P hB hc) (I : cq_Inv none hB) : ni_R hB hc := ⟨P.1.1.symm, fun c _ => by rw [P.1.2.2], fun c _ hx j _ => (P.2.1 c j (fun z => by rw [z] at hx; cases hx) (fun z => by rw [z] at hx; cases hx)).symm⟩
theorem hd_P.o (P : hd_P hB hc) (I : cq_Inv none hB) : am_isO hc 78 13 = true := by
  rw [ni_isO (P.R I)]
  exact cq_o78 I
theorem hd_P.sh (P : hd_P hB hc) (I : cq_Inv none hB) {c tc ln : Nat} (h1 : 40 ≤ c) (h2 : c < 130) (e : cq_fix c = (1, tc, ln)) : c < hc.1 ∧ hc.2.2.1 c = (1, tc, ln) := by
  refine ⟨by rw [P.1.1]; exact Nat.lt_of_lt_of_le h2 I.lo, ?_⟩
  rw [P.1.2.2, I.fx c h1 h2, e]
theorem hd_P.f29 (P : hd_P hB hc) (I : cq_Inv none hB) : hc.2.2.2 78 29 = .ref 98 := by
  rw [P.2.1 78 29 (by decide) (by decide)]
  have z := cq_t78 I (b := 29) (by decide +kernel)
  rw [show cq_cl 13 29 = (3, 0, 0, 98, 0, 0) by decide +kernel] at z
  exact z
theorem hd_P.f30 (P : hd_P hB hc) (I : cq_Inv none hB) : hc.2.2.2 78 30 = .ref 99 := by
  rw [P.2.1 78 30 (by decide) (by decide)]
  have z := cq_t78 I (b := 30) (by decide +kernel)
  rw [show cq_cl 13 30 = (3, 0, 0, 99, 0, 0) by decide +kernel] at z
  exact z
theorem hd_iv {h : am_H} {c j c' j' : Nat} {v : Value} (n : ¬ (c' = c ∧ j' = j)) : hd_i (am_put h c j v) c' j' = hd_i h c' j' := by
  unfold hd_i
  rw [hd_pv n]
theorem hd_ip {h : am_H} {c j : Nat} {x : Int32} : hd_i (am_put h c j (.int x)) c j = x := hd_ie hd_pe
theorem hd_P.p98 (P : hd_P hB hc) {j : Nat} {x : Int32} : hd_P hB (am_put hc 98 j (.int x)) := by
  obtain ⟨a1, a2, a3, a4⟩ := P
  refine ⟨a1, fun c j' h1 h2 => by rw [hd_pv (by omega)]; exact a2 c j' h1 h2, fun j' hj => ?_, fun j' hj => by rw [hd_pv (by omega), hd_iv (by omega)]; exact a4 j' hj⟩
  by_cases e : j' = j
  · subst e
    rw [hd_pe, hd_ip]
  · rw [hd_pv (by omega), hd_iv (by omega)]
    exact a3 j' hj
theorem hd_P.p99 (P : hd_P hB hc) {j : Nat} {x : Int32} : hd_P hB (am_put hc 99 j (.int x)) := by
  obtain ⟨a1, a2, a3, a4⟩ := P
  refine ⟨a1, fun c j' h1 h2 => by rw [hd_pv (by omega)]; exact a2 c j' h1 h2, fun j' hj => by rw [hd_pv (by omega), hd_iv (by omega)]; exact a3 j' hj, fun j' hj => ?_⟩
  by_cases e : j' = j
  · subst e
    rw [hd_pe, hd_ip]
  · rw [hd_pv (by omega), hd_iv (by omega)]
    exact a4 j' hj
theorem hd_P.r98 (P : hd_P hB hc) (I : cq_Inv none hB) {i : Int32} {k : Nat} (e : i.toInt = k) (hk : k < 31) : am_rd hc 98 i (fun c => Nat.beq c 0) = some (.int (hd_i hc 98 k)) := by
  obtain ⟨m1, m2⟩ := P.sh I (c := 98) (tc := 0) (ln := 31) (by decide) (by decide) (by decide +kernel)
  rw [hd_rdS m1 m2 (by decide) (by omega) (by omega), show i.toInt.toNat = k by omega, P.2.2.1 k hk]
theorem hd_P.r99 (P : hd_P hB hc) (I : cq_Inv none hB) {i : Int32} {k : Nat} (e : i.toInt = k) (hk : k < 31) : am_rd hc 99 i (fun c => Nat.beq c 0) = some (.int (hd_i hc 99 k)) := by
  obtain ⟨m1, m2⟩ := P.sh I (c := 99) (tc := 0) (ln := 31) (by decide) (by decide) (by decide +kernel)
  rw [hd_rdS m1 m2 (by decide) (by omega) (by omega), show i.toInt.toNat = k by omega, P.2.2.2 k hk]
theorem hd_P.w98 (P : hd_P hB hc) (I : cq_Inv none hB) {i x : Int32} {k : Nat} (e : i.toInt = k) (hk : k < 31) : am_wr hc 98 i 0 (.int x) = some (am_put hc 98 k (.int x)) := by
  obtain ⟨m1, m2⟩ := P.sh I (c := 98) (tc := 0) (ln := 31) (by decide) (by decide) (by decide +kernel)
  rw [hd_wrS m1 m2 (by omega) (by omega), show i.toInt.toNat = k by omega]
theorem hd_P.w99 (P : hd_P hB hc) (I : cq_Inv none hB) {i x : Int32} {k : Nat} (e : i.toInt = k) (hk : k < 31) : am_wr hc 99 i 0 (.int x) = some (am_put hc 99 k (.int x)) := by
  obtain ⟨m1, m2⟩ := P.sh I (c := 99) (tc := 0) (ln := 31) (by decide) (by decide) (by decide +kernel)
  rw [hd_wrS m1 m2 (by omega) (by omega), show i.toInt.toNat = k by omega]
end HDP
theorem hd_ofN {i : Int32} {k : Nat} (e : i.toInt = k) : Int32.ofNat k = i := by
  have : Int32.ofInt (k : Int) = i := by rw [← e]; exact Int32.ofInt_toInt i
  rw [← this]
  rfl
theorem hd_C.put {hB hc : am_H} {t : Int32} {n i j k : Nat} {x y : Int32} (C : hd_C hB hc t n i j) (hk : k < i) : hd_C hB (am_put (am_put hc 98 k (.int x)) 99 k (.int y)) t n i j := by
  obtain ⟨a, b, c, d, e, f⟩ := C
  refine ⟨a, b, c, ?_, ?_, ?_⟩
  · rw [hd_iv (by omega), hd_iv (by omega)]; exact d
  · rw [hd_iv (by omega), hd_iv (by omega), hd_iv (by omega), hd_iv (by omega)]; exact e
  · rw [hd_iv (by omega), hd_iv (by omega), hd_iv (by omega), hd_iv (by omega)]; exact f
section HDQ
variable {hB : am_H} {t nn ii : Int32} {n i d : Nat}
/-- the inner loop of findPages -/
theorem hd_fp1 (I : cq_Inv none hB) (ht : 0 ≤ t.toInt ∧ t.toInt ≤ 119) (hl : cq_n hB 93 t.toInt.toNat = n) (n30 : n ≤ 30) (en : nn.toInt = n) (ei : ii.toInt = i) (hin : i < n) (hd : 2 ≤ d) : ∀ (m j : Nat) (jj : Int32) (v5 v6 : Value) (hc : am_H), m + j = n → jj.toInt = j → i ≤ j → hd_P hB hc → (hd_i hc 98 i = hd_NV ∨ ∃ j', hd_C hB hc t n i j') → ∃ (hc' : am_H) (v4 v5' v6' : Value), hd_P hB hc' ∧ (∀ k, k ≠ i → hd_i hc' 98 k = hd_i hc 98 k ∧ hd_i hc' 99 k = hd_i hc 99 k) ∧ (hd_i hc' 98 i = hd_NV ∨ ∃ j', hd_C hB hc' t n i j') ∧ ∀ x, am_ev (d + 1) 198 181 [.ref 78, .int t, .int nn, .int ii, v4, v5', v6'] [] hc' x → am_ev (d + 1) 198 48 [.ref 78, .int t, .int nn, .int ii, .int jj, v5, v6] [] hc x := by
  intro m
  induction m with
  | zero =>
    intro j jj v5 v6 hc hm ej hij P S
    refine ⟨hc, .int jj, v5, v6, P, fun k _ => ⟨rfl, rfl⟩, S, fun x q => ?_⟩
    refine am_ev.step rfl rfl ?_
    refine am_ev.step rfl rfl ?_
    exact am_ev.step (pc' := 181) (ls' := [.ref 78, .int t, .int nn, .int ii, .int jj, v5, v6]) (st' := []) (h' := hc) rfl (if_pos (Int32.le_iff_toInt_le.2 (by omega))) q
  | succ m ih =>
    intro j jj v5 v6 hc hm ej hij P S
    have nle : ¬ (nn ≤ jj) := fun z => by
      have := Int32.le_iff_toInt_le.1 z
      omega
    have ej1 := hd_inc ej (by omega)
    have O := P.o I
    have f29 := P.f29 I
    have f30 := P.f30 I
    have evs := hd_199 (d := d) I (P.R I) ht (by omega) (i := ii) (j := jj) (by omega) (by omega) hd
    have esq : hd_sq hB t ii jj = hd_sq hB t (Int32.ofNat i) (Int32.ofNat j) := by rw [hd_ofN ei, hd_ofN ej]
    generalize hs : hd_sq hB t ii jj = s at evs esq
    have head : ∀ x, am_ev (d + 1) 198 64 [.ref 78, .int t, .int nn, .int ii, .int jj, .int s, v6] [] hc x → am_ev (d + 1) 198 48 [.ref 78, .int t, .int nn, .int ii, .int jj, v5, v6] [] hc x := fun x q => by
      refine am_ev.step rfl rfl ?_
      refine am_ev.step rfl rfl ?_
      refine am_ev.step (pc' := 54) (ls' := [.ref 78, .int t, .int nn, .int ii, .int jj, v5, v6]) (st' := []) (h' := hc) rfl (if_neg nle) ?_
      refine am_ev.step rfl rfl ?_
      refine am_ev.step rfl rfl ?_
      refine am_ev.step rfl rfl ?_
      refine am_ev.step rfl rfl ?_
      refine hd_cv 199 (as := [.ref 78, .int t, .int ii, .int jj]) (rr := []) rfl (Or.inr (Or.inl ⟨_, rfl⟩)) rfl (by decide) rfl rfl (by decide) O (Nat.le_of_ble_eq_true rfl) evs ?_
      exact am_ev.step rfl rfl q
    have tail : ∀ (h1 : am_H) (w : Value) x, am_ev (d + 1) 198 48 [.ref 78, .int t, .int nn, .int ii, .int (jj + Int32.ofInt 1), .int s, w] [] h1 x → am_ev (d + 1) 198 175 [.ref 78, .int t, .int nn, .int ii, .int jj, .int s, w] [] h1 x := fun h1 w x q => by
      refine am_ev.step rfl rfl ?_
      exact am_ev.step rfl rfl q
    -- nothing is written
    have skip : ∀ w : Value, (∀ x, am_ev (d + 1) 198 175 [.ref 78, .int t, .int nn, .int ii, .int jj, .int s, w] [] hc x → am_ev (d + 1) 198 64 [.ref 78, .int t, .int nn, .int ii, .int jj, .int s, v6] [] hc x) → ∃ (hc' : am_H) (v4 v5' v6' : Value), hd_P hB hc' ∧ (∀ k, k ≠ i → hd_i hc' 98 k = hd_i hc 98 k ∧ hd_i hc' 99 k = hd_i hc 99 k) ∧ (hd_i hc' 98 i = hd_NV ∨ ∃ j', hd_C hB hc' t n i j') ∧ ∀ x, am_ev (d + 1) 198 181 [.ref 78, .int t, .int nn, .int ii, v4, v5', v6'] [] hc' x → am_ev (d + 1) 198 48 [.ref 78, .int t, .int nn, .int ii, .int jj, v5, v6] [] hc x := fun w go => by
      obtain ⟨hc', v4, v5', v6', P', K, S', Q⟩ := ih (j + 1) (jj + Int32.ofInt 1) (.int s) w hc (by omega) ej1 (by omega) P S
      exact ⟨hc', v4, v5', v6', P', K, S', fun x q => head x (go x (tail hc w x (Q x q)))⟩
    by_cases c1 : hd_NV ≤ s
    · refine skip v6 fun x q => ?_
      refine am_ev.step rfl rfl ?_
      refine am_ev.step rfl rfl ?_
      exact am_ev.step (pc' := 175) (ls' := [.ref 78, .int t, .int nn, .int ii, .int jj, .int s, v6]) (st' := []) (h' := hc) rfl (if_pos c1) q
    have r98 := P.r98 I ej1 (by omega)
    have to72 : ∀ x, am_ev (d + 1) 198 84 [.ref 78, .int t, .int nn, .int ii, .int jj, .int s, v6] [.int hd_NV, .int (hd_i hc 98 (j + 1))] hc x → am_ev (d + 1) 198 64 [.ref 78, .int t, .int nn, .int ii, .int jj, .int s, v6] [] hc x := fun x q => by
      refine am_ev.step rfl rfl ?_
      refine am_ev.step rfl rfl ?_
      refine am_ev.step (pc' := 72) (ls' := [.ref 78, .int t, .int nn, .int ii, .int jj, .int s, v6]) (st' := []) (h' := hc) rfl (if_neg c1) ?_
      refine am_ev.step rfl rfl ?_
      refine am_ev.step rfl (hd_gf O f29) ?_
      refine am_ev.step rfl rfl ?_
      refine am_ev.step rfl rfl ?_
      refine am_ev.step rfl rfl ?_
      refine am_ev.step rfl (hd_ia r98) ?_
      exact am_ev.step rfl rfl q
    by_cases c2 : hd_i hc 98 (j + 1) < hd_NV
    · have r98i := P.r98 I ei (by omega)
      have r99j := P.r99 I ej1 (by omega)
      have r99i := P.r99 I ei (by omega)
      have to103 : ∀ x, am_ev (d + 1) 198 103 [.ref 78, .int t, .int nn, .int ii, .int jj, .int s, .int (Int32.ofInt 1 + hd_i hc 98 (j + 1))] [] hc x → am_ev (d + 1) 198 64 [.ref 78, .int t, .int nn, .int ii, .int jj, .int s, v6] [] hc x := fun x q => to72 x (by
        refine am_ev.step (pc' := 90) (ls' := [.ref 78, .int t, .int nn, .int ii, .int jj, .int s, v6]) (st' := []) (h' := hc) rfl (if_pos c2) ?_
        refine am_ev.step rfl rfl ?_
        refine am_ev.step rfl rfl ?_
        refine am_ev.step rfl (hd_gf O f29) ?_
        refine am_ev.step rfl rfl ?_
        refine am_ev.step rfl rfl ?_
        refine am_ev.step rfl rfl ?_
        refine am_ev.step rfl (hd_ia r98) ?_
        refine am_ev.step rfl rfl ?_
        exact am_ev.step rfl rfl q)
      by_cases c3 : hd_i hc 98 i < Int32.ofInt 1 + hd_i hc 98 (j + 1)
      · refine skip (.int (Int32.ofInt 1 + hd_i hc 98 (j + 1))) fun x q => to103 x ?_
        refine am_ev.step rfl rfl ?_
        refine am_ev.step rfl rfl ?_
        refine am_ev.step rfl (hd_gf O f29) ?_
        refine am_ev.step rfl rfl ?_
        refine am_ev.step rfl (hd_ia r98i) ?_
        exact am_ev.step (pc' := 175) (ls' := [.ref 78, .int t, .int nn, .int ii, .int jj, .int s, .int (Int32.ofInt 1 + hd_i hc 98 (j + 1))]) (st' := []) (h' := hc) rfl (if_pos c3) q
      have to122 : ∀ x, am_ev (d + 1) 198 122 [.ref 78, .int t, .int nn, .int ii, .int jj, .int s, .int (Int32.ofInt 1 + hd_i hc 98 (j + 1))] [.int (hd_i hc 98 i), .int (Int32.ofInt 1 + hd_i hc 98 (j + 1))] hc x → am_ev (d + 1) 198 64 [.ref 78, .int t, .int nn, .int ii, .int jj, .int s, v6] [] hc x := fun x q => to103 x (by
        refine am_ev.step rfl rfl ?_
        refine am_ev.step rfl rfl ?_
        refine am_ev.step rfl (hd_gf O f29) ?_
        refine am_ev.step rfl rfl ?_
        refine am_ev.step rfl (hd_ia r98i) ?_
        refine am_ev.step (pc' := 114) (ls' := [.ref 78, .int t, .int nn, .int ii, .int jj, .int s, .int (Int32.ofInt 1 + hd_i hc 98 (j + 1))]) (st' := []) (h' := hc) rfl (if_neg c3) ?_
        refine am_ev.step rfl rfl ?_
        refine am_ev.step rfl rfl ?_
        refine am_ev.step rfl (hd_gf O f29) ?_
        refine am_ev.step rfl rfl ?_
        exact am_ev.step rfl (hd_ia r98i) q)
      -- a better way is written
      have wr : (∀ x, am_ev (d + 1) 198 149 [.ref 78, .int t, .int nn, .int ii, .int jj, .int s, .int (Int32.ofInt 1 + hd_i hc 98 (j + 1))] [] hc x → am_ev (d + 1) 198 64 [.ref 78, .int t, .int nn, .int ii, .int jj, .int s, v6] [] hc x) → ∃ (hc' : am_H) (v4 v5' v6' : Value), hd_P hB hc' ∧ (∀ k, k ≠ i → hd_i hc' 98 k = hd_i hc 98 k ∧ hd_i hc' 99 k = hd_i hc 99 k) ∧ (hd_i hc' 98 i = hd_NV ∨ ∃ j', hd_C hB hc' t n i j') ∧ ∀ x, am_ev (d + 1) 198 181 [.ref 78, .int t, .int nn, .int ii, v4, v5', v6'] [] hc' x → am_ev (d + 1) 198 48 [.ref 78, .int t, .int nn, .int ii, .int jj, v5, v6] [] hc x := fun go => by
        have w98 := P.w98 I (x := Int32.ofInt 1 + hd_i hc 98 (j + 1)) ei (by omega)
        have P1 := P.p98 (j := i) (x := Int32.ofInt 1 + hd_i hc 98 (j + 1))
        have r99k := P1.r99 I ej1 (by omega)
        have w99 := P1.w99 I (x := s + hd_i hc 99 (j + 1)) ei (by omega)
        have P2 := P1.p99 (j := i) (x := s + hd_i hc 99 (j + 1))
        rw [hd_iv (by omega)] at r99k
        have C2 : hd_C hB (am_put (am_put hc 98 i (.int (Int32.ofInt 1 + hd_i hc 98 (j + 1)))) 99 i (.int (s + hd_i hc 99 (j + 1)))) t n i j := by
          refine ⟨hij, by omega, by rw [← esq]; exact c1, ?_, ?_, ?_⟩
          · rw [hd_iv (by omega), hd_iv (by omega)]; exact c2
          · rw [hd_iv (by omega), hd_iv (by omega), hd_iv (by omega), hd_ip]
          · rw [hd_ip, hd_iv (by omega), hd_iv (by omega), ← esq]
        obtain ⟨hc', v4, v5', v6', P', K, S', Q⟩ := ih (j + 1) (jj + Int32.ofInt 1) (.int s) (.int (Int32.ofInt 1 + hd_i hc 98 (j + 1))) _ (by omega) ej1 (by omega) P2 (Or.inr ⟨j, C2⟩)
        refine ⟨hc', v4, v5', v6', P', fun k hk => ?_, S', fun x q => head x (go x ?_)⟩
        · obtain ⟨k1, k2⟩ := K k hk
          rw [k1, k2, hd_iv (by omega), hd_iv (by omega), hd_iv (by omega), hd_iv (by omega)]
          exact ⟨rfl, rfl⟩
        · refine am_ev.step rfl rfl ?_
          refine am_ev.step rfl (hd_gf O f29) ?_
          refine am_ev.step rfl rfl ?_
          refine am_ev.step rfl rfl ?_
          refine am_ev.step rfl (hd_is w98) ?_
          refine am_ev.step rfl rfl ?_
          refine am_ev.step rfl (hd_gf (P1.o I) (P1.f30 I)) ?_
          refine am_ev.step rfl rfl ?_
          refine am_ev.step rfl rfl ?_
          refine am_ev.step rfl rfl ?_
          refine am_ev.step rfl (hd_gf (P1.o I) (P1.f30 I)) ?_
          refine am_ev.step rfl rfl ?_
          refine am_ev.step rfl rfl ?_
          refine am_ev.step rfl rfl ?_
          refine am_ev.step rfl (hd_ia r99k) ?_
          refine am_ev.step rfl rfl ?_
          refine am_ev.step rfl (hd_is w99) ?_
          exact tail _ _ x (Q x q)
      by_cases c4 : Int32.ofInt 1 + hd_i hc 98 (j + 1) = hd_i hc 98 i
      · have to143 : ∀ x, am_ev (d + 1) 198 143 [.ref 78, .int t, .int nn, .int ii, .int jj, .int s, .int (Int32.ofInt 1 + hd_i hc 98 (j + 1))] [.int (hd_i hc 99 i), .int (s + hd_i hc 99 (j + 1))] hc x → am_ev (d + 1) 198 64 [.ref 78, .int t, .int nn, .int ii, .int jj, .int s, v6] [] hc x := fun x q => to122 x (by
          refine am_ev.step (pc' := 125) (ls' := [.ref 78, .int t, .int nn, .int ii, .int jj, .int s, .int (Int32.ofInt 1 + hd_i hc 98 (j + 1))]) (st' := []) (h' := hc) rfl (if_pos c4) ?_
          refine am_ev.step rfl rfl ?_
          refine am_ev.step rfl rfl ?_
          refine am_ev.step rfl (hd_gf O f30) ?_
          refine am_ev.step rfl rfl ?_
          refine am_ev.step rfl rfl ?_
          refine am_ev.step rfl rfl ?_
          refine am_ev.step rfl (hd_ia r99j) ?_
          refine am_ev.step rfl rfl ?_
          refine am_ev.step rfl rfl ?_
          refine am_ev.step rfl (hd_gf O f30) ?_
          refine am_ev.step rfl rfl ?_
          exact am_ev.step rfl (hd_ia r99i) q)
        by_cases c5 : s + hd_i hc 99 (j + 1) < hd_i hc 99 i
        · exact wr fun x q => to143 x (am_ev.step (pc' := 149) (ls' := [.ref 78, .int t, .int nn, .int ii, .int jj, .int s, .int (Int32.ofInt 1 + hd_i hc 98 (j + 1))]) (st' := []) (h' := hc) rfl (if_pos c5) q)
        · refine skip (.int (Int32.ofInt 1 + hd_i hc 98 (j + 1))) fun x q => to143 x ?_
          refine am_ev.step (pc' := 146) (ls' := [.ref 78, .int t, .int nn, .int ii, .int jj, .int s, .int (Int32.ofInt 1 + hd_i hc 98 (j + 1))]) (st' := []) (h' := hc) rfl (if_neg c5) ?_
          exact am_ev.step rfl rfl q
      · exact wr fun x q => to122 x (am_ev.step (pc' := 149) (ls' := [.ref 78, .int t, .int nn, .int ii, .int jj, .int s, .int (Int32.ofInt 1 + hd_i hc 98 (j + 1))]) (st' := []) (h' := hc) rfl (if_neg c4) q)
    · refine skip v6 fun x q => to72 x ?_
      refine am_ev.step (pc' := 87) (ls' := [.ref 78, .int t, .int nn, .int ii, .int jj, .int s, v6]) (st' := []) (h' := hc) rfl (if_neg c2) ?_
      exact am_ev.step rfl rfl q
end HDQ
