/-! BY HAND, 15: order: bits, steps back, what is behind -/
def hd_bt (L j : Nat) : Bool := Nat.beq (L / 2 ^ j % 2) 0
def hd_clr (L j : Nat) : Nat := L - 2 ^ j * (L / 2 ^ j % 2)
def hd_pc (L : Nat) : Nat := L % 2 + L / 2 % 2 + L / 4 % 2 + L / 8 % 2 + L / 16 % 2 + L / 32 % 2 + L / 64 % 2 + L / 128 % 2 + L / 256 % 2 + L / 512 % 2
def hd_bck : Bool := (List.range 1024).all fun L => (List.range 10).all fun j => (decide ((Int32.ofNat L >>> (Int32.ofNat j &&& 31)) &&& Int32.ofInt 1 = 0) == hd_bt L j) && decide (Int32.ofNat L &&& ((Int32.ofInt 1 <<< (Int32.ofNat j &&& 31)) ^^^ Int32.ofInt (-1)) = Int32.ofNat (hd_clr L j)) && decide ((Int32.ofNat L).toInt = (L : Int))
theorem hd_bck_ok : hd_bck = true := by decide +kernel
def hd_nck : Bool := (List.range 1024).all fun L => (List.range 10).all fun j => hd_bt (hd_clr L j) j && Nat.ble (hd_clr L j) L && (hd_bt L j || (Nat.blt (hd_clr L j) L && Nat.beq (hd_pc (hd_clr L j) + 1) (hd_pc L)))
theorem hd_nck_ok : hd_nck = true := by decide +kernel
theorem hd_bits {L j : Nat} {ll jj : Int32} (hL : L < 1024) (hj : j < 10) (eL : ll.toInt = L) (ej : jj.toInt = j) : ((ll >>> (jj &&& 31)) &&& Int32.ofInt 1 = 0 ↔ hd_bt L j = true) ∧ ll &&& ((Int32.ofInt 1 <<< (jj &&& 31)) ^^^ Int32.ofInt (-1)) = Int32.ofNat (hd_clr L j) := by
  have k := List.all_eq_true.1 (List.all_eq_true.1 hd_bck_ok L (List.mem_range.2 hL)) j (List.mem_range.2 hj)
  have k1 := (Bool.and_eq_true _ _ ▸ k)
  have k2 := (Bool.and_eq_true _ _ ▸ k1.1)
  rw [← hd_ofN eL, ← hd_ofN ej]
  refine ⟨?_, of_decide_eq_true k2.2⟩
  have z := eq_of_beq k2.1
  constructor
  · intro q
    rw [← z]
    exact decide_eq_true q
  · intro q
    rw [← z] at q
    exact of_decide_eq_true q
theorem hd_ofNI {L : Nat} (hL : L < 1024) : (Int32.ofNat L).toInt = (L : Int) := by
  have k := List.all_eq_true.1 (List.all_eq_true.1 hd_bck_ok L (List.mem_range.2 hL)) 0 (List.mem_range.2 (by decide))
  exact of_decide_eq_true (Bool.and_eq_true _ _ ▸ k).2
theorem hd_nats {L j : Nat} (hL : L < 1024) (hj : j < 10) : hd_bt (hd_clr L j) j = true ∧ hd_clr L j ≤ L ∧ (hd_bt L j = false → hd_clr L j < L ∧ hd_pc (hd_clr L j) + 1 = hd_pc L) := by
  have k := List.all_eq_true.1 (List.all_eq_true.1 hd_nck_ok L (List.mem_range.2 hL)) j (List.mem_range.2 hj)
  have k1 := (Bool.and_eq_true _ _ ▸ k)
  have k2 := (Bool.and_eq_true _ _ ▸ k1.1)
  refine ⟨k2.1, Nat.le_of_ble_eq_true k2.2, fun z => ?_⟩
  have k3 := k1.2
  rw [z, Bool.false_or] at k3
  have k4 := (Bool.and_eq_true _ _ ▸ k3)
  exact ⟨Nat.le_of_ble_eq_true k4.1, am_beq k4.2⟩
/-- all members, as a set -/
theorem hd_alls {nn : Int32} {n : Nat} (e : nn.toInt = n) (hn : n ≤ 10) : (Int32.ofInt 1 <<< (nn &&& 31)) - Int32.ofInt 1 = Int32.ofNat (2 ^ n - 1) ∧ 2 ^ n - 1 < 1024 ∧ hd_pc (2 ^ n - 1) = n ∧ ∀ j, j < n → hd_bt (2 ^ n - 1) j = false := by
  rw [← hd_ofN e]
  rcases (show n = 0 ∨ n = 1 ∨ n = 2 ∨ n = 3 ∨ n = 4 ∨ n = 5 ∨ n = 6 ∨ n = 7 ∨ n = 8 ∨ n = 9 ∨ n = 10 by omega) with z | z | z | z | z | z | z | z | z | z | z <;> subst z <;> decide +kernel
/-- a heap while an order is sought -/
def hd_O (hB hc : am_H) : Prop := (hc.1 = hB.1 ∧ hc.2.1 = hB.2.1 ∧ hc.2.2.1 = hB.2.2.1) ∧ (∀ c j, c ≠ 124 → c ≠ 118 → ¬ (c = 78 ∧ j = 55) → hc.2.2.2 c j = hB.2.2.2 c j)
theorem hd_O.rf {h : am_H} : hd_O h h := ⟨⟨rfl, rfl, rfl⟩, fun _ _ _ _ _ => rfl⟩
/-- an int of a fixed array -/
theorem hd_iA {h : am_H} (I : cq_Inv none h) {c j : Nat} (l u : Int) (h1 : 40 ≤ c) (h2 : c < 130) (hf : (cq_fix c).1 = 1) (hs : (Nat.beq c 81 || Nat.beq c 83) = false) (ht : cq_ar c = (1, l, u, 0, 0, 0)) (hj : j < (cq_fix c).2.2) : h.2.2.2 c j = .int (hd_i h c j) ∧ l ≤ (hd_i h c j).toInt ∧ (hd_i h c j).toInt ≤ u := by
  have k := cq_tA I h1 h2 hf hs hj
  rw [ht] at k
  obtain ⟨x, ex, x1, x2⟩ := k
  rw [hd_ie ex]
  exact ⟨ex, x1, x2⟩
/-- reading a fixed array of ints -/
theorem hd_ra {h : am_H} (I : cq_Inv none h) {c k : Nat} {i : Int32} (l u : Int) (h1 : 40 ≤ c) (h2 : c < 130) (hf : (cq_fix c).1 = 1) (h0 : (cq_fix c).2.1 = 0) (hs : (Nat.beq c 81 || Nat.beq c 83) = false) (ht : cq_ar c = (1, l, u, 0, 0, 0)) (e : i.toInt = k) (hk : k < (cq_fix c).2.2) : am_rd h c i (fun c => Nat.beq c 0) = some (.int (hd_i h c k)) := by
  rw [hd_rd I h1 h2 hf (by show Nat.beq (cq_fix c).2.1 0 = true; rw [h0]; rfl) (by omega) (by omega), show i.toInt.toNat = k by omega, (hd_iA I l u h1 h2 hf hs ht hk).1]
theorem hd_f78 {h : am_H} (I : cq_Inv none h) (b k : Nat) (hb : b < am_N 13) (ht : cq_cl 13 b = (3, 0, 0, k, 0, 0)) : h.2.2.2 78 b = .ref k := by
  have z := cq_t78 I hb
  rw [ht] at z
  exact z
/-- the step back in years from one candidate to another -/
def hd_sb (h : am_H) (c d : Nat) : Int32 := if Int32.ofInt 0 < hd_i h 87 (hd_i h 117 c).toInt.toNat - hd_i h 87 (hd_i h 117 d).toInt.toNat then hd_i h 87 (hd_i h 117 c).toInt.toNat - hd_i h 87 (hd_i h 117 d).toInt.toNat else Int32.ofInt 0
theorem hd_244 {h : am_H} {cc dd : Int32} {c e d : Nat} (I : cq_Inv none h) (ec : cc.toInt = c) (ee : dd.toInt = e) (hc : c < 14) (he : e < 14) : am_ev (d + 1) 244 0 (am_ent [.ref 78, .int cc, .int dd] (am_in 244).2.2.1) [] h (some (.int (hd_sb h c e)), h) := by
  have O := cq_o78 I
  have f18 := hd_f78 I 18 87 (by decide +kernel) (by decide +kernel)
  have f56 := hd_f78 I 56 117 (by decide +kernel) (by decide +kernel)
  have r1 := hd_ra I (c := 117) (i := cc) (k := c) 0 39 (by decide) (by decide) (by decide +kernel) (by decide +kernel) (by decide) (by decide +kernel) ec (by rw [show (cq_fix 117).2.2 = 14 by decide +kernel]; exact hc)
  have r2 := hd_ra I (c := 117) (i := dd) (k := e) 0 39 (by decide) (by decide) (by decide +kernel) (by decide +kernel) (by decide) (by decide +kernel) ee (by rw [show (cq_fix 117).2.2 = 14 by decide +kernel]; exact he)
  have b1 := (hd_iA I (c := 117) (j := c) 0 39 (by decide) (by decide) (by decide +kernel) (by decide) (by decide +kernel) (by rw [show (cq_fix 117).2.2 = 14 by decide +kernel]; exact hc)).2
  have b2 := (hd_iA I (c := 117) (j := e) 0 39 (by decide) (by decide) (by decide +kernel) (by decide) (by decide +kernel) (by rw [show (cq_fix 117).2.2 = 14 by decide +kernel]; exact he)).2
  have y1 := hd_ra I (c := 87) (i := hd_i h 117 c) (k := (hd_i h 117 c).toInt.toNat) (-2147483648) 2147483647 (by decide) (by decide) (by decide +kernel) (by decide +kernel) (by decide) (by decide +kernel) (by omega) (by rw [show (cq_fix 87).2.2 = 40 by decide +kernel]; omega)
  have y2 := hd_ra I (c := 87) (i := hd_i h 117 e) (k := (hd_i h 117 e).toInt.toNat) (-2147483648) 2147483647 (by decide) (by decide) (by decide +kernel) (by decide +kernel) (by decide) (by decide +kernel) (by omega) (by rw [show (cq_fix 87).2.2 = 40 by decide +kernel]; omega)
  refine am_ev.step rfl rfl ?_
  refine am_ev.step rfl rfl ?_
  refine am_ev.step rfl (hd_gf O f18) ?_
  refine am_ev.step rfl rfl ?_
  refine am_ev.step rfl (hd_gf O f56) ?_
  refine am_ev.step rfl rfl ?_
  refine am_ev.step rfl (hd_ia r1) ?_
  refine am_ev.step rfl (hd_ia y1) ?_
  refine am_ev.step rfl rfl ?_
  refine am_ev.step rfl (hd_gf O f18) ?_
  refine am_ev.step rfl rfl ?_
  refine am_ev.step rfl (hd_gf O f56) ?_
  refine am_ev.step rfl rfl ?_
  refine am_ev.step rfl (hd_ia r2) ?_
  refine am_ev.step rfl (hd_ia y2) ?_
  refine am_ev.step rfl rfl ?_
  refine am_ev.max (rr := []) rfl (Or.inl ⟨_, rfl⟩) rfl rfl (by decide) ?_
  exact am_ev.reti rfl rfl rfl
/-- what is behind member i, if member j comes next and those of L are left -/
def hd_RB (hB hc : am_H) (L i j : Nat) : Int32 := if hd_bt L j = true ∨ hd_i hB 125 (14 * (hd_i hB 123 i).toInt.toNat + (hd_i hB 123 j).toInt.toNat) = 0 then hd_NV else if hd_i hc 124 (10 * hd_clr L j + j) < hd_NV then hd_sb hB (hd_i hB 123 i).toInt.toNat (hd_i hB 123 j).toInt.toNat + hd_i hc 124 (10 * hd_clr L j + j) else hd_NV
theorem hd_O.i {hB hc : am_H} (O : hd_O hB hc) {c j : Nat} (h1 : c ≠ 124) (h2 : c ≠ 118) (h3 : c ≠ 78) : hd_i hc c j = hd_i hB c j := by
  unfold hd_i
  rw [O.2 c j h1 h2 (fun z => h3 z.1)]
theorem hd_O.sb {hB hc : am_H} (O : hd_O hB hc) (c d : Nat) : hd_sb hc c d = hd_sb hB c d := by
  unfold hd_sb
  rw [O.i (c := 117) (by decide) (by decide) (by decide), O.i (c := 117) (by decide) (by decide) (by decide), O.i (c := 87) (by decide) (by decide) (by decide), O.i (c := 87) (by decide) (by decide) (by decide)]
theorem hd_lk {a b : Int32} {m : Nat} {k : Int32} (hk : k.toInt = m) (m1 : m ≤ 100) (h1 : 0 ≤ a.toInt) (h2 : a.toInt ≤ 1100) (h3 : 0 ≤ b.toInt) (h4 : b.toInt ≤ 1000) : (k * a + b).toInt = m * a.toInt + b.toInt := by
  have hm : (m : Int) * a.toInt ≤ 100 * 1100 := by
    have := Int.mul_le_mul (show (m : Int) ≤ 100 by omega) h2 h1 (by omega)
    exact this
  have h0 : 0 ≤ (m : Int) * a.toInt := Int.mul_nonneg (by omega) h1
  have e : (k * a).toInt = m * a.toInt := hd_toM (by rw [hk]) (by omega) (by omega)
  rw [hd_toA (by omega) (by omega) (by omega) (by omega), e]
/-- restBehind -/
theorem hd_243 {hB hc : am_H} {ii jj ll : Int32} {L i j d : Nat} (Ic : cq_Inv none hc) (O : hd_O hB hc) (hL : L < 1024) (hi : i < 10) (hj : j < 10) (eL : ll.toInt = L) (ei : ii.toInt = i) (ej : jj.toInt = j) : am_ev (d + 2) 243 0 (am_ent [.ref 78, .int ii, .int jj, .int ll] (am_in 243).2.2.1) [] hc (some (.int (hd_RB hB hc L i j)), hc) := by
  have OO := cq_o78 Ic
  have f65 := hd_f78 Ic 65 123 (by decide +kernel) (by decide +kernel)
  have f66 := hd_f78 Ic 66 124 (by decide +kernel) (by decide +kernel)
  have f67 := hd_f78 Ic 67 125 (by decide +kernel) (by decide +kernel)
  have a1 := hd_ra Ic (c := 123) (i := ii) (k := i) 0 13 (by decide) (by decide) (by decide +kernel) (by decide +kernel) (by decide) (by decide +kernel) ei (by rw [show (cq_fix 123).2.2 = 10 by decide +kernel]; exact hi)
  have a2 := hd_ra Ic (c := 123) (i := jj) (k := j) 0 13 (by decide) (by decide) (by decide +kernel) (by decide +kernel) (by decide) (by decide +kernel) ej (by rw [show (cq_fix 123).2.2 = 10 by decide +kernel]; exact hj)
  have b1 := (hd_iA Ic (c := 123) (j := i) 0 13 (by decide) (by decide) (by decide +kernel) (by decide) (by decide +kernel) (by rw [show (cq_fix 123).2.2 = 10 by decide +kernel]; exact hi)).2
  have b2 := (hd_iA Ic (c := 123) (j := j) 0 13 (by decide) (by decide) (by decide +kernel) (by decide) (by decide +kernel) (by rw [show (cq_fix 123).2.2 = 10 by decide +kernel]; exact hj)).2
  have m1 : hd_i hc 123 i = hd_i hB 123 i := O.i (by decide) (by decide) (by decide)
  have m2 : hd_i hc 123 j = hd_i hB 123 j := O.i (by decide) (by decide) (by decide)
  rw [m1] at a1 b1
  rw [m2] at a2 b2
  obtain ⟨bt1, bt2⟩ := hd_bits hL hj eL ej
  obtain ⟨n1, n2, n3⟩ := hd_nats hL hj
  generalize hci : hd_i hB 123 i = ci at a1 b1
  generalize hcj : hd_i hB 123 j = cj at a2 b2
  have head : ∀ x, am_ev (d + 2) 243 21 [.ref 78, .int ii, .int jj, .int ll, .int ci, .int cj, am_ph] [.int ((ll >>> (jj &&& 31)) &&& Int32.ofInt 1)] hc x → am_ev (d + 2) 243 0 (am_ent [.ref 78, .int ii, .int jj, .int ll] (am_in 243).2.2.1) [] hc x := fun x q => by
    refine am_ev.step rfl rfl ?_
    refine am_ev.step rfl (hd_gf OO f65) ?_
    refine am_ev.step rfl rfl ?_
    refine am_ev.step rfl (hd_ia a1) ?_
    refine am_ev.step rfl rfl ?_
    refine am_ev.step rfl rfl ?_
    refine am_ev.step rfl (hd_gf OO f65) ?_
    refine am_ev.step rfl rfl ?_
    refine am_ev.step rfl (hd_ia a2) ?_
    refine am_ev.step rfl rfl ?_
    refine am_ev.step rfl rfl ?_
    refine am_ev.step rfl rfl ?_
    refine am_ev.step rfl rfl ?_
    refine am_ev.step rfl rfl ?_
    exact am_ev.step rfl rfl q
  have nv : am_ev (d + 2) 243 40 [.ref 78, .int ii, .int jj, .int ll, .int ci, .int cj, am_ph] [] hc (some (.int hd_NV), hc) := by
    refine am_ev.step rfl rfl ?_
    exact am_ev.reti rfl rfl rfl
  by_cases c1 : hd_bt L j = true
  · have : hd_RB hB hc L i j = hd_NV := by
      unfold hd_RB
      rw [if_pos (Or.inl c1)]
    rw [this]
    exact head _ (am_ev.step (pc' := 40) (ls' := [.ref 78, .int ii, .int jj, .int ll, .int ci, .int cj, am_ph]) (st' := []) (h' := hc) rfl (if_pos (bt1.2 c1)) nv)
  · have nb : ¬ ((ll >>> (jj &&& 31)) &&& Int32.ofInt 1 = 0) := fun z => c1 (bt1.1 z)
    have ix : ((Int8.ofInt 14).toInt32 * ci + cj).toInt = 14 * ci.toInt + cj.toInt := hd_lk (m := 14) (by decide) (by decide) (by omega) (by omega) (by omega) (by omega)
    have tS := hd_iA Ic (c := 125) (j := 14 * ci.toInt.toNat + cj.toInt.toNat) 0 1 (by decide) (by decide) (by decide +kernel) (by decide) (by decide +kernel) (by rw [show (cq_fix 125).2.2 = 196 by decide +kernel]; omega)
    have rS : am_rd hc 125 ((Int8.ofInt 14).toInt32 * ci + cj) (fun c => Nat.beq c 1 || Nat.beq c 2) = some (.int (hd_i hB 125 (14 * ci.toInt.toNat + cj.toInt.toNat))) := by
      rw [hd_rd Ic (by decide) (by decide) (by decide +kernel) (by decide +kernel) (by omega) (by rw [show (cq_fix 125).2.2 = 196 by decide +kernel]; omega), ix, show (14 * ci.toInt + cj.toInt).toNat = 14 * ci.toInt.toNat + cj.toInt.toNat by omega, tS.1, O.i (by decide) (by decide) (by decide)]
    have to37 : ∀ x, am_ev (d + 2) 243 37 [.ref 78, .int ii, .int jj, .int ll, .int ci, .int cj, am_ph] [.int (hd_i hB 125 (14 * ci.toInt.toNat + cj.toInt.toNat))] hc x → am_ev (d + 2) 243 0 (am_ent [.ref 78, .int ii, .int jj, .int ll] (am_in 243).2.2.1) [] hc x := fun x q => head x (by
      refine am_ev.step (pc' := 24) (ls' := [.ref 78, .int ii, .int jj, .int ll, .int ci, .int cj, am_ph]) (st' := []) (h' := hc) rfl (if_neg nb) ?_
      refine am_ev.step rfl rfl ?_
      refine am_ev.step rfl (hd_gf OO f67) ?_
      refine am_ev.step rfl rfl ?_
      refine am_ev.step rfl rfl ?_
      refine am_ev.step rfl rfl ?_
      refine am_ev.step rfl rfl ?_
      refine am_ev.step rfl rfl ?_
      exact am_ev.step rfl (hd_ba rS) q)
    by_cases c2 : hd_i hB 125 (14 * ci.toInt.toNat + cj.toInt.toNat) = 0
    · have : hd_RB hB hc L i j = hd_NV := by
        unfold hd_RB
        rw [hci, hcj, if_pos (Or.inr c2)]
      rw [this]
      exact to37 _ (am_ev.step (pc' := 40) (ls' := [.ref 78, .int ii, .int jj, .int ll, .int ci, .int cj, am_ph]) (st' := []) (h' := hc) rfl (if_pos c2) nv)
    · have eC := hd_ofNI (show hd_clr L j < 1024 by omega)
      have iy : ((Int8.ofInt 10).toInt32 * Int32.ofNat (hd_clr L j) + jj).toInt = ((10 * hd_clr L j + j : Nat) : Int) := by
        rw [hd_lk (m := 10) (by decide) (by decide) (by omega) (by omega) (by omega) (by omega), eC, ej]
        omega
      have rT := hd_ra Ic (c := 124) (k := 10 * hd_clr L j + j) (-2147483648) 2147483647 (by decide) (by decide) (by decide +kernel) (by decide +kernel) (by decide) (by decide +kernel) iy (by rw [show (cq_fix 124).2.2 = 10240 by decide +kernel]; omega)
      have to68 : ∀ x, am_ev (d + 2) 243 68 [.ref 78, .int ii, .int jj, .int ll, .int ci, .int cj, .int (hd_i hc 124 (10 * hd_clr L j + j))] [.int hd_NV, .int (hd_i hc 124 (10 * hd_clr L j + j))] hc x → am_ev (d + 2) 243 0 (am_ent [.ref 78, .int ii, .int jj, .int ll] (am_in 243).2.2.1) [] hc x := fun x q => to37 x (by
        refine am_ev.step (pc' := 44) (ls' := [.ref 78, .int ii, .int jj, .int ll, .int ci, .int cj, am_ph]) (st' := []) (h' := hc) rfl (if_neg c2) ?_
        refine am_ev.step rfl rfl ?_
        refine am_ev.step rfl (hd_gf OO f66) ?_
        refine am_ev.step rfl rfl ?_
        refine am_ev.step rfl rfl ?_
        refine am_ev.step rfl rfl ?_
        refine am_ev.step rfl rfl ?_
        refine am_ev.step rfl rfl ?_
        refine am_ev.step rfl rfl ?_
        refine am_ev.step rfl rfl ?_
        refine am_ev.step (pc' := 57) (ls' := [.ref 78, .int ii, .int jj, .int ll, .int ci, .int cj, am_ph]) (st' := [.int (Int32.ofNat (hd_clr L j)), .int (Int8.ofInt 10).toInt32, .ref 124]) (h' := hc) rfl (by rw [← bt2]; rfl) ?_
        refine am_ev.step rfl rfl ?_
        refine am_ev.step rfl rfl ?_
        refine am_ev.step rfl rfl ?_
        refine am_ev.step rfl (hd_ia rT) ?_
        refine am_ev.step rfl rfl ?_
        refine am_ev.step rfl rfl ?_
        exact am_ev.step rfl rfl q)
      have nor : ¬ (hd_bt L j = true ∨ hd_i hB 125 (14 * (hd_i hB 123 i).toInt.toNat + (hd_i hB 123 j).toInt.toNat) = 0) := by
        rw [hci, hcj]
        exact fun z => z.elim c1 c2
      by_cases c3 : hd_i hc 124 (10 * hd_clr L j + j) < hd_NV
      · have : hd_RB hB hc L i j = hd_sb hB ci.toInt.toNat cj.toInt.toNat + hd_i hc 124 (10 * hd_clr L j + j) := by
          unfold hd_RB
          rw [if_neg nor, if_pos c3, hci, hcj]
        rw [this]
        have sb := hd_244 (d := d) (c := ci.toInt.toNat) (e := cj.toInt.toNat) Ic (cc := ci) (dd := cj) (by omega) (by omega) (by omega) (by omega)
        rw [O.sb] at sb
        refine to68 _ ?_
        refine am_ev.step (pc' := 77) (ls' := [.ref 78, .int ii, .int jj, .int ll, .int ci, .int cj, .int (hd_i hc 124 (10 * hd_clr L j + j))]) (st' := []) (h' := hc) rfl (if_pos c3) ?_
        refine am_ev.step rfl rfl ?_
        refine am_ev.step rfl rfl ?_
        refine am_ev.step rfl rfl ?_
        refine hd_cv 244 (as := [.ref 78, .int ci, .int cj]) (rr := []) rfl (Or.inr (Or.inl ⟨_, rfl⟩)) rfl (by decide) rfl rfl (by decide) OO (Nat.le_of_ble_eq_true rfl) sb ?_
        refine am_ev.step rfl rfl ?_
        refine am_ev.step rfl rfl ?_
        exact am_ev.reti rfl rfl rfl
      · have : hd_RB hB hc L i j = hd_NV := by
          unfold hd_RB
          rw [if_neg nor, if_neg c3]
        rw [this]
        refine to68 _ ?_
        refine am_ev.step (pc' := 71) (ls' := [.ref 78, .int ii, .int jj, .int ll, .int ci, .int cj, .int (hd_i hc 124 (10 * hd_clr L j + j))]) (st' := []) (h' := hc) rfl (if_neg c3) ?_
        refine am_ev.step rfl rfl ?_
        refine am_ev.step rfl rfl ?_
        exact am_ev.reti rfl rfl rfl
