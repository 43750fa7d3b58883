/-! LOOK, the program's side: stage by stage -/
theorem b_xor (x y : Int32) (i : Nat) : bt (x ^^^ y) i = (bt x i ^^ bt y i) := by unfold bt; rw [Int32.toBitVec_xor, BitVec.getLsbD_xor]
theorem b_m1 : ∀ i, i < 32 → bt (Int32.ofInt (-1)) i = true := by decide +kernel
theorem mk_0 {b X : Int32} : (b &&& (X ^^^ Int32.ofInt (-1))) = 0 ↔ ∀ i, i < 32 → bt b i = true → bt X i = true := by
  refine ⟨fun h i hi k => ?_, fun h => ?_⟩
  · have z : bt (b &&& (X ^^^ Int32.ofInt (-1))) i = bt 0 i := by rw [h]
    rw [b_and, b_xor, b_m1 i hi, b_0, k] at z
    cases w : bt X i with
    | true => rfl
    | false =>
      rw [w] at z
      cases z
  · refine b_ext fun i hi => ?_
    rw [b_and, b_xor, b_m1 i hi, b_0]
    cases k : bt b i with
    | false => rfl
    | true =>
      rw [h i hi k]
      rfl
theorem b_hi {b : Int32} (b0 : 0 ≤ b.toInt) (b1 : b.toInt ≤ 63) {i : Nat} (hi : 6 ≤ i) : bt b i = false := by
  have lt : b.toBitVec.toNat < 64 := by
    have e : b.toInt = b.toBitVec.toInt := rfl
    rw [e, BitVec.toInt_eq_toNat_cond] at b0 b1
    have := b.toBitVec.isLt
    split at b0 <;> split at b1 <;> omega
  show b.toBitVec.toNat.testBit i = false
  refine Nat.testBit_lt_two_pow (Nat.lt_of_lt_of_le lt ?_)
  show 2 ^ 6 ≤ 2 ^ i
  exact Nat.pow_le_pow_right (by decide) hi
theorem mk_6 {b X : Int32} (b0 : 0 ≤ b.toInt) (b1 : b.toInt ≤ 63) : (b &&& (X ^^^ Int32.ofInt (-1))) = 0 ↔ ∀ i, i < 6 → bt b i = true → bt X i = true := by
  rw [mk_0]
  refine ⟨fun h i hi k => h i (by omega) k, fun h i hi k => ?_⟩
  by_cases c : i < 6
  · exact h i c k
  · rw [b_hi b0 b1 (by omega)] at k
    cases k
section LKP
variable {d k s lf E q c l n : Nat} {h H : am_H} {b e K r p le pp m : Int} {bl F G OP ap : Int32} {v3 v4 v5 : Value}
theorem lo1_n1 (S : fS h) (Ok : am_isO h k 1 = true) (Os : am_isO h s 6 = true) (k1 : h.2.2.2 k 1 = .ref s) (k0 : h.2.2.2 k 0 = iv q) (v9 : h.2.2.2 40 9 = iv e) (v11 : h.2.2.2 40 11 = iv b) (v10 : h.2.2.2 40 10 = .int bl) (H96 : am_ev (d + 3) 96 0 (am_ent [.ref 48, iv q, iv e] 4) [] h (some (iv K), h)) (H93 : am_ev (d + 3) 93 0 (am_ent [.ref 48, .ref s, .ref 43, iv b, iv e] 8) [] h (some (.int F), h)) (H87 : am_ev (d + 3) 87 0 (am_ent [.ref 48, iv K] 2) [] h (some .null, h)) (hm : (bl &&& (F ^^^ Int32.ofInt (-1))) = 0) {x : Option Value × am_H} (q9 : am_ev (d + 4) 104 94 [.ref 40, .ref k, .ref s, .null, .int F, .int (F ||| (Int32.ofInt 0)), .null, am_ph] [] h x) : am_ev (d + 4) 104 0 (am_ent [.ref 40, .ref k] 8) [] h x := by
  show am_ev (d + 4) 104 0 [.ref 40, .ref k, am_ph, am_ph, am_ph, am_ph, am_ph, am_ph] [] h _
  refine am_ev.step (pc' := 1) rfl rfl ?_
  refine ax_gf (p' := 4) rfl rfl Ok k1 ?_
  refine am_ev.step (pc' := 5) (ls' := [.ref 40, .ref k, .ref s, am_ph, am_ph, am_ph, am_ph, am_ph]) rfl rfl ?_
  refine am_ev.step (pc' := 6) rfl rfl ?_
  refine ax_gf (p' := 9) rfl rfl (S.ob rfl) (S.rf rfl rfl) ?_
  refine am_ev.step (pc' := 10) rfl rfl ?_
  refine ax_gf (p' := 13) rfl rfl (S.ob rfl) (S.rf rfl rfl) ?_
  refine am_ev.step (pc' := 14) rfl rfl ?_
  refine ax_gf (p' := 17) rfl rfl Ok k0 ?_
  refine am_ev.step (pc' := 18) rfl rfl ?_
  refine ax_gf (p' := 21) rfl rfl (S.ob rfl) v9 ?_
  refine ax_call (z := 96) (p' := 24) (as := [_, _, _]) rfl (Or.inr (Or.inl ⟨_, rfl⟩)) rfl rfl rfl rfl rfl rfl (S.ob rfl) rfl H96 rfl ?_
  refine ax_call (z := 87) (p' := 27) (as := [_, _]) rfl (Or.inr (Or.inl ⟨_, rfl⟩)) rfl rfl rfl rfl rfl rfl (S.ob rfl) rfl H87 rfl ?_
  refine am_ev.step (pc' := 28) (ls' := [.ref 40, .ref k, .ref s, .null, am_ph, am_ph, am_ph, am_ph]) rfl rfl ?_
  refine am_ev.step (pc' := 29) rfl rfl ?_
  refine ax_gf (p' := 32) rfl rfl (S.ob rfl) (S.rf rfl rfl) ?_
  refine am_ev.step (pc' := 33) rfl rfl ?_
  refine am_ev.step (pc' := 34) rfl rfl ?_
  refine ax_gf (p' := 37) rfl rfl (S.ob rfl) (S.rf rfl rfl) ?_
  refine am_ev.step (pc' := 38) rfl rfl ?_
  refine ax_gf (p' := 41) rfl rfl (S.ob rfl) v11 ?_
  refine am_ev.step (pc' := 42) rfl rfl ?_
  refine ax_gf (p' := 45) rfl rfl (S.ob rfl) v9 ?_
  refine ax_call (z := 93) (p' := 48) (as := [_, _, _, _, _]) rfl (Or.inr (Or.inl ⟨_, rfl⟩)) rfl rfl rfl rfl rfl rfl (S.ob rfl) rfl H93 rfl ?_
  refine am_ev.step (pc' := 50) (ls' := [.ref 40, .ref k, .ref s, .null, .int F, am_ph, am_ph, am_ph]) rfl rfl ?_
  refine am_ev.step (pc' := 52) rfl rfl ?_
  refine am_ev.step (pc' := 53) rfl rfl ?_
  refine am_ev.step (pc' := 56) rfl rfl ?_
  refine am_ev.step (pc' := 57) rfl rfl ?_
  refine am_ev.step (pc' := 72) rfl rfl ?_
  refine am_ev.step (pc' := 73) rfl rfl ?_
  refine am_ev.step (pc' := 75) (ls' := [.ref 40, .ref k, .ref s, .null, .int F, .int (F ||| (Int32.ofInt 0)), am_ph, am_ph]) rfl rfl ?_
  refine am_ev.step (pc' := 76) rfl rfl ?_
  refine ax_gf (p' := 79) rfl rfl (S.ob rfl) v10 ?_
  refine am_ev.step (pc' := 81) rfl rfl ?_
  refine am_ev.step (pc' := 82) rfl rfl ?_
  refine am_ev.step (pc' := 83) rfl rfl ?_
  refine am_ev.step (pc' := 84) rfl rfl ?_
  refine ax_z_ne_N (p' := 87) rfl rfl hm ?_
  refine am_ev.step (pc' := 88) rfl rfl ?_
  refine am_ev.step (pc' := 92) rfl rfl ?_
  refine am_ev.step (pc' := 94) (ls' := [.ref 40, .ref k, .ref s, .null, .int F, .int (F ||| (Int32.ofInt 0)), .null, am_ph]) rfl rfl ?_
  exact q9
theorem lo1_n2 (S : fS h) (Ok : am_isO h k 1 = true) (Os : am_isO h s 6 = true) (k1 : h.2.2.2 k 1 = .ref s) (k0 : h.2.2.2 k 0 = iv q) (v9 : h.2.2.2 40 9 = iv e) (v11 : h.2.2.2 40 11 = iv b) (v10 : h.2.2.2 40 10 = .int bl) (H96 : am_ev (d + 3) 96 0 (am_ent [.ref 48, iv q, iv e] 4) [] h (some (iv K), h)) (H93 : am_ev (d + 3) 93 0 (am_ent [.ref 48, .ref s, .ref 43, iv b, iv e] 8) [] h (some (.int F), h)) (H87 : am_ev (d + 3) 87 0 (am_ent [.ref 48, iv K] 2) [] h (some .null, h)) (hm : ¬ (bl &&& (F ^^^ Int32.ofInt (-1))) = 0) {x : Option Value × am_H} (q9 : am_ev (d + 4) 104 94 [.ref 40, .ref k, .ref s, .null, .int F, .int (F ||| (Int32.ofInt 0)), .null, am_ph] [] h x) : am_ev (d + 4) 104 0 (am_ent [.ref 40, .ref k] 8) [] h x := by
  show am_ev (d + 4) 104 0 [.ref 40, .ref k, am_ph, am_ph, am_ph, am_ph, am_ph, am_ph] [] h _
  refine am_ev.step (pc' := 1) rfl rfl ?_
  refine ax_gf (p' := 4) rfl rfl Ok k1 ?_
  refine am_ev.step (pc' := 5) (ls' := [.ref 40, .ref k, .ref s, am_ph, am_ph, am_ph, am_ph, am_ph]) rfl rfl ?_
  refine am_ev.step (pc' := 6) rfl rfl ?_
  refine ax_gf (p' := 9) rfl rfl (S.ob rfl) (S.rf rfl rfl) ?_
  refine am_ev.step (pc' := 10) rfl rfl ?_
  refine ax_gf (p' := 13) rfl rfl (S.ob rfl) (S.rf rfl rfl) ?_
  refine am_ev.step (pc' := 14) rfl rfl ?_
  refine ax_gf (p' := 17) rfl rfl Ok k0 ?_
  refine am_ev.step (pc' := 18) rfl rfl ?_
  refine ax_gf (p' := 21) rfl rfl (S.ob rfl) v9 ?_
  refine ax_call (z := 96) (p' := 24) (as := [_, _, _]) rfl (Or.inr (Or.inl ⟨_, rfl⟩)) rfl rfl rfl rfl rfl rfl (S.ob rfl) rfl H96 rfl ?_
  refine ax_call (z := 87) (p' := 27) (as := [_, _]) rfl (Or.inr (Or.inl ⟨_, rfl⟩)) rfl rfl rfl rfl rfl rfl (S.ob rfl) rfl H87 rfl ?_
  refine am_ev.step (pc' := 28) (ls' := [.ref 40, .ref k, .ref s, .null, am_ph, am_ph, am_ph, am_ph]) rfl rfl ?_
  refine am_ev.step (pc' := 29) rfl rfl ?_
  refine ax_gf (p' := 32) rfl rfl (S.ob rfl) (S.rf rfl rfl) ?_
  refine am_ev.step (pc' := 33) rfl rfl ?_
  refine am_ev.step (pc' := 34) rfl rfl ?_
  refine ax_gf (p' := 37) rfl rfl (S.ob rfl) (S.rf rfl rfl) ?_
  refine am_ev.step (pc' := 38) rfl rfl ?_
  refine ax_gf (p' := 41) rfl rfl (S.ob rfl) v11 ?_
  refine am_ev.step (pc' := 42) rfl rfl ?_
  refine ax_gf (p' := 45) rfl rfl (S.ob rfl) v9 ?_
  refine ax_call (z := 93) (p' := 48) (as := [_, _, _, _, _]) rfl (Or.inr (Or.inl ⟨_, rfl⟩)) rfl rfl rfl rfl rfl rfl (S.ob rfl) rfl H93 rfl ?_
  refine am_ev.step (pc' := 50) (ls' := [.ref 40, .ref k, .ref s, .null, .int F, am_ph, am_ph, am_ph]) rfl rfl ?_
  refine am_ev.step (pc' := 52) rfl rfl ?_
  refine am_ev.step (pc' := 53) rfl rfl ?_
  refine am_ev.step (pc' := 56) rfl rfl ?_
  refine am_ev.step (pc' := 57) rfl rfl ?_
  refine am_ev.step (pc' := 72) rfl rfl ?_
  refine am_ev.step (pc' := 73) rfl rfl ?_
  refine am_ev.step (pc' := 75) (ls' := [.ref 40, .ref k, .ref s, .null, .int F, .int (F ||| (Int32.ofInt 0)), am_ph, am_ph]) rfl rfl ?_
  refine am_ev.step (pc' := 76) rfl rfl ?_
  refine ax_gf (p' := 79) rfl rfl (S.ob rfl) v10 ?_
  refine am_ev.step (pc' := 81) rfl rfl ?_
  refine am_ev.step (pc' := 82) rfl rfl ?_
  refine am_ev.step (pc' := 83) rfl rfl ?_
  refine am_ev.step (pc' := 84) rfl rfl ?_
  refine ax_z_ne_T (p' := 91) rfl rfl hm ?_
  refine am_ev.step (pc' := 92) rfl rfl ?_
  refine am_ev.step (pc' := 94) (ls' := [.ref 40, .ref k, .ref s, .null, .int F, .int (F ||| (Int32.ofInt 0)), .null, am_ph]) rfl rfl ?_
  exact q9
theorem lo1_t (S : fS h) (Ok : am_isO h k 1 = true) (Os : am_isO h s 6 = true) (k1 : h.2.2.2 k 1 = .ref s) (k0 : h.2.2.2 k 0 = iv q) (v9 : h.2.2.2 40 9 = iv e) (v11 : h.2.2.2 40 11 = iv b) (v10 : h.2.2.2 40 10 = .int bl) (H96 : am_ev (d + 3) 96 0 (am_ent [.ref 48, iv q, iv e] 4) [] h (some (iv K), h)) (H93 : am_ev (d + 3) 93 0 (am_ent [.ref 48, .ref s, .ref 43, iv b, iv e] 8) [] h (some (.int F), h)) (H87 : am_ev (d + 3) 87 0 (am_ent [.ref 48, iv K] 2) [] h (some (.ref lf), h)) (Ol : am_isO h lf 4 = true) (H97 : am_ev (d + 3) 97 0 (am_ent [.ref lf, iv b, iv e] 4) [] h (some (.int G), h)) (hm : (bl &&& (F ^^^ Int32.ofInt (-1))) = 0) {x : Option Value × am_H} (q9 : am_ev (d + 4) 104 94 [.ref 40, .ref k, .ref s, .ref lf, .int F, .int (F ||| G), .null, am_ph] [] h x) : am_ev (d + 4) 104 0 (am_ent [.ref 40, .ref k] 8) [] h x := by
  show am_ev (d + 4) 104 0 [.ref 40, .ref k, am_ph, am_ph, am_ph, am_ph, am_ph, am_ph] [] h _
  refine am_ev.step (pc' := 1) rfl rfl ?_
  refine ax_gf (p' := 4) rfl rfl Ok k1 ?_
  refine am_ev.step (pc' := 5) (ls' := [.ref 40, .ref k, .ref s, am_ph, am_ph, am_ph, am_ph, am_ph]) rfl rfl ?_
  refine am_ev.step (pc' := 6) rfl rfl ?_
  refine ax_gf (p' := 9) rfl rfl (S.ob rfl) (S.rf rfl rfl) ?_
  refine am_ev.step (pc' := 10) rfl rfl ?_
  refine ax_gf (p' := 13) rfl rfl (S.ob rfl) (S.rf rfl rfl) ?_
  refine am_ev.step (pc' := 14) rfl rfl ?_
  refine ax_gf (p' := 17) rfl rfl Ok k0 ?_
  refine am_ev.step (pc' := 18) rfl rfl ?_
  refine ax_gf (p' := 21) rfl rfl (S.ob rfl) v9 ?_
  refine ax_call (z := 96) (p' := 24) (as := [_, _, _]) rfl (Or.inr (Or.inl ⟨_, rfl⟩)) rfl rfl rfl rfl rfl rfl (S.ob rfl) rfl H96 rfl ?_
  refine ax_call (z := 87) (p' := 27) (as := [_, _]) rfl (Or.inr (Or.inl ⟨_, rfl⟩)) rfl rfl rfl rfl rfl rfl (S.ob rfl) rfl H87 rfl ?_
  refine am_ev.step (pc' := 28) (ls' := [.ref 40, .ref k, .ref s, .ref lf, am_ph, am_ph, am_ph, am_ph]) rfl rfl ?_
  refine am_ev.step (pc' := 29) rfl rfl ?_
  refine ax_gf (p' := 32) rfl rfl (S.ob rfl) (S.rf rfl rfl) ?_
  refine am_ev.step (pc' := 33) rfl rfl ?_
  refine am_ev.step (pc' := 34) rfl rfl ?_
  refine ax_gf (p' := 37) rfl rfl (S.ob rfl) (S.rf rfl rfl) ?_
  refine am_ev.step (pc' := 38) rfl rfl ?_
  refine ax_gf (p' := 41) rfl rfl (S.ob rfl) v11 ?_
  refine am_ev.step (pc' := 42) rfl rfl ?_
  refine ax_gf (p' := 45) rfl rfl (S.ob rfl) v9 ?_
  refine ax_call (z := 93) (p' := 48) (as := [_, _, _, _, _]) rfl (Or.inr (Or.inl ⟨_, rfl⟩)) rfl rfl rfl rfl rfl rfl (S.ob rfl) rfl H93 rfl ?_
  refine am_ev.step (pc' := 50) (ls' := [.ref 40, .ref k, .ref s, .ref lf, .int F, am_ph, am_ph, am_ph]) rfl rfl ?_
  refine am_ev.step (pc' := 52) rfl rfl ?_
  refine am_ev.step (pc' := 53) rfl rfl ?_
  refine am_ev.step (pc' := 60) rfl rfl ?_
  refine am_ev.step (pc' := 61) rfl rfl ?_
  refine am_ev.step (pc' := 62) rfl rfl ?_
  refine ax_gf (p' := 65) rfl rfl (S.ob rfl) v11 ?_
  refine am_ev.step (pc' := 66) rfl rfl ?_
  refine ax_gf (p' := 69) rfl rfl (S.ob rfl) v9 ?_
  refine ax_call (z := 97) (p' := 72) (as := [_, _, _]) rfl (Or.inr (Or.inl ⟨_, rfl⟩)) rfl rfl rfl rfl rfl rfl Ol rfl H97 rfl ?_
  refine am_ev.step (pc' := 73) rfl rfl ?_
  refine am_ev.step (pc' := 75) (ls' := [.ref 40, .ref k, .ref s, .ref lf, .int F, .int (F ||| G), am_ph, am_ph]) rfl rfl ?_
  refine am_ev.step (pc' := 76) rfl rfl ?_
  refine ax_gf (p' := 79) rfl rfl (S.ob rfl) v10 ?_
  refine am_ev.step (pc' := 81) rfl rfl ?_
  refine am_ev.step (pc' := 82) rfl rfl ?_
  refine am_ev.step (pc' := 83) rfl rfl ?_
  refine am_ev.step (pc' := 84) rfl rfl ?_
  refine ax_z_ne_N (p' := 87) rfl rfl hm ?_
  refine am_ev.step (pc' := 88) rfl rfl ?_
  refine am_ev.step (pc' := 92) rfl rfl ?_
  refine am_ev.step (pc' := 94) (ls' := [.ref 40, .ref k, .ref s, .ref lf, .int F, .int (F ||| G), .null, am_ph]) rfl rfl ?_
  exact q9
theorem lo1_u (S : fS h) (Ok : am_isO h k 1 = true) (Os : am_isO h s 6 = true) (k1 : h.2.2.2 k 1 = .ref s) (k0 : h.2.2.2 k 0 = iv q) (v9 : h.2.2.2 40 9 = iv e) (v11 : h.2.2.2 40 11 = iv b) (v10 : h.2.2.2 40 10 = .int bl) (H96 : am_ev (d + 3) 96 0 (am_ent [.ref 48, iv q, iv e] 4) [] h (some (iv K), h)) (H93 : am_ev (d + 3) 93 0 (am_ent [.ref 48, .ref s, .ref 43, iv b, iv e] 8) [] h (some (.int F), h)) (H87 : am_ev (d + 3) 87 0 (am_ent [.ref 48, iv K] 2) [] h (some (.ref lf), h)) (Ol : am_isO h lf 4 = true) (H97 : am_ev (d + 3) 97 0 (am_ent [.ref lf, iv b, iv e] 4) [] h (some (.int G), h)) (hm : ¬ (bl &&& (F ^^^ Int32.ofInt (-1))) = 0) {x : Option Value × am_H} (q9 : am_ev (d + 4) 104 94 [.ref 40, .ref k, .ref s, .ref lf, .int F, .int (F ||| G), .ref lf, am_ph] [] h x) : am_ev (d + 4) 104 0 (am_ent [.ref 40, .ref k] 8) [] h x := by
  show am_ev (d + 4) 104 0 [.ref 40, .ref k, am_ph, am_ph, am_ph, am_ph, am_ph, am_ph] [] h _
  refine am_ev.step (pc' := 1) rfl rfl ?_
  refine ax_gf (p' := 4) rfl rfl Ok k1 ?_
  refine am_ev.step (pc' := 5) (ls' := [.ref 40, .ref k, .ref s, am_ph, am_ph, am_ph, am_ph, am_ph]) rfl rfl ?_
  refine am_ev.step (pc' := 6) rfl rfl ?_
  refine ax_gf (p' := 9) rfl rfl (S.ob rfl) (S.rf rfl rfl) ?_
  refine am_ev.step (pc' := 10) rfl rfl ?_
  refine ax_gf (p' := 13) rfl rfl (S.ob rfl) (S.rf rfl rfl) ?_
  refine am_ev.step (pc' := 14) rfl rfl ?_
  refine ax_gf (p' := 17) rfl rfl Ok k0 ?_
  refine am_ev.step (pc' := 18) rfl rfl ?_
  refine ax_gf (p' := 21) rfl rfl (S.ob rfl) v9 ?_
  refine ax_call (z := 96) (p' := 24) (as := [_, _, _]) rfl (Or.inr (Or.inl ⟨_, rfl⟩)) rfl rfl rfl rfl rfl rfl (S.ob rfl) rfl H96 rfl ?_
  refine ax_call (z := 87) (p' := 27) (as := [_, _]) rfl (Or.inr (Or.inl ⟨_, rfl⟩)) rfl rfl rfl rfl rfl rfl (S.ob rfl) rfl H87 rfl ?_
  refine am_ev.step (pc' := 28) (ls' := [.ref 40, .ref k, .ref s, .ref lf, am_ph, am_ph, am_ph, am_ph]) rfl rfl ?_
  refine am_ev.step (pc' := 29) rfl rfl ?_
  refine ax_gf (p' := 32) rfl rfl (S.ob rfl) (S.rf rfl rfl) ?_
  refine am_ev.step (pc' := 33) rfl rfl ?_
  refine am_ev.step (pc' := 34) rfl rfl ?_
  refine ax_gf (p' := 37) rfl rfl (S.ob rfl) (S.rf rfl rfl) ?_
  refine am_ev.step (pc' := 38) rfl rfl ?_
  refine ax_gf (p' := 41) rfl rfl (S.ob rfl) v11 ?_
  refine am_ev.step (pc' := 42) rfl rfl ?_
  refine ax_gf (p' := 45) rfl rfl (S.ob rfl) v9 ?_
  refine ax_call (z := 93) (p' := 48) (as := [_, _, _, _, _]) rfl (Or.inr (Or.inl ⟨_, rfl⟩)) rfl rfl rfl rfl rfl rfl (S.ob rfl) rfl H93 rfl ?_
  refine am_ev.step (pc' := 50) (ls' := [.ref 40, .ref k, .ref s, .ref lf, .int F, am_ph, am_ph, am_ph]) rfl rfl ?_
  refine am_ev.step (pc' := 52) rfl rfl ?_
  refine am_ev.step (pc' := 53) rfl rfl ?_
  refine am_ev.step (pc' := 60) rfl rfl ?_
  refine am_ev.step (pc' := 61) rfl rfl ?_
  refine am_ev.step (pc' := 62) rfl rfl ?_
  refine ax_gf (p' := 65) rfl rfl (S.ob rfl) v11 ?_
  refine am_ev.step (pc' := 66) rfl rfl ?_
  refine ax_gf (p' := 69) rfl rfl (S.ob rfl) v9 ?_
  refine ax_call (z := 97) (p' := 72) (as := [_, _, _]) rfl (Or.inr (Or.inl ⟨_, rfl⟩)) rfl rfl rfl rfl rfl rfl Ol rfl H97 rfl ?_
  refine am_ev.step (pc' := 73) rfl rfl ?_
  refine am_ev.step (pc' := 75) (ls' := [.ref 40, .ref k, .ref s, .ref lf, .int F, .int (F ||| G), am_ph, am_ph]) rfl rfl ?_
  refine am_ev.step (pc' := 76) rfl rfl ?_
  refine ax_gf (p' := 79) rfl rfl (S.ob rfl) v10 ?_
  refine am_ev.step (pc' := 81) rfl rfl ?_
  refine am_ev.step (pc' := 82) rfl rfl ?_
  refine am_ev.step (pc' := 83) rfl rfl ?_
  refine am_ev.step (pc' := 84) rfl rfl ?_
  refine ax_z_ne_T (p' := 91) rfl rfl hm ?_
  refine am_ev.step (pc' := 92) rfl rfl ?_
  refine am_ev.step (pc' := 94) (ls' := [.ref 40, .ref k, .ref s, .ref lf, .int F, .int (F ||| G), .ref lf, am_ph]) rfl rfl ?_
  exact q9
variable {lv : Value}
theorem lo2_n (S : fS h) (Ok : am_isO h k 1 = true) (hk : 130 ≤ k) (Os : am_isO h s 6 = true) (v6 : h.2.2.2 s 6 = iv c) (hc : c ≤ 3) (nsk : s ≠ k) {x : Option Value × am_H} (q9 : am_ev (d + 4) 104 127 [.ref 40, .ref k, .ref s, lv, .int F, .int OP, .null, am_ph] [] (am_put h k 3 (iv ((c : Int) - 1))) x) : am_ev (d + 4) 104 94 [.ref 40, .ref k, .ref s, lv, .int F, .int OP, .null, am_ph] [] h x := by
  refine am_ev.step (pc' := 95) rfl rfl ?_
  refine am_ev.step (pc' := 96) rfl rfl ?_
  refine ax_gf (p' := 99) rfl rfl Os v6 ?_
  refine am_ev.step (pc' := 100) rfl rfl ?_
  refine fx_sub (p' := 101) (e := ((c : Int) - 1)) rfl rfl (by omega) ?_
  refine ax_pf (p' := 104) rfl rfl Ok rfl ?_
  refine am_ev.step (pc' := 106) rfl rfl ?_
  refine am_ev.step (pc' := 127) rfl rfl ?_
  exact q9
theorem lo2_m (S : fS h) (Ok : am_isO h k 1 = true) (hk : 130 ≤ k) (Os : am_isO h s 6 = true) (v6 : h.2.2.2 s 6 = iv c) (hc : c ≤ 3) (nsk : s ≠ k) (Ol : am_isO h lf 4 = true) (nlk : lf ≠ k) (v7 : h.2.2.2 lf 7 = iv le) (ble : -1 ≤ le ∧ le ≤ 2) (hle : le = -1) {x : Option Value × am_H} (q9 : am_ev (d + 4) 104 127 [.ref 40, .ref k, .ref s, lv, .int F, .int OP, .ref lf, am_ph] [] (am_put h k 3 (iv ((c : Int) - 1))) x) : am_ev (d + 4) 104 94 [.ref 40, .ref k, .ref s, lv, .int F, .int OP, .ref lf, am_ph] [] h x := by
  refine am_ev.step (pc' := 95) rfl rfl ?_
  refine am_ev.step (pc' := 96) rfl rfl ?_
  refine ax_gf (p' := 99) rfl rfl Os v6 ?_
  refine am_ev.step (pc' := 100) rfl rfl ?_
  refine fx_sub (p' := 101) (e := ((c : Int) - 1)) rfl rfl (by omega) ?_
  refine ax_pf (p' := 104) rfl rfl Ok rfl ?_
  refine am_ev.step (pc' := 106) rfl rfl ?_
  refine am_ev.step (pc' := 109) rfl rfl ?_
  refine am_ev.step (pc' := 111) rfl rfl ?_
  refine ax_gf (p' := 114) rfl rfl (fO Ol) (ax_put_o (Or.inl nlk) v7) ?_
  refine am_ev.step (pc' := 115) rfl rfl ?_
  refine fx_c_eq_T (pT := 127) rfl (by omega) (by omega) rfl (by omega) ?_
  exact q9
theorem lo2_r (S : fS h) (Ok : am_isO h k 1 = true) (hk : 130 ≤ k) (Os : am_isO h s 6 = true) (v6 : h.2.2.2 s 6 = iv c) (hc : c ≤ 3) (nsk : s ≠ k) (Ol : am_isO h lf 4 = true) (nlk : lf ≠ k) (v7 : h.2.2.2 lf 7 = iv le) (ble : -1 ≤ le ∧ le ≤ 2) (hle : le ≠ -1) {x : Option Value × am_H} (q9 : am_ev (d + 4) 104 127 [.ref 40, .ref k, .ref s, lv, .int F, .int OP, .ref lf, am_ph] [] (am_put (am_put h k 3 (iv ((c : Int) - 1))) k 3 (iv (le))) x) : am_ev (d + 4) 104 94 [.ref 40, .ref k, .ref s, lv, .int F, .int OP, .ref lf, am_ph] [] h x := by
  refine am_ev.step (pc' := 95) rfl rfl ?_
  refine am_ev.step (pc' := 96) rfl rfl ?_
  refine ax_gf (p' := 99) rfl rfl Os v6 ?_
  refine am_ev.step (pc' := 100) rfl rfl ?_
  refine fx_sub (p' := 101) (e := ((c : Int) - 1)) rfl rfl (by omega) ?_
  refine ax_pf (p' := 104) rfl rfl Ok rfl ?_
  refine am_ev.step (pc' := 106) rfl rfl ?_
  refine am_ev.step (pc' := 109) rfl rfl ?_
  refine am_ev.step (pc' := 111) rfl rfl ?_
  refine ax_gf (p' := 114) rfl rfl (fO Ol) (ax_put_o (Or.inl nlk) v7) ?_
  refine am_ev.step (pc' := 115) rfl rfl ?_
  refine fx_c_eq_F (pF := 118) rfl (by omega) (by omega) rfl (by omega) ?_
  refine am_ev.step (pc' := 119) rfl rfl ?_
  refine am_ev.step (pc' := 121) rfl rfl ?_
  refine ax_gf (p' := 124) rfl rfl (fO Ol) (ax_put_o (Or.inl nlk) v7) ?_
  refine ax_pf (p' := 127) rfl rfl (fO Ok) rfl ?_
  exact q9
theorem lo3_n0 (S : fS h) (Ok : am_isO h k 1 = true) (Os : am_isO h s 6 = true) (k3 : h.2.2.2 k 3 = iv r) (H53 : am_ev (d + 3) 53 0 (am_ent [.ref s, iv r] 2) [] h (some .null, h)) {x : Option Value × am_H} (q9 : am_ev (d + 4) 104 155 [.ref 40, .ref k, .ref s, lv, .int F, .int OP, .null, .null] [] h x) : am_ev (d + 4) 104 127 [.ref 40, .ref k, .ref s, lv, .int F, .int OP, .null, am_ph] [] h x := by
  refine am_ev.step (pc' := 128) rfl rfl ?_
  refine am_ev.step (pc' := 129) rfl rfl ?_
  refine ax_gf (p' := 132) rfl rfl Ok k3 ?_
  refine ax_call (z := 53) (p' := 135) (as := [_, _]) rfl (Or.inr (Or.inl ⟨_, rfl⟩)) rfl rfl rfl rfl rfl rfl Os rfl H53 rfl ?_
  refine am_ev.step (pc' := 137) (ls' := [.ref 40, .ref k, .ref s, lv, .int F, .int OP, .null, .null]) rfl rfl ?_
  refine am_ev.step (pc' := 139) rfl rfl ?_
  refine am_ev.step (pc' := 155) rfl rfl ?_
  exact q9
theorem lo3_e0 (S : fS h) (Ok : am_isO h k 1 = true) (Os : am_isO h s 6 = true) (k3 : h.2.2.2 k 3 = iv r) (H53 : am_ev (d + 3) 53 0 (am_ent [.ref s, iv r] 2) [] h (some (.ref E), h)) (H54 : am_ev (d + 3) 54 0 (am_ent [.ref 53, .ref E, .ref 43] 8) [] h (none, H)) (SH : fS H) {x : Option Value × am_H} (q9 : am_ev (d + 4) 104 155 [.ref 40, .ref k, .ref s, lv, .int F, .int OP, .null, .ref E] [] H x) : am_ev (d + 4) 104 127 [.ref 40, .ref k, .ref s, lv, .int F, .int OP, .null, am_ph] [] h x := by
  refine am_ev.step (pc' := 128) rfl rfl ?_
  refine am_ev.step (pc' := 129) rfl rfl ?_
  refine ax_gf (p' := 132) rfl rfl Ok k3 ?_
  refine ax_call (z := 53) (p' := 135) (as := [_, _]) rfl (Or.inr (Or.inl ⟨_, rfl⟩)) rfl rfl rfl rfl rfl rfl Os rfl H53 rfl ?_
  refine am_ev.step (pc' := 137) (ls' := [.ref 40, .ref k, .ref s, lv, .int F, .int OP, .null, .ref E]) rfl rfl ?_
  refine am_ev.step (pc' := 139) rfl rfl ?_
  refine am_ev.step (pc' := 142) rfl rfl ?_
  refine am_ev.step (pc' := 143) rfl rfl ?_
  refine ax_gf (p' := 146) rfl rfl (S.ob rfl) (S.rf rfl rfl) ?_
  refine am_ev.step (pc' := 148) rfl rfl ?_
  refine am_ev.step (pc' := 149) rfl rfl ?_
  refine ax_gf (p' := 152) rfl rfl (S.ob rfl) (S.rf rfl rfl) ?_
  refine ax_call (z := 54) (p' := 155) (as := [_, _, _]) rfl (Or.inr (Or.inl ⟨_, rfl⟩)) rfl rfl rfl rfl rfl rfl (S.ob rfl) rfl H54 rfl ?_
  exact q9
theorem lo3_n1 (S : fS h) (Ok : am_isO h k 1 = true) (Os : am_isO h s 6 = true) (k3 : h.2.2.2 k 3 = iv r) (H53 : am_ev (d + 3) 53 0 (am_ent [.ref s, iv r] 2) [] h (some .null, h)) {x : Option Value × am_H} (q9 : am_ev (d + 4) 104 155 [.ref 40, .ref k, .ref s, lv, .int F, .int OP, .ref lf, .null] [] h x) : am_ev (d + 4) 104 127 [.ref 40, .ref k, .ref s, lv, .int F, .int OP, .ref lf, am_ph] [] h x := by
  refine am_ev.step (pc' := 128) rfl rfl ?_
  refine am_ev.step (pc' := 129) rfl rfl ?_
  refine ax_gf (p' := 132) rfl rfl Ok k3 ?_
  refine ax_call (z := 53) (p' := 135) (as := [_, _]) rfl (Or.inr (Or.inl ⟨_, rfl⟩)) rfl rfl rfl rfl rfl rfl Os rfl H53 rfl ?_
  refine am_ev.step (pc' := 137) (ls' := [.ref 40, .ref k, .ref s, lv, .int F, .int OP, .ref lf, .null]) rfl rfl ?_
  refine am_ev.step (pc' := 139) rfl rfl ?_
  refine am_ev.step (pc' := 155) rfl rfl ?_
  exact q9
theorem lo3_e1 (S : fS h) (Ok : am_isO h k 1 = true) (Os : am_isO h s 6 = true) (k3 : h.2.2.2 k 3 = iv r) (H53 : am_ev (d + 3) 53 0 (am_ent [.ref s, iv r] 2) [] h (some (.ref E), h)) (H54 : am_ev (d + 3) 54 0 (am_ent [.ref 53, .ref E, .ref 43] 8) [] h (none, H)) (SH : fS H) {x : Option Value × am_H} (q9 : am_ev (d + 4) 104 155 [.ref 40, .ref k, .ref s, lv, .int F, .int OP, .ref lf, .ref E] [] H x) : am_ev (d + 4) 104 127 [.ref 40, .ref k, .ref s, lv, .int F, .int OP, .ref lf, am_ph] [] h x := by
  refine am_ev.step (pc' := 128) rfl rfl ?_
  refine am_ev.step (pc' := 129) rfl rfl ?_
  refine ax_gf (p' := 132) rfl rfl Ok k3 ?_
  refine ax_call (z := 53) (p' := 135) (as := [_, _]) rfl (Or.inr (Or.inl ⟨_, rfl⟩)) rfl rfl rfl rfl rfl rfl Os rfl H53 rfl ?_
  refine am_ev.step (pc' := 137) (ls' := [.ref 40, .ref k, .ref s, lv, .int F, .int OP, .ref lf, .ref E]) rfl rfl ?_
  refine am_ev.step (pc' := 139) rfl rfl ?_
  refine am_ev.step (pc' := 142) rfl rfl ?_
  refine am_ev.step (pc' := 143) rfl rfl ?_
  refine ax_gf (p' := 146) rfl rfl (S.ob rfl) (S.rf rfl rfl) ?_
  refine am_ev.step (pc' := 148) rfl rfl ?_
  refine am_ev.step (pc' := 149) rfl rfl ?_
  refine ax_gf (p' := 152) rfl rfl (S.ob rfl) (S.rf rfl rfl) ?_
  refine ax_call (z := 54) (p' := 155) (as := [_, _, _]) rfl (Or.inr (Or.inl ⟨_, rfl⟩)) rfl rfl rfl rfl rfl rfl (S.ob rfl) rfl H54 rfl ?_
  exact q9
theorem lo_105l (Ol : am_isO h lf 4 = true) (w4 : h.2.2.2 lf 4 = iv pp) (w5 : h.2.2.2 lf 5 = iv r) (br : 0 ≤ r ∧ r ≤ 2) (hr : r = 0) (hm : pp * (l : Int) = m) : am_ev d 105 0 (am_ent [.ref lf, iv l, iv p] 3) [] h (some (iv m), h) := by
  show am_ev d 105 0 [.ref lf, iv l, iv p] [] h _
  refine am_ev.step (pc' := 1) rfl rfl ?_
  refine ax_gf (p' := 4) rfl rfl Ol w5 ?_
  refine fx_z_ne_F (pF := 7) rfl (by omega) rfl (by omega) ?_
  refine am_ev.step (pc' := 8) rfl rfl ?_
  refine ax_gf (p' := 11) rfl rfl Ol w4 ?_
  refine am_ev.step (pc' := 12) rfl rfl ?_
  refine fx_mul (p' := 13) (e := m) rfl rfl hm ?_
  exact fx_reti rfl rfl rfl
theorem lo_105p (Ol : am_isO h lf 4 = true) (w4 : h.2.2.2 lf 4 = iv pp) (w5 : h.2.2.2 lf 5 = iv r) (br : 0 ≤ r ∧ r ≤ 2) (hr : r = 1) (hm : pp * p = m) : am_ev d 105 0 (am_ent [.ref lf, iv l, iv p] 3) [] h (some (iv m), h) := by
  show am_ev d 105 0 [.ref lf, iv l, iv p] [] h _
  refine am_ev.step (pc' := 1) rfl rfl ?_
  refine ax_gf (p' := 4) rfl rfl Ol w5 ?_
  refine fx_z_ne_T (pT := 14) rfl (by omega) rfl (by omega) ?_
  refine am_ev.step (pc' := 15) rfl rfl ?_
  refine ax_gf (p' := 18) rfl rfl Ol w5 ?_
  refine am_ev.step (pc' := 19) rfl rfl ?_
  refine fx_c_ne_F (pF := 22) rfl (by omega) (by omega) rfl (by omega) ?_
  refine am_ev.step (pc' := 23) rfl rfl ?_
  refine ax_gf (p' := 26) rfl rfl Ol w4 ?_
  refine am_ev.step (pc' := 27) rfl rfl ?_
  refine fx_mul (p' := 28) (e := m) rfl rfl hm ?_
  refine am_ev.step (pc' := 35) rfl rfl ?_
  exact fx_reti rfl rfl rfl
theorem lo_105a (Ol : am_isO h lf 4 = true) (w4 : h.2.2.2 lf 4 = iv pp) (w5 : h.2.2.2 lf 5 = iv r) (br : 0 ≤ r ∧ r ≤ 2) (hr : r = 2) : am_ev d 105 0 (am_ent [.ref lf, iv l, iv p] 3) [] h (some (iv pp), h) := by
  show am_ev d 105 0 [.ref lf, iv l, iv p] [] h _
  refine am_ev.step (pc' := 1) rfl rfl ?_
  refine ax_gf (p' := 4) rfl rfl Ol w5 ?_
  refine fx_z_ne_T (pT := 14) rfl (by omega) rfl (by omega) ?_
  refine am_ev.step (pc' := 15) rfl rfl ?_
  refine ax_gf (p' := 18) rfl rfl Ol w5 ?_
  refine am_ev.step (pc' := 19) rfl rfl ?_
  refine fx_c_ne_T (pT := 31) rfl (by omega) (by omega) rfl (by omega) ?_
  refine am_ev.step (pc' := 32) rfl rfl ?_
  refine ax_gf (p' := 35) rfl rfl Ol w4 ?_
  exact fx_reti rfl rfl rfl
theorem lo4_nn0 (S : fS h) (Ok : am_isO h k 1 = true) (hk : 130 ≤ k) (v10 : h.2.2.2 40 10 = .int bl) (hm : ¬ (bl &&& (OP ^^^ Int32.ofInt (-1))) = 0) : am_ev (d + 4) 104 155 [.ref 40, .ref k, .ref s, lv, .int F, .int OP, .null, .null] [] h (none, (am_put (am_put (am_put (am_put (am_put h k 4 .null) k 5 (iv (-1))) k 2 (iv 0)) k 7 (iv 0)) k 6 (iv 0))) := by
  refine am_ev.step (pc' := 156) rfl rfl ?_
  refine am_ev.step (pc' := 158) rfl rfl ?_
  refine ax_pf (p' := 161) rfl rfl Ok rfl ?_
  refine am_ev.step (pc' := 162) rfl rfl ?_
  refine am_ev.step (pc' := 164) rfl rfl ?_
  refine am_ev.step (pc' := 167) rfl rfl ?_
  refine am_ev.step (pc' := 168) rfl rfl ?_
  refine am_ev.step (pc' := 176) rfl rfl ?_
  refine ax_pf (p' := 179) rfl rfl (fO Ok) rfl ?_
  refine am_ev.step (pc' := 180) rfl rfl ?_
  refine am_ev.step (pc' := 181) rfl rfl ?_
  refine ax_gf (p' := 184) rfl rfl (fO (fO (S.ob rfl))) (ax_put_o (Or.inl (by omega)) (ax_put_o (Or.inl (by omega)) v10)) ?_
  refine am_ev.step (pc' := 186) rfl rfl ?_
  refine am_ev.step (pc' := 187) rfl rfl ?_
  refine am_ev.step (pc' := 188) rfl rfl ?_
  refine am_ev.step (pc' := 189) rfl rfl ?_
  refine ax_z_ne_T (p' := 204) rfl rfl hm ?_
  refine am_ev.step (pc' := 205) rfl rfl ?_
  refine ax_pf (p' := 208) rfl rfl (fO (fO Ok)) rfl ?_
  refine am_ev.step (pc' := 209) rfl rfl ?_
  refine am_ev.step (pc' := 211) rfl rfl ?_
  refine am_ev.step (pc' := 214) rfl rfl ?_
  refine am_ev.step (pc' := 215) rfl rfl ?_
  refine am_ev.step (pc' := 223) rfl rfl ?_
  refine ax_pf (p' := 226) rfl rfl (fO (fO (fO Ok))) rfl ?_
  refine am_ev.step (pc' := 227) rfl rfl ?_
  refine am_ev.step (pc' := 228) rfl rfl ?_
  refine ax_pf (p' := 231) rfl rfl (fO (fO (fO (fO Ok)))) rfl ?_
  refine am_ev.step (pc' := 232) rfl rfl ?_
  refine ax_gf (p' := 235) rfl rfl (fO (fO (fO (fO (fO Ok))))) (ax_put_o (Or.inr (by decide)) (ax_put_o (Or.inr (by decide)) (ax_put_s _ _ _))) ?_
  refine fx_z_eq_T (pT := 267) rfl (by omega) rfl (by omega) ?_
  exact am_ev.retv rfl rfl
theorem lo4_ny0 (S : fS h) (Ok : am_isO h k 1 = true) (hk : 130 ≤ k) (v10 : h.2.2.2 40 10 = .int bl) (hm : (bl &&& (OP ^^^ Int32.ofInt (-1))) = 0) : am_ev (d + 4) 104 155 [.ref 40, .ref k, .ref s, lv, .int F, .int OP, .null, .null] [] h (none, (am_put (am_put (am_put (am_put (am_put h k 4 .null) k 5 (iv (-1))) k 2 (iv 0)) k 7 (iv 0)) k 6 (iv 0))) := by
  refine am_ev.step (pc' := 156) rfl rfl ?_
  refine am_ev.step (pc' := 158) rfl rfl ?_
  refine ax_pf (p' := 161) rfl rfl Ok rfl ?_
  refine am_ev.step (pc' := 162) rfl rfl ?_
  refine am_ev.step (pc' := 164) rfl rfl ?_
  refine am_ev.step (pc' := 167) rfl rfl ?_
  refine am_ev.step (pc' := 168) rfl rfl ?_
  refine am_ev.step (pc' := 176) rfl rfl ?_
  refine ax_pf (p' := 179) rfl rfl (fO Ok) rfl ?_
  refine am_ev.step (pc' := 180) rfl rfl ?_
  refine am_ev.step (pc' := 181) rfl rfl ?_
  refine ax_gf (p' := 184) rfl rfl (fO (fO (S.ob rfl))) (ax_put_o (Or.inl (by omega)) (ax_put_o (Or.inl (by omega)) v10)) ?_
  refine am_ev.step (pc' := 186) rfl rfl ?_
  refine am_ev.step (pc' := 187) rfl rfl ?_
  refine am_ev.step (pc' := 188) rfl rfl ?_
  refine am_ev.step (pc' := 189) rfl rfl ?_
  refine ax_z_ne_N (p' := 192) rfl rfl hm ?_
  refine am_ev.step (pc' := 193) rfl rfl ?_
  refine ax_gf (p' := 196) rfl rfl (fO (fO Ok)) (ax_put_s _ _ _) ?_
  refine am_ev.step (pc' := 197) rfl rfl ?_
  refine fx_c_eq_T (pT := 204) rfl (by omega) (by omega) rfl (by omega) ?_
  refine am_ev.step (pc' := 205) rfl rfl ?_
  refine ax_pf (p' := 208) rfl rfl (fO (fO Ok)) rfl ?_
  refine am_ev.step (pc' := 209) rfl rfl ?_
  refine am_ev.step (pc' := 211) rfl rfl ?_
  refine am_ev.step (pc' := 214) rfl rfl ?_
  refine am_ev.step (pc' := 215) rfl rfl ?_
  refine am_ev.step (pc' := 223) rfl rfl ?_
  refine ax_pf (p' := 226) rfl rfl (fO (fO (fO Ok))) rfl ?_
  refine am_ev.step (pc' := 227) rfl rfl ?_
  refine am_ev.step (pc' := 228) rfl rfl ?_
  refine ax_pf (p' := 231) rfl rfl (fO (fO (fO (fO Ok)))) rfl ?_
  refine am_ev.step (pc' := 232) rfl rfl ?_
  refine ax_gf (p' := 235) rfl rfl (fO (fO (fO (fO (fO Ok))))) (ax_put_o (Or.inr (by decide)) (ax_put_o (Or.inr (by decide)) (ax_put_s _ _ _))) ?_
  refine fx_z_eq_T (pT := 267) rfl (by omega) rfl (by omega) ?_
  exact am_ev.retv rfl rfl
theorem lo4_en0 (S : fS h) (Ok : am_isO h k 1 = true) (hk : 130 ≤ k) (v10 : h.2.2.2 40 10 = .int bl) (hm : ¬ (bl &&& (OP ^^^ Int32.ofInt (-1))) = 0) (OE : am_isO h E 3 = true) (nek : E ≠ k) (x8 : h.2.2.2 E 8 = iv p) (bp : -1 ≤ p ∧ p ≤ 31) : am_ev (d + 4) 104 155 [.ref 40, .ref k, .ref s, lv, .int F, .int OP, .null, .ref E] [] h (none, (am_put (am_put (am_put (am_put (am_put h k 4 (.ref E)) k 5 (iv (p))) k 2 (iv 0)) k 7 (iv 0)) k 6 (iv 0))) := by
  refine am_ev.step (pc' := 156) rfl rfl ?_
  refine am_ev.step (pc' := 158) rfl rfl ?_
  refine ax_pf (p' := 161) rfl rfl Ok rfl ?_
  refine am_ev.step (pc' := 162) rfl rfl ?_
  refine am_ev.step (pc' := 164) rfl rfl ?_
  refine am_ev.step (pc' := 171) rfl rfl ?_
  refine am_ev.step (pc' := 173) rfl rfl ?_
  refine ax_gf (p' := 176) rfl rfl (fO OE) (ax_put_o (Or.inl nek) x8) ?_
  refine ax_pf (p' := 179) rfl rfl (fO Ok) rfl ?_
  refine am_ev.step (pc' := 180) rfl rfl ?_
  refine am_ev.step (pc' := 181) rfl rfl ?_
  refine ax_gf (p' := 184) rfl rfl (fO (fO (S.ob rfl))) (ax_put_o (Or.inl (by omega)) (ax_put_o (Or.inl (by omega)) v10)) ?_
  refine am_ev.step (pc' := 186) rfl rfl ?_
  refine am_ev.step (pc' := 187) rfl rfl ?_
  refine am_ev.step (pc' := 188) rfl rfl ?_
  refine am_ev.step (pc' := 189) rfl rfl ?_
  refine ax_z_ne_T (p' := 204) rfl rfl hm ?_
  refine am_ev.step (pc' := 205) rfl rfl ?_
  refine ax_pf (p' := 208) rfl rfl (fO (fO Ok)) rfl ?_
  refine am_ev.step (pc' := 209) rfl rfl ?_
  refine am_ev.step (pc' := 211) rfl rfl ?_
  refine am_ev.step (pc' := 214) rfl rfl ?_
  refine am_ev.step (pc' := 215) rfl rfl ?_
  refine am_ev.step (pc' := 223) rfl rfl ?_
  refine ax_pf (p' := 226) rfl rfl (fO (fO (fO Ok))) rfl ?_
  refine am_ev.step (pc' := 227) rfl rfl ?_
  refine am_ev.step (pc' := 228) rfl rfl ?_
  refine ax_pf (p' := 231) rfl rfl (fO (fO (fO (fO Ok)))) rfl ?_
  refine am_ev.step (pc' := 232) rfl rfl ?_
  refine ax_gf (p' := 235) rfl rfl (fO (fO (fO (fO (fO Ok))))) (ax_put_o (Or.inr (by decide)) (ax_put_o (Or.inr (by decide)) (ax_put_s _ _ _))) ?_
  refine fx_z_eq_T (pT := 267) rfl (by omega) rfl (by omega) ?_
  exact am_ev.retv rfl rfl
theorem lo4_ez0 (S : fS h) (Ok : am_isO h k 1 = true) (hk : 130 ≤ k) (v10 : h.2.2.2 40 10 = .int bl) (hm : (bl &&& (OP ^^^ Int32.ofInt (-1))) = 0) (OE : am_isO h E 3 = true) (nek : E ≠ k) (x8 : h.2.2.2 E 8 = iv p) (bp : -1 ≤ p ∧ p ≤ 31) (hp : p = -1) : am_ev (d + 4) 104 155 [.ref 40, .ref k, .ref s, lv, .int F, .int OP, .null, .ref E] [] h (none, (am_put (am_put (am_put (am_put (am_put h k 4 (.ref E)) k 5 (iv (p))) k 2 (iv 0)) k 7 (iv 0)) k 6 (iv 0))) := by
  refine am_ev.step (pc' := 156) rfl rfl ?_
  refine am_ev.step (pc' := 158) rfl rfl ?_
  refine ax_pf (p' := 161) rfl rfl Ok rfl ?_
  refine am_ev.step (pc' := 162) rfl rfl ?_
  refine am_ev.step (pc' := 164) rfl rfl ?_
  refine am_ev.step (pc' := 171) rfl rfl ?_
  refine am_ev.step (pc' := 173) rfl rfl ?_
  refine ax_gf (p' := 176) rfl rfl (fO OE) (ax_put_o (Or.inl nek) x8) ?_
  refine ax_pf (p' := 179) rfl rfl (fO Ok) rfl ?_
  refine am_ev.step (pc' := 180) rfl rfl ?_
  refine am_ev.step (pc' := 181) rfl rfl ?_
  refine ax_gf (p' := 184) rfl rfl (fO (fO (S.ob rfl))) (ax_put_o (Or.inl (by omega)) (ax_put_o (Or.inl (by omega)) v10)) ?_
  refine am_ev.step (pc' := 186) rfl rfl ?_
  refine am_ev.step (pc' := 187) rfl rfl ?_
  refine am_ev.step (pc' := 188) rfl rfl ?_
  refine am_ev.step (pc' := 189) rfl rfl ?_
  refine ax_z_ne_N (p' := 192) rfl rfl hm ?_
  refine am_ev.step (pc' := 193) rfl rfl ?_
  refine ax_gf (p' := 196) rfl rfl (fO (fO Ok)) (ax_put_s _ _ _) ?_
  refine am_ev.step (pc' := 197) rfl rfl ?_
  refine fx_c_eq_T (pT := 204) rfl (by omega) (by omega) rfl (by omega) ?_
  refine am_ev.step (pc' := 205) rfl rfl ?_
  refine ax_pf (p' := 208) rfl rfl (fO (fO Ok)) rfl ?_
  refine am_ev.step (pc' := 209) rfl rfl ?_
  refine am_ev.step (pc' := 211) rfl rfl ?_
  refine am_ev.step (pc' := 214) rfl rfl ?_
  refine am_ev.step (pc' := 215) rfl rfl ?_
  refine am_ev.step (pc' := 223) rfl rfl ?_
  refine ax_pf (p' := 226) rfl rfl (fO (fO (fO Ok))) rfl ?_
  refine am_ev.step (pc' := 227) rfl rfl ?_
  refine am_ev.step (pc' := 228) rfl rfl ?_
  refine ax_pf (p' := 231) rfl rfl (fO (fO (fO (fO Ok)))) rfl ?_
  refine am_ev.step (pc' := 232) rfl rfl ?_
  refine ax_gf (p' := 235) rfl rfl (fO (fO (fO (fO (fO Ok))))) (ax_put_o (Or.inr (by decide)) (ax_put_o (Or.inr (by decide)) (ax_put_s _ _ _))) ?_
  refine fx_z_eq_T (pT := 267) rfl (by omega) rfl (by omega) ?_
  exact am_ev.retv rfl rfl
theorem lo4_nn1 (S : fS h) (Ok : am_isO h k 1 = true) (hk : 130 ≤ k) (v10 : h.2.2.2 40 10 = .int bl) (hm : ¬ (bl &&& (OP ^^^ Int32.ofInt (-1))) = 0) (Ol : am_isO h lf 4 = true) (nlk : lf ≠ k) (w6 : h.2.2.2 lf 6 = .int ap) : am_ev (d + 4) 104 155 [.ref 40, .ref k, .ref s, lv, .int F, .int OP, .ref lf, .null] [] h (none, (am_put (am_put (am_put (am_put (am_put h k 4 .null) k 5 (iv (-1))) k 2 (iv 0)) k 7 (.int ap)) k 6 (iv 0))) := by
  refine am_ev.step (pc' := 156) rfl rfl ?_
  refine am_ev.step (pc' := 158) rfl rfl ?_
  refine ax_pf (p' := 161) rfl rfl Ok rfl ?_
  refine am_ev.step (pc' := 162) rfl rfl ?_
  refine am_ev.step (pc' := 164) rfl rfl ?_
  refine am_ev.step (pc' := 167) rfl rfl ?_
  refine am_ev.step (pc' := 168) rfl rfl ?_
  refine am_ev.step (pc' := 176) rfl rfl ?_
  refine ax_pf (p' := 179) rfl rfl (fO Ok) rfl ?_
  refine am_ev.step (pc' := 180) rfl rfl ?_
  refine am_ev.step (pc' := 181) rfl rfl ?_
  refine ax_gf (p' := 184) rfl rfl (fO (fO (S.ob rfl))) (ax_put_o (Or.inl (by omega)) (ax_put_o (Or.inl (by omega)) v10)) ?_
  refine am_ev.step (pc' := 186) rfl rfl ?_
  refine am_ev.step (pc' := 187) rfl rfl ?_
  refine am_ev.step (pc' := 188) rfl rfl ?_
  refine am_ev.step (pc' := 189) rfl rfl ?_
  refine ax_z_ne_T (p' := 204) rfl rfl hm ?_
  refine am_ev.step (pc' := 205) rfl rfl ?_
  refine ax_pf (p' := 208) rfl rfl (fO (fO Ok)) rfl ?_
  refine am_ev.step (pc' := 209) rfl rfl ?_
  refine am_ev.step (pc' := 211) rfl rfl ?_
  refine am_ev.step (pc' := 218) rfl rfl ?_
  refine am_ev.step (pc' := 220) rfl rfl ?_
  refine ax_gf (p' := 223) rfl rfl (fO (fO (fO Ol))) (ax_put_o (Or.inl nlk) (ax_put_o (Or.inl nlk) (ax_put_o (Or.inl nlk) w6))) ?_
  refine ax_pf (p' := 226) rfl rfl (fO (fO (fO Ok))) rfl ?_
  refine am_ev.step (pc' := 227) rfl rfl ?_
  refine am_ev.step (pc' := 228) rfl rfl ?_
  refine ax_pf (p' := 231) rfl rfl (fO (fO (fO (fO Ok)))) rfl ?_
  refine am_ev.step (pc' := 232) rfl rfl ?_
  refine ax_gf (p' := 235) rfl rfl (fO (fO (fO (fO (fO Ok))))) (ax_put_o (Or.inr (by decide)) (ax_put_o (Or.inr (by decide)) (ax_put_s _ _ _))) ?_
  refine fx_z_eq_T (pT := 267) rfl (by omega) rfl (by omega) ?_
  exact am_ev.retv rfl rfl
theorem lo4_ny1 (S : fS h) (Ok : am_isO h k 1 = true) (hk : 130 ≤ k) (v10 : h.2.2.2 40 10 = .int bl) (hm : (bl &&& (OP ^^^ Int32.ofInt (-1))) = 0) (Ol : am_isO h lf 4 = true) (nlk : lf ≠ k) (w6 : h.2.2.2 lf 6 = .int ap) : am_ev (d + 4) 104 155 [.ref 40, .ref k, .ref s, lv, .int F, .int OP, .ref lf, .null] [] h (none, (am_put (am_put (am_put (am_put (am_put h k 4 .null) k 5 (iv (-1))) k 2 (iv 0)) k 7 (.int ap)) k 6 (iv 0))) := by
  refine am_ev.step (pc' := 156) rfl rfl ?_
  refine am_ev.step (pc' := 158) rfl rfl ?_
  refine ax_pf (p' := 161) rfl rfl Ok rfl ?_
  refine am_ev.step (pc' := 162) rfl rfl ?_
  refine am_ev.step (pc' := 164) rfl rfl ?_
  refine am_ev.step (pc' := 167) rfl rfl ?_
  refine am_ev.step (pc' := 168) rfl rfl ?_
  refine am_ev.step (pc' := 176) rfl rfl ?_
  refine ax_pf (p' := 179) rfl rfl (fO Ok) rfl ?_
  refine am_ev.step (pc' := 180) rfl rfl ?_
  refine am_ev.step (pc' := 181) rfl rfl ?_
  refine ax_gf (p' := 184) rfl rfl (fO (fO (S.ob rfl))) (ax_put_o (Or.inl (by omega)) (ax_put_o (Or.inl (by omega)) v10)) ?_
  refine am_ev.step (pc' := 186) rfl rfl ?_
  refine am_ev.step (pc' := 187) rfl rfl ?_
  refine am_ev.step (pc' := 188) rfl rfl ?_
  refine am_ev.step (pc' := 189) rfl rfl ?_
  refine ax_z_ne_N (p' := 192) rfl rfl hm ?_
  refine am_ev.step (pc' := 193) rfl rfl ?_
  refine ax_gf (p' := 196) rfl rfl (fO (fO Ok)) (ax_put_s _ _ _) ?_
  refine am_ev.step (pc' := 197) rfl rfl ?_
  refine fx_c_eq_T (pT := 204) rfl (by omega) (by omega) rfl (by omega) ?_
  refine am_ev.step (pc' := 205) rfl rfl ?_
  refine ax_pf (p' := 208) rfl rfl (fO (fO Ok)) rfl ?_
  refine am_ev.step (pc' := 209) rfl rfl ?_
  refine am_ev.step (pc' := 211) rfl rfl ?_
  refine am_ev.step (pc' := 218) rfl rfl ?_
  refine am_ev.step (pc' := 220) rfl rfl ?_
  refine ax_gf (p' := 223) rfl rfl (fO (fO (fO Ol))) (ax_put_o (Or.inl nlk) (ax_put_o (Or.inl nlk) (ax_put_o (Or.inl nlk) w6))) ?_
  refine ax_pf (p' := 226) rfl rfl (fO (fO (fO Ok))) rfl ?_
  refine am_ev.step (pc' := 227) rfl rfl ?_
  refine am_ev.step (pc' := 228) rfl rfl ?_
  refine ax_pf (p' := 231) rfl rfl (fO (fO (fO (fO Ok)))) rfl ?_
  refine am_ev.step (pc' := 232) rfl rfl ?_
  refine ax_gf (p' := 235) rfl rfl (fO (fO (fO (fO (fO Ok))))) (ax_put_o (Or.inr (by decide)) (ax_put_o (Or.inr (by decide)) (ax_put_s _ _ _))) ?_
  refine fx_z_eq_T (pT := 267) rfl (by omega) rfl (by omega) ?_
  exact am_ev.retv rfl rfl
theorem lo4_en1 (S : fS h) (Ok : am_isO h k 1 = true) (hk : 130 ≤ k) (v10 : h.2.2.2 40 10 = .int bl) (hm : ¬ (bl &&& (OP ^^^ Int32.ofInt (-1))) = 0) (Ol : am_isO h lf 4 = true) (nlk : lf ≠ k) (w6 : h.2.2.2 lf 6 = .int ap) (OE : am_isO h E 3 = true) (nek : E ≠ k) (x8 : h.2.2.2 E 8 = iv p) (bp : -1 ≤ p ∧ p ≤ 31) : am_ev (d + 4) 104 155 [.ref 40, .ref k, .ref s, lv, .int F, .int OP, .ref lf, .ref E] [] h (none, (am_put (am_put (am_put (am_put (am_put h k 4 (.ref E)) k 5 (iv (p))) k 2 (iv 0)) k 7 (.int ap)) k 6 (iv 0))) := by
  refine am_ev.step (pc' := 156) rfl rfl ?_
  refine am_ev.step (pc' := 158) rfl rfl ?_
  refine ax_pf (p' := 161) rfl rfl Ok rfl ?_
  refine am_ev.step (pc' := 162) rfl rfl ?_
  refine am_ev.step (pc' := 164) rfl rfl ?_
  refine am_ev.step (pc' := 171) rfl rfl ?_
  refine am_ev.step (pc' := 173) rfl rfl ?_
  refine ax_gf (p' := 176) rfl rfl (fO OE) (ax_put_o (Or.inl nek) x8) ?_
  refine ax_pf (p' := 179) rfl rfl (fO Ok) rfl ?_
  refine am_ev.step (pc' := 180) rfl rfl ?_
  refine am_ev.step (pc' := 181) rfl rfl ?_
  refine ax_gf (p' := 184) rfl rfl (fO (fO (S.ob rfl))) (ax_put_o (Or.inl (by omega)) (ax_put_o (Or.inl (by omega)) v10)) ?_
  refine am_ev.step (pc' := 186) rfl rfl ?_
  refine am_ev.step (pc' := 187) rfl rfl ?_
  refine am_ev.step (pc' := 188) rfl rfl ?_
  refine am_ev.step (pc' := 189) rfl rfl ?_
  refine ax_z_ne_T (p' := 204) rfl rfl hm ?_
  refine am_ev.step (pc' := 205) rfl rfl ?_
  refine ax_pf (p' := 208) rfl rfl (fO (fO Ok)) rfl ?_
  refine am_ev.step (pc' := 209) rfl rfl ?_
  refine am_ev.step (pc' := 211) rfl rfl ?_
  refine am_ev.step (pc' := 218) rfl rfl ?_
  refine am_ev.step (pc' := 220) rfl rfl ?_
  refine ax_gf (p' := 223) rfl rfl (fO (fO (fO Ol))) (ax_put_o (Or.inl nlk) (ax_put_o (Or.inl nlk) (ax_put_o (Or.inl nlk) w6))) ?_
  refine ax_pf (p' := 226) rfl rfl (fO (fO (fO Ok))) rfl ?_
  refine am_ev.step (pc' := 227) rfl rfl ?_
  refine am_ev.step (pc' := 228) rfl rfl ?_
  refine ax_pf (p' := 231) rfl rfl (fO (fO (fO (fO Ok)))) rfl ?_
  refine am_ev.step (pc' := 232) rfl rfl ?_
  refine ax_gf (p' := 235) rfl rfl (fO (fO (fO (fO (fO Ok))))) (ax_put_o (Or.inr (by decide)) (ax_put_o (Or.inr (by decide)) (ax_put_s _ _ _))) ?_
  refine fx_z_eq_T (pT := 267) rfl (by omega) rfl (by omega) ?_
  exact am_ev.retv rfl rfl
theorem lo4_ez1 (S : fS h) (Ok : am_isO h k 1 = true) (hk : 130 ≤ k) (v10 : h.2.2.2 40 10 = .int bl) (hm : (bl &&& (OP ^^^ Int32.ofInt (-1))) = 0) (Ol : am_isO h lf 4 = true) (nlk : lf ≠ k) (w6 : h.2.2.2 lf 6 = .int ap) (OE : am_isO h E 3 = true) (nek : E ≠ k) (x8 : h.2.2.2 E 8 = iv p) (bp : -1 ≤ p ∧ p ≤ 31) (hp : p = -1) : am_ev (d + 4) 104 155 [.ref 40, .ref k, .ref s, lv, .int F, .int OP, .ref lf, .ref E] [] h (none, (am_put (am_put (am_put (am_put (am_put h k 4 (.ref E)) k 5 (iv (p))) k 2 (iv 0)) k 7 (.int ap)) k 6 (iv 0))) := by
  refine am_ev.step (pc' := 156) rfl rfl ?_
  refine am_ev.step (pc' := 158) rfl rfl ?_
  refine ax_pf (p' := 161) rfl rfl Ok rfl ?_
  refine am_ev.step (pc' := 162) rfl rfl ?_
  refine am_ev.step (pc' := 164) rfl rfl ?_
  refine am_ev.step (pc' := 171) rfl rfl ?_
  refine am_ev.step (pc' := 173) rfl rfl ?_
  refine ax_gf (p' := 176) rfl rfl (fO OE) (ax_put_o (Or.inl nek) x8) ?_
  refine ax_pf (p' := 179) rfl rfl (fO Ok) rfl ?_
  refine am_ev.step (pc' := 180) rfl rfl ?_
  refine am_ev.step (pc' := 181) rfl rfl ?_
  refine ax_gf (p' := 184) rfl rfl (fO (fO (S.ob rfl))) (ax_put_o (Or.inl (by omega)) (ax_put_o (Or.inl (by omega)) v10)) ?_
  refine am_ev.step (pc' := 186) rfl rfl ?_
  refine am_ev.step (pc' := 187) rfl rfl ?_
  refine am_ev.step (pc' := 188) rfl rfl ?_
  refine am_ev.step (pc' := 189) rfl rfl ?_
  refine ax_z_ne_N (p' := 192) rfl rfl hm ?_
  refine am_ev.step (pc' := 193) rfl rfl ?_
  refine ax_gf (p' := 196) rfl rfl (fO (fO Ok)) (ax_put_s _ _ _) ?_
  refine am_ev.step (pc' := 197) rfl rfl ?_
  refine fx_c_eq_T (pT := 204) rfl (by omega) (by omega) rfl (by omega) ?_
  refine am_ev.step (pc' := 205) rfl rfl ?_
  refine ax_pf (p' := 208) rfl rfl (fO (fO Ok)) rfl ?_
  refine am_ev.step (pc' := 209) rfl rfl ?_
  refine am_ev.step (pc' := 211) rfl rfl ?_
  refine am_ev.step (pc' := 218) rfl rfl ?_
  refine am_ev.step (pc' := 220) rfl rfl ?_
  refine ax_gf (p' := 223) rfl rfl (fO (fO (fO Ol))) (ax_put_o (Or.inl nlk) (ax_put_o (Or.inl nlk) (ax_put_o (Or.inl nlk) w6))) ?_
  refine ax_pf (p' := 226) rfl rfl (fO (fO (fO Ok))) rfl ?_
  refine am_ev.step (pc' := 227) rfl rfl ?_
  refine am_ev.step (pc' := 228) rfl rfl ?_
  refine ax_pf (p' := 231) rfl rfl (fO (fO (fO (fO Ok)))) rfl ?_
  refine am_ev.step (pc' := 232) rfl rfl ?_
  refine ax_gf (p' := 235) rfl rfl (fO (fO (fO (fO (fO Ok))))) (ax_put_o (Or.inr (by decide)) (ax_put_o (Or.inr (by decide)) (ax_put_s _ _ _))) ?_
  refine fx_z_eq_T (pT := 267) rfl (by omega) rfl (by omega) ?_
  exact am_ev.retv rfl rfl
theorem lo4_ey0 (S : fS h) (Ok : am_isO h k 1 = true) (hk : 130 ≤ k) (v10 : h.2.2.2 40 10 = .int bl) (hm : (bl &&& (OP ^^^ Int32.ofInt (-1))) = 0) (OE : am_isO h E 3 = true) (nek : E ≠ k) (x8 : h.2.2.2 E 8 = iv p) (bp : -1 ≤ p ∧ p ≤ 31) (hp : p ≠ -1) : am_ev (d + 4) 104 155 [.ref 40, .ref k, .ref s, lv, .int F, .int OP, .null, .ref E] [] h (none, (am_put (am_put (am_put (am_put (am_put h k 4 (.ref E)) k 5 (iv (p))) k 2 (iv 1)) k 7 (iv 0)) k 6 (iv 0))) := by
  refine am_ev.step (pc' := 156) rfl rfl ?_
  refine am_ev.step (pc' := 158) rfl rfl ?_
  refine ax_pf (p' := 161) rfl rfl Ok rfl ?_
  refine am_ev.step (pc' := 162) rfl rfl ?_
  refine am_ev.step (pc' := 164) rfl rfl ?_
  refine am_ev.step (pc' := 171) rfl rfl ?_
  refine am_ev.step (pc' := 173) rfl rfl ?_
  refine ax_gf (p' := 176) rfl rfl (fO OE) (ax_put_o (Or.inl nek) x8) ?_
  refine ax_pf (p' := 179) rfl rfl (fO Ok) rfl ?_
  refine am_ev.step (pc' := 180) rfl rfl ?_
  refine am_ev.step (pc' := 181) rfl rfl ?_
  refine ax_gf (p' := 184) rfl rfl (fO (fO (S.ob rfl))) (ax_put_o (Or.inl (by omega)) (ax_put_o (Or.inl (by omega)) v10)) ?_
  refine am_ev.step (pc' := 186) rfl rfl ?_
  refine am_ev.step (pc' := 187) rfl rfl ?_
  refine am_ev.step (pc' := 188) rfl rfl ?_
  refine am_ev.step (pc' := 189) rfl rfl ?_
  refine ax_z_ne_N (p' := 192) rfl rfl hm ?_
  refine am_ev.step (pc' := 193) rfl rfl ?_
  refine ax_gf (p' := 196) rfl rfl (fO (fO Ok)) (ax_put_s _ _ _) ?_
  refine am_ev.step (pc' := 197) rfl rfl ?_
  refine fx_c_eq_F (pF := 200) rfl (by omega) (by omega) rfl (by omega) ?_
  refine am_ev.step (pc' := 201) rfl rfl ?_
  refine am_ev.step (pc' := 205) rfl rfl ?_
  refine ax_pf (p' := 208) rfl rfl (fO (fO Ok)) rfl ?_
  refine am_ev.step (pc' := 209) rfl rfl ?_
  refine am_ev.step (pc' := 211) rfl rfl ?_
  refine am_ev.step (pc' := 214) rfl rfl ?_
  refine am_ev.step (pc' := 215) rfl rfl ?_
  refine am_ev.step (pc' := 223) rfl rfl ?_
  refine ax_pf (p' := 226) rfl rfl (fO (fO (fO Ok))) rfl ?_
  refine am_ev.step (pc' := 227) rfl rfl ?_
  refine am_ev.step (pc' := 228) rfl rfl ?_
  refine ax_pf (p' := 231) rfl rfl (fO (fO (fO (fO Ok)))) rfl ?_
  refine am_ev.step (pc' := 232) rfl rfl ?_
  refine ax_gf (p' := 235) rfl rfl (fO (fO (fO (fO (fO Ok))))) (ax_put_o (Or.inr (by decide)) (ax_put_o (Or.inr (by decide)) (ax_put_s _ _ _))) ?_
  refine fx_z_eq_F (pF := 238) rfl (by omega) rfl (by omega) ?_
  refine am_ev.step (pc' := 240) rfl rfl ?_
  refine am_ev.step (pc' := 267) rfl rfl ?_
  exact am_ev.retv rfl rfl
theorem lo4_ey1 (S : fS h) (Ok : am_isO h k 1 = true) (hk : 130 ≤ k) (v10 : h.2.2.2 40 10 = .int bl) (hm : (bl &&& (OP ^^^ Int32.ofInt (-1))) = 0) (Ol : am_isO h lf 4 = true) (nlk : lf ≠ k) (w6 : h.2.2.2 lf 6 = .int ap) (OE : am_isO h E 3 = true) (nek : E ≠ k) (x8 : h.2.2.2 E 8 = iv p) (bp : -1 ≤ p ∧ p ≤ 31) (hp : p ≠ -1) (x3 : h.2.2.2 E 3 = iv l) (H105 : am_ev (d + 3) 105 0 (am_ent [.ref lf, iv l, iv p] 3) [] (am_put (am_put (am_put (am_put (am_put h k 4 (.ref E)) k 5 (iv (p))) k 2 (iv 1)) k 7 (.int ap)) k 6 (iv 0)) (some (iv m), (am_put (am_put (am_put (am_put (am_put h k 4 (.ref E)) k 5 (iv (p))) k 2 (iv 1)) k 7 (.int ap)) k 6 (iv 0)))) : am_ev (d + 4) 104 155 [.ref 40, .ref k, .ref s, lv, .int F, .int OP, .ref lf, .ref E] [] h (none, (am_put (am_put (am_put (am_put (am_put (am_put h k 4 (.ref E)) k 5 (iv (p))) k 2 (iv 1)) k 7 (.int ap)) k 6 (iv 0)) k 6 (iv (m)))) := by
  refine am_ev.step (pc' := 156) rfl rfl ?_
  refine am_ev.step (pc' := 158) rfl rfl ?_
  refine ax_pf (p' := 161) rfl rfl Ok rfl ?_
  refine am_ev.step (pc' := 162) rfl rfl ?_
  refine am_ev.step (pc' := 164) rfl rfl ?_
  refine am_ev.step (pc' := 171) rfl rfl ?_
  refine am_ev.step (pc' := 173) rfl rfl ?_
  refine ax_gf (p' := 176) rfl rfl (fO OE) (ax_put_o (Or.inl nek) x8) ?_
  refine ax_pf (p' := 179) rfl rfl (fO Ok) rfl ?_
  refine am_ev.step (pc' := 180) rfl rfl ?_
  refine am_ev.step (pc' := 181) rfl rfl ?_
  refine ax_gf (p' := 184) rfl rfl (fO (fO (S.ob rfl))) (ax_put_o (Or.inl (by omega)) (ax_put_o (Or.inl (by omega)) v10)) ?_
  refine am_ev.step (pc' := 186) rfl rfl ?_
  refine am_ev.step (pc' := 187) rfl rfl ?_
  refine am_ev.step (pc' := 188) rfl rfl ?_
  refine am_ev.step (pc' := 189) rfl rfl ?_
  refine ax_z_ne_N (p' := 192) rfl rfl hm ?_
  refine am_ev.step (pc' := 193) rfl rfl ?_
  refine ax_gf (p' := 196) rfl rfl (fO (fO Ok)) (ax_put_s _ _ _) ?_
  refine am_ev.step (pc' := 197) rfl rfl ?_
  refine fx_c_eq_F (pF := 200) rfl (by omega) (by omega) rfl (by omega) ?_
  refine am_ev.step (pc' := 201) rfl rfl ?_
  refine am_ev.step (pc' := 205) rfl rfl ?_
  refine ax_pf (p' := 208) rfl rfl (fO (fO Ok)) rfl ?_
  refine am_ev.step (pc' := 209) rfl rfl ?_
  refine am_ev.step (pc' := 211) rfl rfl ?_
  refine am_ev.step (pc' := 218) rfl rfl ?_
  refine am_ev.step (pc' := 220) rfl rfl ?_
  refine ax_gf (p' := 223) rfl rfl (fO (fO (fO Ol))) (ax_put_o (Or.inl nlk) (ax_put_o (Or.inl nlk) (ax_put_o (Or.inl nlk) w6))) ?_
  refine ax_pf (p' := 226) rfl rfl (fO (fO (fO Ok))) rfl ?_
  refine am_ev.step (pc' := 227) rfl rfl ?_
  refine am_ev.step (pc' := 228) rfl rfl ?_
  refine ax_pf (p' := 231) rfl rfl (fO (fO (fO (fO Ok)))) rfl ?_
  refine am_ev.step (pc' := 232) rfl rfl ?_
  refine ax_gf (p' := 235) rfl rfl (fO (fO (fO (fO (fO Ok))))) (ax_put_o (Or.inr (by decide)) (ax_put_o (Or.inr (by decide)) (ax_put_s _ _ _))) ?_
  refine fx_z_eq_F (pF := 238) rfl (by omega) rfl (by omega) ?_
  refine am_ev.step (pc' := 240) rfl rfl ?_
  refine am_ev.step (pc' := 243) rfl rfl ?_
  refine am_ev.step (pc' := 245) rfl rfl ?_
  refine am_ev.step (pc' := 248) rfl rfl ?_
  refine am_ev.step (pc' := 249) rfl rfl ?_
  refine am_ev.step (pc' := 251) rfl rfl ?_
  refine am_ev.step (pc' := 253) rfl rfl ?_
  refine ax_gf (p' := 256) rfl rfl (fO (fO (fO (fO (fO OE))))) (ax_put_o (Or.inl nek) (ax_put_o (Or.inl nek) (ax_put_o (Or.inl nek) (ax_put_o (Or.inl nek) (ax_put_o (Or.inl nek) x3))))) ?_
  refine am_ev.step (pc' := 258) rfl rfl ?_
  refine ax_gf (p' := 261) rfl rfl (fO (fO (fO (fO (fO OE))))) (ax_put_o (Or.inl nek) (ax_put_o (Or.inl nek) (ax_put_o (Or.inl nek) (ax_put_o (Or.inl nek) (ax_put_o (Or.inl nek) x8))))) ?_
  refine ax_call (z := 105) (p' := 264) (as := [_, _, _]) rfl (Or.inr (Or.inl ⟨_, rfl⟩)) rfl rfl rfl rfl rfl rfl (fO (fO (fO (fO (fO Ol))))) rfl H105 rfl ?_
  refine ax_pf (p' := 267) rfl rfl (fO (fO (fO (fO (fO Ok))))) rfl ?_
  exact am_ev.retv rfl rfl
end LKP
