/-! BITS COUNTED -/
/-- how many of the first n hold -/
def cS (f : Nat → Bool) : Nat → Int
  | 0 => 0
  | n + 1 => cS f n + b2 (f n)
def s8 (a : Nat) : Nat := a % 2 + a / 2 % 2 + a / 4 % 2 + a / 8 % 2 + a / 16 % 2 + a / 32 % 2 + a / 64 % 2 + a / 128 % 2
def pf1 (a : Nat) : Nat := a - (a / 2 &&& 85)
def pf2 (b : Nat) : Nat := (b &&& 51) + (b / 4 &&& 51)
theorem b2_01 (t : Bool) : 0 ≤ b2 t ∧ b2 t ≤ 1 := by cases t <;> decide
theorem cS_b {f : Nat → Bool} : ∀ n : Nat, 0 ≤ cS f n ∧ cS f n ≤ n
  | 0 => ⟨Int.le_refl _, Int.le_refl _⟩
  | n + 1 => by
    have h := cS_b (f := f) n
    have k := b2_01 (f n)
    show 0 ≤ cS f n + b2 (f n) ∧ cS f n + b2 (f n) ≤ ((n + 1 : Nat) : Int)
    omega
theorem cS_z {f : Nat → Bool} {l : Nat} (h : ∀ i, l ≤ i → i < 32 → f i = false) : ∀ m, l + m ≤ 32 → cS f (l + m) = cS f l
  | 0, _ => rfl
  | m + 1, q => by
    show cS f (l + m) + b2 (f (l + m)) = _
    rw [cS_z h m (by omega), h (l + m) (by omega) (by omega)]
    show cS f l + 0 = _
    omega
theorem pc_and (a m y n : Nat) (ha : a < 256) (hm : m < 256) : (a + 256 * y) &&& (m + 256 * n) = (a &&& m) + 256 * (y &&& n) := by
  have d := Nat.and_div_two_pow (a := a + 256 * y) (b := m + 256 * n) (n := 8)
  have r := Nat.and_mod_two_pow (a := a + 256 * y) (b := m + 256 * n) (n := 8)
  rw [show (2 : Nat) ^ 8 = 256 by decide] at d r
  rw [show (a + 256 * y) / 256 = y by omega, show (m + 256 * n) / 256 = n by omega] at d
  rw [show (a + 256 * y) % 256 = a by omega, show (m + 256 * n) % 256 = m by omega] at r
  omega
theorem pc_4 (a b c e m : Nat) (ha : a < 256) (hb : b < 256) (hc : c < 256) (he : e < 256) (hm : m < 256) : (a + 256 * (b + 256 * (c + 256 * e))) &&& (m + 256 * (m + 256 * (m + 256 * m))) = (a &&& m) + 256 * ((b &&& m) + 256 * ((c &&& m) + 256 * (e &&& m))) := by
  rw [pc_and _ _ _ _ ha hm, pc_and _ _ _ _ hb hm, pc_and _ _ _ _ hc hm]
theorem pd_1 : ∀ a, a < 256 → ∀ b, b < 2 → (a / 2 + 128 * b) &&& 85 = a / 2 &&& 85 := by decide +kernel
theorem pd_2 : ∀ a, a < 256 → ∀ b, b < 4 → (a / 4 + 64 * b) &&& 51 = a / 4 &&& 51 := by decide +kernel
theorem pd_4 : ∀ a, a < 70 → ∀ b, b < 5 → (a + a / 16 + 16 * b) &&& 15 = (a + a / 16) % 16 := by decide +kernel
theorem pe_1 : ∀ a, a < 256 → a / 2 &&& 85 ≤ a := by decide +kernel
theorem pe_2 : ∀ a, a < 256 → pf2 (pf1 a) < 70 ∧ pf2 (pf1 a) % 16 < 5 ∧ pf2 (pf1 a) / 16 < 5 ∧ (pf2 (pf1 a) + pf2 (pf1 a) / 16) % 16 = s8 a ∧ s8 a ≤ 8 := by decide +kernel
theorem pe_3 : ∀ s : Nat, s < 33 → (Int32.ofInt (s : Int)).toBitVec.toNat = s := by decide +kernel
section PCN
variable {u v1 v2 v3 v4 v5 : Int32} {a0 a1 a2 a3 : Nat}
theorem pN_1 (v : Int32) : ((v.toUInt32 >>> ((Int32.ofInt 1).toUInt32 &&& Int32.toUInt32 31)).toInt32).toBitVec.toNat = v.toBitVec.toNat / 2 := by
  show (v.toUInt32 >>> ((Int32.ofInt 1).toUInt32 &&& Int32.toUInt32 31)).toNat = v.toUInt32.toNat / 2
  rw [UInt32.toNat_shiftRight, show ((Int32.ofInt 1).toUInt32 &&& Int32.toUInt32 31).toNat % 32 = 1 by decide, Nat.shiftRight_eq_div_pow]
theorem pN_2 (v : Int32) : ((v.toUInt32 >>> ((Int32.ofInt 2).toUInt32 &&& Int32.toUInt32 31)).toInt32).toBitVec.toNat = v.toBitVec.toNat / 4 := by
  show (v.toUInt32 >>> ((Int32.ofInt 2).toUInt32 &&& Int32.toUInt32 31)).toNat = v.toUInt32.toNat / 4
  rw [UInt32.toNat_shiftRight, show ((Int32.ofInt 2).toUInt32 &&& Int32.toUInt32 31).toNat % 32 = 2 by decide, Nat.shiftRight_eq_div_pow]
theorem pN_4 (v : Int32) : ((v.toUInt32 >>> ((Int32.ofInt 4).toUInt32 &&& Int32.toUInt32 31)).toInt32).toBitVec.toNat = v.toBitVec.toNat / 16 := by
  show (v.toUInt32 >>> ((Int32.ofInt 4).toUInt32 &&& Int32.toUInt32 31)).toNat = v.toUInt32.toNat / 16
  rw [UInt32.toNat_shiftRight, show ((Int32.ofInt 4).toUInt32 &&& Int32.toUInt32 31).toNat % 32 = 4 by decide, Nat.shiftRight_eq_div_pow]
theorem pN_8 (v : Int32) : ((v.toUInt32 >>> ((Int32.ofInt 8).toUInt32 &&& Int32.toUInt32 31)).toInt32).toBitVec.toNat = v.toBitVec.toNat / 256 := by
  show (v.toUInt32 >>> ((Int32.ofInt 8).toUInt32 &&& Int32.toUInt32 31)).toNat = v.toUInt32.toNat / 256
  rw [UInt32.toNat_shiftRight, show ((Int32.ofInt 8).toUInt32 &&& Int32.toUInt32 31).toNat % 32 = 8 by decide, Nat.shiftRight_eq_div_pow]
theorem pN_16 (v : Int32) : ((v.toUInt32 >>> ((Int32.ofInt 16).toUInt32 &&& Int32.toUInt32 31)).toInt32).toBitVec.toNat = v.toBitVec.toNat / 65536 := by
  show (v.toUInt32 >>> ((Int32.ofInt 16).toUInt32 &&& Int32.toUInt32 31)).toNat = v.toUInt32.toNat / 65536
  rw [UInt32.toNat_shiftRight, show ((Int32.ofInt 16).toUInt32 &&& Int32.toUInt32 31).toNat % 32 = 16 by decide, Nat.shiftRight_eq_div_pow]
theorem pc_1 (hu : u.toBitVec.toNat = (a0 + 256 * (a1 + 256 * (a2 + 256 * a3)))) (b0 : a0 < 256) (b1 : a1 < 256) (b2 : a2 < 256) (b3 : a3 < 256) (e : v1 = (u - ((u.toUInt32 >>> ((Int32.ofInt 1).toUInt32 &&& Int32.toUInt32 31)).toInt32 &&& (Int32.ofInt 1431655765)))) : v1.toBitVec.toNat = (pf1 a0 + 256 * (pf1 a1 + 256 * (pf1 a2 + 256 * pf1 a3))) := by
  have d : u.toBitVec.toNat / 2 = (a0 / 2 + 128 * (a1 % 2)) + 256 * ((a1 / 2 + 128 * (a2 % 2)) + 256 * ((a2 / 2 + 128 * (a3 % 2)) + 256 * (a3 / 2 + 128 * 0))) := by
    rw [hu]
    omega
  rw [e, Int32.toBitVec_sub, BitVec.toNat_sub, Int32.toBitVec_and, BitVec.toNat_and, pN_1, d, show (Int32.ofInt 1431655765).toBitVec.toNat = (85 + 256 * (85 + 256 * (85 + 256 * 85))) by decide, pc_4 _ _ _ _ _ (by omega) (by omega) (by omega) (by omega) (by decide), pd_1 _ b0 _ (by omega), pd_1 _ b1 _ (by omega), pd_1 _ b2 _ (by omega), pd_1 _ b3 _ (by omega), hu]
  unfold pf1
  have g0 := pe_1 _ b0
  have g1 := pe_1 _ b1
  have g2 := pe_1 _ b2
  have g3 := pe_1 _ b3
  generalize a0 / 2 &&& 85 = z0 at *
  generalize a1 / 2 &&& 85 = z1 at *
  generalize a2 / 2 &&& 85 = z2 at *
  generalize a3 / 2 &&& 85 = z3 at *
  omega
theorem pc_2 (hu : v1.toBitVec.toNat = (a0 + 256 * (a1 + 256 * (a2 + 256 * a3)))) (b0 : a0 < 256) (b1 : a1 < 256) (b2 : a2 < 256) (b3 : a3 < 256) (e : v2 = ((v1 &&& (Int32.ofInt 858993459)) + ((v1.toUInt32 >>> ((Int32.ofInt 2).toUInt32 &&& Int32.toUInt32 31)).toInt32 &&& (Int32.ofInt 858993459)))) : v2.toBitVec.toNat = (pf2 a0 + 256 * (pf2 a1 + 256 * (pf2 a2 + 256 * pf2 a3))) := by
  have d : v1.toBitVec.toNat / 4 = (a0 / 4 + 64 * (a1 % 4)) + 256 * ((a1 / 4 + 64 * (a2 % 4)) + 256 * ((a2 / 4 + 64 * (a3 % 4)) + 256 * (a3 / 4 + 64 * 0))) := by
    rw [hu]
    omega
  rw [e, Int32.toBitVec_add, BitVec.toNat_add, Int32.toBitVec_and, BitVec.toNat_and, Int32.toBitVec_and, BitVec.toNat_and, pN_2, d, show (Int32.ofInt 858993459).toBitVec.toNat = (51 + 256 * (51 + 256 * (51 + 256 * 51))) by decide, pc_4 _ _ _ _ _ (by omega) (by omega) (by omega) (by omega) (by decide), pd_2 _ b0 _ (by omega), pd_2 _ b1 _ (by omega), pd_2 _ b2 _ (by omega), pd_2 _ b3 _ (by omega), hu, pc_4 _ _ _ _ _ b0 b1 b2 b3 (by decide)]
  unfold pf2
  have g0 := Nat.and_le_right (n := a0) (m := 51)
  have g1 := Nat.and_le_right (n := a1) (m := 51)
  have g2 := Nat.and_le_right (n := a2) (m := 51)
  have g3 := Nat.and_le_right (n := a3) (m := 51)
  have g4 := Nat.and_le_right (n := a0 / 4) (m := 51)
  have g5 := Nat.and_le_right (n := a1 / 4) (m := 51)
  have g6 := Nat.and_le_right (n := a2 / 4) (m := 51)
  have g7 := Nat.and_le_right (n := a3 / 4) (m := 51)
  generalize a0 / 4 &&& 51 = z4 at *
  generalize a1 / 4 &&& 51 = z5 at *
  generalize a2 / 4 &&& 51 = z6 at *
  generalize a3 / 4 &&& 51 = z7 at *
  generalize a0 &&& 51 = z0 at *
  generalize a1 &&& 51 = z1 at *
  generalize a2 &&& 51 = z2 at *
  generalize a3 &&& 51 = z3 at *
  omega
theorem pc_3 (hu : v2.toBitVec.toNat = (a0 + 256 * (a1 + 256 * (a2 + 256 * a3)))) (b0 : a0 < 70) (m0 : a0 % 16 < 5) (b1 : a1 < 70) (m1 : a1 % 16 < 5) (b2 : a2 < 70) (m2 : a2 % 16 < 5) (b3 : a3 < 70) (m3 : a3 % 16 < 5) (e : v3 = ((v2 + (v2.toUInt32 >>> ((Int32.ofInt 4).toUInt32 &&& Int32.toUInt32 31)).toInt32) &&& (Int32.ofInt 252645135))) : v3.toBitVec.toNat = (((a0 + a0 / 16) % 16) + 256 * (((a1 + a1 / 16) % 16) + 256 * (((a2 + a2 / 16) % 16) + 256 * ((a3 + a3 / 16) % 16)))) := by
  have d : (v2.toBitVec.toNat + v2.toBitVec.toNat / 16) % 2 ^ 32 = (a0 + a0 / 16 + 16 * (a1 % 16)) + 256 * ((a1 + a1 / 16 + 16 * (a2 % 16)) + 256 * ((a2 + a2 / 16 + 16 * (a3 % 16)) + 256 * (a3 + a3 / 16 + 16 * 0))) := by
    rw [hu]
    omega
  rw [e, Int32.toBitVec_and, BitVec.toNat_and, Int32.toBitVec_add, BitVec.toNat_add, pN_4, d, show (Int32.ofInt 252645135).toBitVec.toNat = (15 + 256 * (15 + 256 * (15 + 256 * 15))) by decide, pc_4 _ _ _ _ _ (by omega) (by omega) (by omega) (by omega) (by decide), pd_4 _ b0 _ m1, pd_4 _ b1 _ m2, pd_4 _ b2 _ m3, pd_4 _ b3 _ (by decide)]
theorem pc_5 (hu : v3.toBitVec.toNat = (a0 + 256 * (a1 + 256 * (a2 + 256 * a3)))) (b0 : a0 ≤ 8) (b1 : a1 ≤ 8) (b2 : a2 ≤ 8) (b3 : a3 ≤ 8) (e4 : v4 = (v3 + (v3.toUInt32 >>> ((Int32.ofInt 8).toUInt32 &&& Int32.toUInt32 31)).toInt32)) (e5 : v5 = (v4 + (v4.toUInt32 >>> ((Int32.ofInt 16).toUInt32 &&& Int32.toUInt32 31)).toInt32)) : (v5 &&& (Int32.ofInt 63)) = Int32.ofInt ((a0 + a1 + a2 + a3 : Nat) : Int) := by
  have n4 : v4.toBitVec.toNat = (a0 + a1) + 256 * ((a1 + a2) + 256 * ((a2 + a3) + 256 * a3)) := by
    rw [e4, Int32.toBitVec_add, BitVec.toNat_add, pN_8, hu]
    omega
  have n5 : v5.toBitVec.toNat = (a0 + a1 + a2 + a3) + 256 * ((a1 + a2 + a3) + 256 * ((a2 + a3) + 256 * a3)) := by
    have y : ((a0 + a1) + 256 * ((a1 + a2) + 256 * ((a2 + a3) + 256 * a3))) / 65536 = a2 + a3 + 256 * a3 := by
      rw [show (a0 + a1) + 256 * ((a1 + a2) + 256 * ((a2 + a3) + 256 * a3)) = (a0 + a1 + 256 * (a1 + a2)) + 65536 * (a2 + a3 + 256 * a3) by omega, Nat.add_mul_div_left _ _ (by decide), Nat.div_eq_of_lt (by omega), Nat.zero_add]
    rw [e5, Int32.toBitVec_add, BitVec.toNat_add, pN_16, n4, y, Nat.mod_eq_of_lt (by omega)]
    omega
  apply Int32.toBitVec_inj.1
  apply BitVec.eq_of_toNat_eq
  rw [pe_3 _ (by omega), Int32.toBitVec_and, BitVec.toNat_and, n5, show (Int32.ofInt 63).toBitVec.toNat = 2 ^ 6 - 1 by decide, Nat.and_two_pow_sub_one_eq_mod]
  omega
theorem b2_bt {x i e : Nat} (hx : u.toBitVec.toNat = x) (he : 2 ^ i = e) : b2 (bt u i) = ((x / e % 2 : Nat) : Int) := by
  have q : bt u i = decide (x / e % 2 = 1) := by
    show u.toBitVec.toNat.testBit i = _
    rw [hx, Nat.testBit_eq_decide_div_mod_eq, he]
  rw [q]
  rcases Nat.mod_two_eq_zero_or_one (x / e) with z | z
  · rw [z]
    rfl
  · rw [z]
    rfl
theorem cS_8 {f : Nat → Bool} {n a : Nat} (h0 : b2 (f (n + 0)) = ((a % 2 : Nat) : Int)) (h1 : b2 (f (n + 1)) = ((a / 2 % 2 : Nat) : Int)) (h2 : b2 (f (n + 2)) = ((a / 4 % 2 : Nat) : Int)) (h3 : b2 (f (n + 3)) = ((a / 8 % 2 : Nat) : Int)) (h4 : b2 (f (n + 4)) = ((a / 16 % 2 : Nat) : Int)) (h5 : b2 (f (n + 5)) = ((a / 32 % 2 : Nat) : Int)) (h6 : b2 (f (n + 6)) = ((a / 64 % 2 : Nat) : Int)) (h7 : b2 (f (n + 7)) = ((a / 128 % 2 : Nat) : Int)) : cS f (n + 8) = cS f n + (s8 a : Nat) := by
  show cS f n + b2 (f (n + 0)) + b2 (f (n + 1)) + b2 (f (n + 2)) + b2 (f (n + 3)) + b2 (f (n + 4)) + b2 (f (n + 5)) + b2 (f (n + 6)) + b2 (f (n + 7)) = _
  rw [h0, h1, h2, h3, h4, h5, h6, h7]
  unfold s8
  generalize a / 128 % 2 = z7
  generalize a / 64 % 2 = z6
  generalize a / 32 % 2 = z5
  generalize a / 16 % 2 = z4
  generalize a / 8 % 2 = z3
  generalize a / 4 % 2 = z2
  generalize a / 2 % 2 = z1
  generalize a % 2 = z0
  omega
theorem cS_32 (hu : u.toBitVec.toNat = (a0 + 256 * (a1 + 256 * (a2 + 256 * a3)))) (b0 : a0 < 256) (b1 : a1 < 256) (b2 : a2 < 256) (b3 : a3 < 256) : cS (bt u) 32 = ((s8 a0 + s8 a1 + s8 a2 + s8 a3 : Nat) : Int) := by
  have q0 : cS (bt u) (0 + 8) = cS (bt u) 0 + (s8 a0 : Nat) := cS_8 ((b2_bt hu (i := 0) (e := 1) (by decide)).trans (congrArg Nat.cast (by omega))) ((b2_bt hu (i := 1) (e := 2) (by decide)).trans (congrArg Nat.cast (by omega))) ((b2_bt hu (i := 2) (e := 4) (by decide)).trans (congrArg Nat.cast (by omega))) ((b2_bt hu (i := 3) (e := 8) (by decide)).trans (congrArg Nat.cast (by omega))) ((b2_bt hu (i := 4) (e := 16) (by decide)).trans (congrArg Nat.cast (by omega))) ((b2_bt hu (i := 5) (e := 32) (by decide)).trans (congrArg Nat.cast (by omega))) ((b2_bt hu (i := 6) (e := 64) (by decide)).trans (congrArg Nat.cast (by omega))) ((b2_bt hu (i := 7) (e := 128) (by decide)).trans (congrArg Nat.cast (by omega)))
  have q1 : cS (bt u) (8 + 8) = cS (bt u) 8 + (s8 a1 : Nat) := cS_8 ((b2_bt hu (i := 8) (e := 256) (by decide)).trans (congrArg Nat.cast (by omega))) ((b2_bt hu (i := 9) (e := 512) (by decide)).trans (congrArg Nat.cast (by omega))) ((b2_bt hu (i := 10) (e := 1024) (by decide)).trans (congrArg Nat.cast (by omega))) ((b2_bt hu (i := 11) (e := 2048) (by decide)).trans (congrArg Nat.cast (by omega))) ((b2_bt hu (i := 12) (e := 4096) (by decide)).trans (congrArg Nat.cast (by omega))) ((b2_bt hu (i := 13) (e := 8192) (by decide)).trans (congrArg Nat.cast (by omega))) ((b2_bt hu (i := 14) (e := 16384) (by decide)).trans (congrArg Nat.cast (by omega))) ((b2_bt hu (i := 15) (e := 32768) (by decide)).trans (congrArg Nat.cast (by omega)))
  have q2 : cS (bt u) (16 + 8) = cS (bt u) 16 + (s8 a2 : Nat) := cS_8 ((b2_bt hu (i := 16) (e := 65536) (by decide)).trans (congrArg Nat.cast (by omega))) ((b2_bt hu (i := 17) (e := 131072) (by decide)).trans (congrArg Nat.cast (by omega))) ((b2_bt hu (i := 18) (e := 262144) (by decide)).trans (congrArg Nat.cast (by omega))) ((b2_bt hu (i := 19) (e := 524288) (by decide)).trans (congrArg Nat.cast (by omega))) ((b2_bt hu (i := 20) (e := 1048576) (by decide)).trans (congrArg Nat.cast (by omega))) ((b2_bt hu (i := 21) (e := 2097152) (by decide)).trans (congrArg Nat.cast (by omega))) ((b2_bt hu (i := 22) (e := 4194304) (by decide)).trans (congrArg Nat.cast (by omega))) ((b2_bt hu (i := 23) (e := 8388608) (by decide)).trans (congrArg Nat.cast (by omega)))
  have q3 : cS (bt u) (24 + 8) = cS (bt u) 24 + (s8 a3 : Nat) := cS_8 ((b2_bt hu (i := 24) (e := 16777216) (by decide)).trans (congrArg Nat.cast (by omega))) ((b2_bt hu (i := 25) (e := 33554432) (by decide)).trans (congrArg Nat.cast (by omega))) ((b2_bt hu (i := 26) (e := 67108864) (by decide)).trans (congrArg Nat.cast (by omega))) ((b2_bt hu (i := 27) (e := 134217728) (by decide)).trans (congrArg Nat.cast (by omega))) ((b2_bt hu (i := 28) (e := 268435456) (by decide)).trans (congrArg Nat.cast (by omega))) ((b2_bt hu (i := 29) (e := 536870912) (by decide)).trans (congrArg Nat.cast (by omega))) ((b2_bt hu (i := 30) (e := 1073741824) (by decide)).trans (congrArg Nat.cast (by omega))) ((b2_bt hu (i := 31) (e := 2147483648) (by decide)).trans (congrArg Nat.cast (by omega)))
  have z : cS (bt u) 0 = 0 := rfl
  show cS (bt u) (24 + 8) = _
  rw [q3, show cS (bt u) 24 = cS (bt u) (16 + 8) from rfl, q2, show cS (bt u) 16 = cS (bt u) (8 + 8) from rfl, q1, show cS (bt u) 8 = cS (bt u) (0 + 8) from rfl, q0, z]
  omega
theorem pc_all (e1 : v1 = (u - ((u.toUInt32 >>> ((Int32.ofInt 1).toUInt32 &&& Int32.toUInt32 31)).toInt32 &&& (Int32.ofInt 1431655765)))) (e2 : v2 = ((v1 &&& (Int32.ofInt 858993459)) + ((v1.toUInt32 >>> ((Int32.ofInt 2).toUInt32 &&& Int32.toUInt32 31)).toInt32 &&& (Int32.ofInt 858993459)))) (e3 : v3 = ((v2 + (v2.toUInt32 >>> ((Int32.ofInt 4).toUInt32 &&& Int32.toUInt32 31)).toInt32) &&& (Int32.ofInt 252645135))) (e4 : v4 = (v3 + (v3.toUInt32 >>> ((Int32.ofInt 8).toUInt32 &&& Int32.toUInt32 31)).toInt32)) (e5 : v5 = (v4 + (v4.toUInt32 >>> ((Int32.ofInt 16).toUInt32 &&& Int32.toUInt32 31)).toInt32)) : (v5 &&& (Int32.ofInt 63)) = Int32.ofInt (cS (bt u) 32) := by
  have lt := u.toBitVec.isLt
  obtain ⟨a0, a1, a2, a3, hu, b0, b1, b2, b3⟩ : ∃ a0 a1 a2 a3 : Nat, u.toBitVec.toNat = (a0 + 256 * (a1 + 256 * (a2 + 256 * a3))) ∧ a0 < 256 ∧ a1 < 256 ∧ a2 < 256 ∧ a3 < 256 := ⟨u.toBitVec.toNat % 256, u.toBitVec.toNat / 256 % 256, u.toBitVec.toNat / 65536 % 256, u.toBitVec.toNat / 16777216, by omega, by omega, by omega, by omega, by omega⟩
  have f : ∀ a, a < 256 → pf1 a < 256 := fun a h => by
    unfold pf1
    omega
  have n1 := pc_1 hu b0 b1 b2 b3 e1
  have n2 := pc_2 n1 (f _ b0) (f _ b1) (f _ b2) (f _ b3) e2
  obtain ⟨x0, y0, -, z0, w0⟩ := pe_2 a0 b0
  obtain ⟨x1, y1, -, z1, w1⟩ := pe_2 a1 b1
  obtain ⟨x2, y2, -, z2, w2⟩ := pe_2 a2 b2
  obtain ⟨x3, y3, -, z3, w3⟩ := pe_2 a3 b3
  have n3 := pc_3 n2 x0 y0 x1 y1 x2 y2 x3 y3 e3
  rw [z0, z1, z2, z3] at n3
  rw [pc_5 n3 w0 w1 w2 w3 e4 e5, cS_32 hu b0 b1 b2 b3]
end PCN
section PCM
variable {d : Nat} {h : am_H} {u : Int32}
theorem ly_64 : am_ev d 64 0 (am_ent [.int u] 1) [] h (some (iv (cS (bt u) 32)), h) := by
  obtain ⟨v1, e1⟩ : ∃ v1 : Int32, v1 = (u - ((u.toUInt32 >>> ((Int32.ofInt 1).toUInt32 &&& Int32.toUInt32 31)).toInt32 &&& (Int32.ofInt 1431655765))) := ⟨_, rfl⟩
  obtain ⟨v2, e2⟩ : ∃ v2 : Int32, v2 = ((v1 &&& (Int32.ofInt 858993459)) + ((v1.toUInt32 >>> ((Int32.ofInt 2).toUInt32 &&& Int32.toUInt32 31)).toInt32 &&& (Int32.ofInt 858993459))) := ⟨_, rfl⟩
  obtain ⟨v3, e3⟩ : ∃ v3 : Int32, v3 = ((v2 + (v2.toUInt32 >>> ((Int32.ofInt 4).toUInt32 &&& Int32.toUInt32 31)).toInt32) &&& (Int32.ofInt 252645135)) := ⟨_, rfl⟩
  obtain ⟨v4, e4⟩ : ∃ v4 : Int32, v4 = (v3 + (v3.toUInt32 >>> ((Int32.ofInt 8).toUInt32 &&& Int32.toUInt32 31)).toInt32) := ⟨_, rfl⟩
  obtain ⟨v5, e5⟩ : ∃ v5 : Int32, v5 = (v4 + (v4.toUInt32 >>> ((Int32.ofInt 16).toUInt32 &&& Int32.toUInt32 31)).toInt32) := ⟨_, rfl⟩
  show am_ev d 64 0 [.int u] [] h (some (.int (Int32.ofInt (cS (bt u) 32))), h)
  rw [← pc_all e1 e2 e3 e4 e5]
  refine am_ev.step (pc' := 1) rfl rfl ?_
  refine am_ev.step (pc' := 2) rfl rfl ?_
  refine am_ev.step (pc' := 3) rfl rfl ?_
  refine am_ev.step (pc' := 4) rfl rfl ?_
  refine fx_ldcw (p' := 7) (n := 1431655765) rfl rfl rfl (by decide) ?_
  refine am_ev.step (pc' := 8) rfl rfl ?_
  refine am_ev.step (pc' := 9) rfl rfl ?_
  refine am_ev.step (pc' := 10) (ls' := [.int v1]) rfl (by rw [e1]; rfl) ?_
  refine am_ev.step (pc' := 11) rfl rfl ?_
  refine fx_ldcw (p' := 14) (n := 858993459) rfl rfl rfl (by decide) ?_
  refine am_ev.step (pc' := 15) rfl rfl ?_
  refine am_ev.step (pc' := 16) rfl rfl ?_
  refine am_ev.step (pc' := 17) rfl rfl ?_
  refine am_ev.step (pc' := 18) rfl rfl ?_
  refine fx_ldcw (p' := 21) (n := 858993459) rfl rfl rfl (by decide) ?_
  refine am_ev.step (pc' := 22) rfl rfl ?_
  refine am_ev.step (pc' := 23) rfl rfl ?_
  refine am_ev.step (pc' := 24) (ls' := [.int v2]) rfl (by rw [e2]; rfl) ?_
  refine am_ev.step (pc' := 25) rfl rfl ?_
  refine am_ev.step (pc' := 26) rfl rfl ?_
  refine am_ev.step (pc' := 27) rfl rfl ?_
  refine am_ev.step (pc' := 28) rfl rfl ?_
  refine am_ev.step (pc' := 29) rfl rfl ?_
  refine fx_ldcw (p' := 32) (n := 252645135) rfl rfl rfl (by decide) ?_
  refine am_ev.step (pc' := 33) rfl rfl ?_
  refine am_ev.step (pc' := 34) (ls' := [.int v3]) rfl (by rw [e3]; rfl) ?_
  refine am_ev.step (pc' := 35) rfl rfl ?_
  refine am_ev.step (pc' := 36) rfl rfl ?_
  refine fx_bip (p' := 38) rfl rfl rfl ?_
  refine am_ev.step (pc' := 39) rfl rfl ?_
  refine am_ev.step (pc' := 40) rfl rfl ?_
  refine am_ev.step (pc' := 41) (ls' := [.int v4]) rfl (by rw [e4]; rfl) ?_
  refine am_ev.step (pc' := 42) rfl rfl ?_
  refine am_ev.step (pc' := 43) rfl rfl ?_
  refine fx_bip (p' := 45) rfl rfl rfl ?_
  refine am_ev.step (pc' := 46) rfl rfl ?_
  refine am_ev.step (pc' := 47) rfl rfl ?_
  refine am_ev.step (pc' := 48) (ls' := [.int v5]) rfl (by rw [e5]; rfl) ?_
  refine am_ev.step (pc' := 49) rfl rfl ?_
  refine fx_bip (p' := 51) rfl rfl rfl ?_
  refine am_ev.step (pc' := 52) rfl rfl ?_
  exact fx_reti rfl rfl rfl
end PCM
